theorem dX11_rule_0 : decode cX11_rule 0 = .ok (.iload_n 1, 1) := by decide +kernel
theorem dX11_rule_1 : decode cX11_rule 1 = .ok (.ifCond .lt 9, 3) := by decide +kernel
theorem dX11_rule_4 : decode cX11_rule 4 = .ok (.iload_n 1, 1) := by decide +kernel
theorem dX11_rule_5 : decode cX11_rule 5 = .ok (.bipush 20, 2) := by decide +kernel
theorem dX11_rule_7 : decode cX11_rule 7 = .ok (.if_icmp .le 6, 3) := by decide +kernel
theorem dX11_rule_10 : decode cX11_rule 10 = .ok (.bipush (-2), 2) := by decide +kernel
theorem dX11_rule_12 : decode cX11_rule 12 = .ok (.ireturn, 1) := by decide +kernel
theorem dX11_rule_13 : decode cX11_rule 13 = .ok (.aload_n 0, 1) := by decide +kernel
theorem dX11_rule_14 : decode cX11_rule 14 = .ok (.getfield 34, 3) := by decide +kernel
theorem dX11_rule_17 : decode cX11_rule 17 = .ok (.iload_n 2, 1) := by decide +kernel
theorem dX11_rule_18 : decode cX11_rule 18 = .ok (.iload_n 3, 1) := by decide +kernel
theorem dX11_rule_19 : decode cX11_rule 19 = .ok (.iload 4, 2) := by decide +kernel
theorem dX11_rule_21 : decode cX11_rule 21 = .ok (.iload 5, 2) := by decide +kernel
theorem dX11_rule_23 : decode cX11_rule 23 = .ok (.iload 6, 2) := by decide +kernel
theorem dX11_rule_25 : decode cX11_rule 25 = .ok (.invokevirtual 111, 3) := by decide +kernel
theorem dX11_rule_28 : decode cX11_rule 28 = .ok (.aload_n 0, 1) := by decide +kernel
theorem dX11_rule_29 : decode cX11_rule 29 = .ok (.getfield 34, 3) := by decide +kernel
theorem dX11_rule_32 : decode cX11_rule 32 = .ok (.iload_n 1, 1) := by decide +kernel
theorem dX11_rule_33 : decode cX11_rule 33 = .ok (.invokevirtual 115, 3) := by decide +kernel
theorem dX11_rule_36 : decode cX11_rule 36 = .ok (.istore 7, 2) := by decide +kernel
theorem dX11_rule_38 : decode cX11_rule 38 = .ok (.iload 7, 2) := by decide +kernel
theorem dX11_rule_40 : decode cX11_rule 40 = .ok (.iconst (-1), 1) := by decide +kernel
theorem dX11_rule_41 : decode cX11_rule 41 = .ok (.if_icmp .ne 20, 3) := by decide +kernel
theorem dX11_rule_44 : decode cX11_rule 44 = .ok (.aload_n 0, 1) := by decide +kernel
theorem dX11_rule_45 : decode cX11_rule 45 = .ok (.getfield 55, 3) := by decide +kernel
theorem dX11_rule_48 : decode cX11_rule 48 = .ok (.invokevirtual 118, 3) := by decide +kernel
theorem dX11_rule_51 : decode cX11_rule 51 = .ok (.ifCond .ne 10, 3) := by decide +kernel
theorem dX11_rule_54 : decode cX11_rule 54 = .ok (.aload_n 0, 1) := by decide +kernel
theorem dX11_rule_55 : decode cX11_rule 55 = .ok (.getfield 34, 3) := by decide +kernel
theorem dX11_rule_58 : decode cX11_rule 58 = .ok (.invokevirtual 122, 3) := by decide +kernel
theorem dX11_rule_61 : decode cX11_rule 61 = .ok (.iload 7, 2) := by decide +kernel
theorem dX11_rule_63 : decode cX11_rule 63 = .ok (.ireturn, 1) := by decide +kernel
def f_X11_rule (ln : Nat → Nat) (x1 : Int32) (x2 : Int32) (x3 : Int32) (x4 : Int32) (x5 : Int32) (x6 : Int32) (s : dr_S) : Option (Int32 × dr_S) := (if x1 < 0 then some ((-2), s) else (if x1 ≤ 20 then dr_bndv (f_X5_hear ln x2 x3 x4 x5 x6 s) (fun s1 => dr_bnd (f_X5_faultOf ln x1 s1) (fun r3 s2 => (if r3 = (-1) then dr_bnd (f_X6_begun ln  s2) (fun r5 s4 => (if r5 = 0 then dr_bndv (f_X5_keepWhatWasRead ln  s4) (fun s6 => some (r3, s6)) else some (r3, s4))) else some (r3, s2)))) else some ((-2), s)))
section
variable {p : Program} {l : Launch} {e : Env} {s0 : State} {m : MethodId} {args : Array Value} {below : List Frame} {meth : Method} {c : Code} {A : Nat → Prop} {D : va_G} {cI cZ : ClassId} {ad ln : Nat → Nat} {L : List Nat}
set_option maxHeartbeats 4000000 in
set_option maxRecDepth 20000 in
theorem c_X11_rule (hap : dr_ap ad L) (hN : ∀ x ∈ nd_11, x ∈ L) (x1 : Int32) (x2 : Int32) (x3 : Int32) (x4 : Int32) (x5 : Int32) (x6 : Int32) (s : dr_S) : dr_Mi l D cI cZ ad ln L yX11_rule cX11_rule 8 (some .int) 3 [.ref (ad 11), .int x1, .int x2, .int x3, .int x4, .int x5, .int x6] s (f_X11_rule ln x1 x2 x3 x4 x5 x6 s) := by
  refine dr_meti (own := RX11) (by decide) rfl (Nat.le_of_ble_eq_true rfl) hap ?_
  intro p e s0 m args below meth c A E
  unfold f_X11_rule
  refine g_eqL (lv' := [(0, .ref (ad 11)), (1, .int x1), (2, .int x2), (3, .int x3), (4, .int x4), (5, .int x5), (6, .int x6)]) rfl ?_
  refine g_iload_n E dX11_rule_0 1 rfl ?_
  refine g_if_lt E 10 dX11_rule_1 (by decide) ?_ ?_
  · refine g_bipush E (v := (-2)) dX11_rule_10 (by decide) ?_
    exact g_iret E dX11_rule_12
  · refine g_iload_n E dX11_rule_4 1 rfl ?_
    refine g_bipush E (v := 20) dX11_rule_5 (by decide) ?_
    refine g_icmp_le E 13 dX11_rule_7 (by decide) ?_ ?_
    · refine g_aload_n E dX11_rule_13 0 rfl ?_
      refine gg_11_34 E (hN 11 (by decide)) dX11_rule_14 ?_
      refine g_iload_n E dX11_rule_17 2 rfl ?_
      refine g_iload_n E dX11_rule_18 3 rfl ?_
      refine g_iload E dX11_rule_19 4 rfl ?_
      refine g_iload E dX11_rule_21 5 rfl ?_
      refine g_iload E dX11_rule_23 6 rfl ?_
      refine g_cVv E [.int x2, .int x3, .int x4, .int x5, .int x6] rfl (c_X5_hear hap (fun x h => hN x (ns_5_11 x h)) x2 x3 x4 x5 x6 s) (hN 5 (by decide)) (by decide) rfl rfl mi_X5_hear msl_X5_hear mw_X5_hear rfl ml_11_111 ⟨Nat.le_of_ble_eq_true rfl, Nat.le_of_ble_eq_true rfl⟩ (Nat.le_of_ble_eq_true rfl) dX11_rule_25 (fun s1 => ?_)
      refine g_aload_n E dX11_rule_28 0 rfl ?_
      refine gg_11_34 E (hN 11 (by decide)) dX11_rule_29 ?_
      refine g_iload_n E dX11_rule_32 1 rfl ?_
      refine g_cVi E [.int x1] rfl (c_X5_faultOf hap (fun x h => hN x (ns_5_11 x h)) x1 s1) (hN 5 (by decide)) (by decide) rfl rfl mi_X5_faultOf msl_X5_faultOf mw_X5_faultOf rfl ml_11_115 ⟨Nat.le_of_ble_eq_true rfl, Nat.le_of_ble_eq_true rfl⟩ (Nat.le_of_ble_eq_true rfl) dX11_rule_33 (fun r3 s2 => ?_)
      refine g_istore E (lv' := [(7, .int r3), (0, .ref (ad 11)), (1, .int x1), (2, .int x2), (3, .int x3), (4, .int x4), (5, .int x5), (6, .int x6)]) dX11_rule_36 (by decide) rfl ?_
      refine g_iload E dX11_rule_38 0 rfl ?_
      refine g_iconst E (v := (-1)) dX11_rule_40 (by decide) ?_
      refine g_icmp_ne E 61 dX11_rule_41 (by decide) ?_ ?_
      · refine g_iload E dX11_rule_61 0 rfl ?_
        exact g_iret E dX11_rule_63
      · refine g_aload_n E dX11_rule_44 1 rfl ?_
        refine gg_11_55 E (hN 11 (by decide)) dX11_rule_45 ?_
        refine g_cVi E [] rfl (c_X6_begun hap (fun x h => hN x (ns_6_11 x h))  s2) (hN 6 (by decide)) (by decide) rfl rfl mi_X6_begun msl_X6_begun mw_X6_begun rfl ml_11_118 ⟨Nat.le_of_ble_eq_true rfl, Nat.le_of_ble_eq_true rfl⟩ (Nat.le_of_ble_eq_true rfl) dX11_rule_48 (fun r5 s4 => ?_)
        refine g_if_ne E 61 dX11_rule_51 (by decide) ?_ ?_
        · refine g_iload E dX11_rule_61 0 rfl ?_
          exact g_iret E dX11_rule_63
        · refine g_aload_n E dX11_rule_54 1 rfl ?_
          refine gg_11_34 E (hN 11 (by decide)) dX11_rule_55 ?_
          refine g_cVv E [] rfl (c_X5_keepWhatWasRead hap (fun x h => hN x (ns_5_11 x h))  s4) (hN 5 (by decide)) (by decide) rfl rfl mi_X5_keepWhatWasRead msl_X5_keepWhatWasRead mw_X5_keepWhatWasRead rfl ml_11_122 ⟨Nat.le_of_ble_eq_true rfl, Nat.le_of_ble_eq_true rfl⟩ (Nat.le_of_ble_eq_true rfl) dX11_rule_58 (fun s6 => ?_)
          refine g_iload E dX11_rule_61 0 rfl ?_
          exact g_iret E dX11_rule_63
    · refine g_bipush E (v := (-2)) dX11_rule_10 (by decide) ?_
      exact g_iret E dX11_rule_12
end

theorem dX11_isHeading_0 : decode cX11_isHeading 0 = .ok (.iload_n 0, 1) := by decide +kernel
theorem dX11_isHeading_1 : decode cX11_isHeading 1 = .ok (.ifCond .lt 14, 3) := by decide +kernel
theorem dX11_isHeading_4 : decode cX11_isHeading 4 = .ok (.iload_n 0, 1) := by decide +kernel
theorem dX11_isHeading_5 : decode cX11_isHeading 5 = .ok (.sipush 10000, 3) := by decide +kernel
theorem dX11_isHeading_8 : decode cX11_isHeading 8 = .ok (.if_icmp .ge 7, 3) := by decide +kernel
theorem dX11_isHeading_11 : decode cX11_isHeading 11 = .ok (.iconst 1, 1) := by decide +kernel
theorem dX11_isHeading_12 : decode cX11_isHeading 12 = .ok (.goto 4, 3) := by decide +kernel
theorem dX11_isHeading_15 : decode cX11_isHeading 15 = .ok (.iconst 0, 1) := by decide +kernel
theorem dX11_isHeading_16 : decode cX11_isHeading 16 = .ok (.ireturn, 1) := by decide +kernel
def f_X11_isHeading (ln : Nat → Nat) (x0 : Int32) (s : dr_S) : Option (Int32 × dr_S) := (if x0 < 0 then some (0, s) else (if ((10000 : Int32) ≤ x0 : Prop) then some (0, s) else some (1, s)))
section
variable {p : Program} {l : Launch} {e : Env} {s0 : State} {m : MethodId} {args : Array Value} {below : List Frame} {meth : Method} {c : Code} {A : Nat → Prop} {D : va_G} {cI cZ : ClassId} {ad ln : Nat → Nat} {L : List Nat}
set_option maxHeartbeats 4000000 in
set_option maxRecDepth 20000 in
theorem c_X11_isHeading (hap : dr_ap ad L) (hN : ∀ x ∈ nd_11, x ∈ L) (x0 : Int32) (s : dr_S) : dr_Mi l D cI cZ ad ln L yX11_isHeading cX11_isHeading 1 (some .boolean) 0 [.int x0] s (f_X11_isHeading ln x0 s) := by
  refine dr_meti (own := RX11) (by decide) rfl (Nat.le_of_ble_eq_true rfl) hap ?_
  intro p e s0 m args below meth c A E
  unfold f_X11_isHeading
  refine g_eqL (lv' := [(0, .int x0)]) rfl ?_
  refine g_iload_n E dX11_isHeading_0 0 rfl ?_
  refine g_if_lt E 15 dX11_isHeading_1 (by decide) ?_ ?_
  · refine g_iconst E (v := 0) dX11_isHeading_15 (by decide) ?_
    exact g_zret E dX11_isHeading_16 (Or.inl rfl)
  · refine g_iload_n E dX11_isHeading_4 0 rfl ?_
    refine g_sipush E (v := 10000) dX11_isHeading_5 (by decide) ?_
    refine g_icmp_ge E 15 dX11_isHeading_8 (by decide) ?_ ?_
    · refine g_iconst E (v := 0) dX11_isHeading_15 (by decide) ?_
      exact g_zret E dX11_isHeading_16 (Or.inl rfl)
    · refine g_iconst E (v := 1) dX11_isHeading_11 (by decide) ?_
      refine g_goto E 16 dX11_isHeading_12 (by decide) ?_
      exact g_zret E dX11_isHeading_16 (Or.inr rfl)
end

theorem dX11_ahead_0 : decode cX11_ahead 0 = .ok (.iload_n 1, 1) := by decide +kernel
theorem dX11_ahead_1 : decode cX11_ahead 1 = .ok (.invokestatic 125, 3) := by decide +kernel
theorem dX11_ahead_4 : decode cX11_ahead 4 = .ok (.ifCond .eq 10, 3) := by decide +kernel
theorem dX11_ahead_7 : decode cX11_ahead 7 = .ok (.iload_n 2, 1) := by decide +kernel
theorem dX11_ahead_8 : decode cX11_ahead 8 = .ok (.invokestatic 125, 3) := by decide +kernel
theorem dX11_ahead_11 : decode cX11_ahead 11 = .ok (.ifCond .ne 5, 3) := by decide +kernel
theorem dX11_ahead_14 : decode cX11_ahead 14 = .ok (.iconst (-1), 1) := by decide +kernel
theorem dX11_ahead_15 : decode cX11_ahead 15 = .ok (.ireturn, 1) := by decide +kernel
theorem dX11_ahead_16 : decode cX11_ahead 16 = .ok (.aload_n 0, 1) := by decide +kernel
theorem dX11_ahead_17 : decode cX11_ahead 17 = .ok (.getfield 34, 3) := by decide +kernel
theorem dX11_ahead_20 : decode cX11_ahead 20 = .ok (.iload_n 1, 1) := by decide +kernel
theorem dX11_ahead_21 : decode cX11_ahead 21 = .ok (.iload_n 2, 1) := by decide +kernel
theorem dX11_ahead_22 : decode cX11_ahead 22 = .ok (.invokevirtual 129, 3) := by decide +kernel
theorem dX11_ahead_25 : decode cX11_ahead 25 = .ok (.ifCond .eq 7, 3) := by decide +kernel
theorem dX11_ahead_28 : decode cX11_ahead 28 = .ok (.iconst 1, 1) := by decide +kernel
theorem dX11_ahead_29 : decode cX11_ahead 29 = .ok (.goto 4, 3) := by decide +kernel
theorem dX11_ahead_32 : decode cX11_ahead 32 = .ok (.iconst 0, 1) := by decide +kernel
theorem dX11_ahead_33 : decode cX11_ahead 33 = .ok (.ireturn, 1) := by decide +kernel
def f_X11_ahead (ln : Nat → Nat) (x1 : Int32) (x2 : Int32) (s : dr_S) : Option (Int32 × dr_S) := dr_bnd (f_X11_isHeading ln x1 s) (fun r2 s1 => (if r2 = 0 then some ((-1), s1) else dr_bnd (f_X11_isHeading ln x2 s1) (fun r4 s3 => (if r4 = 0 then some ((-1), s3) else dr_bnd (f_X5_isAhead ln x1 x2 s3) (fun r6 s5 => (if r6 = 0 then some (0, s5) else some (1, s5)))))))
section
variable {p : Program} {l : Launch} {e : Env} {s0 : State} {m : MethodId} {args : Array Value} {below : List Frame} {meth : Method} {c : Code} {A : Nat → Prop} {D : va_G} {cI cZ : ClassId} {ad ln : Nat → Nat} {L : List Nat}
set_option maxHeartbeats 4000000 in
set_option maxRecDepth 20000 in
theorem c_X11_ahead (hap : dr_ap ad L) (hN : ∀ x ∈ nd_11, x ∈ L) (x1 : Int32) (x2 : Int32) (s : dr_S) : dr_Mi l D cI cZ ad ln L yX11_ahead cX11_ahead 3 (some .int) 1 [.ref (ad 11), .int x1, .int x2] s (f_X11_ahead ln x1 x2 s) := by
  refine dr_meti (own := RX11) (by decide) rfl (Nat.le_of_ble_eq_true rfl) hap ?_
  intro p e s0 m args below meth c A E
  unfold f_X11_ahead
  refine g_eqL (lv' := [(0, .ref (ad 11)), (1, .int x1), (2, .int x2)]) rfl ?_
  refine g_iload_n E dX11_ahead_0 1 rfl ?_
  refine g_cSi E [.int x1] rfl (c_X11_isHeading hap hN x1 s) ms_X11_isHeading mw_X11_isHeading rfl ml_11_125 ⟨Nat.le_of_ble_eq_true rfl, Nat.le_of_ble_eq_true rfl⟩ (Nat.le_of_ble_eq_true rfl) dX11_ahead_1 (fun r2 s1 => ?_)
  refine g_if_eq E 14 dX11_ahead_4 (by decide) ?_ ?_
  · refine g_iconst E (v := (-1)) dX11_ahead_14 (by decide) ?_
    exact g_iret E dX11_ahead_15
  · refine g_iload_n E dX11_ahead_7 2 rfl ?_
    refine g_cSi E [.int x2] rfl (c_X11_isHeading hap hN x2 s1) ms_X11_isHeading mw_X11_isHeading rfl ml_11_125 ⟨Nat.le_of_ble_eq_true rfl, Nat.le_of_ble_eq_true rfl⟩ (Nat.le_of_ble_eq_true rfl) dX11_ahead_8 (fun r4 s3 => ?_)
    refine g_if_ne E 16 dX11_ahead_11 (by decide) ?_ ?_
    · refine g_aload_n E dX11_ahead_16 0 rfl ?_
      refine gg_11_34 E (hN 11 (by decide)) dX11_ahead_17 ?_
      refine g_iload_n E dX11_ahead_20 1 rfl ?_
      refine g_iload_n E dX11_ahead_21 2 rfl ?_
      refine g_cVi E [.int x1, .int x2] rfl (c_X5_isAhead hap (fun x h => hN x (ns_5_11 x h)) x1 x2 s3) (hN 5 (by decide)) (by decide) rfl rfl mi_X5_isAhead msl_X5_isAhead mw_X5_isAhead rfl ml_11_129 ⟨Nat.le_of_ble_eq_true rfl, Nat.le_of_ble_eq_true rfl⟩ (Nat.le_of_ble_eq_true rfl) dX11_ahead_22 (fun r6 s5 => ?_)
      refine g_if_eq E 32 dX11_ahead_25 (by decide) ?_ ?_
      · refine g_iconst E (v := 0) dX11_ahead_32 (by decide) ?_
        exact g_iret E dX11_ahead_33
      · refine g_iconst E (v := 1) dX11_ahead_28 (by decide) ?_
        refine g_goto E 33 dX11_ahead_29 (by decide) ?_
        exact g_iret E dX11_ahead_33
    · refine g_iconst E (v := (-1)) dX11_ahead_14 (by decide) ?_
      exact g_iret E dX11_ahead_15
end

theorem dX11_isClerk_0 : decode cX11_isClerk 0 = .ok (.iload_n 0, 1) := by decide +kernel
theorem dX11_isClerk_1 : decode cX11_isClerk 1 = .ok (.ifCond .lt 12, 3) := by decide +kernel
theorem dX11_isClerk_4 : decode cX11_isClerk 4 = .ok (.iload_n 0, 1) := by decide +kernel
theorem dX11_isClerk_5 : decode cX11_isClerk 5 = .ok (.iconst 4, 1) := by decide +kernel
theorem dX11_isClerk_6 : decode cX11_isClerk 6 = .ok (.if_icmp .ge 7, 3) := by decide +kernel
theorem dX11_isClerk_9 : decode cX11_isClerk 9 = .ok (.iconst 1, 1) := by decide +kernel
theorem dX11_isClerk_10 : decode cX11_isClerk 10 = .ok (.goto 4, 3) := by decide +kernel
theorem dX11_isClerk_13 : decode cX11_isClerk 13 = .ok (.iconst 0, 1) := by decide +kernel
theorem dX11_isClerk_14 : decode cX11_isClerk 14 = .ok (.ireturn, 1) := by decide +kernel
def f_X11_isClerk (ln : Nat → Nat) (x0 : Int32) (s : dr_S) : Option (Int32 × dr_S) := (if x0 < 0 then some (0, s) else (if ((4 : Int32) ≤ x0 : Prop) then some (0, s) else some (1, s)))
section
variable {p : Program} {l : Launch} {e : Env} {s0 : State} {m : MethodId} {args : Array Value} {below : List Frame} {meth : Method} {c : Code} {A : Nat → Prop} {D : va_G} {cI cZ : ClassId} {ad ln : Nat → Nat} {L : List Nat}
set_option maxHeartbeats 4000000 in
set_option maxRecDepth 20000 in
theorem c_X11_isClerk (hap : dr_ap ad L) (hN : ∀ x ∈ nd_11, x ∈ L) (x0 : Int32) (s : dr_S) : dr_Mi l D cI cZ ad ln L yX11_isClerk cX11_isClerk 1 (some .boolean) 0 [.int x0] s (f_X11_isClerk ln x0 s) := by
  refine dr_meti (own := RX11) (by decide) rfl (Nat.le_of_ble_eq_true rfl) hap ?_
  intro p e s0 m args below meth c A E
  unfold f_X11_isClerk
  refine g_eqL (lv' := [(0, .int x0)]) rfl ?_
  refine g_iload_n E dX11_isClerk_0 0 rfl ?_
  refine g_if_lt E 13 dX11_isClerk_1 (by decide) ?_ ?_
  · refine g_iconst E (v := 0) dX11_isClerk_13 (by decide) ?_
    exact g_zret E dX11_isClerk_14 (Or.inl rfl)
  · refine g_iload_n E dX11_isClerk_4 0 rfl ?_
    refine g_iconst E (v := 4) dX11_isClerk_5 (by decide) ?_
    refine g_icmp_ge E 13 dX11_isClerk_6 (by decide) ?_ ?_
    · refine g_iconst E (v := 0) dX11_isClerk_13 (by decide) ?_
      exact g_zret E dX11_isClerk_14 (Or.inl rfl)
    · refine g_iconst E (v := 1) dX11_isClerk_9 (by decide) ?_
      refine g_goto E 14 dX11_isClerk_10 (by decide) ?_
      exact g_zret E dX11_isClerk_14 (Or.inr rfl)
end

theorem dX11_isIdleClerk_0 : decode cX11_isIdleClerk 0 = .ok (.iload_n 1, 1) := by decide +kernel
theorem dX11_isIdleClerk_1 : decode cX11_isIdleClerk 1 = .ok (.invokestatic 153, 3) := by decide +kernel
theorem dX11_isIdleClerk_4 : decode cX11_isIdleClerk 4 = .ok (.ifCond .eq 18, 3) := by decide +kernel
theorem dX11_isIdleClerk_7 : decode cX11_isIdleClerk 7 = .ok (.aload_n 0, 1) := by decide +kernel
theorem dX11_isIdleClerk_8 : decode cX11_isIdleClerk 8 = .ok (.getfield 50, 3) := by decide +kernel
theorem dX11_isIdleClerk_11 : decode cX11_isIdleClerk 11 = .ok (.iload_n 1, 1) := by decide +kernel
theorem dX11_isIdleClerk_12 : decode cX11_isIdleClerk 12 = .ok (.invokevirtual 156, 3) := by decide +kernel
theorem dX11_isIdleClerk_15 : decode cX11_isIdleClerk 15 = .ok (.ifCond .eq 7, 3) := by decide +kernel
theorem dX11_isIdleClerk_18 : decode cX11_isIdleClerk 18 = .ok (.iconst 1, 1) := by decide +kernel
theorem dX11_isIdleClerk_19 : decode cX11_isIdleClerk 19 = .ok (.goto 4, 3) := by decide +kernel
theorem dX11_isIdleClerk_22 : decode cX11_isIdleClerk 22 = .ok (.iconst 0, 1) := by decide +kernel
theorem dX11_isIdleClerk_23 : decode cX11_isIdleClerk 23 = .ok (.ireturn, 1) := by decide +kernel
def f_X11_isIdleClerk (ln : Nat → Nat) (x1 : Int32) (s : dr_S) : Option (Int32 × dr_S) := dr_bnd (f_X11_isClerk ln x1 s) (fun r2 s1 => (if r2 = 0 then some (0, s1) else dr_bnd (f_X3_isIdle ln x1 s1) (fun r4 s3 => (if r4 = 0 then some (0, s3) else some (1, s3)))))
section
variable {p : Program} {l : Launch} {e : Env} {s0 : State} {m : MethodId} {args : Array Value} {below : List Frame} {meth : Method} {c : Code} {A : Nat → Prop} {D : va_G} {cI cZ : ClassId} {ad ln : Nat → Nat} {L : List Nat}
set_option maxHeartbeats 4000000 in
set_option maxRecDepth 20000 in
theorem c_X11_isIdleClerk (hap : dr_ap ad L) (hN : ∀ x ∈ nd_11, x ∈ L) (x1 : Int32) (s : dr_S) : dr_Mi l D cI cZ ad ln L yX11_isIdleClerk cX11_isIdleClerk 2 (some .boolean) 3 [.ref (ad 11), .int x1] s (f_X11_isIdleClerk ln x1 s) := by
  refine dr_meti (own := RX11) (by decide) rfl (Nat.le_of_ble_eq_true rfl) hap ?_
  intro p e s0 m args below meth c A E
  unfold f_X11_isIdleClerk
  refine g_eqL (lv' := [(0, .ref (ad 11)), (1, .int x1)]) rfl ?_
  refine g_iload_n E dX11_isIdleClerk_0 1 rfl ?_
  refine g_cSi E [.int x1] rfl (c_X11_isClerk hap hN x1 s) ms_X11_isClerk mw_X11_isClerk rfl ml_11_153 ⟨Nat.le_of_ble_eq_true rfl, Nat.le_of_ble_eq_true rfl⟩ (Nat.le_of_ble_eq_true rfl) dX11_isIdleClerk_1 (fun r2 s1 => ?_)
  refine g_if_eq E 22 dX11_isIdleClerk_4 (by decide) ?_ ?_
  · refine g_iconst E (v := 0) dX11_isIdleClerk_22 (by decide) ?_
    exact g_zret E dX11_isIdleClerk_23 (Or.inl rfl)
  · refine g_aload_n E dX11_isIdleClerk_7 0 rfl ?_
    refine gg_11_50 E (hN 11 (by decide)) dX11_isIdleClerk_8 ?_
    refine g_iload_n E dX11_isIdleClerk_11 1 rfl ?_
    refine g_cVi E [.int x1] rfl (c_X3_isIdle hap (fun x h => hN x (ns_3_11 x h)) x1 s1) (hN 3 (by decide)) (by decide) rfl rfl mi_X3_isIdle msl_X3_isIdle mw_X3_isIdle rfl ml_11_156 ⟨Nat.le_of_ble_eq_true rfl, Nat.le_of_ble_eq_true rfl⟩ (Nat.le_of_ble_eq_true rfl) dX11_isIdleClerk_12 (fun r4 s3 => ?_)
    refine g_if_eq E 22 dX11_isIdleClerk_15 (by decide) ?_ ?_
    · refine g_iconst E (v := 0) dX11_isIdleClerk_22 (by decide) ?_
      exact g_zret E dX11_isIdleClerk_23 (Or.inl rfl)
    · refine g_iconst E (v := 1) dX11_isIdleClerk_18 (by decide) ?_
      refine g_goto E 23 dX11_isIdleClerk_19 (by decide) ?_
      exact g_zret E dX11_isIdleClerk_23 (Or.inr rfl)
end

theorem dX11_fault_0 : decode cX11_fault 0 = .ok (.aload_n 0, 1) := by decide +kernel
theorem dX11_fault_1 : decode cX11_fault 1 = .ok (.iload_n 1, 1) := by decide +kernel
theorem dX11_fault_2 : decode cX11_fault 2 = .ok (.invokevirtual 133, 3) := by decide +kernel
theorem dX11_fault_5 : decode cX11_fault 5 = .ok (.ifCond .eq 12, 3) := by decide +kernel
theorem dX11_fault_8 : decode cX11_fault 8 = .ok (.iload_n 2, 1) := by decide +kernel
theorem dX11_fault_9 : decode cX11_fault 9 = .ok (.ifCond .lt 8, 3) := by decide +kernel
theorem dX11_fault_12 : decode cX11_fault 12 = .ok (.iload_n 2, 1) := by decide +kernel
theorem dX11_fault_13 : decode cX11_fault 13 = .ok (.iconst 2, 1) := by decide +kernel
theorem dX11_fault_14 : decode cX11_fault 14 = .ok (.if_icmp .le 5, 3) := by decide +kernel
theorem dX11_fault_17 : decode cX11_fault 17 = .ok (.iconst 0, 1) := by decide +kernel
theorem dX11_fault_18 : decode cX11_fault 18 = .ok (.ireturn, 1) := by decide +kernel
theorem dX11_fault_19 : decode cX11_fault 19 = .ok (.aload_n 0, 1) := by decide +kernel
theorem dX11_fault_20 : decode cX11_fault 20 = .ok (.getfield 50, 3) := by decide +kernel
theorem dX11_fault_23 : decode cX11_fault 23 = .ok (.iload_n 1, 1) := by decide +kernel
theorem dX11_fault_24 : decode cX11_fault 24 = .ok (.iconst 5, 1) := by decide +kernel
theorem dX11_fault_25 : decode cX11_fault 25 = .ok (.iload_n 2, 1) := by decide +kernel
theorem dX11_fault_26 : decode cX11_fault 26 = .ok (.invokevirtual 136, 3) := by decide +kernel
theorem dX11_fault_29 : decode cX11_fault 29 = .ok (.iconst 1, 1) := by decide +kernel
theorem dX11_fault_30 : decode cX11_fault 30 = .ok (.ireturn, 1) := by decide +kernel
def f_X11_fault (ln : Nat → Nat) (x1 : Int32) (x2 : Int32) (s : dr_S) : Option (Int32 × dr_S) := dr_bnd (f_X11_isIdleClerk ln x1 s) (fun r2 s1 => (if r2 = 0 then some (0, s1) else (if x2 < 0 then some (0, s1) else (if x2 ≤ 2 then dr_bndv (f_X3_set ln x1 5 x2 s1) (fun s3 => some (1, s3)) else some (0, s1)))))
section
variable {p : Program} {l : Launch} {e : Env} {s0 : State} {m : MethodId} {args : Array Value} {below : List Frame} {meth : Method} {c : Code} {A : Nat → Prop} {D : va_G} {cI cZ : ClassId} {ad ln : Nat → Nat} {L : List Nat}
set_option maxHeartbeats 4000000 in
set_option maxRecDepth 20000 in
theorem c_X11_fault (hap : dr_ap ad L) (hN : ∀ x ∈ nd_11, x ∈ L) (x1 : Int32) (x2 : Int32) (s : dr_S) : dr_Mi l D cI cZ ad ln L yX11_fault cX11_fault 3 (some .boolean) 4 [.ref (ad 11), .int x1, .int x2] s (f_X11_fault ln x1 x2 s) := by
  refine dr_meti (own := RX11) (by decide) rfl (Nat.le_of_ble_eq_true rfl) hap ?_
  intro p e s0 m args below meth c A E
  unfold f_X11_fault
  refine g_eqL (lv' := [(0, .ref (ad 11)), (1, .int x1), (2, .int x2)]) rfl ?_
  refine g_aload_n E dX11_fault_0 0 rfl ?_
  refine g_iload_n E dX11_fault_1 1 rfl ?_
  refine g_cVi E [.int x1] rfl (c_X11_isIdleClerk hap hN x1 s) (hN 11 (by decide)) (by decide) rfl rfl mi_X11_isIdleClerk msl_X11_isIdleClerk mw_X11_isIdleClerk rfl ml_11_133 ⟨Nat.le_of_ble_eq_true rfl, Nat.le_of_ble_eq_true rfl⟩ (Nat.le_of_ble_eq_true rfl) dX11_fault_2 (fun r2 s1 => ?_)
  refine g_if_eq E 17 dX11_fault_5 (by decide) ?_ ?_
  · refine g_iconst E (v := 0) dX11_fault_17 (by decide) ?_
    exact g_zret E dX11_fault_18 (Or.inl rfl)
  · refine g_iload_n E dX11_fault_8 2 rfl ?_
    refine g_if_lt E 17 dX11_fault_9 (by decide) ?_ ?_
    · refine g_iconst E (v := 0) dX11_fault_17 (by decide) ?_
      exact g_zret E dX11_fault_18 (Or.inl rfl)
    · refine g_iload_n E dX11_fault_12 2 rfl ?_
      refine g_iconst E (v := 2) dX11_fault_13 (by decide) ?_
      refine g_icmp_le E 19 dX11_fault_14 (by decide) ?_ ?_
      · refine g_aload_n E dX11_fault_19 0 rfl ?_
        refine gg_11_50 E (hN 11 (by decide)) dX11_fault_20 ?_
        refine g_iload_n E dX11_fault_23 1 rfl ?_
        refine g_iconst E (v := 5) dX11_fault_24 (by decide) ?_
        refine g_iload_n E dX11_fault_25 2 rfl ?_
        refine g_cVv E [.int x1, .int 5, .int x2] rfl (c_X3_set hap (fun x h => hN x (ns_3_11 x h)) x1 5 x2 s1) (hN 3 (by decide)) (by decide) rfl rfl mi_X3_set msl_X3_set mw_X3_set rfl ml_11_136 ⟨Nat.le_of_ble_eq_true rfl, Nat.le_of_ble_eq_true rfl⟩ (Nat.le_of_ble_eq_true rfl) dX11_fault_26 (fun s3 => ?_)
        refine g_iconst E (v := 1) dX11_fault_29 (by decide) ?_
        exact g_zret E dX11_fault_30 (Or.inr rfl)
      · refine g_iconst E (v := 0) dX11_fault_17 (by decide) ?_
        exact g_zret E dX11_fault_18 (Or.inl rfl)
end

theorem dX11_begin_0 : decode cX11_begin 0 = .ok (.aload_n 0, 1) := by decide +kernel
theorem dX11_begin_1 : decode cX11_begin 1 = .ok (.iload_n 1, 1) := by decide +kernel
theorem dX11_begin_2 : decode cX11_begin 2 = .ok (.invokevirtual 133, 3) := by decide +kernel
theorem dX11_begin_5 : decode cX11_begin 5 = .ok (.ifCond .eq 19, 3) := by decide +kernel
theorem dX11_begin_8 : decode cX11_begin 8 = .ok (.iload_n 2, 1) := by decide +kernel
theorem dX11_begin_9 : decode cX11_begin 9 = .ok (.ifCond .lt 15, 3) := by decide +kernel
theorem dX11_begin_12 : decode cX11_begin 12 = .ok (.iload_n 2, 1) := by decide +kernel
theorem dX11_begin_13 : decode cX11_begin 13 = .ok (.iconst 2, 1) := by decide +kernel
theorem dX11_begin_14 : decode cX11_begin 14 = .ok (.if_icmp .gt 10, 3) := by decide +kernel
theorem dX11_begin_17 : decode cX11_begin 17 = .ok (.iload_n 3, 1) := by decide +kernel
theorem dX11_begin_18 : decode cX11_begin 18 = .ok (.invokestatic 125, 3) := by decide +kernel
theorem dX11_begin_21 : decode cX11_begin 21 = .ok (.ifCond .ne 5, 3) := by decide +kernel
theorem dX11_begin_24 : decode cX11_begin 24 = .ok (.iconst (-1), 1) := by decide +kernel
theorem dX11_begin_25 : decode cX11_begin 25 = .ok (.ireturn, 1) := by decide +kernel
theorem dX11_begin_26 : decode cX11_begin 26 = .ok (.aload_n 0, 1) := by decide +kernel
theorem dX11_begin_27 : decode cX11_begin 27 = .ok (.getfield 55, 3) := by decide +kernel
theorem dX11_begin_30 : decode cX11_begin 30 = .ok (.invokevirtual 118, 3) := by decide +kernel
theorem dX11_begin_33 : decode cX11_begin 33 = .ok (.bipush 120, 2) := by decide +kernel
theorem dX11_begin_35 : decode cX11_begin 35 = .ok (.if_icmp .lt 5, 3) := by decide +kernel
theorem dX11_begin_38 : decode cX11_begin 38 = .ok (.iconst (-1), 1) := by decide +kernel
theorem dX11_begin_39 : decode cX11_begin 39 = .ok (.ireturn, 1) := by decide +kernel
theorem dX11_begin_40 : decode cX11_begin 40 = .ok (.iload_n 2, 1) := by decide +kernel
theorem dX11_begin_41 : decode cX11_begin 41 = .ok (.iconst 1, 1) := by decide +kernel
theorem dX11_begin_42 : decode cX11_begin 42 = .ok (.if_icmp .ne 21, 3) := by decide +kernel
theorem dX11_begin_45 : decode cX11_begin 45 = .ok (.sipush 256, 3) := by decide +kernel
theorem dX11_begin_48 : decode cX11_begin 48 = .ok (.aload_n 0, 1) := by decide +kernel
theorem dX11_begin_49 : decode cX11_begin 49 = .ok (.getfield 43, 3) := by decide +kernel
theorem dX11_begin_52 : decode cX11_begin 52 = .ok (.invokevirtual 140, 3) := by decide +kernel
theorem dX11_begin_55 : decode cX11_begin 55 = .ok (.isub, 1) := by decide +kernel
theorem dX11_begin_56 : decode cX11_begin 56 = .ok (.bipush 60, 2) := by decide +kernel
theorem dX11_begin_58 : decode cX11_begin 58 = .ok (.if_icmp .ge 5, 3) := by decide +kernel
theorem dX11_begin_61 : decode cX11_begin 61 = .ok (.iconst (-1), 1) := by decide +kernel
theorem dX11_begin_62 : decode cX11_begin 62 = .ok (.ireturn, 1) := by decide +kernel
theorem dX11_begin_63 : decode cX11_begin 63 = .ok (.aload_n 0, 1) := by decide +kernel
theorem dX11_begin_64 : decode cX11_begin 64 = .ok (.getfield 55, 3) := by decide +kernel
theorem dX11_begin_67 : decode cX11_begin 67 = .ok (.iload_n 2, 1) := by decide +kernel
theorem dX11_begin_68 : decode cX11_begin 68 = .ok (.iload_n 3, 1) := by decide +kernel
theorem dX11_begin_69 : decode cX11_begin 69 = .ok (.invokevirtual 143, 3) := by decide +kernel
theorem dX11_begin_72 : decode cX11_begin 72 = .ok (.istore 4, 2) := by decide +kernel
theorem dX11_begin_74 : decode cX11_begin 74 = .ok (.aload_n 0, 1) := by decide +kernel
theorem dX11_begin_75 : decode cX11_begin 75 = .ok (.getfield 50, 3) := by decide +kernel
theorem dX11_begin_78 : decode cX11_begin 78 = .ok (.iload_n 1, 1) := by decide +kernel
theorem dX11_begin_79 : decode cX11_begin 79 = .ok (.iconst 2, 1) := by decide +kernel
theorem dX11_begin_80 : decode cX11_begin 80 = .ok (.iload 4, 2) := by decide +kernel
theorem dX11_begin_82 : decode cX11_begin 82 = .ok (.invokevirtual 136, 3) := by decide +kernel
theorem dX11_begin_85 : decode cX11_begin 85 = .ok (.aload_n 0, 1) := by decide +kernel
theorem dX11_begin_86 : decode cX11_begin 86 = .ok (.getfield 50, 3) := by decide +kernel
theorem dX11_begin_89 : decode cX11_begin 89 = .ok (.iload_n 1, 1) := by decide +kernel
theorem dX11_begin_90 : decode cX11_begin 90 = .ok (.iconst 3, 1) := by decide +kernel
theorem dX11_begin_91 : decode cX11_begin 91 = .ok (.iload_n 3, 1) := by decide +kernel
theorem dX11_begin_92 : decode cX11_begin 92 = .ok (.invokevirtual 136, 3) := by decide +kernel
theorem dX11_begin_95 : decode cX11_begin 95 = .ok (.aload_n 0, 1) := by decide +kernel
theorem dX11_begin_96 : decode cX11_begin 96 = .ok (.getfield 50, 3) := by decide +kernel
theorem dX11_begin_99 : decode cX11_begin 99 = .ok (.iload_n 1, 1) := by decide +kernel
theorem dX11_begin_100 : decode cX11_begin 100 = .ok (.aload_n 0, 1) := by decide +kernel
theorem dX11_begin_101 : decode cX11_begin 101 = .ok (.getfield 43, 3) := by decide +kernel
theorem dX11_begin_104 : decode cX11_begin 104 = .ok (.invokevirtual 146, 3) := by decide +kernel
theorem dX11_begin_107 : decode cX11_begin 107 = .ok (.invokevirtual 149, 3) := by decide +kernel
theorem dX11_begin_110 : decode cX11_begin 110 = .ok (.iload 4, 2) := by decide +kernel
theorem dX11_begin_112 : decode cX11_begin 112 = .ok (.ireturn, 1) := by decide +kernel
def f_X11_begin_p63 (ln : Nat → Nat) (x1 : Int32) (x2 : Int32) (x3 : Int32) (s : dr_S) : Option (Int32 × dr_S) := dr_bnd (f_X6_open ln x2 x3 s) (fun r10 s9 => dr_bndv (f_X3_set ln x1 2 r10 s9) (fun s11 => dr_bndv (f_X3_set ln x1 3 x3 s11) (fun s12 => dr_bnd (f_X4_top ln  s12) (fun r14 s13 => dr_bndv (f_X3_startReading ln x1 r14 s13) (fun s15 => some (r10, s15))))))
def f_X11_begin (ln : Nat → Nat) (x1 : Int32) (x2 : Int32) (x3 : Int32) (s : dr_S) : Option (Int32 × dr_S) := dr_bnd (f_X11_isIdleClerk ln x1 s) (fun r2 s1 => (if r2 = 0 then some ((-1), s1) else (if x2 < 0 then some ((-1), s1) else (if ((2 : Int32) < x2 : Prop) then some ((-1), s1) else dr_bnd (f_X11_isHeading ln x3 s1) (fun r4 s3 => (if r4 = 0 then some ((-1), s3) else dr_bnd (f_X6_begun ln  s3) (fun r6 s5 => (if r6 < 120 then (if x2 = 1 then dr_bnd (f_X4_inUse ln  s5) (fun r8 s7 => (if ((60 : Int32) ≤ (256 - r8) : Prop) then (f_X11_begin_p63 ln x1 x2 x3 s7) else some ((-1), s7))) else (f_X11_begin_p63 ln x1 x2 x3 s5)) else some ((-1), s5)))))))))
section
variable {p : Program} {l : Launch} {e : Env} {s0 : State} {m : MethodId} {args : Array Value} {below : List Frame} {meth : Method} {c : Code} {A : Nat → Prop} {D : va_G} {cI cZ : ClassId} {ad ln : Nat → Nat} {L : List Nat}
set_option maxHeartbeats 4000000 in
set_option maxRecDepth 20000 in
theorem w_X11_begin_p63 (E : dr_E p (dr_rm 4) s0 m args meth c 0 0 A s0.heap D cI cZ ad L cX11_begin 5 RX11 (some .int)) (hap : dr_ap ad L) (hN : ∀ x ∈ nd_11, x ∈ L) : ∀ (x1 : Int32) (x2 : Int32) (x3 : Int32) (s : dr_S), dr_G p l e (dr_rm 4) s0 m args below meth c 0 0 A s0.heap D cI cZ ad ln L 5 (dr_Zi D cI cZ ad ln L A below args s0 0 0) 63 [(0, .ref (ad 11)), (1, .int x1), (2, .int x2), (3, .int x3)] [] s (f_X11_begin_p63 ln x1 x2 x3 s) := by
  intro x1 x2 x3 s
  unfold f_X11_begin_p63
  refine g_aload_n E dX11_begin_63 0 rfl ?_
  refine gg_11_55 E (hN 11 (by decide)) dX11_begin_64 ?_
  refine g_iload_n E dX11_begin_67 2 rfl ?_
  refine g_iload_n E dX11_begin_68 3 rfl ?_
  refine g_cVi E [.int x2, .int x3] rfl (c_X6_open hap (fun x h => hN x (ns_6_11 x h)) x2 x3 s) (hN 6 (by decide)) (by decide) rfl rfl mi_X6_open msl_X6_open mw_X6_open rfl ml_11_143 ⟨Nat.le_of_ble_eq_true rfl, Nat.le_of_ble_eq_true rfl⟩ (Nat.le_of_ble_eq_true rfl) dX11_begin_69 (fun r10 s9 => ?_)
  refine g_istore E (lv' := [(4, .int r10), (0, .ref (ad 11)), (1, .int x1), (2, .int x2), (3, .int x3)]) dX11_begin_72 (by decide) rfl ?_
  refine g_aload_n E dX11_begin_74 1 rfl ?_
  refine gg_11_50 E (hN 11 (by decide)) dX11_begin_75 ?_
  refine g_iload_n E dX11_begin_78 2 rfl ?_
  refine g_iconst E (v := 2) dX11_begin_79 (by decide) ?_
  refine g_iload E dX11_begin_80 0 rfl ?_
  refine g_cVv E [.int x1, .int 2, .int r10] rfl (c_X3_set hap (fun x h => hN x (ns_3_11 x h)) x1 2 r10 s9) (hN 3 (by decide)) (by decide) rfl rfl mi_X3_set msl_X3_set mw_X3_set rfl ml_11_136 ⟨Nat.le_of_ble_eq_true rfl, Nat.le_of_ble_eq_true rfl⟩ (Nat.le_of_ble_eq_true rfl) dX11_begin_82 (fun s11 => ?_)
  refine g_aload_n E dX11_begin_85 1 rfl ?_
  refine gg_11_50 E (hN 11 (by decide)) dX11_begin_86 ?_
  refine g_iload_n E dX11_begin_89 2 rfl ?_
  refine g_iconst E (v := 3) dX11_begin_90 (by decide) ?_
  refine g_iload_n E dX11_begin_91 4 rfl ?_
  refine g_cVv E [.int x1, .int 3, .int x3] rfl (c_X3_set hap (fun x h => hN x (ns_3_11 x h)) x1 3 x3 s11) (hN 3 (by decide)) (by decide) rfl rfl mi_X3_set msl_X3_set mw_X3_set rfl ml_11_136 ⟨Nat.le_of_ble_eq_true rfl, Nat.le_of_ble_eq_true rfl⟩ (Nat.le_of_ble_eq_true rfl) dX11_begin_92 (fun s12 => ?_)
  refine g_aload_n E dX11_begin_95 1 rfl ?_
  refine gg_11_50 E (hN 11 (by decide)) dX11_begin_96 ?_
  refine g_iload_n E dX11_begin_99 2 rfl ?_
  refine g_aload_n E dX11_begin_100 1 rfl ?_
  refine gg_11_43 E (hN 11 (by decide)) dX11_begin_101 ?_
  refine g_cVi E [] rfl (c_X4_top hap (fun x h => hN x (ns_4_11 x h))  s12) (hN 4 (by decide)) (by decide) rfl rfl mi_X4_top msl_X4_top mw_X4_top rfl ml_11_146 ⟨Nat.le_of_ble_eq_true rfl, Nat.le_of_ble_eq_true rfl⟩ (Nat.le_of_ble_eq_true rfl) dX11_begin_104 (fun r14 s13 => ?_)
  refine g_cVv E [.int x1, .int r14] rfl (c_X3_startReading hap (fun x h => hN x (ns_3_11 x h)) x1 r14 s13) (hN 3 (by decide)) (by decide) rfl rfl mi_X3_startReading msl_X3_startReading mw_X3_startReading rfl ml_11_149 ⟨Nat.le_of_ble_eq_true rfl, Nat.le_of_ble_eq_true rfl⟩ (Nat.le_of_ble_eq_true rfl) dX11_begin_107 (fun s15 => ?_)
  refine g_iload E dX11_begin_110 0 rfl ?_
  exact g_iret E dX11_begin_112
set_option maxHeartbeats 4000000 in
set_option maxRecDepth 20000 in
theorem c_X11_begin (hap : dr_ap ad L) (hN : ∀ x ∈ nd_11, x ∈ L) (x1 : Int32) (x2 : Int32) (x3 : Int32) (s : dr_S) : dr_Mi l D cI cZ ad ln L yX11_begin cX11_begin 5 (some .int) 4 [.ref (ad 11), .int x1, .int x2, .int x3] s (f_X11_begin ln x1 x2 x3 s) := by
  refine dr_meti (own := RX11) (by decide) rfl (Nat.le_of_ble_eq_true rfl) hap ?_
  intro p e s0 m args below meth c A E
  unfold f_X11_begin
  refine g_eqL (lv' := [(0, .ref (ad 11)), (1, .int x1), (2, .int x2), (3, .int x3)]) rfl ?_
  refine g_aload_n E dX11_begin_0 0 rfl ?_
  refine g_iload_n E dX11_begin_1 1 rfl ?_
  refine g_cVi E [.int x1] rfl (c_X11_isIdleClerk hap hN x1 s) (hN 11 (by decide)) (by decide) rfl rfl mi_X11_isIdleClerk msl_X11_isIdleClerk mw_X11_isIdleClerk rfl ml_11_133 ⟨Nat.le_of_ble_eq_true rfl, Nat.le_of_ble_eq_true rfl⟩ (Nat.le_of_ble_eq_true rfl) dX11_begin_2 (fun r2 s1 => ?_)
  refine g_if_eq E 24 dX11_begin_5 (by decide) ?_ ?_
  · refine g_iconst E (v := (-1)) dX11_begin_24 (by decide) ?_
    exact g_iret E dX11_begin_25
  · refine g_iload_n E dX11_begin_8 2 rfl ?_
    refine g_if_lt E 24 dX11_begin_9 (by decide) ?_ ?_
    · refine g_iconst E (v := (-1)) dX11_begin_24 (by decide) ?_
      exact g_iret E dX11_begin_25
    · refine g_iload_n E dX11_begin_12 2 rfl ?_
      refine g_iconst E (v := 2) dX11_begin_13 (by decide) ?_
      refine g_icmp_gt E 24 dX11_begin_14 (by decide) ?_ ?_
      · refine g_iconst E (v := (-1)) dX11_begin_24 (by decide) ?_
        exact g_iret E dX11_begin_25
      · refine g_iload_n E dX11_begin_17 3 rfl ?_
        refine g_cSi E [.int x3] rfl (c_X11_isHeading hap hN x3 s1) ms_X11_isHeading mw_X11_isHeading rfl ml_11_125 ⟨Nat.le_of_ble_eq_true rfl, Nat.le_of_ble_eq_true rfl⟩ (Nat.le_of_ble_eq_true rfl) dX11_begin_18 (fun r4 s3 => ?_)
        refine g_if_ne E 26 dX11_begin_21 (by decide) ?_ ?_
        · refine g_aload_n E dX11_begin_26 0 rfl ?_
          refine gg_11_55 E (hN 11 (by decide)) dX11_begin_27 ?_
          refine g_cVi E [] rfl (c_X6_begun hap (fun x h => hN x (ns_6_11 x h))  s3) (hN 6 (by decide)) (by decide) rfl rfl mi_X6_begun msl_X6_begun mw_X6_begun rfl ml_11_118 ⟨Nat.le_of_ble_eq_true rfl, Nat.le_of_ble_eq_true rfl⟩ (Nat.le_of_ble_eq_true rfl) dX11_begin_30 (fun r6 s5 => ?_)
          refine g_bipush E (v := 120) dX11_begin_33 (by decide) ?_
          refine g_icmp_lt E 40 dX11_begin_35 (by decide) ?_ ?_
          · refine g_iload_n E dX11_begin_40 2 rfl ?_
            refine g_iconst E (v := 1) dX11_begin_41 (by decide) ?_
            refine g_icmp_ne E 63 dX11_begin_42 (by decide) ?_ ?_
            · refine g_sub [0, 1, 2, 3] rfl ?_
              exact w_X11_begin_p63 E hap hN x1 x2 x3 s5
            · refine g_sipush E (v := 256) dX11_begin_45 (by decide) ?_
              refine g_aload_n E dX11_begin_48 0 rfl ?_
              refine gg_11_43 E (hN 11 (by decide)) dX11_begin_49 ?_
              refine g_cVi E [] rfl (c_X4_inUse hap (fun x h => hN x (ns_4_11 x h))  s5) (hN 4 (by decide)) (by decide) rfl rfl mi_X4_inUse msl_X4_inUse mw_X4_inUse rfl ml_11_140 ⟨Nat.le_of_ble_eq_true rfl, Nat.le_of_ble_eq_true rfl⟩ (Nat.le_of_ble_eq_true rfl) dX11_begin_52 (fun r8 s7 => ?_)
              refine g_isub E dX11_begin_55 ?_
              refine g_bipush E (v := 60) dX11_begin_56 (by decide) ?_
              refine g_icmp_ge E 63 dX11_begin_58 (by decide) ?_ ?_
              · refine g_sub [0, 1, 2, 3] rfl ?_
                exact w_X11_begin_p63 E hap hN x1 x2 x3 s7
              · refine g_iconst E (v := (-1)) dX11_begin_61 (by decide) ?_
                exact g_iret E dX11_begin_62
          · refine g_iconst E (v := (-1)) dX11_begin_38 (by decide) ?_
            exact g_iret E dX11_begin_39
        · refine g_iconst E (v := (-1)) dX11_begin_24 (by decide) ?_
          exact g_iret E dX11_begin_25
end

theorem dX11_step_0 : decode cX11_step 0 = .ok (.iload_n 1, 1) := by decide +kernel
theorem dX11_step_1 : decode cX11_step 1 = .ok (.invokestatic 153, 3) := by decide +kernel
theorem dX11_step_4 : decode cX11_step 4 = .ok (.ifCond .eq 25, 3) := by decide +kernel
theorem dX11_step_7 : decode cX11_step 7 = .ok (.aload_n 0, 1) := by decide +kernel
theorem dX11_step_8 : decode cX11_step 8 = .ok (.getfield 50, 3) := by decide +kernel
theorem dX11_step_11 : decode cX11_step 11 = .ok (.iload_n 1, 1) := by decide +kernel
theorem dX11_step_12 : decode cX11_step 12 = .ok (.invokevirtual 156, 3) := by decide +kernel
theorem dX11_step_15 : decode cX11_step 15 = .ok (.ifCond .ne 14, 3) := by decide +kernel
theorem dX11_step_18 : decode cX11_step 18 = .ok (.iload_n 2, 1) := by decide +kernel
theorem dX11_step_19 : decode cX11_step 19 = .ok (.iconst 1, 1) := by decide +kernel
theorem dX11_step_20 : decode cX11_step 20 = .ok (.if_icmp .lt 9, 3) := by decide +kernel
theorem dX11_step_23 : decode cX11_step 23 = .ok (.iload_n 2, 1) := by decide +kernel
theorem dX11_step_24 : decode cX11_step 24 = .ok (.bipush 30, 2) := by decide +kernel
theorem dX11_step_26 : decode cX11_step 26 = .ok (.if_icmp .le 5, 3) := by decide +kernel
theorem dX11_step_29 : decode cX11_step 29 = .ok (.iconst (-1), 1) := by decide +kernel
theorem dX11_step_30 : decode cX11_step 30 = .ok (.ireturn, 1) := by decide +kernel
theorem dX11_step_31 : decode cX11_step 31 = .ok (.iconst 0, 1) := by decide +kernel
theorem dX11_step_32 : decode cX11_step 32 = .ok (.istore_n 3, 1) := by decide +kernel
theorem dX11_step_33 : decode cX11_step 33 = .ok (.iload_n 3, 1) := by decide +kernel
theorem dX11_step_34 : decode cX11_step 34 = .ok (.iload_n 2, 1) := by decide +kernel
theorem dX11_step_35 : decode cX11_step 35 = .ok (.if_icmp .ge 28, 3) := by decide +kernel
theorem dX11_step_38 : decode cX11_step 38 = .ok (.aload_n 0, 1) := by decide +kernel
theorem dX11_step_39 : decode cX11_step 39 = .ok (.getfield 50, 3) := by decide +kernel
theorem dX11_step_42 : decode cX11_step 42 = .ok (.iload_n 1, 1) := by decide +kernel
theorem dX11_step_43 : decode cX11_step 43 = .ok (.invokevirtual 156, 3) := by decide +kernel
theorem dX11_step_46 : decode cX11_step 46 = .ok (.ifCond .ne 17, 3) := by decide +kernel
theorem dX11_step_49 : decode cX11_step 49 = .ok (.aload_n 0, 1) := by decide +kernel
theorem dX11_step_50 : decode cX11_step 50 = .ok (.getfield 64, 3) := by decide +kernel
theorem dX11_step_53 : decode cX11_step 53 = .ok (.iload_n 1, 1) := by decide +kernel
theorem dX11_step_54 : decode cX11_step 54 = .ok (.invokevirtual 159, 3) := by decide +kernel
theorem dX11_step_57 : decode cX11_step 57 = .ok (.iinc 3 1, 3) := by decide +kernel
theorem dX11_step_60 : decode cX11_step 60 = .ok (.goto (-27), 3) := by decide +kernel
theorem dX11_step_63 : decode cX11_step 63 = .ok (.iload_n 3, 1) := by decide +kernel
theorem dX11_step_64 : decode cX11_step 64 = .ok (.ireturn, 1) := by decide +kernel
def f_X11_step_p33 (ln : Nat → Nat) : Nat → Int32 → Int32 → Int32 → dr_S → Option (Int32 × dr_S)
  | 0, _, _, _, _ => none
  | n + 1, x1, x2, x3, s => (if x2 ≤ x3 then some (x3, s) else dr_bnd (f_X3_isIdle ln x1 s) (fun r6 s5 => (if r6 = 0 then dr_bndv (f_X10_go ln x1 s5) (fun s7 => dr_let (x3 + 1) (fun y8 => (f_X11_step_p33 ln n x1 x2 y8 s7))) else some (x3, s5))))
def f_X11_step (ln : Nat → Nat) (x1 : Int32) (x2 : Int32) (s : dr_S) : Option (Int32 × dr_S) := dr_bnd (f_X11_isClerk ln x1 s) (fun r2 s1 => (if r2 = 0 then some ((-1), s1) else dr_bnd (f_X3_isIdle ln x1 s1) (fun r4 s3 => (if r4 = 0 then (if x2 < 1 then some ((-1), s3) else (if x2 ≤ 30 then (f_X11_step_p33 ln dr_N x1 x2 0 s3) else some ((-1), s3))) else some ((-1), s3)))))
section
variable {p : Program} {l : Launch} {e : Env} {s0 : State} {m : MethodId} {args : Array Value} {below : List Frame} {meth : Method} {c : Code} {A : Nat → Prop} {D : va_G} {cI cZ : ClassId} {ad ln : Nat → Nat} {L : List Nat}
set_option maxHeartbeats 4000000 in
set_option maxRecDepth 20000 in
theorem w_X11_step_p33 (E : dr_E p (dr_rm 6) s0 m args meth c 0 0 A s0.heap D cI cZ ad L cX11_step 4 RX11 (some .int)) (hap : dr_ap ad L) (hN : ∀ x ∈ nd_11, x ∈ L) : ∀ (n : Nat) (x1 : Int32) (x2 : Int32) (x3 : Int32) (s : dr_S), dr_G p l e (dr_rm 6) s0 m args below meth c 0 0 A s0.heap D cI cZ ad ln L 4 (dr_Zi D cI cZ ad ln L A below args s0 0 0) 33 [(0, .ref (ad 11)), (1, .int x1), (2, .int x2), (3, .int x3)] [] s (f_X11_step_p33 ln n x1 x2 x3 s) := by
  intro n
  induction n with
  | zero =>
    intro x1 x2 x3 s
    rw [f_X11_step_p33]
    exact g_none
  | succ n hkb33 =>
    intro x1 x2 x3 s
    rw [f_X11_step_p33]
    refine g_iload_n E dX11_step_33 3 rfl ?_
    refine g_iload_n E dX11_step_34 2 rfl ?_
    refine g_icmp_ge E 63 dX11_step_35 (by decide) ?_ ?_
    · refine g_iload_n E dX11_step_63 3 rfl ?_
      exact g_iret E dX11_step_64
    · refine g_aload_n E dX11_step_38 0 rfl ?_
      refine gg_11_50 E (hN 11 (by decide)) dX11_step_39 ?_
      refine g_iload_n E dX11_step_42 1 rfl ?_
      refine g_cVi E [.int x1] rfl (c_X3_isIdle hap (fun x h => hN x (ns_3_11 x h)) x1 s) (hN 3 (by decide)) (by decide) rfl rfl mi_X3_isIdle msl_X3_isIdle mw_X3_isIdle rfl ml_11_156 ⟨Nat.le_of_ble_eq_true rfl, Nat.le_of_ble_eq_true rfl⟩ (Nat.le_of_ble_eq_true rfl) dX11_step_43 (fun r6 s5 => ?_)
      refine g_if_ne E 63 dX11_step_46 (by decide) ?_ ?_
      · refine g_iload_n E dX11_step_63 3 rfl ?_
        exact g_iret E dX11_step_64
      · refine g_aload_n E dX11_step_49 0 rfl ?_
        refine gg_11_64 E (hN 11 (by decide)) dX11_step_50 ?_
        refine g_iload_n E dX11_step_53 1 rfl ?_
        refine g_cVv E [.int x1] rfl (c_X10_go hap (fun x h => hN x (ns_10_11 x h)) x1 s5) (hN 10 (by decide)) (by decide) rfl rfl mi_X10_go msl_X10_go mw_X10_go rfl ml_11_159 ⟨Nat.le_of_ble_eq_true rfl, Nat.le_of_ble_eq_true rfl⟩ (Nat.le_of_ble_eq_true rfl) dX11_step_54 (fun s7 => ?_)
        refine g_iinc E (lv' := []) (lv'' := fun y8 => [(3, .int y8), (0, .ref (ad 11)), (1, .int x1), (2, .int x2)]) (v := 1) dX11_step_57 3 rfl (by decide) (by decide) (fun _ => rfl) (fun y8 => ?_)
        refine g_goto E 33 dX11_step_60 (by decide) ?_
        refine g_sub [1, 2, 3, 0] rfl ?_
        exact hkb33 x1 x2 y8 s7
set_option maxHeartbeats 4000000 in
set_option maxRecDepth 20000 in
theorem c_X11_step (hap : dr_ap ad L) (hN : ∀ x ∈ nd_11, x ∈ L) (x1 : Int32) (x2 : Int32) (s : dr_S) : dr_Mi l D cI cZ ad ln L yX11_step cX11_step 4 (some .int) 6 [.ref (ad 11), .int x1, .int x2] s (f_X11_step ln x1 x2 s) := by
  refine dr_meti (own := RX11) (by decide) rfl (Nat.le_of_ble_eq_true rfl) hap ?_
  intro p e s0 m args below meth c A E
  unfold f_X11_step
  refine g_eqL (lv' := [(0, .ref (ad 11)), (1, .int x1), (2, .int x2)]) rfl ?_
  refine g_iload_n E dX11_step_0 1 rfl ?_
  refine g_cSi E [.int x1] rfl (c_X11_isClerk hap hN x1 s) ms_X11_isClerk mw_X11_isClerk rfl ml_11_153 ⟨Nat.le_of_ble_eq_true rfl, Nat.le_of_ble_eq_true rfl⟩ (Nat.le_of_ble_eq_true rfl) dX11_step_1 (fun r2 s1 => ?_)
  refine g_if_eq E 29 dX11_step_4 (by decide) ?_ ?_
  · refine g_iconst E (v := (-1)) dX11_step_29 (by decide) ?_
    exact g_iret E dX11_step_30
  · refine g_aload_n E dX11_step_7 0 rfl ?_
    refine gg_11_50 E (hN 11 (by decide)) dX11_step_8 ?_
    refine g_iload_n E dX11_step_11 1 rfl ?_
    refine g_cVi E [.int x1] rfl (c_X3_isIdle hap (fun x h => hN x (ns_3_11 x h)) x1 s1) (hN 3 (by decide)) (by decide) rfl rfl mi_X3_isIdle msl_X3_isIdle mw_X3_isIdle rfl ml_11_156 ⟨Nat.le_of_ble_eq_true rfl, Nat.le_of_ble_eq_true rfl⟩ (Nat.le_of_ble_eq_true rfl) dX11_step_12 (fun r4 s3 => ?_)
    refine g_if_ne E 29 dX11_step_15 (by decide) ?_ ?_
    · refine g_iconst E (v := (-1)) dX11_step_29 (by decide) ?_
      exact g_iret E dX11_step_30
    · refine g_iload_n E dX11_step_18 2 rfl ?_
      refine g_iconst E (v := 1) dX11_step_19 (by decide) ?_
      refine g_icmp_lt E 29 dX11_step_20 (by decide) ?_ ?_
      · refine g_iconst E (v := (-1)) dX11_step_29 (by decide) ?_
        exact g_iret E dX11_step_30
      · refine g_iload_n E dX11_step_23 2 rfl ?_
        refine g_bipush E (v := 30) dX11_step_24 (by decide) ?_
        refine g_icmp_le E 31 dX11_step_26 (by decide) ?_ ?_
        · refine g_iconst E (v := 0) dX11_step_31 (by decide) ?_
          refine g_istore_n E (lv' := [(3, .int 0), (0, .ref (ad 11)), (1, .int x1), (2, .int x2)]) dX11_step_32 (by decide) rfl ?_
          refine g_sub [1, 2, 3, 0] rfl ?_
          exact w_X11_step_p33 E hap hN dr_N x1 x2 0 s3
        · refine g_iconst E (v := (-1)) dX11_step_29 (by decide) ?_
          exact g_iret E dX11_step_30
end

theorem dX11_clerk_0 : decode cX11_clerk 0 = .ok (.iload_n 1, 1) := by decide +kernel
theorem dX11_clerk_1 : decode cX11_clerk 1 = .ok (.invokestatic 153, 3) := by decide +kernel
theorem dX11_clerk_4 : decode cX11_clerk 4 = .ok (.ifCond .eq 12, 3) := by decide +kernel
theorem dX11_clerk_7 : decode cX11_clerk 7 = .ok (.iload_n 2, 1) := by decide +kernel
theorem dX11_clerk_8 : decode cX11_clerk 8 = .ok (.ifCond .lt 8, 3) := by decide +kernel
theorem dX11_clerk_11 : decode cX11_clerk 11 = .ok (.iload_n 2, 1) := by decide +kernel
theorem dX11_clerk_12 : decode cX11_clerk 12 = .ok (.iconst 4, 1) := by decide +kernel
theorem dX11_clerk_13 : decode cX11_clerk 13 = .ok (.if_icmp .le 5, 3) := by decide +kernel
theorem dX11_clerk_16 : decode cX11_clerk 16 = .ok (.iconst (-1), 1) := by decide +kernel
theorem dX11_clerk_17 : decode cX11_clerk 17 = .ok (.ireturn, 1) := by decide +kernel
theorem dX11_clerk_18 : decode cX11_clerk 18 = .ok (.aload_n 0, 1) := by decide +kernel
theorem dX11_clerk_19 : decode cX11_clerk 19 = .ok (.getfield 50, 3) := by decide +kernel
theorem dX11_clerk_22 : decode cX11_clerk 22 = .ok (.iload_n 1, 1) := by decide +kernel
theorem dX11_clerk_23 : decode cX11_clerk 23 = .ok (.iload_n 2, 1) := by decide +kernel
theorem dX11_clerk_24 : decode cX11_clerk 24 = .ok (.invokevirtual 162, 3) := by decide +kernel
theorem dX11_clerk_27 : decode cX11_clerk 27 = .ok (.ireturn, 1) := by decide +kernel
def f_X11_clerk (ln : Nat → Nat) (x1 : Int32) (x2 : Int32) (s : dr_S) : Option (Int32 × dr_S) := dr_bnd (f_X11_isClerk ln x1 s) (fun r2 s1 => (if r2 = 0 then some ((-1), s1) else (if x2 < 0 then some ((-1), s1) else (if x2 ≤ 4 then dr_bnd (f_X3_get ln x1 x2 s1) (fun r4 s3 => some (r4, s3)) else some ((-1), s1)))))
section
variable {p : Program} {l : Launch} {e : Env} {s0 : State} {m : MethodId} {args : Array Value} {below : List Frame} {meth : Method} {c : Code} {A : Nat → Prop} {D : va_G} {cI cZ : ClassId} {ad ln : Nat → Nat} {L : List Nat}
set_option maxHeartbeats 4000000 in
set_option maxRecDepth 20000 in
theorem c_X11_clerk (hap : dr_ap ad L) (hN : ∀ x ∈ nd_11, x ∈ L) (x1 : Int32) (x2 : Int32) (s : dr_S) : dr_Mi l D cI cZ ad ln L yX11_clerk cX11_clerk 3 (some .int) 2 [.ref (ad 11), .int x1, .int x2] s (f_X11_clerk ln x1 x2 s) := by
  refine dr_meti (own := RX11) (by decide) rfl (Nat.le_of_ble_eq_true rfl) hap ?_
  intro p e s0 m args below meth c A E
  unfold f_X11_clerk
  refine g_eqL (lv' := [(0, .ref (ad 11)), (1, .int x1), (2, .int x2)]) rfl ?_
  refine g_iload_n E dX11_clerk_0 1 rfl ?_
  refine g_cSi E [.int x1] rfl (c_X11_isClerk hap hN x1 s) ms_X11_isClerk mw_X11_isClerk rfl ml_11_153 ⟨Nat.le_of_ble_eq_true rfl, Nat.le_of_ble_eq_true rfl⟩ (Nat.le_of_ble_eq_true rfl) dX11_clerk_1 (fun r2 s1 => ?_)
  refine g_if_eq E 16 dX11_clerk_4 (by decide) ?_ ?_
  · refine g_iconst E (v := (-1)) dX11_clerk_16 (by decide) ?_
    exact g_iret E dX11_clerk_17
  · refine g_iload_n E dX11_clerk_7 2 rfl ?_
    refine g_if_lt E 16 dX11_clerk_8 (by decide) ?_ ?_
    · refine g_iconst E (v := (-1)) dX11_clerk_16 (by decide) ?_
      exact g_iret E dX11_clerk_17
    · refine g_iload_n E dX11_clerk_11 2 rfl ?_
      refine g_iconst E (v := 4) dX11_clerk_12 (by decide) ?_
      refine g_icmp_le E 18 dX11_clerk_13 (by decide) ?_ ?_
      · refine g_aload_n E dX11_clerk_18 0 rfl ?_
        refine gg_11_50 E (hN 11 (by decide)) dX11_clerk_19 ?_
        refine g_iload_n E dX11_clerk_22 1 rfl ?_
        refine g_iload_n E dX11_clerk_23 2 rfl ?_
        refine g_cVi E [.int x1, .int x2] rfl (c_X3_get hap (fun x h => hN x (ns_3_11 x h)) x1 x2 s1) (hN 3 (by decide)) (by decide) rfl rfl mi_X3_get msl_X3_get mw_X3_get rfl ml_11_162 ⟨Nat.le_of_ble_eq_true rfl, Nat.le_of_ble_eq_true rfl⟩ (Nat.le_of_ble_eq_true rfl) dX11_clerk_24 (fun r4 s3 => ?_)
        exact g_iret E dX11_clerk_27
      · refine g_iconst E (v := (-1)) dX11_clerk_16 (by decide) ?_
        exact g_iret E dX11_clerk_17
end

theorem dX11_job_0 : decode cX11_job 0 = .ok (.iload_n 1, 1) := by decide +kernel
theorem dX11_job_1 : decode cX11_job 1 = .ok (.ifCond .lt 24, 3) := by decide +kernel
theorem dX11_job_4 : decode cX11_job 4 = .ok (.iload_n 1, 1) := by decide +kernel
theorem dX11_job_5 : decode cX11_job 5 = .ok (.aload_n 0, 1) := by decide +kernel
theorem dX11_job_6 : decode cX11_job 6 = .ok (.getfield 55, 3) := by decide +kernel
theorem dX11_job_9 : decode cX11_job 9 = .ok (.invokevirtual 118, 3) := by decide +kernel
theorem dX11_job_12 : decode cX11_job 12 = .ok (.if_icmp .ge 13, 3) := by decide +kernel
theorem dX11_job_15 : decode cX11_job 15 = .ok (.iload_n 2, 1) := by decide +kernel
theorem dX11_job_16 : decode cX11_job 16 = .ok (.ifCond .lt 9, 3) := by decide +kernel
theorem dX11_job_19 : decode cX11_job 19 = .ok (.iload_n 2, 1) := by decide +kernel
theorem dX11_job_20 : decode cX11_job 20 = .ok (.bipush 6, 2) := by decide +kernel
theorem dX11_job_22 : decode cX11_job 22 = .ok (.if_icmp .le 5, 3) := by decide +kernel
theorem dX11_job_25 : decode cX11_job 25 = .ok (.iconst (-1), 1) := by decide +kernel
theorem dX11_job_26 : decode cX11_job 26 = .ok (.ireturn, 1) := by decide +kernel
theorem dX11_job_27 : decode cX11_job 27 = .ok (.aload_n 0, 1) := by decide +kernel
theorem dX11_job_28 : decode cX11_job 28 = .ok (.getfield 55, 3) := by decide +kernel
theorem dX11_job_31 : decode cX11_job 31 = .ok (.iload_n 1, 1) := by decide +kernel
theorem dX11_job_32 : decode cX11_job 32 = .ok (.iload_n 2, 1) := by decide +kernel
theorem dX11_job_33 : decode cX11_job 33 = .ok (.invokevirtual 165, 3) := by decide +kernel
theorem dX11_job_36 : decode cX11_job 36 = .ok (.ireturn, 1) := by decide +kernel
def f_X11_job (ln : Nat → Nat) (x1 : Int32) (x2 : Int32) (s : dr_S) : Option (Int32 × dr_S) := (if x1 < 0 then some ((-1), s) else dr_bnd (f_X6_begun ln  s) (fun r2 s1 => (if r2 ≤ x1 then some ((-1), s1) else (if x2 < 0 then some ((-1), s1) else (if x2 ≤ 6 then dr_bnd (f_X6_get ln x1 x2 s1) (fun r4 s3 => some (r4, s3)) else some ((-1), s1))))))
section
variable {p : Program} {l : Launch} {e : Env} {s0 : State} {m : MethodId} {args : Array Value} {below : List Frame} {meth : Method} {c : Code} {A : Nat → Prop} {D : va_G} {cI cZ : ClassId} {ad ln : Nat → Nat} {L : List Nat}
set_option maxHeartbeats 4000000 in
set_option maxRecDepth 20000 in
theorem c_X11_job (hap : dr_ap ad L) (hN : ∀ x ∈ nd_11, x ∈ L) (x1 : Int32) (x2 : Int32) (s : dr_S) : dr_Mi l D cI cZ ad ln L yX11_job cX11_job 3 (some .int) 2 [.ref (ad 11), .int x1, .int x2] s (f_X11_job ln x1 x2 s) := by
  refine dr_meti (own := RX11) (by decide) rfl (Nat.le_of_ble_eq_true rfl) hap ?_
  intro p e s0 m args below meth c A E
  unfold f_X11_job
  refine g_eqL (lv' := [(0, .ref (ad 11)), (1, .int x1), (2, .int x2)]) rfl ?_
  refine g_iload_n E dX11_job_0 1 rfl ?_
  refine g_if_lt E 25 dX11_job_1 (by decide) ?_ ?_
  · refine g_iconst E (v := (-1)) dX11_job_25 (by decide) ?_
    exact g_iret E dX11_job_26
  · refine g_iload_n E dX11_job_4 1 rfl ?_
    refine g_aload_n E dX11_job_5 0 rfl ?_
    refine gg_11_55 E (hN 11 (by decide)) dX11_job_6 ?_
    refine g_cVi E [] rfl (c_X6_begun hap (fun x h => hN x (ns_6_11 x h))  s) (hN 6 (by decide)) (by decide) rfl rfl mi_X6_begun msl_X6_begun mw_X6_begun rfl ml_11_118 ⟨Nat.le_of_ble_eq_true rfl, Nat.le_of_ble_eq_true rfl⟩ (Nat.le_of_ble_eq_true rfl) dX11_job_9 (fun r2 s1 => ?_)
    refine g_icmp_ge E 25 dX11_job_12 (by decide) ?_ ?_
    · refine g_iconst E (v := (-1)) dX11_job_25 (by decide) ?_
      exact g_iret E dX11_job_26
    · refine g_iload_n E dX11_job_15 2 rfl ?_
      refine g_if_lt E 25 dX11_job_16 (by decide) ?_ ?_
      · refine g_iconst E (v := (-1)) dX11_job_25 (by decide) ?_
        exact g_iret E dX11_job_26
      · refine g_iload_n E dX11_job_19 2 rfl ?_
        refine g_bipush E (v := 6) dX11_job_20 (by decide) ?_
        refine g_icmp_le E 27 dX11_job_22 (by decide) ?_ ?_
        · refine g_aload_n E dX11_job_27 0 rfl ?_
          refine gg_11_55 E (hN 11 (by decide)) dX11_job_28 ?_
          refine g_iload_n E dX11_job_31 1 rfl ?_
          refine g_iload_n E dX11_job_32 2 rfl ?_
          refine g_cVi E [.int x1, .int x2] rfl (c_X6_get hap (fun x h => hN x (ns_6_11 x h)) x1 x2 s1) (hN 6 (by decide)) (by decide) rfl rfl mi_X6_get msl_X6_get mw_X6_get rfl ml_11_165 ⟨Nat.le_of_ble_eq_true rfl, Nat.le_of_ble_eq_true rfl⟩ (Nat.le_of_ble_eq_true rfl) dX11_job_33 (fun r4 s3 => ?_)
          exact g_iret E dX11_job_36
        · refine g_iconst E (v := (-1)) dX11_job_25 (by decide) ?_
          exact g_iret E dX11_job_26
end

theorem dX11_drawer_0 : decode cX11_drawer 0 = .ok (.iload_n 1, 1) := by decide +kernel
theorem dX11_drawer_1 : decode cX11_drawer 1 = .ok (.ifCond .lt 19, 3) := by decide +kernel
theorem dX11_drawer_4 : decode cX11_drawer 4 = .ok (.iload_n 1, 1) := by decide +kernel
theorem dX11_drawer_5 : decode cX11_drawer 5 = .ok (.sipush 256, 3) := by decide +kernel
theorem dX11_drawer_8 : decode cX11_drawer 8 = .ok (.if_icmp .ge 12, 3) := by decide +kernel
theorem dX11_drawer_11 : decode cX11_drawer 11 = .ok (.iload_n 2, 1) := by decide +kernel
theorem dX11_drawer_12 : decode cX11_drawer 12 = .ok (.ifCond .lt 8, 3) := by decide +kernel
theorem dX11_drawer_15 : decode cX11_drawer 15 = .ok (.iload_n 2, 1) := by decide +kernel
theorem dX11_drawer_16 : decode cX11_drawer 16 = .ok (.iconst 5, 1) := by decide +kernel
theorem dX11_drawer_17 : decode cX11_drawer 17 = .ok (.if_icmp .le 5, 3) := by decide +kernel
theorem dX11_drawer_20 : decode cX11_drawer 20 = .ok (.iconst (-1), 1) := by decide +kernel
theorem dX11_drawer_21 : decode cX11_drawer 21 = .ok (.ireturn, 1) := by decide +kernel
theorem dX11_drawer_22 : decode cX11_drawer 22 = .ok (.iload_n 1, 1) := by decide +kernel
theorem dX11_drawer_23 : decode cX11_drawer 23 = .ok (.aload_n 0, 1) := by decide +kernel
theorem dX11_drawer_24 : decode cX11_drawer 24 = .ok (.getfield 43, 3) := by decide +kernel
theorem dX11_drawer_27 : decode cX11_drawer 27 = .ok (.invokevirtual 140, 3) := by decide +kernel
theorem dX11_drawer_30 : decode cX11_drawer 30 = .ok (.if_icmp .ge 7, 3) := by decide +kernel
theorem dX11_drawer_33 : decode cX11_drawer 33 = .ok (.iconst 1, 1) := by decide +kernel
theorem dX11_drawer_34 : decode cX11_drawer 34 = .ok (.goto 4, 3) := by decide +kernel
theorem dX11_drawer_37 : decode cX11_drawer 37 = .ok (.iconst 0, 1) := by decide +kernel
theorem dX11_drawer_38 : decode cX11_drawer 38 = .ok (.istore_n 3, 1) := by decide +kernel
theorem dX11_drawer_39 : decode cX11_drawer 39 = .ok (.iload_n 2, 1) := by decide +kernel
theorem dX11_drawer_40 : decode cX11_drawer 40 = .ok (.ifCond .ne 13, 3) := by decide +kernel
theorem dX11_drawer_43 : decode cX11_drawer 43 = .ok (.iload_n 3, 1) := by decide +kernel
theorem dX11_drawer_44 : decode cX11_drawer 44 = .ok (.ifCond .eq 7, 3) := by decide +kernel
theorem dX11_drawer_47 : decode cX11_drawer 47 = .ok (.iconst 1, 1) := by decide +kernel
theorem dX11_drawer_48 : decode cX11_drawer 48 = .ok (.goto 4, 3) := by decide +kernel
theorem dX11_drawer_51 : decode cX11_drawer 51 = .ok (.iconst 0, 1) := by decide +kernel
theorem dX11_drawer_52 : decode cX11_drawer 52 = .ok (.ireturn, 1) := by decide +kernel
theorem dX11_drawer_53 : decode cX11_drawer 53 = .ok (.iload_n 3, 1) := by decide +kernel
theorem dX11_drawer_54 : decode cX11_drawer 54 = .ok (.ifCond .eq 17, 3) := by decide +kernel
theorem dX11_drawer_57 : decode cX11_drawer 57 = .ok (.aload_n 0, 1) := by decide +kernel
theorem dX11_drawer_58 : decode cX11_drawer 58 = .ok (.getfield 43, 3) := by decide +kernel
theorem dX11_drawer_61 : decode cX11_drawer 61 = .ok (.iload_n 1, 1) := by decide +kernel
theorem dX11_drawer_62 : decode cX11_drawer 62 = .ok (.iload_n 2, 1) := by decide +kernel
theorem dX11_drawer_63 : decode cX11_drawer 63 = .ok (.iconst 1, 1) := by decide +kernel
theorem dX11_drawer_64 : decode cX11_drawer 64 = .ok (.isub, 1) := by decide +kernel
theorem dX11_drawer_65 : decode cX11_drawer 65 = .ok (.invokevirtual 166, 3) := by decide +kernel
theorem dX11_drawer_68 : decode cX11_drawer 68 = .ok (.goto 4, 3) := by decide +kernel
theorem dX11_drawer_71 : decode cX11_drawer 71 = .ok (.iconst (-1), 1) := by decide +kernel
theorem dX11_drawer_72 : decode cX11_drawer 72 = .ok (.ireturn, 1) := by decide +kernel
def f_X11_drawer_p38 (ln : Nat → Nat) (x1 : Int32) (x2 : Int32) (z0 : Int32) (s : dr_S) : Option (Int32 × dr_S) := (if x2 = 0 then (if z0 = 0 then some (0, s) else some (1, s)) else (if z0 = 0 then some ((-1), s) else dr_bnd (f_X4_get ln x1 ((x2 - 1)) s) (fun r4 s3 => some (r4, s3))))
def f_X11_drawer (ln : Nat → Nat) (x1 : Int32) (x2 : Int32) (s : dr_S) : Option (Int32 × dr_S) := (if x1 < 0 then some ((-1), s) else (if ((256 : Int32) ≤ x1 : Prop) then some ((-1), s) else (if x2 < 0 then some ((-1), s) else (if x2 ≤ 5 then dr_bnd (f_X4_inUse ln  s) (fun r2 s1 => (if r2 ≤ x1 then (f_X11_drawer_p38 ln x1 x2 0 s1) else (f_X11_drawer_p38 ln x1 x2 1 s1))) else some ((-1), s)))))
section
variable {p : Program} {l : Launch} {e : Env} {s0 : State} {m : MethodId} {args : Array Value} {below : List Frame} {meth : Method} {c : Code} {A : Nat → Prop} {D : va_G} {cI cZ : ClassId} {ad ln : Nat → Nat} {L : List Nat}
set_option maxHeartbeats 4000000 in
set_option maxRecDepth 20000 in
theorem w_X11_drawer_p38 (E : dr_E p (dr_rm 2) s0 m args meth c 0 0 A s0.heap D cI cZ ad L cX11_drawer 4 RX11 (some .int)) (hap : dr_ap ad L) (hN : ∀ x ∈ nd_11, x ∈ L) : ∀ (x1 : Int32) (x2 : Int32) (z0 : Int32) (s : dr_S), dr_G p l e (dr_rm 2) s0 m args below meth c 0 0 A s0.heap D cI cZ ad ln L 4 (dr_Zi D cI cZ ad ln L A below args s0 0 0) 38 [(0, .ref (ad 11)), (1, .int x1), (2, .int x2)] [.int z0] s (f_X11_drawer_p38 ln x1 x2 z0 s) := by
  intro x1 x2 z0 s
  unfold f_X11_drawer_p38
  refine g_istore_n E (lv' := [(3, .int z0), (0, .ref (ad 11)), (1, .int x1), (2, .int x2)]) dX11_drawer_38 (by decide) rfl ?_
  refine g_iload_n E dX11_drawer_39 3 rfl ?_
  refine g_if_ne E 53 dX11_drawer_40 (by decide) ?_ ?_
  · refine g_iload_n E dX11_drawer_53 0 rfl ?_
    refine g_if_eq E 71 dX11_drawer_54 (by decide) ?_ ?_
    · refine g_iconst E (v := (-1)) dX11_drawer_71 (by decide) ?_
      exact g_iret E dX11_drawer_72
    · refine g_aload_n E dX11_drawer_57 1 rfl ?_
      refine gg_11_43 E (hN 11 (by decide)) dX11_drawer_58 ?_
      refine g_iload_n E dX11_drawer_61 2 rfl ?_
      refine g_iload_n E dX11_drawer_62 3 rfl ?_
      refine g_iconst E (v := 1) dX11_drawer_63 (by decide) ?_
      refine g_isub E dX11_drawer_64 ?_
      refine g_cVi E [.int x1, .int (x2 - 1)] rfl (c_X4_get hap (fun x h => hN x (ns_4_11 x h)) x1 ((x2 - 1)) s) (hN 4 (by decide)) (by decide) rfl rfl mi_X4_get msl_X4_get mw_X4_get rfl ml_11_166 ⟨Nat.le_of_ble_eq_true rfl, Nat.le_of_ble_eq_true rfl⟩ (Nat.le_of_ble_eq_true rfl) dX11_drawer_65 (fun r4 s3 => ?_)
      refine g_goto E 72 dX11_drawer_68 (by decide) ?_
      exact g_iret E dX11_drawer_72
  · refine g_iload_n E dX11_drawer_43 0 rfl ?_
    refine g_if_eq E 51 dX11_drawer_44 (by decide) ?_ ?_
    · refine g_iconst E (v := 0) dX11_drawer_51 (by decide) ?_
      exact g_iret E dX11_drawer_52
    · refine g_iconst E (v := 1) dX11_drawer_47 (by decide) ?_
      refine g_goto E 52 dX11_drawer_48 (by decide) ?_
      exact g_iret E dX11_drawer_52
set_option maxHeartbeats 4000000 in
set_option maxRecDepth 20000 in
theorem c_X11_drawer (hap : dr_ap ad L) (hN : ∀ x ∈ nd_11, x ∈ L) (x1 : Int32) (x2 : Int32) (s : dr_S) : dr_Mi l D cI cZ ad ln L yX11_drawer cX11_drawer 4 (some .int) 2 [.ref (ad 11), .int x1, .int x2] s (f_X11_drawer ln x1 x2 s) := by
  refine dr_meti (own := RX11) (by decide) rfl (Nat.le_of_ble_eq_true rfl) hap ?_
  intro p e s0 m args below meth c A E
  unfold f_X11_drawer
  refine g_eqL (lv' := [(0, .ref (ad 11)), (1, .int x1), (2, .int x2)]) rfl ?_
  refine g_iload_n E dX11_drawer_0 1 rfl ?_
  refine g_if_lt E 20 dX11_drawer_1 (by decide) ?_ ?_
  · refine g_iconst E (v := (-1)) dX11_drawer_20 (by decide) ?_
    exact g_iret E dX11_drawer_21
  · refine g_iload_n E dX11_drawer_4 1 rfl ?_
    refine g_sipush E (v := 256) dX11_drawer_5 (by decide) ?_
    refine g_icmp_ge E 20 dX11_drawer_8 (by decide) ?_ ?_
    · refine g_iconst E (v := (-1)) dX11_drawer_20 (by decide) ?_
      exact g_iret E dX11_drawer_21
    · refine g_iload_n E dX11_drawer_11 2 rfl ?_
      refine g_if_lt E 20 dX11_drawer_12 (by decide) ?_ ?_
      · refine g_iconst E (v := (-1)) dX11_drawer_20 (by decide) ?_
        exact g_iret E dX11_drawer_21
      · refine g_iload_n E dX11_drawer_15 2 rfl ?_
        refine g_iconst E (v := 5) dX11_drawer_16 (by decide) ?_
        refine g_icmp_le E 22 dX11_drawer_17 (by decide) ?_ ?_
        · refine g_iload_n E dX11_drawer_22 1 rfl ?_
          refine g_aload_n E dX11_drawer_23 0 rfl ?_
          refine gg_11_43 E (hN 11 (by decide)) dX11_drawer_24 ?_
          refine g_cVi E [] rfl (c_X4_inUse hap (fun x h => hN x (ns_4_11 x h))  s) (hN 4 (by decide)) (by decide) rfl rfl mi_X4_inUse msl_X4_inUse mw_X4_inUse rfl ml_11_140 ⟨Nat.le_of_ble_eq_true rfl, Nat.le_of_ble_eq_true rfl⟩ (Nat.le_of_ble_eq_true rfl) dX11_drawer_27 (fun r2 s1 => ?_)
          refine g_icmp_ge E 37 dX11_drawer_30 (by decide) ?_ ?_
          · refine g_iconst E (v := 0) dX11_drawer_37 (by decide) ?_
            refine g_sub [0, 1, 2] rfl ?_
            exact w_X11_drawer_p38 E hap hN x1 x2 0 s1
          · refine g_iconst E (v := 1) dX11_drawer_33 (by decide) ?_
            refine g_goto E 38 dX11_drawer_34 (by decide) ?_
            refine g_sub [0, 1, 2] rfl ?_
            exact w_X11_drawer_p38 E hap hN x1 x2 1 s1
        · refine g_iconst E (v := (-1)) dX11_drawer_20 (by decide) ?_
          exact g_iret E dX11_drawer_21
end

theorem dX11_at_0 : decode cX11_at 0 = .ok (.iload_n 1, 1) := by decide +kernel
theorem dX11_at_1 : decode cX11_at 1 = .ok (.ifCond .lt 14, 3) := by decide +kernel
theorem dX11_at_4 : decode cX11_at 4 = .ok (.iload_n 1, 1) := by decide +kernel
theorem dX11_at_5 : decode cX11_at 5 = .ok (.aload_n 0, 1) := by decide +kernel
theorem dX11_at_6 : decode cX11_at 6 = .ok (.getfield 43, 3) := by decide +kernel
theorem dX11_at_9 : decode cX11_at 9 = .ok (.invokevirtual 140, 3) := by decide +kernel
theorem dX11_at_12 : decode cX11_at 12 = .ok (.if_icmp .lt 5, 3) := by decide +kernel
theorem dX11_at_15 : decode cX11_at 15 = .ok (.iconst (-1), 1) := by decide +kernel
theorem dX11_at_16 : decode cX11_at 16 = .ok (.ireturn, 1) := by decide +kernel
theorem dX11_at_17 : decode cX11_at 17 = .ok (.iload_n 3, 1) := by decide +kernel
theorem dX11_at_18 : decode cX11_at 18 = .ok (.ifCond .eq 15, 3) := by decide +kernel
theorem dX11_at_21 : decode cX11_at 21 = .ok (.aload_n 0, 1) := by decide +kernel
theorem dX11_at_22 : decode cX11_at 22 = .ok (.getfield 43, 3) := by decide +kernel
theorem dX11_at_25 : decode cX11_at 25 = .ok (.iload_n 1, 1) := by decide +kernel
theorem dX11_at_26 : decode cX11_at 26 = .ok (.iload_n 2, 1) := by decide +kernel
theorem dX11_at_27 : decode cX11_at 27 = .ok (.invokevirtual 167, 3) := by decide +kernel
theorem dX11_at_30 : decode cX11_at 30 = .ok (.goto 12, 3) := by decide +kernel
theorem dX11_at_33 : decode cX11_at 33 = .ok (.aload_n 0, 1) := by decide +kernel
theorem dX11_at_34 : decode cX11_at 34 = .ok (.getfield 43, 3) := by decide +kernel
theorem dX11_at_37 : decode cX11_at 37 = .ok (.iload_n 1, 1) := by decide +kernel
theorem dX11_at_38 : decode cX11_at 38 = .ok (.iload_n 2, 1) := by decide +kernel
theorem dX11_at_39 : decode cX11_at 39 = .ok (.invokevirtual 170, 3) := by decide +kernel
theorem dX11_at_42 : decode cX11_at 42 = .ok (.ireturn, 1) := by decide +kernel
def f_X11_at (ln : Nat → Nat) (x1 : Int32) (x2 : Int32) (x3 : Int32) (s : dr_S) : Option (Int32 × dr_S) := (if x1 < 0 then some ((-1), s) else dr_bnd (f_X4_inUse ln  s) (fun r2 s1 => (if x1 < r2 then (if x3 = 0 then dr_bnd (f_X4_heading ln x1 x2 s1) (fun r4 s3 => some (r4, s3)) else dr_bnd (f_X4_child ln x1 x2 s1) (fun r6 s5 => some (r6, s5))) else some ((-1), s1))))
section
variable {p : Program} {l : Launch} {e : Env} {s0 : State} {m : MethodId} {args : Array Value} {below : List Frame} {meth : Method} {c : Code} {A : Nat → Prop} {D : va_G} {cI cZ : ClassId} {ad ln : Nat → Nat} {L : List Nat}
set_option maxHeartbeats 4000000 in
set_option maxRecDepth 20000 in
theorem c_X11_at (hap : dr_ap ad L) (hN : ∀ x ∈ nd_11, x ∈ L) (x1 : Int32) (x2 : Int32) (x3 : Int32) (s : dr_S) : dr_Mi l D cI cZ ad ln L yX11_at cX11_at 4 (some .int) 3 [.ref (ad 11), .int x1, .int x2, .int x3] s (f_X11_at ln x1 x2 x3 s) := by
  refine dr_meti (own := RX11) (by decide) rfl (Nat.le_of_ble_eq_true rfl) hap ?_
  intro p e s0 m args below meth c A E
  unfold f_X11_at
  refine g_eqL (lv' := [(0, .ref (ad 11)), (1, .int x1), (2, .int x2), (3, .int x3)]) rfl ?_
  refine g_iload_n E dX11_at_0 1 rfl ?_
  refine g_if_lt E 15 dX11_at_1 (by decide) ?_ ?_
  · refine g_iconst E (v := (-1)) dX11_at_15 (by decide) ?_
    exact g_iret E dX11_at_16
  · refine g_iload_n E dX11_at_4 1 rfl ?_
    refine g_aload_n E dX11_at_5 0 rfl ?_
    refine gg_11_43 E (hN 11 (by decide)) dX11_at_6 ?_
    refine g_cVi E [] rfl (c_X4_inUse hap (fun x h => hN x (ns_4_11 x h))  s) (hN 4 (by decide)) (by decide) rfl rfl mi_X4_inUse msl_X4_inUse mw_X4_inUse rfl ml_11_140 ⟨Nat.le_of_ble_eq_true rfl, Nat.le_of_ble_eq_true rfl⟩ (Nat.le_of_ble_eq_true rfl) dX11_at_9 (fun r2 s1 => ?_)
    refine g_icmp_lt E 17 dX11_at_12 (by decide) ?_ ?_
    · refine g_iload_n E dX11_at_17 3 rfl ?_
      refine g_if_eq E 33 dX11_at_18 (by decide) ?_ ?_
      · refine g_aload_n E dX11_at_33 0 rfl ?_
        refine gg_11_43 E (hN 11 (by decide)) dX11_at_34 ?_
        refine g_iload_n E dX11_at_37 1 rfl ?_
        refine g_iload_n E dX11_at_38 2 rfl ?_
        refine g_cVi E [.int x1, .int x2] rfl (c_X4_heading hap (fun x h => hN x (ns_4_11 x h)) x1 x2 s1) (hN 4 (by decide)) (by decide) rfl rfl mi_X4_heading msl_X4_heading mw_X4_heading rfl ml_11_170 ⟨Nat.le_of_ble_eq_true rfl, Nat.le_of_ble_eq_true rfl⟩ (Nat.le_of_ble_eq_true rfl) dX11_at_39 (fun r4 s3 => ?_)
        exact g_iret E dX11_at_42
      · refine g_aload_n E dX11_at_21 0 rfl ?_
        refine gg_11_43 E (hN 11 (by decide)) dX11_at_22 ?_
        refine g_iload_n E dX11_at_25 1 rfl ?_
        refine g_iload_n E dX11_at_26 2 rfl ?_
        refine g_cVi E [.int x1, .int x2] rfl (c_X4_child hap (fun x h => hN x (ns_4_11 x h)) x1 x2 s1) (hN 4 (by decide)) (by decide) rfl rfl mi_X4_child msl_X4_child mw_X4_child rfl ml_11_167 ⟨Nat.le_of_ble_eq_true rfl, Nat.le_of_ble_eq_true rfl⟩ (Nat.le_of_ble_eq_true rfl) dX11_at_27 (fun r6 s5 => ?_)
        refine g_goto E 42 dX11_at_30 (by decide) ?_
        exact g_iret E dX11_at_42
    · refine g_iconst E (v := (-1)) dX11_at_15 (by decide) ?_
      exact g_iret E dX11_at_16
end

theorem dX11_nth_0 : decode cX11_nth 0 = .ok (.aload_n 0, 1) := by decide +kernel
theorem dX11_nth_1 : decode cX11_nth 1 = .ok (.getfield 73, 3) := by decide +kernel
theorem dX11_nth_4 : decode cX11_nth 4 = .ok (.iload_n 1, 1) := by decide +kernel
theorem dX11_nth_5 : decode cX11_nth 5 = .ok (.invokevirtual 173, 3) := by decide +kernel
theorem dX11_nth_8 : decode cX11_nth 8 = .ok (.ireturn, 1) := by decide +kernel
def f_X11_nth (ln : Nat → Nat) (x1 : Int32) (s : dr_S) : Option (Int32 × dr_S) := dr_bnd (f_X1_kth ln x1 s) (fun r2 s1 => some (r2, s1))
section
variable {p : Program} {l : Launch} {e : Env} {s0 : State} {m : MethodId} {args : Array Value} {below : List Frame} {meth : Method} {c : Code} {A : Nat → Prop} {D : va_G} {cI cZ : ClassId} {ad ln : Nat → Nat} {L : List Nat}
set_option maxHeartbeats 4000000 in
set_option maxRecDepth 20000 in
theorem c_X11_nth (hap : dr_ap ad L) (hN : ∀ x ∈ nd_11, x ∈ L) (x1 : Int32) (s : dr_S) : dr_Mi l D cI cZ ad ln L yX11_nth cX11_nth 2 (some .int) 5 [.ref (ad 11), .int x1] s (f_X11_nth ln x1 s) := by
  refine dr_meti (own := RX11) (by decide) rfl (Nat.le_of_ble_eq_true rfl) hap ?_
  intro p e s0 m args below meth c A E
  unfold f_X11_nth
  refine g_eqL (lv' := [(0, .ref (ad 11)), (1, .int x1)]) rfl ?_
  refine g_aload_n E dX11_nth_0 0 rfl ?_
  refine gg_11_73 E (hN 11 (by decide)) dX11_nth_1 ?_
  refine g_iload_n E dX11_nth_4 1 rfl ?_
  refine g_cVi E [.int x1] rfl (c_X1_kth hap (fun x h => hN x (ns_1_11 x h)) x1 s) (hN 1 (by decide)) (by decide) rfl rfl mi_X1_kth msl_X1_kth mw_X1_kth rfl ml_11_173 ⟨Nat.le_of_ble_eq_true rfl, Nat.le_of_ble_eq_true rfl⟩ (Nat.le_of_ble_eq_true rfl) dX11_nth_5 (fun r2 s1 => ?_)
  exact g_iret E dX11_nth_8
end

theorem dX11_rank_0 : decode cX11_rank 0 = .ok (.iload_n 1, 1) := by decide +kernel
theorem dX11_rank_1 : decode cX11_rank 1 = .ok (.invokestatic 125, 3) := by decide +kernel
theorem dX11_rank_4 : decode cX11_rank 4 = .ok (.ifCond .eq 14, 3) := by decide +kernel
theorem dX11_rank_7 : decode cX11_rank 7 = .ok (.aload_n 0, 1) := by decide +kernel
theorem dX11_rank_8 : decode cX11_rank 8 = .ok (.getfield 73, 3) := by decide +kernel
theorem dX11_rank_11 : decode cX11_rank 11 = .ok (.iload_n 1, 1) := by decide +kernel
theorem dX11_rank_12 : decode cX11_rank 12 = .ok (.invokevirtual 176, 3) := by decide +kernel
theorem dX11_rank_15 : decode cX11_rank 15 = .ok (.goto 4, 3) := by decide +kernel
theorem dX11_rank_18 : decode cX11_rank 18 = .ok (.iconst (-1), 1) := by decide +kernel
theorem dX11_rank_19 : decode cX11_rank 19 = .ok (.ireturn, 1) := by decide +kernel
def f_X11_rank (ln : Nat → Nat) (x1 : Int32) (s : dr_S) : Option (Int32 × dr_S) := dr_bnd (f_X11_isHeading ln x1 s) (fun r2 s1 => (if r2 = 0 then some ((-1), s1) else dr_bnd (f_X1_aheadOf ln x1 s1) (fun r4 s3 => some (r4, s3))))
section
variable {p : Program} {l : Launch} {e : Env} {s0 : State} {m : MethodId} {args : Array Value} {below : List Frame} {meth : Method} {c : Code} {A : Nat → Prop} {D : va_G} {cI cZ : ClassId} {ad ln : Nat → Nat} {L : List Nat}
set_option maxHeartbeats 4000000 in
set_option maxRecDepth 20000 in
theorem c_X11_rank (hap : dr_ap ad L) (hN : ∀ x ∈ nd_11, x ∈ L) (x1 : Int32) (s : dr_S) : dr_Mi l D cI cZ ad ln L yX11_rank cX11_rank 2 (some .int) 5 [.ref (ad 11), .int x1] s (f_X11_rank ln x1 s) := by
  refine dr_meti (own := RX11) (by decide) rfl (Nat.le_of_ble_eq_true rfl) hap ?_
  intro p e s0 m args below meth c A E
  unfold f_X11_rank
  refine g_eqL (lv' := [(0, .ref (ad 11)), (1, .int x1)]) rfl ?_
  refine g_iload_n E dX11_rank_0 1 rfl ?_
  refine g_cSi E [.int x1] rfl (c_X11_isHeading hap hN x1 s) ms_X11_isHeading mw_X11_isHeading rfl ml_11_125 ⟨Nat.le_of_ble_eq_true rfl, Nat.le_of_ble_eq_true rfl⟩ (Nat.le_of_ble_eq_true rfl) dX11_rank_1 (fun r2 s1 => ?_)
  refine g_if_eq E 18 dX11_rank_4 (by decide) ?_ ?_
  · refine g_iconst E (v := (-1)) dX11_rank_18 (by decide) ?_
    exact g_iret E dX11_rank_19
  · refine g_aload_n E dX11_rank_7 0 rfl ?_
    refine gg_11_73 E (hN 11 (by decide)) dX11_rank_8 ?_
    refine g_iload_n E dX11_rank_11 1 rfl ?_
    refine g_cVi E [.int x1] rfl (c_X1_aheadOf hap (fun x h => hN x (ns_1_11 x h)) x1 s1) (hN 1 (by decide)) (by decide) rfl rfl mi_X1_aheadOf msl_X1_aheadOf mw_X1_aheadOf rfl ml_11_176 ⟨Nat.le_of_ble_eq_true rfl, Nat.le_of_ble_eq_true rfl⟩ (Nat.le_of_ble_eq_true rfl) dX11_rank_12 (fun r4 s3 => ?_)
    refine g_goto E 19 dX11_rank_15 (by decide) ?_
    exact g_iret E dX11_rank_19
end

theorem dX11_there_0 : decode cX11_there 0 = .ok (.iload_n 1, 1) := by decide +kernel
theorem dX11_there_1 : decode cX11_there 1 = .ok (.invokestatic 125, 3) := by decide +kernel
theorem dX11_there_4 : decode cX11_there 4 = .ok (.ifCond .eq 25, 3) := by decide +kernel
theorem dX11_there_7 : decode cX11_there 7 = .ok (.iload_n 2, 1) := by decide +kernel
theorem dX11_there_8 : decode cX11_there 8 = .ok (.invokestatic 125, 3) := by decide +kernel
theorem dX11_there_11 : decode cX11_there 11 = .ok (.ifCond .eq 18, 3) := by decide +kernel
theorem dX11_there_14 : decode cX11_there 14 = .ok (.iload_n 3, 1) := by decide +kernel
theorem dX11_there_15 : decode cX11_there 15 = .ok (.ifCond .lt 14, 3) := by decide +kernel
theorem dX11_there_18 : decode cX11_there 18 = .ok (.iload_n 3, 1) := by decide +kernel
theorem dX11_there_19 : decode cX11_there 19 = .ok (.aload_n 0, 1) := by decide +kernel
theorem dX11_there_20 : decode cX11_there 20 = .ok (.getfield 55, 3) := by decide +kernel
theorem dX11_there_23 : decode cX11_there 23 = .ok (.invokevirtual 179, 3) := by decide +kernel
theorem dX11_there_26 : decode cX11_there 26 = .ok (.if_icmp .le 5, 3) := by decide +kernel
theorem dX11_there_29 : decode cX11_there 29 = .ok (.iconst (-1), 1) := by decide +kernel
theorem dX11_there_30 : decode cX11_there 30 = .ok (.ireturn, 1) := by decide +kernel
theorem dX11_there_31 : decode cX11_there 31 = .ok (.iconst 0, 1) := by decide +kernel
theorem dX11_there_32 : decode cX11_there 32 = .ok (.istore 4, 2) := by decide +kernel
theorem dX11_there_34 : decode cX11_there 34 = .ok (.iconst 0, 1) := by decide +kernel
theorem dX11_there_35 : decode cX11_there 35 = .ok (.istore 5, 2) := by decide +kernel
theorem dX11_there_37 : decode cX11_there 37 = .ok (.iload 5, 2) := by decide +kernel
theorem dX11_there_39 : decode cX11_there 39 = .ok (.aload_n 0, 1) := by decide +kernel
theorem dX11_there_40 : decode cX11_there 40 = .ok (.getfield 55, 3) := by decide +kernel
theorem dX11_there_43 : decode cX11_there 43 = .ok (.invokevirtual 118, 3) := by decide +kernel
theorem dX11_there_46 : decode cX11_there 46 = .ok (.if_icmp .ge 89, 3) := by decide +kernel
theorem dX11_there_49 : decode cX11_there 49 = .ok (.aload_n 0, 1) := by decide +kernel
theorem dX11_there_50 : decode cX11_there 50 = .ok (.getfield 55, 3) := by decide +kernel
theorem dX11_there_53 : decode cX11_there 53 = .ok (.iload 5, 2) := by decide +kernel
theorem dX11_there_55 : decode cX11_there 55 = .ok (.iconst 1, 1) := by decide +kernel
theorem dX11_there_56 : decode cX11_there 56 = .ok (.invokevirtual 165, 3) := by decide +kernel
theorem dX11_there_59 : decode cX11_there 59 = .ok (.istore 6, 2) := by decide +kernel
theorem dX11_there_61 : decode cX11_there 61 = .ok (.aload_n 0, 1) := by decide +kernel
theorem dX11_there_62 : decode cX11_there 62 = .ok (.getfield 34, 3) := by decide +kernel
theorem dX11_there_65 : decode cX11_there 65 = .ok (.iload 6, 2) := by decide +kernel
theorem dX11_there_67 : decode cX11_there 67 = .ok (.iload_n 1, 1) := by decide +kernel
theorem dX11_there_68 : decode cX11_there 68 = .ok (.invokevirtual 129, 3) := by decide +kernel
theorem dX11_there_71 : decode cX11_there 71 = .ok (.ifCond .ne 20, 3) := by decide +kernel
theorem dX11_there_74 : decode cX11_there 74 = .ok (.aload_n 0, 1) := by decide +kernel
theorem dX11_there_75 : decode cX11_there 75 = .ok (.getfield 34, 3) := by decide +kernel
theorem dX11_there_78 : decode cX11_there 78 = .ok (.iload_n 2, 1) := by decide +kernel
theorem dX11_there_79 : decode cX11_there 79 = .ok (.iload 6, 2) := by decide +kernel
theorem dX11_there_81 : decode cX11_there 81 = .ok (.invokevirtual 129, 3) := by decide +kernel
theorem dX11_there_84 : decode cX11_there 84 = .ok (.ifCond .ne 7, 3) := by decide +kernel
theorem dX11_there_87 : decode cX11_there 87 = .ok (.iconst 1, 1) := by decide +kernel
theorem dX11_there_88 : decode cX11_there 88 = .ok (.goto 4, 3) := by decide +kernel
theorem dX11_there_91 : decode cX11_there 91 = .ok (.iconst 0, 1) := by decide +kernel
theorem dX11_there_92 : decode cX11_there 92 = .ok (.istore 7, 2) := by decide +kernel
theorem dX11_there_94 : decode cX11_there 94 = .ok (.iload 7, 2) := by decide +kernel
theorem dX11_there_96 : decode cX11_there 96 = .ok (.ifCond .eq 33, 3) := by decide +kernel
theorem dX11_there_99 : decode cX11_there 99 = .ok (.aload_n 0, 1) := by decide +kernel
theorem dX11_there_100 : decode cX11_there 100 = .ok (.getfield 55, 3) := by decide +kernel
theorem dX11_there_103 : decode cX11_there 103 = .ok (.iload 5, 2) := by decide +kernel
theorem dX11_there_105 : decode cX11_there 105 = .ok (.iconst 0, 1) := by decide +kernel
theorem dX11_there_106 : decode cX11_there 106 = .ok (.invokevirtual 165, 3) := by decide +kernel
theorem dX11_there_109 : decode cX11_there 109 = .ok (.iconst 1, 1) := by decide +kernel
theorem dX11_there_110 : decode cX11_there 110 = .ok (.if_icmp .ne 19, 3) := by decide +kernel
theorem dX11_there_113 : decode cX11_there 113 = .ok (.aload_n 0, 1) := by decide +kernel
theorem dX11_there_114 : decode cX11_there 114 = .ok (.getfield 55, 3) := by decide +kernel
theorem dX11_there_117 : decode cX11_there 117 = .ok (.iload 5, 2) := by decide +kernel
theorem dX11_there_119 : decode cX11_there 119 = .ok (.iload_n 3, 1) := by decide +kernel
theorem dX11_there_120 : decode cX11_there 120 = .ok (.invokevirtual 182, 3) := by decide +kernel
theorem dX11_there_123 : decode cX11_there 123 = .ok (.ifCond .eq 6, 3) := by decide +kernel
theorem dX11_there_126 : decode cX11_there 126 = .ok (.iinc 4 1, 3) := by decide +kernel
theorem dX11_there_129 : decode cX11_there 129 = .ok (.iinc 5 1, 3) := by decide +kernel
theorem dX11_there_132 : decode cX11_there 132 = .ok (.goto (-95), 3) := by decide +kernel
theorem dX11_there_135 : decode cX11_there 135 = .ok (.iload 4, 2) := by decide +kernel
theorem dX11_there_137 : decode cX11_there 137 = .ok (.ireturn, 1) := by decide +kernel
def f_X11_there_p129 (ln : Nat → Nat) (kb37 : Int32 → Int32 → Int32 → Int32 → Int32 → dr_S → Option (Int32 × dr_S)) (x1 : Int32) (x2 : Int32) (x3 : Int32) (x4 : Int32) (x5 : Int32) (s : dr_S) : Option (Int32 × dr_S) := dr_let (x5 + 1) (fun y20 => (kb37 x1 x2 x3 x4 y20 s))
def f_X11_there_p92 (ln : Nat → Nat) (kb37 : Int32 → Int32 → Int32 → Int32 → Int32 → dr_S → Option (Int32 × dr_S)) (x1 : Int32) (x2 : Int32) (x3 : Int32) (x4 : Int32) (x5 : Int32) (z0 : Int32) (s : dr_S) : Option (Int32 × dr_S) := (if z0 = 0 then (f_X11_there_p129 ln kb37 x1 x2 x3 x4 x5 s) else dr_bnd (f_X6_get ln x5 0 s) (fun r16 s15 => (if r16 = 1 then dr_bnd (f_X6_isLastChange ln x5 x3 s15) (fun r18 s17 => (if r18 = 0 then (f_X11_there_p129 ln kb37 x1 x2 x3 x4 x5 s17) else dr_let (x4 + 1) (fun y19 => (f_X11_there_p129 ln kb37 x1 x2 x3 y19 x5 s17)))) else (f_X11_there_p129 ln kb37 x1 x2 x3 x4 x5 s15))))
def f_X11_there_p91 (ln : Nat → Nat) (kb37 : Int32 → Int32 → Int32 → Int32 → Int32 → dr_S → Option (Int32 × dr_S)) (x1 : Int32) (x2 : Int32) (x3 : Int32) (x4 : Int32) (x5 : Int32) (s : dr_S) : Option (Int32 × dr_S) := (f_X11_there_p92 ln kb37 x1 x2 x3 x4 x5 0 s)
def f_X11_there_p37 (ln : Nat → Nat) : Nat → Int32 → Int32 → Int32 → Int32 → Int32 → dr_S → Option (Int32 × dr_S)
  | 0, _, _, _, _, _, _ => none
  | n + 1, x1, x2, x3, x4, x5, s => dr_bnd (f_X6_begun ln  s) (fun r8 s7 => (if r8 ≤ x5 then some (x4, s7) else dr_bnd (f_X6_get ln x5 1 s7) (fun r10 s9 => dr_bnd (f_X5_isAhead ln r10 x1 s9) (fun r12 s11 => (if r12 = 0 then dr_bnd (f_X5_isAhead ln x2 r10 s11) (fun r14 s13 => (if r14 = 0 then (f_X11_there_p92 ln (f_X11_there_p37 ln n) x1 x2 x3 x4 x5 1 s13) else (f_X11_there_p91 ln (f_X11_there_p37 ln n) x1 x2 x3 x4 x5 s13))) else (f_X11_there_p91 ln (f_X11_there_p37 ln n) x1 x2 x3 x4 x5 s11))))))
def f_X11_there (ln : Nat → Nat) (x1 : Int32) (x2 : Int32) (x3 : Int32) (s : dr_S) : Option (Int32 × dr_S) := dr_bnd (f_X11_isHeading ln x1 s) (fun r2 s1 => (if r2 = 0 then some ((-1), s1) else dr_bnd (f_X11_isHeading ln x2 s1) (fun r4 s3 => (if r4 = 0 then some ((-1), s3) else (if x3 < 0 then some ((-1), s3) else dr_bnd (f_X6_time ln  s3) (fun r6 s5 => (if x3 ≤ r6 then (f_X11_there_p37 ln dr_N x1 x2 x3 0 0 s5) else some ((-1), s5))))))))
section
variable {p : Program} {l : Launch} {e : Env} {s0 : State} {m : MethodId} {args : Array Value} {below : List Frame} {meth : Method} {c : Code} {A : Nat → Prop} {D : va_G} {cI cZ : ClassId} {ad ln : Nat → Nat} {L : List Nat}
set_option maxHeartbeats 4000000 in
set_option maxRecDepth 20000 in
theorem w_X11_there_p129 {kb37 : Int32 → Int32 → Int32 → Int32 → Int32 → dr_S → Option (Int32 × dr_S)} (E : dr_E p (dr_rm 3) s0 m args meth c 0 0 A s0.heap D cI cZ ad L cX11_there 8 RX11 (some .int)) (hap : dr_ap ad L) (hN : ∀ x ∈ nd_11, x ∈ L) (hkb37 : ∀ (x1 : Int32) (x2 : Int32) (x3 : Int32) (x4 : Int32) (x5 : Int32) (s : dr_S), dr_G p l e (dr_rm 3) s0 m args below meth c 0 0 A s0.heap D cI cZ ad ln L 8 (dr_Zi D cI cZ ad ln L A below args s0 0 0) 37 [(0, .ref (ad 11)), (1, .int x1), (2, .int x2), (3, .int x3), (4, .int x4), (5, .int x5)] [] s (kb37 x1 x2 x3 x4 x5 s)) : ∀ (x1 : Int32) (x2 : Int32) (x3 : Int32) (x4 : Int32) (x5 : Int32) (s : dr_S), dr_G p l e (dr_rm 3) s0 m args below meth c 0 0 A s0.heap D cI cZ ad ln L 8 (dr_Zi D cI cZ ad ln L A below args s0 0 0) 129 [(0, .ref (ad 11)), (1, .int x1), (2, .int x2), (3, .int x3), (4, .int x4), (5, .int x5)] [] s (f_X11_there_p129 ln kb37 x1 x2 x3 x4 x5 s) := by
  intro x1 x2 x3 x4 x5 s
  unfold f_X11_there_p129
  refine g_iinc E (lv' := []) (lv'' := fun y20 => [(5, .int y20), (0, .ref (ad 11)), (1, .int x1), (2, .int x2), (3, .int x3), (4, .int x4)]) (v := 1) dX11_there_129 5 rfl (by decide) (by decide) (fun _ => rfl) (fun y20 => ?_)
  refine g_goto E 37 dX11_there_132 (by decide) ?_
  refine g_sub [1, 2, 3, 4, 5, 0] rfl ?_
  exact hkb37 x1 x2 x3 x4 y20 s
set_option maxHeartbeats 4000000 in
set_option maxRecDepth 20000 in
theorem w_X11_there_p92 {kb37 : Int32 → Int32 → Int32 → Int32 → Int32 → dr_S → Option (Int32 × dr_S)} (E : dr_E p (dr_rm 3) s0 m args meth c 0 0 A s0.heap D cI cZ ad L cX11_there 8 RX11 (some .int)) (hap : dr_ap ad L) (hN : ∀ x ∈ nd_11, x ∈ L) (hkb37 : ∀ (x1 : Int32) (x2 : Int32) (x3 : Int32) (x4 : Int32) (x5 : Int32) (s : dr_S), dr_G p l e (dr_rm 3) s0 m args below meth c 0 0 A s0.heap D cI cZ ad ln L 8 (dr_Zi D cI cZ ad ln L A below args s0 0 0) 37 [(0, .ref (ad 11)), (1, .int x1), (2, .int x2), (3, .int x3), (4, .int x4), (5, .int x5)] [] s (kb37 x1 x2 x3 x4 x5 s)) : ∀ (x1 : Int32) (x2 : Int32) (x3 : Int32) (x4 : Int32) (x5 : Int32) (z0 : Int32) (s : dr_S), dr_G p l e (dr_rm 3) s0 m args below meth c 0 0 A s0.heap D cI cZ ad ln L 8 (dr_Zi D cI cZ ad ln L A below args s0 0 0) 92 [(0, .ref (ad 11)), (1, .int x1), (2, .int x2), (3, .int x3), (4, .int x4), (5, .int x5)] [.int z0] s (f_X11_there_p92 ln kb37 x1 x2 x3 x4 x5 z0 s) := by
  intro x1 x2 x3 x4 x5 z0 s
  unfold f_X11_there_p92
  refine g_istore E (lv' := [(7, .int z0), (0, .ref (ad 11)), (1, .int x1), (2, .int x2), (3, .int x3), (4, .int x4), (5, .int x5)]) dX11_there_92 (by decide) rfl ?_
  refine g_iload E dX11_there_94 0 rfl ?_
  refine g_if_eq E 129 dX11_there_96 (by decide) ?_ ?_
  · refine g_sub [1, 2, 3, 4, 5, 6] rfl ?_
    exact w_X11_there_p129 E hap hN hkb37 x1 x2 x3 x4 x5 s
  · refine g_aload_n E dX11_there_99 1 rfl ?_
    refine gg_11_55 E (hN 11 (by decide)) dX11_there_100 ?_
    refine g_iload E dX11_there_103 6 rfl ?_
    refine g_iconst E (v := 0) dX11_there_105 (by decide) ?_
    refine g_cVi E [.int x5, .int 0] rfl (c_X6_get hap (fun x h => hN x (ns_6_11 x h)) x5 0 s) (hN 6 (by decide)) (by decide) rfl rfl mi_X6_get msl_X6_get mw_X6_get rfl ml_11_165 ⟨Nat.le_of_ble_eq_true rfl, Nat.le_of_ble_eq_true rfl⟩ (Nat.le_of_ble_eq_true rfl) dX11_there_106 (fun r16 s15 => ?_)
    refine g_iconst E (v := 1) dX11_there_109 (by decide) ?_
    refine g_icmp_ne E 129 dX11_there_110 (by decide) ?_ ?_
    · refine g_sub [1, 2, 3, 4, 5, 6] rfl ?_
      exact w_X11_there_p129 E hap hN hkb37 x1 x2 x3 x4 x5 s15
    · refine g_aload_n E dX11_there_113 1 rfl ?_
      refine gg_11_55 E (hN 11 (by decide)) dX11_there_114 ?_
      refine g_iload E dX11_there_117 6 rfl ?_
      refine g_iload_n E dX11_there_119 4 rfl ?_
      refine g_cVi E [.int x5, .int x3] rfl (c_X6_isLastChange hap (fun x h => hN x (ns_6_11 x h)) x5 x3 s15) (hN 6 (by decide)) (by decide) rfl rfl mi_X6_isLastChange msl_X6_isLastChange mw_X6_isLastChange rfl ml_11_182 ⟨Nat.le_of_ble_eq_true rfl, Nat.le_of_ble_eq_true rfl⟩ (Nat.le_of_ble_eq_true rfl) dX11_there_120 (fun r18 s17 => ?_)
      refine g_if_eq E 129 dX11_there_123 (by decide) ?_ ?_
      · refine g_sub [1, 2, 3, 4, 5, 6] rfl ?_
        exact w_X11_there_p129 E hap hN hkb37 x1 x2 x3 x4 x5 s17
      · refine g_iinc E (lv' := []) (lv'' := fun y19 => [(4, .int y19), (7, .int z0), (0, .ref (ad 11)), (1, .int x1), (2, .int x2), (3, .int x3), (5, .int x5)]) (v := 1) dX11_there_126 5 rfl (by decide) (by decide) (fun _ => rfl) (fun y19 => ?_)
        refine g_sub [2, 3, 4, 5, 0, 6] rfl ?_
        exact w_X11_there_p129 E hap hN hkb37 x1 x2 x3 y19 x5 s17
set_option maxHeartbeats 4000000 in
set_option maxRecDepth 20000 in
theorem w_X11_there_p91 {kb37 : Int32 → Int32 → Int32 → Int32 → Int32 → dr_S → Option (Int32 × dr_S)} (E : dr_E p (dr_rm 3) s0 m args meth c 0 0 A s0.heap D cI cZ ad L cX11_there 8 RX11 (some .int)) (hap : dr_ap ad L) (hN : ∀ x ∈ nd_11, x ∈ L) (hkb37 : ∀ (x1 : Int32) (x2 : Int32) (x3 : Int32) (x4 : Int32) (x5 : Int32) (s : dr_S), dr_G p l e (dr_rm 3) s0 m args below meth c 0 0 A s0.heap D cI cZ ad ln L 8 (dr_Zi D cI cZ ad ln L A below args s0 0 0) 37 [(0, .ref (ad 11)), (1, .int x1), (2, .int x2), (3, .int x3), (4, .int x4), (5, .int x5)] [] s (kb37 x1 x2 x3 x4 x5 s)) : ∀ (x1 : Int32) (x2 : Int32) (x3 : Int32) (x4 : Int32) (x5 : Int32) (s : dr_S), dr_G p l e (dr_rm 3) s0 m args below meth c 0 0 A s0.heap D cI cZ ad ln L 8 (dr_Zi D cI cZ ad ln L A below args s0 0 0) 91 [(0, .ref (ad 11)), (1, .int x1), (2, .int x2), (3, .int x3), (4, .int x4), (5, .int x5)] [] s (f_X11_there_p91 ln kb37 x1 x2 x3 x4 x5 s) := by
  intro x1 x2 x3 x4 x5 s
  unfold f_X11_there_p91
  refine g_iconst E (v := 0) dX11_there_91 (by decide) ?_
  refine g_sub [0, 1, 2, 3, 4, 5] rfl ?_
  exact w_X11_there_p92 E hap hN hkb37 x1 x2 x3 x4 x5 0 s
set_option maxHeartbeats 4000000 in
set_option maxRecDepth 20000 in
theorem w_X11_there_p37 (E : dr_E p (dr_rm 3) s0 m args meth c 0 0 A s0.heap D cI cZ ad L cX11_there 8 RX11 (some .int)) (hap : dr_ap ad L) (hN : ∀ x ∈ nd_11, x ∈ L) : ∀ (n : Nat) (x1 : Int32) (x2 : Int32) (x3 : Int32) (x4 : Int32) (x5 : Int32) (s : dr_S), dr_G p l e (dr_rm 3) s0 m args below meth c 0 0 A s0.heap D cI cZ ad ln L 8 (dr_Zi D cI cZ ad ln L A below args s0 0 0) 37 [(0, .ref (ad 11)), (1, .int x1), (2, .int x2), (3, .int x3), (4, .int x4), (5, .int x5)] [] s (f_X11_there_p37 ln n x1 x2 x3 x4 x5 s) := by
  intro n
  induction n with
  | zero =>
    intro x1 x2 x3 x4 x5 s
    rw [f_X11_there_p37]
    exact g_none
  | succ n hkb37 =>
    intro x1 x2 x3 x4 x5 s
    rw [f_X11_there_p37]
    refine g_iload E dX11_there_37 5 rfl ?_
    refine g_aload_n E dX11_there_39 0 rfl ?_
    refine gg_11_55 E (hN 11 (by decide)) dX11_there_40 ?_
    refine g_cVi E [] rfl (c_X6_begun hap (fun x h => hN x (ns_6_11 x h))  s) (hN 6 (by decide)) (by decide) rfl rfl mi_X6_begun msl_X6_begun mw_X6_begun rfl ml_11_118 ⟨Nat.le_of_ble_eq_true rfl, Nat.le_of_ble_eq_true rfl⟩ (Nat.le_of_ble_eq_true rfl) dX11_there_43 (fun r8 s7 => ?_)
    refine g_icmp_ge E 135 dX11_there_46 (by decide) ?_ ?_
    · refine g_iload E dX11_there_135 4 rfl ?_
      exact g_iret E dX11_there_137
    · refine g_aload_n E dX11_there_49 0 rfl ?_
      refine gg_11_55 E (hN 11 (by decide)) dX11_there_50 ?_
      refine g_iload E dX11_there_53 5 rfl ?_
      refine g_iconst E (v := 1) dX11_there_55 (by decide) ?_
      refine g_cVi E [.int x5, .int 1] rfl (c_X6_get hap (fun x h => hN x (ns_6_11 x h)) x5 1 s7) (hN 6 (by decide)) (by decide) rfl rfl mi_X6_get msl_X6_get mw_X6_get rfl ml_11_165 ⟨Nat.le_of_ble_eq_true rfl, Nat.le_of_ble_eq_true rfl⟩ (Nat.le_of_ble_eq_true rfl) dX11_there_56 (fun r10 s9 => ?_)
      refine g_istore E (lv' := [(6, .int r10), (0, .ref (ad 11)), (1, .int x1), (2, .int x2), (3, .int x3), (4, .int x4), (5, .int x5)]) dX11_there_59 (by decide) rfl ?_
      refine g_aload_n E dX11_there_61 1 rfl ?_
      refine gg_11_34 E (hN 11 (by decide)) dX11_there_62 ?_
      refine g_iload E dX11_there_65 0 rfl ?_
      refine g_iload_n E dX11_there_67 2 rfl ?_
      refine g_cVi E [.int r10, .int x1] rfl (c_X5_isAhead hap (fun x h => hN x (ns_5_11 x h)) r10 x1 s9) (hN 5 (by decide)) (by decide) rfl rfl mi_X5_isAhead msl_X5_isAhead mw_X5_isAhead rfl ml_11_129 ⟨Nat.le_of_ble_eq_true rfl, Nat.le_of_ble_eq_true rfl⟩ (Nat.le_of_ble_eq_true rfl) dX11_there_68 (fun r12 s11 => ?_)
      refine g_if_ne E 91 dX11_there_71 (by decide) ?_ ?_
      · refine g_sub [1, 2, 3, 4, 5, 6] rfl ?_
        exact w_X11_there_p91 E hap hN hkb37 x1 x2 x3 x4 x5 s11
      · refine g_aload_n E dX11_there_74 1 rfl ?_
        refine gg_11_34 E (hN 11 (by decide)) dX11_there_75 ?_
        refine g_iload_n E dX11_there_78 3 rfl ?_
        refine g_iload E dX11_there_79 0 rfl ?_
        refine g_cVi E [.int x2, .int r10] rfl (c_X5_isAhead hap (fun x h => hN x (ns_5_11 x h)) x2 r10 s11) (hN 5 (by decide)) (by decide) rfl rfl mi_X5_isAhead msl_X5_isAhead mw_X5_isAhead rfl ml_11_129 ⟨Nat.le_of_ble_eq_true rfl, Nat.le_of_ble_eq_true rfl⟩ (Nat.le_of_ble_eq_true rfl) dX11_there_81 (fun r14 s13 => ?_)
        refine g_if_ne E 91 dX11_there_84 (by decide) ?_ ?_
        · refine g_sub [1, 2, 3, 4, 5, 6] rfl ?_
          exact w_X11_there_p91 E hap hN hkb37 x1 x2 x3 x4 x5 s13
        · refine g_iconst E (v := 1) dX11_there_87 (by decide) ?_
          refine g_goto E 92 dX11_there_88 (by decide) ?_
          refine g_sub [1, 2, 3, 4, 5, 6] rfl ?_
          exact w_X11_there_p92 E hap hN hkb37 x1 x2 x3 x4 x5 1 s13
set_option maxHeartbeats 4000000 in
set_option maxRecDepth 20000 in
theorem c_X11_there (hap : dr_ap ad L) (hN : ∀ x ∈ nd_11, x ∈ L) (x1 : Int32) (x2 : Int32) (x3 : Int32) (s : dr_S) : dr_Mi l D cI cZ ad ln L yX11_there cX11_there 8 (some .int) 3 [.ref (ad 11), .int x1, .int x2, .int x3] s (f_X11_there ln x1 x2 x3 s) := by
  refine dr_meti (own := RX11) (by decide) rfl (Nat.le_of_ble_eq_true rfl) hap ?_
  intro p e s0 m args below meth c A E
  unfold f_X11_there
  refine g_eqL (lv' := [(0, .ref (ad 11)), (1, .int x1), (2, .int x2), (3, .int x3)]) rfl ?_
  refine g_iload_n E dX11_there_0 1 rfl ?_
  refine g_cSi E [.int x1] rfl (c_X11_isHeading hap hN x1 s) ms_X11_isHeading mw_X11_isHeading rfl ml_11_125 ⟨Nat.le_of_ble_eq_true rfl, Nat.le_of_ble_eq_true rfl⟩ (Nat.le_of_ble_eq_true rfl) dX11_there_1 (fun r2 s1 => ?_)
  refine g_if_eq E 29 dX11_there_4 (by decide) ?_ ?_
  · refine g_iconst E (v := (-1)) dX11_there_29 (by decide) ?_
    exact g_iret E dX11_there_30
  · refine g_iload_n E dX11_there_7 2 rfl ?_
    refine g_cSi E [.int x2] rfl (c_X11_isHeading hap hN x2 s1) ms_X11_isHeading mw_X11_isHeading rfl ml_11_125 ⟨Nat.le_of_ble_eq_true rfl, Nat.le_of_ble_eq_true rfl⟩ (Nat.le_of_ble_eq_true rfl) dX11_there_8 (fun r4 s3 => ?_)
    refine g_if_eq E 29 dX11_there_11 (by decide) ?_ ?_
    · refine g_iconst E (v := (-1)) dX11_there_29 (by decide) ?_
      exact g_iret E dX11_there_30
    · refine g_iload_n E dX11_there_14 3 rfl ?_
      refine g_if_lt E 29 dX11_there_15 (by decide) ?_ ?_
      · refine g_iconst E (v := (-1)) dX11_there_29 (by decide) ?_
        exact g_iret E dX11_there_30
      · refine g_iload_n E dX11_there_18 3 rfl ?_
        refine g_aload_n E dX11_there_19 0 rfl ?_
        refine gg_11_55 E (hN 11 (by decide)) dX11_there_20 ?_
        refine g_cVi E [] rfl (c_X6_time hap (fun x h => hN x (ns_6_11 x h))  s3) (hN 6 (by decide)) (by decide) rfl rfl mi_X6_time msl_X6_time mw_X6_time rfl ml_11_179 ⟨Nat.le_of_ble_eq_true rfl, Nat.le_of_ble_eq_true rfl⟩ (Nat.le_of_ble_eq_true rfl) dX11_there_23 (fun r6 s5 => ?_)
        refine g_icmp_le E 31 dX11_there_26 (by decide) ?_ ?_
        · refine g_iconst E (v := 0) dX11_there_31 (by decide) ?_
          refine g_istore E (lv' := [(4, .int 0), (0, .ref (ad 11)), (1, .int x1), (2, .int x2), (3, .int x3)]) dX11_there_32 (by decide) rfl ?_
          refine g_iconst E (v := 0) dX11_there_34 (by decide) ?_
          refine g_istore E (lv' := [(5, .int 0), (4, .int 0), (0, .ref (ad 11)), (1, .int x1), (2, .int x2), (3, .int x3)]) dX11_there_35 (by decide) rfl ?_
          refine g_sub [2, 3, 4, 5, 1, 0] rfl ?_
          exact w_X11_there_p37 E hap hN dr_N x1 x2 x3 0 0 s5
        · refine g_iconst E (v := (-1)) dX11_there_29 (by decide) ?_
          exact g_iret E dX11_there_30
end

theorem dX11_line_0 : decode cX11_line 0 = .ok (.iload_n 1, 1) := by decide +kernel
theorem dX11_line_1 : decode cX11_line 1 = .ok (.invokestatic 125, 3) := by decide +kernel
theorem dX11_line_4 : decode cX11_line 4 = .ok (.ifCond .eq 14, 3) := by decide +kernel
theorem dX11_line_7 : decode cX11_line 7 = .ok (.aload_n 0, 1) := by decide +kernel
theorem dX11_line_8 : decode cX11_line 8 = .ok (.getfield 82, 3) := by decide +kernel
theorem dX11_line_11 : decode cX11_line 11 = .ok (.iload_n 1, 1) := by decide +kernel
theorem dX11_line_12 : decode cX11_line 12 = .ok (.invokevirtual 185, 3) := by decide +kernel
theorem dX11_line_15 : decode cX11_line 15 = .ok (.goto 4, 3) := by decide +kernel
theorem dX11_line_18 : decode cX11_line 18 = .ok (.iconst (-1), 1) := by decide +kernel
theorem dX11_line_19 : decode cX11_line 19 = .ok (.ireturn, 1) := by decide +kernel
def f_X11_line (ln : Nat → Nat) (x1 : Int32) (s : dr_S) : Option (Int32 × dr_S) := dr_bnd (f_X11_isHeading ln x1 s) (fun r2 s1 => (if r2 = 0 then some ((-1), s1) else dr_bnd (f_X7_judge ln x1 s1) (fun r4 s3 => some (r4, s3))))
section
variable {p : Program} {l : Launch} {e : Env} {s0 : State} {m : MethodId} {args : Array Value} {below : List Frame} {meth : Method} {c : Code} {A : Nat → Prop} {D : va_G} {cI cZ : ClassId} {ad ln : Nat → Nat} {L : List Nat}
set_option maxHeartbeats 4000000 in
set_option maxRecDepth 20000 in
theorem c_X11_line (hap : dr_ap ad L) (hN : ∀ x ∈ nd_11, x ∈ L) (x1 : Int32) (s : dr_S) : dr_Mi l D cI cZ ad ln L yX11_line cX11_line 2 (some .int) 16 [.ref (ad 11), .int x1] s (f_X11_line ln x1 s) := by
  refine dr_meti (own := RX11) (by decide) rfl (Nat.le_of_ble_eq_true rfl) hap ?_
  intro p e s0 m args below meth c A E
  unfold f_X11_line
  refine g_eqL (lv' := [(0, .ref (ad 11)), (1, .int x1)]) rfl ?_
  refine g_iload_n E dX11_line_0 1 rfl ?_
  refine g_cSi E [.int x1] rfl (c_X11_isHeading hap hN x1 s) ms_X11_isHeading mw_X11_isHeading rfl ml_11_125 ⟨Nat.le_of_ble_eq_true rfl, Nat.le_of_ble_eq_true rfl⟩ (Nat.le_of_ble_eq_true rfl) dX11_line_1 (fun r2 s1 => ?_)
  refine g_if_eq E 18 dX11_line_4 (by decide) ?_ ?_
  · refine g_iconst E (v := (-1)) dX11_line_18 (by decide) ?_
    exact g_iret E dX11_line_19
  · refine g_aload_n E dX11_line_7 0 rfl ?_
    refine gg_11_82 E (hN 11 (by decide)) dX11_line_8 ?_
    refine g_iload_n E dX11_line_11 1 rfl ?_
    refine g_cVi E [.int x1] rfl (c_X7_judge hap (fun x h => hN x (ns_7_11 x h)) x1 s1) (hN 7 (by decide)) (by decide) rfl rfl mi_X7_judge msl_X7_judge mw_X7_judge rfl ml_11_185 ⟨Nat.le_of_ble_eq_true rfl, Nat.le_of_ble_eq_true rfl⟩ (Nat.le_of_ble_eq_true rfl) dX11_line_12 (fun r4 s3 => ?_)
    refine g_goto E 19 dX11_line_15 (by decide) ?_
    exact g_iret E dX11_line_19
end

theorem dX11_order_0 : decode cX11_order 0 = .ok (.iload_n 1, 1) := by decide +kernel
theorem dX11_order_1 : decode cX11_order 1 = .ok (.invokestatic 125, 3) := by decide +kernel
theorem dX11_order_4 : decode cX11_order 4 = .ok (.ifCond .eq 15, 3) := by decide +kernel
theorem dX11_order_7 : decode cX11_order 7 = .ok (.aload_n 0, 1) := by decide +kernel
theorem dX11_order_8 : decode cX11_order 8 = .ok (.getfield 82, 3) := by decide +kernel
theorem dX11_order_11 : decode cX11_order 11 = .ok (.iload_n 1, 1) := by decide +kernel
theorem dX11_order_12 : decode cX11_order 12 = .ok (.invokevirtual 185, 3) := by decide +kernel
theorem dX11_order_15 : decode cX11_order 15 = .ok (.iconst 1, 1) := by decide +kernel
theorem dX11_order_16 : decode cX11_order 16 = .ok (.if_icmp .eq 5, 3) := by decide +kernel
theorem dX11_order_19 : decode cX11_order 19 = .ok (.iconst (-1), 1) := by decide +kernel
theorem dX11_order_20 : decode cX11_order 20 = .ok (.ireturn, 1) := by decide +kernel
theorem dX11_order_21 : decode cX11_order 21 = .ok (.aload_n 0, 1) := by decide +kernel
theorem dX11_order_22 : decode cX11_order 22 = .ok (.getfield 82, 3) := by decide +kernel
theorem dX11_order_25 : decode cX11_order 25 = .ok (.iload_n 2, 1) := by decide +kernel
theorem dX11_order_26 : decode cX11_order 26 = .ok (.invokevirtual 188, 3) := by decide +kernel
theorem dX11_order_29 : decode cX11_order 29 = .ok (.ireturn, 1) := by decide +kernel
def f_X11_order (ln : Nat → Nat) (x1 : Int32) (x2 : Int32) (s : dr_S) : Option (Int32 × dr_S) := dr_bnd (f_X11_isHeading ln x1 s) (fun r2 s1 => (if r2 = 0 then some ((-1), s1) else dr_bnd (f_X7_judge ln x1 s1) (fun r4 s3 => (if r4 = 1 then dr_bnd (f_X7_kthOfRow ln x2 s3) (fun r6 s5 => some (r6, s5)) else some ((-1), s3)))))
section
variable {p : Program} {l : Launch} {e : Env} {s0 : State} {m : MethodId} {args : Array Value} {below : List Frame} {meth : Method} {c : Code} {A : Nat → Prop} {D : va_G} {cI cZ : ClassId} {ad ln : Nat → Nat} {L : List Nat}
set_option maxHeartbeats 4000000 in
set_option maxRecDepth 20000 in
theorem c_X11_order (hap : dr_ap ad L) (hN : ∀ x ∈ nd_11, x ∈ L) (x1 : Int32) (x2 : Int32) (s : dr_S) : dr_Mi l D cI cZ ad ln L yX11_order cX11_order 3 (some .int) 16 [.ref (ad 11), .int x1, .int x2] s (f_X11_order ln x1 x2 s) := by
  refine dr_meti (own := RX11) (by decide) rfl (Nat.le_of_ble_eq_true rfl) hap ?_
  intro p e s0 m args below meth c A E
  unfold f_X11_order
  refine g_eqL (lv' := [(0, .ref (ad 11)), (1, .int x1), (2, .int x2)]) rfl ?_
  refine g_iload_n E dX11_order_0 1 rfl ?_
  refine g_cSi E [.int x1] rfl (c_X11_isHeading hap hN x1 s) ms_X11_isHeading mw_X11_isHeading rfl ml_11_125 ⟨Nat.le_of_ble_eq_true rfl, Nat.le_of_ble_eq_true rfl⟩ (Nat.le_of_ble_eq_true rfl) dX11_order_1 (fun r2 s1 => ?_)
  refine g_if_eq E 19 dX11_order_4 (by decide) ?_ ?_
  · refine g_iconst E (v := (-1)) dX11_order_19 (by decide) ?_
    exact g_iret E dX11_order_20
  · refine g_aload_n E dX11_order_7 0 rfl ?_
    refine gg_11_82 E (hN 11 (by decide)) dX11_order_8 ?_
    refine g_iload_n E dX11_order_11 1 rfl ?_
    refine g_cVi E [.int x1] rfl (c_X7_judge hap (fun x h => hN x (ns_7_11 x h)) x1 s1) (hN 7 (by decide)) (by decide) rfl rfl mi_X7_judge msl_X7_judge mw_X7_judge rfl ml_11_185 ⟨Nat.le_of_ble_eq_true rfl, Nat.le_of_ble_eq_true rfl⟩ (Nat.le_of_ble_eq_true rfl) dX11_order_12 (fun r4 s3 => ?_)
    refine g_iconst E (v := 1) dX11_order_15 (by decide) ?_
    refine g_icmp_eq E 21 dX11_order_16 (by decide) ?_ ?_
    · refine g_aload_n E dX11_order_21 0 rfl ?_
      refine gg_11_82 E (hN 11 (by decide)) dX11_order_22 ?_
      refine g_iload_n E dX11_order_25 2 rfl ?_
      refine g_cVi E [.int x2] rfl (c_X7_kthOfRow hap (fun x h => hN x (ns_7_11 x h)) x2 s3) (hN 7 (by decide)) (by decide) rfl rfl mi_X7_kthOfRow msl_X7_kthOfRow mw_X7_kthOfRow rfl ml_11_188 ⟨Nat.le_of_ble_eq_true rfl, Nat.le_of_ble_eq_true rfl⟩ (Nat.le_of_ble_eq_true rfl) dX11_order_26 (fun r6 s5 => ?_)
      exact g_iret E dX11_order_29
    · refine g_iconst E (v := (-1)) dX11_order_19 (by decide) ?_
      exact g_iret E dX11_order_20
end

theorem dX11_shape_0 : decode cX11_shape 0 = .ok (.aload_n 0, 1) := by decide +kernel
theorem dX11_shape_1 : decode cX11_shape 1 = .ok (.getfield 89, 3) := by decide +kernel
theorem dX11_shape_4 : decode cX11_shape 4 = .ok (.invokevirtual 191, 3) := by decide +kernel
theorem dX11_shape_7 : decode cX11_shape 7 = .ok (.ireturn, 1) := by decide +kernel
def f_X11_shape (ln : Nat → Nat) (s : dr_S) : Option (Int32 × dr_S) := dr_bnd (f_X9_leastBad ln  s) (fun r2 s1 => some (r2, s1))
section
variable {p : Program} {l : Launch} {e : Env} {s0 : State} {m : MethodId} {args : Array Value} {below : List Frame} {meth : Method} {c : Code} {A : Nat → Prop} {D : va_G} {cI cZ : ClassId} {ad ln : Nat → Nat} {L : List Nat}
set_option maxHeartbeats 4000000 in
set_option maxRecDepth 20000 in
theorem c_X11_shape (hap : dr_ap ad L) (hN : ∀ x ∈ nd_11, x ∈ L) (s : dr_S) : dr_Mi l D cI cZ ad ln L yX11_shape cX11_shape 1 (some .int) 5 [.ref (ad 11)] s (f_X11_shape ln  s) := by
  refine dr_meti (own := RX11) (by decide) rfl (Nat.le_of_ble_eq_true rfl) hap ?_
  intro p e s0 m args below meth c A E
  unfold f_X11_shape
  refine g_eqL (lv' := [(0, .ref (ad 11))]) rfl ?_
  refine g_aload_n E dX11_shape_0 0 rfl ?_
  refine gg_11_89 E (hN 11 (by decide)) dX11_shape_1 ?_
  refine g_cVi E [] rfl (c_X9_leastBad hap (fun x h => hN x (ns_9_11 x h))  s) (hN 9 (by decide)) (by decide) rfl rfl mi_X9_leastBad msl_X9_leastBad mw_X9_leastBad rfl ml_11_191 ⟨Nat.le_of_ble_eq_true rfl, Nat.le_of_ble_eq_true rfl⟩ (Nat.le_of_ble_eq_true rfl) dX11_shape_4 (fun r2 s1 => ?_)
  exact g_iret E dX11_shape_7
end

theorem dX12_ahead_0 : decode cX12_ahead 0 = .ok (.iload_n 1, 1) := by decide +kernel
theorem dX12_ahead_1 : decode cX12_ahead 1 = .ok (.invokestatic 185, 3) := by decide +kernel
theorem dX12_ahead_4 : decode cX12_ahead 4 = .ok (.ifCond .eq 27, 3) := by decide +kernel
theorem dX12_ahead_7 : decode cX12_ahead 7 = .ok (.iload_n 2, 1) := by decide +kernel
theorem dX12_ahead_8 : decode cX12_ahead 8 = .ok (.invokestatic 185, 3) := by decide +kernel
theorem dX12_ahead_11 : decode cX12_ahead 11 = .ok (.ifCond .eq 20, 3) := by decide +kernel
theorem dX12_ahead_14 : decode cX12_ahead 14 = .ok (.aload_n 0, 1) := by decide +kernel
theorem dX12_ahead_15 : decode cX12_ahead 15 = .ok (.iload_n 1, 1) := by decide +kernel
theorem dX12_ahead_16 : decode cX12_ahead 16 = .ok (.iload_n 2, 1) := by decide +kernel
theorem dX12_ahead_17 : decode cX12_ahead 17 = .ok (.invokevirtual 188, 3) := by decide +kernel
theorem dX12_ahead_20 : decode cX12_ahead 20 = .ok (.ifCond .eq 7, 3) := by decide +kernel
theorem dX12_ahead_23 : decode cX12_ahead 23 = .ok (.iconst 1, 1) := by decide +kernel
theorem dX12_ahead_24 : decode cX12_ahead 24 = .ok (.goto 8, 3) := by decide +kernel
theorem dX12_ahead_27 : decode cX12_ahead 27 = .ok (.iconst 0, 1) := by decide +kernel
theorem dX12_ahead_28 : decode cX12_ahead 28 = .ok (.goto 4, 3) := by decide +kernel
theorem dX12_ahead_31 : decode cX12_ahead 31 = .ok (.iconst (-1), 1) := by decide +kernel
theorem dX12_ahead_32 : decode cX12_ahead 32 = .ok (.ireturn, 1) := by decide +kernel
def f_X12_ahead (ln : Nat → Nat) (x1 : Int32) (x2 : Int32) (s : dr_S) : Option (Int32 × dr_S) := dr_bnd (f_X12_isHeading ln x1 s) (fun r2 s1 => (if r2 = 0 then some ((-1), s1) else dr_bnd (f_X12_isHeading ln x2 s1) (fun r4 s3 => (if r4 = 0 then some ((-1), s3) else dr_bnd (f_X12_isAhead ln x1 x2 s3) (fun r6 s5 => (if r6 = 0 then some (0, s5) else some (1, s5)))))))
section
variable {p : Program} {l : Launch} {e : Env} {s0 : State} {m : MethodId} {args : Array Value} {below : List Frame} {meth : Method} {c : Code} {A : Nat → Prop} {D : va_G} {cI cZ : ClassId} {ad ln : Nat → Nat} {L : List Nat}
set_option maxHeartbeats 4000000 in
set_option maxRecDepth 20000 in
theorem c_X12_ahead (hap : dr_ap ad L) (hN : ∀ x ∈ nd_12, x ∈ L) (x1 : Int32) (x2 : Int32) (s : dr_S) : dr_Mi l D cI cZ ad ln L yX12_ahead cX12_ahead 3 (some .int) 2 [.ref (ad 12), .int x1, .int x2] s (f_X12_ahead ln x1 x2 s) := by
  refine dr_meti (own := RX12) (by decide) rfl (Nat.le_of_ble_eq_true rfl) hap ?_
  intro p e s0 m args below meth c A E
  unfold f_X12_ahead
  refine g_eqL (lv' := [(0, .ref (ad 12)), (1, .int x1), (2, .int x2)]) rfl ?_
  refine g_iload_n E dX12_ahead_0 1 rfl ?_
  refine g_cSi E [.int x1] rfl (c_X12_isHeading hap hN x1 s) ms_X12_isHeading mw_X12_isHeading rfl ml_12_185 ⟨Nat.le_of_ble_eq_true rfl, Nat.le_of_ble_eq_true rfl⟩ (Nat.le_of_ble_eq_true rfl) dX12_ahead_1 (fun r2 s1 => ?_)
  refine g_if_eq E 31 dX12_ahead_4 (by decide) ?_ ?_
  · refine g_iconst E (v := (-1)) dX12_ahead_31 (by decide) ?_
    exact g_iret E dX12_ahead_32
  · refine g_iload_n E dX12_ahead_7 2 rfl ?_
    refine g_cSi E [.int x2] rfl (c_X12_isHeading hap hN x2 s1) ms_X12_isHeading mw_X12_isHeading rfl ml_12_185 ⟨Nat.le_of_ble_eq_true rfl, Nat.le_of_ble_eq_true rfl⟩ (Nat.le_of_ble_eq_true rfl) dX12_ahead_8 (fun r4 s3 => ?_)
    refine g_if_eq E 31 dX12_ahead_11 (by decide) ?_ ?_
    · refine g_iconst E (v := (-1)) dX12_ahead_31 (by decide) ?_
      exact g_iret E dX12_ahead_32
    · refine g_aload_n E dX12_ahead_14 0 rfl ?_
      refine g_iload_n E dX12_ahead_15 1 rfl ?_
      refine g_iload_n E dX12_ahead_16 2 rfl ?_
      refine g_cVi E [.int x1, .int x2] rfl (c_X12_isAhead hap hN x1 x2 s3) (hN 12 (by decide)) (by decide) rfl rfl mi_X12_isAhead msl_X12_isAhead mw_X12_isAhead rfl ml_12_188 ⟨Nat.le_of_ble_eq_true rfl, Nat.le_of_ble_eq_true rfl⟩ (Nat.le_of_ble_eq_true rfl) dX12_ahead_17 (fun r6 s5 => ?_)
      refine g_if_eq E 27 dX12_ahead_20 (by decide) ?_ ?_
      · refine g_iconst E (v := 0) dX12_ahead_27 (by decide) ?_
        refine g_goto E 32 dX12_ahead_28 (by decide) ?_
        exact g_iret E dX12_ahead_32
      · refine g_iconst E (v := 1) dX12_ahead_23 (by decide) ?_
        refine g_goto E 32 dX12_ahead_24 (by decide) ?_
        exact g_iret E dX12_ahead_32
end

theorem dX12_covers_0 : decode cX12_covers 0 = .ok (.aload_n 0, 1) := by decide +kernel
theorem dX12_covers_1 : decode cX12_covers 1 = .ok (.getfield 32, 3) := by decide +kernel
theorem dX12_covers_4 : decode cX12_covers 4 = .ok (.iload_n 1, 1) := by decide +kernel
theorem dX12_covers_5 : decode cX12_covers 5 = .ok (.iaload, 1) := by decide +kernel
theorem dX12_covers_6 : decode cX12_covers 6 = .ok (.iconst (-1), 1) := by decide +kernel
theorem dX12_covers_7 : decode cX12_covers 7 = .ok (.if_icmp .eq 17, 3) := by decide +kernel
theorem dX12_covers_10 : decode cX12_covers 10 = .ok (.aload_n 0, 1) := by decide +kernel
theorem dX12_covers_11 : decode cX12_covers 11 = .ok (.aload_n 0, 1) := by decide +kernel
theorem dX12_covers_12 : decode cX12_covers 12 = .ok (.getfield 32, 3) := by decide +kernel
theorem dX12_covers_15 : decode cX12_covers 15 = .ok (.iload_n 1, 1) := by decide +kernel
theorem dX12_covers_16 : decode cX12_covers 16 = .ok (.iaload, 1) := by decide +kernel
theorem dX12_covers_17 : decode cX12_covers 17 = .ok (.iload_n 2, 1) := by decide +kernel
theorem dX12_covers_18 : decode cX12_covers 18 = .ok (.invokevirtual 188, 3) := by decide +kernel
theorem dX12_covers_21 : decode cX12_covers 21 = .ok (.ifCond .ne 7, 3) := by decide +kernel
theorem dX12_covers_24 : decode cX12_covers 24 = .ok (.iconst 1, 1) := by decide +kernel
theorem dX12_covers_25 : decode cX12_covers 25 = .ok (.goto 4, 3) := by decide +kernel
theorem dX12_covers_28 : decode cX12_covers 28 = .ok (.iconst 0, 1) := by decide +kernel
theorem dX12_covers_29 : decode cX12_covers 29 = .ok (.ireturn, 1) := by decide +kernel
def f_X12_covers (ln : Nat → Nat) (x1 : Int32) (x2 : Int32) (s : dr_S) : Option (Int32 × dr_S) := (dr_rd ln s 35 x1).bind (fun v1 => (if v1 = (-1) then some (1, s) else (dr_rd ln s 35 x1).bind (fun v2 => dr_bnd (f_X12_isAhead ln v2 x2 s) (fun r4 s3 => (if r4 = 0 then some (1, s3) else some (0, s3))))))
section
variable {p : Program} {l : Launch} {e : Env} {s0 : State} {m : MethodId} {args : Array Value} {below : List Frame} {meth : Method} {c : Code} {A : Nat → Prop} {D : va_G} {cI cZ : ClassId} {ad ln : Nat → Nat} {L : List Nat}
set_option maxHeartbeats 4000000 in
set_option maxRecDepth 20000 in
theorem c_X12_covers (hap : dr_ap ad L) (hN : ∀ x ∈ nd_12, x ∈ L) (x1 : Int32) (x2 : Int32) (s : dr_S) : dr_Mi l D cI cZ ad ln L yX12_covers cX12_covers 3 (some .boolean) 2 [.ref (ad 12), .int x1, .int x2] s (f_X12_covers ln x1 x2 s) := by
  refine dr_meti (own := RX12) (by decide) rfl (Nat.le_of_ble_eq_true rfl) hap ?_
  intro p e s0 m args below meth c A E
  unfold f_X12_covers
  refine g_eqL (lv' := [(0, .ref (ad 12)), (1, .int x1), (2, .int x2)]) rfl ?_
  refine g_aload_n E dX12_covers_0 0 rfl ?_
  refine gg_12_32 E (hN 12 (by decide)) dX12_covers_1 ?_
  refine g_iload_n E dX12_covers_4 1 rfl ?_
  refine g_iaload E (hN 35 (by decide)) (by decide) rfl dX12_covers_5 (fun v1 => ?_)
  refine g_iconst E (v := (-1)) dX12_covers_6 (by decide) ?_
  refine g_icmp_eq E 24 dX12_covers_7 (by decide) ?_ ?_
  · refine g_iconst E (v := 1) dX12_covers_24 (by decide) ?_
    refine g_goto E 29 dX12_covers_25 (by decide) ?_
    exact g_zret E dX12_covers_29 (Or.inr rfl)
  · refine g_aload_n E dX12_covers_10 0 rfl ?_
    refine g_aload_n E dX12_covers_11 0 rfl ?_
    refine gg_12_32 E (hN 12 (by decide)) dX12_covers_12 ?_
    refine g_iload_n E dX12_covers_15 1 rfl ?_
    refine g_iaload E (hN 35 (by decide)) (by decide) rfl dX12_covers_16 (fun v2 => ?_)
    refine g_iload_n E dX12_covers_17 2 rfl ?_
    refine g_cVi E [.int v2, .int x2] rfl (c_X12_isAhead hap hN v2 x2 s) (hN 12 (by decide)) (by decide) rfl rfl mi_X12_isAhead msl_X12_isAhead mw_X12_isAhead rfl ml_12_188 ⟨Nat.le_of_ble_eq_true rfl, Nat.le_of_ble_eq_true rfl⟩ (Nat.le_of_ble_eq_true rfl) dX12_covers_18 (fun r4 s3 => ?_)
    refine g_if_ne E 28 dX12_covers_21 (by decide) ?_ ?_
    · refine g_iconst E (v := 0) dX12_covers_28 (by decide) ?_
      exact g_zret E dX12_covers_29 (Or.inl rfl)
    · refine g_iconst E (v := 1) dX12_covers_24 (by decide) ?_
      refine g_goto E 29 dX12_covers_25 (by decide) ?_
      exact g_zret E dX12_covers_29 (Or.inr rfl)
end

theorem dX12_way_0 : decode cX12_way 0 = .ok (.iconst 0, 1) := by decide +kernel
theorem dX12_way_1 : decode cX12_way 1 = .ok (.istore_n 3, 1) := by decide +kernel
theorem dX12_way_2 : decode cX12_way 2 = .ok (.iload_n 3, 1) := by decide +kernel
theorem dX12_way_3 : decode cX12_way 3 = .ok (.aload_n 0, 1) := by decide +kernel
theorem dX12_way_4 : decode cX12_way 4 = .ok (.getfield 23, 3) := by decide +kernel
theorem dX12_way_7 : decode cX12_way 7 = .ok (.iload_n 1, 1) := by decide +kernel
theorem dX12_way_8 : decode cX12_way 8 = .ok (.iaload, 1) := by decide +kernel
theorem dX12_way_9 : decode cX12_way 9 = .ok (.if_icmp .ge 28, 3) := by decide +kernel
theorem dX12_way_12 : decode cX12_way 12 = .ok (.aload_n 0, 1) := by decide +kernel
theorem dX12_way_13 : decode cX12_way 13 = .ok (.aload_n 0, 1) := by decide +kernel
theorem dX12_way_14 : decode cX12_way 14 = .ok (.getfield 26, 3) := by decide +kernel
theorem dX12_way_17 : decode cX12_way 17 = .ok (.bipush 14, 2) := by decide +kernel
theorem dX12_way_19 : decode cX12_way 19 = .ok (.iload_n 1, 1) := by decide +kernel
theorem dX12_way_20 : decode cX12_way 20 = .ok (.imul, 1) := by decide +kernel
theorem dX12_way_21 : decode cX12_way 21 = .ok (.iload_n 3, 1) := by decide +kernel
theorem dX12_way_22 : decode cX12_way 22 = .ok (.iadd, 1) := by decide +kernel
theorem dX12_way_23 : decode cX12_way 23 = .ok (.iaload, 1) := by decide +kernel
theorem dX12_way_24 : decode cX12_way 24 = .ok (.iload_n 2, 1) := by decide +kernel
theorem dX12_way_25 : decode cX12_way 25 = .ok (.invokevirtual 188, 3) := by decide +kernel
theorem dX12_way_28 : decode cX12_way 28 = .ok (.ifCond .eq 9, 3) := by decide +kernel
theorem dX12_way_31 : decode cX12_way 31 = .ok (.iinc 3 1, 3) := by decide +kernel
theorem dX12_way_34 : decode cX12_way 34 = .ok (.goto (-32), 3) := by decide +kernel
theorem dX12_way_37 : decode cX12_way 37 = .ok (.aload_n 0, 1) := by decide +kernel
theorem dX12_way_38 : decode cX12_way 38 = .ok (.getfield 29, 3) := by decide +kernel
theorem dX12_way_41 : decode cX12_way 41 = .ok (.bipush 14, 2) := by decide +kernel
theorem dX12_way_43 : decode cX12_way 43 = .ok (.iload_n 1, 1) := by decide +kernel
theorem dX12_way_44 : decode cX12_way 44 = .ok (.imul, 1) := by decide +kernel
theorem dX12_way_45 : decode cX12_way 45 = .ok (.iload_n 3, 1) := by decide +kernel
theorem dX12_way_46 : decode cX12_way 46 = .ok (.iadd, 1) := by decide +kernel
theorem dX12_way_47 : decode cX12_way 47 = .ok (.iaload, 1) := by decide +kernel
theorem dX12_way_48 : decode cX12_way 48 = .ok (.ireturn, 1) := by decide +kernel
def f_X12_way_p37 (ln : Nat → Nat) (x1 : Int32) (x3 : Int32) (s : dr_S) : Option (Int32 × dr_S) := (dr_rd ln s 34 ((14 * x1) + x3)).bind (fun v6 => some (v6, s))
def f_X12_way_p2 (ln : Nat → Nat) : Nat → Int32 → Int32 → Int32 → dr_S → Option (Int32 × dr_S)
  | 0, _, _, _, _ => none
  | n + 1, x1, x2, x3, s => (dr_rd ln s 32 x1).bind (fun v1 => (if v1 ≤ x3 then (f_X12_way_p37 ln x1 x3 s) else (dr_rd ln s 33 ((14 * x1) + x3)).bind (fun v2 => dr_bnd (f_X12_isAhead ln v2 x2 s) (fun r4 s3 => (if r4 = 0 then (f_X12_way_p37 ln x1 x3 s3) else dr_let (x3 + 1) (fun y5 => (f_X12_way_p2 ln n x1 x2 y5 s3)))))))
def f_X12_way (ln : Nat → Nat) (x1 : Int32) (x2 : Int32) (s : dr_S) : Option (Int32 × dr_S) := (f_X12_way_p2 ln dr_N x1 x2 0 s)
section
variable {p : Program} {l : Launch} {e : Env} {s0 : State} {m : MethodId} {args : Array Value} {below : List Frame} {meth : Method} {c : Code} {A : Nat → Prop} {D : va_G} {cI cZ : ClassId} {ad ln : Nat → Nat} {L : List Nat}
set_option maxHeartbeats 4000000 in
set_option maxRecDepth 20000 in
theorem w_X12_way_p37 (E : dr_E p (dr_rm 2) s0 m args meth c 0 0 A s0.heap D cI cZ ad L cX12_way 4 RX12 (some .int)) (hap : dr_ap ad L) (hN : ∀ x ∈ nd_12, x ∈ L) : ∀ (x1 : Int32) (x3 : Int32) (s : dr_S), dr_G p l e (dr_rm 2) s0 m args below meth c 0 0 A s0.heap D cI cZ ad ln L 4 (dr_Zi D cI cZ ad ln L A below args s0 0 0) 37 [(0, .ref (ad 12)), (1, .int x1), (3, .int x3)] [] s (f_X12_way_p37 ln x1 x3 s) := by
  intro x1 x3 s
  unfold f_X12_way_p37
  refine g_aload_n E dX12_way_37 0 rfl ?_
  refine gg_12_29 E (hN 12 (by decide)) dX12_way_38 ?_
  refine g_bipush E (v := 14) dX12_way_41 (by decide) ?_
  refine g_iload_n E dX12_way_43 1 rfl ?_
  refine g_imul E dX12_way_44 ?_
  refine g_iload_n E dX12_way_45 2 rfl ?_
  refine g_iadd E dX12_way_46 ?_
  refine g_iaload E (hN 34 (by decide)) (by decide) rfl dX12_way_47 (fun v6 => ?_)
  exact g_iret E dX12_way_48
set_option maxHeartbeats 4000000 in
set_option maxRecDepth 20000 in
theorem w_X12_way_p2 (E : dr_E p (dr_rm 2) s0 m args meth c 0 0 A s0.heap D cI cZ ad L cX12_way 4 RX12 (some .int)) (hap : dr_ap ad L) (hN : ∀ x ∈ nd_12, x ∈ L) : ∀ (n : Nat) (x1 : Int32) (x2 : Int32) (x3 : Int32) (s : dr_S), dr_G p l e (dr_rm 2) s0 m args below meth c 0 0 A s0.heap D cI cZ ad ln L 4 (dr_Zi D cI cZ ad ln L A below args s0 0 0) 2 [(0, .ref (ad 12)), (1, .int x1), (2, .int x2), (3, .int x3)] [] s (f_X12_way_p2 ln n x1 x2 x3 s) := by
  intro n
  induction n with
  | zero =>
    intro x1 x2 x3 s
    rw [f_X12_way_p2]
    exact g_none
  | succ n hkb2 =>
    intro x1 x2 x3 s
    rw [f_X12_way_p2]
    refine g_iload_n E dX12_way_2 3 rfl ?_
    refine g_aload_n E dX12_way_3 0 rfl ?_
    refine gg_12_23 E (hN 12 (by decide)) dX12_way_4 ?_
    refine g_iload_n E dX12_way_7 1 rfl ?_
    refine g_iaload E (hN 32 (by decide)) (by decide) rfl dX12_way_8 (fun v1 => ?_)
    refine g_icmp_ge E 37 dX12_way_9 (by decide) ?_ ?_
    · refine g_sub [0, 1, 3] rfl ?_
      exact w_X12_way_p37 E hap hN x1 x3 s
    · refine g_aload_n E dX12_way_12 0 rfl ?_
      refine g_aload_n E dX12_way_13 0 rfl ?_
      refine gg_12_26 E (hN 12 (by decide)) dX12_way_14 ?_
      refine g_bipush E (v := 14) dX12_way_17 (by decide) ?_
      refine g_iload_n E dX12_way_19 1 rfl ?_
      refine g_imul E dX12_way_20 ?_
      refine g_iload_n E dX12_way_21 3 rfl ?_
      refine g_iadd E dX12_way_22 ?_
      refine g_iaload E (hN 33 (by decide)) (by decide) rfl dX12_way_23 (fun v2 => ?_)
      refine g_iload_n E dX12_way_24 2 rfl ?_
      refine g_cVi E [.int v2, .int x2] rfl (c_X12_isAhead hap hN v2 x2 s) (hN 12 (by decide)) (by decide) rfl rfl mi_X12_isAhead msl_X12_isAhead mw_X12_isAhead rfl ml_12_188 ⟨Nat.le_of_ble_eq_true rfl, Nat.le_of_ble_eq_true rfl⟩ (Nat.le_of_ble_eq_true rfl) dX12_way_25 (fun r4 s3 => ?_)
      refine g_if_eq E 37 dX12_way_28 (by decide) ?_ ?_
      · refine g_sub [0, 1, 3] rfl ?_
        exact w_X12_way_p37 E hap hN x1 x3 s3
      · refine g_iinc E (lv' := []) (lv'' := fun y5 => [(3, .int y5), (0, .ref (ad 12)), (1, .int x1), (2, .int x2)]) (v := 1) dX12_way_31 3 rfl (by decide) (by decide) (fun _ => rfl) (fun y5 => ?_)
        refine g_goto E 2 dX12_way_34 (by decide) ?_
        refine g_sub [1, 2, 3, 0] rfl ?_
        exact hkb2 x1 x2 y5 s3
set_option maxHeartbeats 4000000 in
set_option maxRecDepth 20000 in
theorem c_X12_way (hap : dr_ap ad L) (hN : ∀ x ∈ nd_12, x ∈ L) (x1 : Int32) (x2 : Int32) (s : dr_S) : dr_Mi l D cI cZ ad ln L yX12_way cX12_way 4 (some .int) 2 [.ref (ad 12), .int x1, .int x2] s (f_X12_way ln x1 x2 s) := by
  refine dr_meti (own := RX12) (by decide) rfl (Nat.le_of_ble_eq_true rfl) hap ?_
  intro p e s0 m args below meth c A E
  unfold f_X12_way
  refine g_eqL (lv' := [(0, .ref (ad 12)), (1, .int x1), (2, .int x2)]) rfl ?_
  refine g_iconst E (v := 0) dX12_way_0 (by decide) ?_
  refine g_istore_n E (lv' := [(3, .int 0), (0, .ref (ad 12)), (1, .int x1), (2, .int x2)]) dX12_way_1 (by decide) rfl ?_
  refine g_sub [1, 2, 3, 0] rfl ?_
  exact w_X12_way_p2 E hap hN dr_N x1 x2 0 s
end

theorem dX12_spare_0 : decode cX12_spare 0 = .ok (.iconst 0, 1) := by decide +kernel
theorem dX12_spare_1 : decode cX12_spare 1 = .ok (.istore_n 1, 1) := by decide +kernel
theorem dX12_spare_2 : decode cX12_spare 2 = .ok (.iload_n 1, 1) := by decide +kernel
theorem dX12_spare_3 : decode cX12_spare 3 = .ok (.sipush 256, 3) := by decide +kernel
theorem dX12_spare_6 : decode cX12_spare 6 = .ok (.if_icmp .ge 18, 3) := by decide +kernel
theorem dX12_spare_9 : decode cX12_spare 9 = .ok (.aload_n 0, 1) := by decide +kernel
theorem dX12_spare_10 : decode cX12_spare 10 = .ok (.getfield 17, 3) := by decide +kernel
theorem dX12_spare_13 : decode cX12_spare 13 = .ok (.iload_n 1, 1) := by decide +kernel
theorem dX12_spare_14 : decode cX12_spare 14 = .ok (.baload, 1) := by decide +kernel
theorem dX12_spare_15 : decode cX12_spare 15 = .ok (.ifCond .eq 9, 3) := by decide +kernel
theorem dX12_spare_18 : decode cX12_spare 18 = .ok (.iinc 1 1, 3) := by decide +kernel
theorem dX12_spare_21 : decode cX12_spare 21 = .ok (.goto (-19), 3) := by decide +kernel
theorem dX12_spare_24 : decode cX12_spare 24 = .ok (.iload_n 1, 1) := by decide +kernel
theorem dX12_spare_25 : decode cX12_spare 25 = .ok (.sipush 256, 3) := by decide +kernel
theorem dX12_spare_28 : decode cX12_spare 28 = .ok (.if_icmp .ge 7, 3) := by decide +kernel
theorem dX12_spare_31 : decode cX12_spare 31 = .ok (.iload_n 1, 1) := by decide +kernel
theorem dX12_spare_32 : decode cX12_spare 32 = .ok (.goto 4, 3) := by decide +kernel
theorem dX12_spare_35 : decode cX12_spare 35 = .ok (.iconst (-1), 1) := by decide +kernel
theorem dX12_spare_36 : decode cX12_spare 36 = .ok (.ireturn, 1) := by decide +kernel
def f_X12_spare_p24 (ln : Nat → Nat) (x1 : Int32) (s : dr_S) : Option (Int32 × dr_S) := (if ((256 : Int32) ≤ x1 : Prop) then some ((-1), s) else some (x1, s))
def f_X12_spare_p2 (ln : Nat → Nat) : Nat → Int32 → dr_S → Option (Int32 × dr_S)
  | 0, _, _ => none
  | n + 1, x1, s => (if ((256 : Int32) ≤ x1 : Prop) then (f_X12_spare_p24 ln x1 s) else (dr_rd ln s 30 x1).bind (fun v1 => (if v1 = 0 then (f_X12_spare_p24 ln x1 s) else dr_let (x1 + 1) (fun y2 => (f_X12_spare_p2 ln n y2 s)))))
def f_X12_spare (ln : Nat → Nat) (s : dr_S) : Option (Int32 × dr_S) := (f_X12_spare_p2 ln dr_N 0 s)
section
variable {p : Program} {l : Launch} {e : Env} {s0 : State} {m : MethodId} {args : Array Value} {below : List Frame} {meth : Method} {c : Code} {A : Nat → Prop} {D : va_G} {cI cZ : ClassId} {ad ln : Nat → Nat} {L : List Nat}
set_option maxHeartbeats 4000000 in
set_option maxRecDepth 20000 in
theorem w_X12_spare_p24 (E : dr_E p (dr_rm 0) s0 m args meth c 0 0 A s0.heap D cI cZ ad L cX12_spare 2 RX12 (some .int)) (hap : dr_ap ad L) (hN : ∀ x ∈ nd_12, x ∈ L) : ∀ (x1 : Int32) (s : dr_S), dr_G p l e (dr_rm 0) s0 m args below meth c 0 0 A s0.heap D cI cZ ad ln L 2 (dr_Zi D cI cZ ad ln L A below args s0 0 0) 24 [(1, .int x1)] [] s (f_X12_spare_p24 ln x1 s) := by
  intro x1 s
  unfold f_X12_spare_p24
  refine g_iload_n E dX12_spare_24 0 rfl ?_
  refine g_sipush E (v := 256) dX12_spare_25 (by decide) ?_
  refine g_icmp_ge E 35 dX12_spare_28 (by decide) ?_ ?_
  · refine g_iconst E (v := (-1)) dX12_spare_35 (by decide) ?_
    exact g_iret E dX12_spare_36
  · refine g_iload_n E dX12_spare_31 0 rfl ?_
    refine g_goto E 36 dX12_spare_32 (by decide) ?_
    exact g_iret E dX12_spare_36
set_option maxHeartbeats 4000000 in
set_option maxRecDepth 20000 in
theorem w_X12_spare_p2 (E : dr_E p (dr_rm 0) s0 m args meth c 0 0 A s0.heap D cI cZ ad L cX12_spare 2 RX12 (some .int)) (hap : dr_ap ad L) (hN : ∀ x ∈ nd_12, x ∈ L) : ∀ (n : Nat) (x1 : Int32) (s : dr_S), dr_G p l e (dr_rm 0) s0 m args below meth c 0 0 A s0.heap D cI cZ ad ln L 2 (dr_Zi D cI cZ ad ln L A below args s0 0 0) 2 [(0, .ref (ad 12)), (1, .int x1)] [] s (f_X12_spare_p2 ln n x1 s) := by
  intro n
  induction n with
  | zero =>
    intro x1 s
    rw [f_X12_spare_p2]
    exact g_none
  | succ n hkb2 =>
    intro x1 s
    rw [f_X12_spare_p2]
    refine g_iload_n E dX12_spare_2 1 rfl ?_
    refine g_sipush E (v := 256) dX12_spare_3 (by decide) ?_
    refine g_icmp_ge E 24 dX12_spare_6 (by decide) ?_ ?_
    · refine g_sub [1] rfl ?_
      exact w_X12_spare_p24 E hap hN x1 s
    · refine g_aload_n E dX12_spare_9 0 rfl ?_
      refine gg_12_17 E (hN 12 (by decide)) dX12_spare_10 ?_
      refine g_iload_n E dX12_spare_13 1 rfl ?_
      refine g_baload E (hN 30 (by decide)) (by decide) rfl dX12_spare_14 (fun v1 => ?_)
      refine g_if_eq E 24 dX12_spare_15 (by decide) ?_ ?_
      · refine g_sub [1] rfl ?_
        exact w_X12_spare_p24 E hap hN x1 s
      · refine g_iinc E (lv' := []) (lv'' := fun y2 => [(1, .int y2), (0, .ref (ad 12))]) (v := 1) dX12_spare_18 1 rfl (by decide) (by decide) (fun _ => rfl) (fun y2 => ?_)
        refine g_goto E 2 dX12_spare_21 (by decide) ?_
        refine g_sub [1, 0] rfl ?_
        exact hkb2 y2 s
set_option maxHeartbeats 4000000 in
set_option maxRecDepth 20000 in
theorem c_X12_spare (hap : dr_ap ad L) (hN : ∀ x ∈ nd_12, x ∈ L) (s : dr_S) : dr_Mi l D cI cZ ad ln L yX12_spare cX12_spare 2 (some .int) 0 [.ref (ad 12)] s (f_X12_spare ln  s) := by
  refine dr_meti (own := RX12) (by decide) rfl (Nat.le_of_ble_eq_true rfl) hap ?_
  intro p e s0 m args below meth c A E
  unfold f_X12_spare
  refine g_eqL (lv' := [(0, .ref (ad 12))]) rfl ?_
  refine g_iconst E (v := 0) dX12_spare_0 (by decide) ?_
  refine g_istore_n E (lv' := [(1, .int 0), (0, .ref (ad 12))]) dX12_spare_1 (by decide) rfl ?_
  refine g_sub [1, 0] rfl ?_
  exact w_X12_spare_p2 E hap hN dr_N 0 s
end

theorem dX12_used_0 : decode cX12_used 0 = .ok (.iconst 0, 1) := by decide +kernel
theorem dX12_used_1 : decode cX12_used 1 = .ok (.istore_n 1, 1) := by decide +kernel
theorem dX12_used_2 : decode cX12_used 2 = .ok (.iconst 0, 1) := by decide +kernel
theorem dX12_used_3 : decode cX12_used 3 = .ok (.istore_n 2, 1) := by decide +kernel
theorem dX12_used_4 : decode cX12_used 4 = .ok (.iload_n 2, 1) := by decide +kernel
theorem dX12_used_5 : decode cX12_used 5 = .ok (.sipush 256, 3) := by decide +kernel
theorem dX12_used_8 : decode cX12_used 8 = .ok (.if_icmp .ge 26, 3) := by decide +kernel
theorem dX12_used_11 : decode cX12_used 11 = .ok (.iload_n 1, 1) := by decide +kernel
theorem dX12_used_12 : decode cX12_used 12 = .ok (.aload_n 0, 1) := by decide +kernel
theorem dX12_used_13 : decode cX12_used 13 = .ok (.getfield 17, 3) := by decide +kernel
theorem dX12_used_16 : decode cX12_used 16 = .ok (.iload_n 2, 1) := by decide +kernel
theorem dX12_used_17 : decode cX12_used 17 = .ok (.baload, 1) := by decide +kernel
theorem dX12_used_18 : decode cX12_used 18 = .ok (.ifCond .eq 7, 3) := by decide +kernel
theorem dX12_used_21 : decode cX12_used 21 = .ok (.iconst 1, 1) := by decide +kernel
theorem dX12_used_22 : decode cX12_used 22 = .ok (.goto 4, 3) := by decide +kernel
theorem dX12_used_25 : decode cX12_used 25 = .ok (.iconst 0, 1) := by decide +kernel
theorem dX12_used_26 : decode cX12_used 26 = .ok (.iadd, 1) := by decide +kernel
theorem dX12_used_27 : decode cX12_used 27 = .ok (.istore_n 1, 1) := by decide +kernel
theorem dX12_used_28 : decode cX12_used 28 = .ok (.iinc 2 1, 3) := by decide +kernel
theorem dX12_used_31 : decode cX12_used 31 = .ok (.goto (-27), 3) := by decide +kernel
theorem dX12_used_34 : decode cX12_used 34 = .ok (.iload_n 1, 1) := by decide +kernel
theorem dX12_used_35 : decode cX12_used 35 = .ok (.ireturn, 1) := by decide +kernel
def f_X12_used_p26 (ln : Nat → Nat) (kb4 : Int32 → Int32 → dr_S → Option (Int32 × dr_S)) (x2 : Int32) (z0 : Int32) (z1 : Int32) (s : dr_S) : Option (Int32 × dr_S) := dr_let (z1 + z0) (fun y2 => dr_let (x2 + 1) (fun y3 => (kb4 y2 y3 s)))
def f_X12_used_p4 (ln : Nat → Nat) : Nat → Int32 → Int32 → dr_S → Option (Int32 × dr_S)
  | 0, _, _, _ => none
  | n + 1, x1, x2, s => (if ((256 : Int32) ≤ x2 : Prop) then some (x1, s) else (dr_rd ln s 30 x2).bind (fun v1 => (if v1 = 0 then (f_X12_used_p26 ln (f_X12_used_p4 ln n) x2 0 x1 s) else (f_X12_used_p26 ln (f_X12_used_p4 ln n) x2 1 x1 s))))
def f_X12_used (ln : Nat → Nat) (s : dr_S) : Option (Int32 × dr_S) := (f_X12_used_p4 ln dr_N 0 0 s)
section
variable {p : Program} {l : Launch} {e : Env} {s0 : State} {m : MethodId} {args : Array Value} {below : List Frame} {meth : Method} {c : Code} {A : Nat → Prop} {D : va_G} {cI cZ : ClassId} {ad ln : Nat → Nat} {L : List Nat}
set_option maxHeartbeats 4000000 in
set_option maxRecDepth 20000 in
theorem w_X12_used_p26 {kb4 : Int32 → Int32 → dr_S → Option (Int32 × dr_S)} (E : dr_E p (dr_rm 0) s0 m args meth c 0 0 A s0.heap D cI cZ ad L cX12_used 3 RX12 (some .int)) (hap : dr_ap ad L) (hN : ∀ x ∈ nd_12, x ∈ L) (hkb4 : ∀ (x1 : Int32) (x2 : Int32) (s : dr_S), dr_G p l e (dr_rm 0) s0 m args below meth c 0 0 A s0.heap D cI cZ ad ln L 3 (dr_Zi D cI cZ ad ln L A below args s0 0 0) 4 [(0, .ref (ad 12)), (1, .int x1), (2, .int x2)] [] s (kb4 x1 x2 s)) : ∀ (x2 : Int32) (z0 : Int32) (z1 : Int32) (s : dr_S), dr_G p l e (dr_rm 0) s0 m args below meth c 0 0 A s0.heap D cI cZ ad ln L 3 (dr_Zi D cI cZ ad ln L A below args s0 0 0) 26 [(0, .ref (ad 12)), (2, .int x2)] [.int z0, .int z1] s (f_X12_used_p26 ln kb4 x2 z0 z1 s) := by
  intro x2 z0 z1 s
  unfold f_X12_used_p26
  refine g_iadd E dX12_used_26 ?_
  refine g_let (fun y2 => ?_)
  refine g_istore_n E (lv' := [(1, .int y2), (0, .ref (ad 12)), (2, .int x2)]) dX12_used_27 (by decide) rfl ?_
  refine g_iinc E (lv' := []) (lv'' := fun y3 => [(2, .int y3), (1, .int y2), (0, .ref (ad 12))]) (v := 1) dX12_used_28 2 rfl (by decide) (by decide) (fun _ => rfl) (fun y3 => ?_)
  refine g_goto E 4 dX12_used_31 (by decide) ?_
  refine g_sub [2, 1, 0] rfl ?_
  exact hkb4 y2 y3 s
set_option maxHeartbeats 4000000 in
set_option maxRecDepth 20000 in
theorem w_X12_used_p4 (E : dr_E p (dr_rm 0) s0 m args meth c 0 0 A s0.heap D cI cZ ad L cX12_used 3 RX12 (some .int)) (hap : dr_ap ad L) (hN : ∀ x ∈ nd_12, x ∈ L) : ∀ (n : Nat) (x1 : Int32) (x2 : Int32) (s : dr_S), dr_G p l e (dr_rm 0) s0 m args below meth c 0 0 A s0.heap D cI cZ ad ln L 3 (dr_Zi D cI cZ ad ln L A below args s0 0 0) 4 [(0, .ref (ad 12)), (1, .int x1), (2, .int x2)] [] s (f_X12_used_p4 ln n x1 x2 s) := by
  intro n
  induction n with
  | zero =>
    intro x1 x2 s
    rw [f_X12_used_p4]
    exact g_none
  | succ n hkb4 =>
    intro x1 x2 s
    rw [f_X12_used_p4]
    refine g_iload_n E dX12_used_4 2 rfl ?_
    refine g_sipush E (v := 256) dX12_used_5 (by decide) ?_
    refine g_icmp_ge E 34 dX12_used_8 (by decide) ?_ ?_
    · refine g_iload_n E dX12_used_34 1 rfl ?_
      exact g_iret E dX12_used_35
    · refine g_iload_n E dX12_used_11 1 rfl ?_
      refine g_aload_n E dX12_used_12 0 rfl ?_
      refine gg_12_17 E (hN 12 (by decide)) dX12_used_13 ?_
      refine g_iload_n E dX12_used_16 2 rfl ?_
      refine g_baload E (hN 30 (by decide)) (by decide) rfl dX12_used_17 (fun v1 => ?_)
      refine g_if_eq E 25 dX12_used_18 (by decide) ?_ ?_
      · refine g_iconst E (v := 0) dX12_used_25 (by decide) ?_
        refine g_sub [0, 2] rfl ?_
        exact w_X12_used_p26 E hap hN hkb4 x2 0 x1 s
      · refine g_iconst E (v := 1) dX12_used_21 (by decide) ?_
        refine g_goto E 26 dX12_used_22 (by decide) ?_
        refine g_sub [0, 2] rfl ?_
        exact w_X12_used_p26 E hap hN hkb4 x2 1 x1 s
set_option maxHeartbeats 4000000 in
set_option maxRecDepth 20000 in
theorem c_X12_used (hap : dr_ap ad L) (hN : ∀ x ∈ nd_12, x ∈ L) (s : dr_S) : dr_Mi l D cI cZ ad ln L yX12_used cX12_used 3 (some .int) 0 [.ref (ad 12)] s (f_X12_used ln  s) := by
  refine dr_meti (own := RX12) (by decide) rfl (Nat.le_of_ble_eq_true rfl) hap ?_
  intro p e s0 m args below meth c A E
  unfold f_X12_used
  refine g_eqL (lv' := [(0, .ref (ad 12))]) rfl ?_
  refine g_iconst E (v := 0) dX12_used_0 (by decide) ?_
  refine g_istore_n E (lv' := [(1, .int 0), (0, .ref (ad 12))]) dX12_used_1 (by decide) rfl ?_
  refine g_iconst E (v := 0) dX12_used_2 (by decide) ?_
  refine g_istore_n E (lv' := [(2, .int 0), (1, .int 0), (0, .ref (ad 12))]) dX12_used_3 (by decide) rfl ?_
  refine g_sub [2, 1, 0] rfl ?_
  exact w_X12_used_p4 E hap hN dr_N 0 0 s
end

theorem dX12_parted_0 : decode cX12_parted 0 = .ok (.aload_n 0, 1) := by decide +kernel
theorem dX12_parted_1 : decode cX12_parted 1 = .ok (.invokevirtual 192, 3) := by decide +kernel
theorem dX12_parted_4 : decode cX12_parted 4 = .ok (.istore_n 2, 1) := by decide +kernel
theorem dX12_parted_5 : decode cX12_parted 5 = .ok (.aload_n 0, 1) := by decide +kernel
theorem dX12_parted_6 : decode cX12_parted 6 = .ok (.iload_n 2, 1) := by decide +kernel
theorem dX12_parted_7 : decode cX12_parted 7 = .ok (.invokevirtual 156, 3) := by decide +kernel
theorem dX12_parted_10 : decode cX12_parted 10 = .ok (.aload_n 0, 1) := by decide +kernel
theorem dX12_parted_11 : decode cX12_parted 11 = .ok (.getfield 17, 3) := by decide +kernel
theorem dX12_parted_14 : decode cX12_parted 14 = .ok (.iload_n 2, 1) := by decide +kernel
theorem dX12_parted_15 : decode cX12_parted 15 = .ok (.iconst 1, 1) := by decide +kernel
theorem dX12_parted_16 : decode cX12_parted 16 = .ok (.bastore, 1) := by decide +kernel
theorem dX12_parted_17 : decode cX12_parted 17 = .ok (.aload_n 0, 1) := by decide +kernel
theorem dX12_parted_18 : decode cX12_parted 18 = .ok (.getfield 20, 3) := by decide +kernel
theorem dX12_parted_21 : decode cX12_parted 21 = .ok (.iload_n 2, 1) := by decide +kernel
theorem dX12_parted_22 : decode cX12_parted 22 = .ok (.aload_n 0, 1) := by decide +kernel
theorem dX12_parted_23 : decode cX12_parted 23 = .ok (.getfield 20, 3) := by decide +kernel
theorem dX12_parted_26 : decode cX12_parted 26 = .ok (.iload_n 1, 1) := by decide +kernel
theorem dX12_parted_27 : decode cX12_parted 27 = .ok (.iaload, 1) := by decide +kernel
theorem dX12_parted_28 : decode cX12_parted 28 = .ok (.iastore, 1) := by decide +kernel
theorem dX12_parted_29 : decode cX12_parted 29 = .ok (.aload_n 0, 1) := by decide +kernel
theorem dX12_parted_30 : decode cX12_parted 30 = .ok (.getfield 32, 3) := by decide +kernel
theorem dX12_parted_33 : decode cX12_parted 33 = .ok (.iload_n 2, 1) := by decide +kernel
theorem dX12_parted_34 : decode cX12_parted 34 = .ok (.aload_n 0, 1) := by decide +kernel
theorem dX12_parted_35 : decode cX12_parted 35 = .ok (.getfield 32, 3) := by decide +kernel
theorem dX12_parted_38 : decode cX12_parted 38 = .ok (.iload_n 1, 1) := by decide +kernel
theorem dX12_parted_39 : decode cX12_parted 39 = .ok (.iaload, 1) := by decide +kernel
theorem dX12_parted_40 : decode cX12_parted 40 = .ok (.iastore, 1) := by decide +kernel
theorem dX12_parted_41 : decode cX12_parted 41 = .ok (.aload_n 0, 1) := by decide +kernel
theorem dX12_parted_42 : decode cX12_parted 42 = .ok (.getfield 35, 3) := by decide +kernel
theorem dX12_parted_45 : decode cX12_parted 45 = .ok (.iload_n 2, 1) := by decide +kernel
theorem dX12_parted_46 : decode cX12_parted 46 = .ok (.aload_n 0, 1) := by decide +kernel
theorem dX12_parted_47 : decode cX12_parted 47 = .ok (.getfield 35, 3) := by decide +kernel
theorem dX12_parted_50 : decode cX12_parted 50 = .ok (.iload_n 1, 1) := by decide +kernel
theorem dX12_parted_51 : decode cX12_parted 51 = .ok (.iaload, 1) := by decide +kernel
theorem dX12_parted_52 : decode cX12_parted 52 = .ok (.iastore, 1) := by decide +kernel
theorem dX12_parted_53 : decode cX12_parted 53 = .ok (.aload_n 0, 1) := by decide +kernel
theorem dX12_parted_54 : decode cX12_parted 54 = .ok (.getfield 152, 3) := by decide +kernel
theorem dX12_parted_57 : decode cX12_parted 57 = .ok (.iconst 1, 1) := by decide +kernel
theorem dX12_parted_58 : decode cX12_parted 58 = .ok (.iadd, 1) := by decide +kernel
theorem dX12_parted_59 : decode cX12_parted 59 = .ok (.istore_n 3, 1) := by decide +kernel
theorem dX12_parted_60 : decode cX12_parted 60 = .ok (.aload_n 0, 1) := by decide +kernel
theorem dX12_parted_61 : decode cX12_parted 61 = .ok (.getfield 23, 3) := by decide +kernel
theorem dX12_parted_64 : decode cX12_parted 64 = .ok (.iload_n 2, 1) := by decide +kernel
theorem dX12_parted_65 : decode cX12_parted 65 = .ok (.aload_n 0, 1) := by decide +kernel
theorem dX12_parted_66 : decode cX12_parted 66 = .ok (.getfield 23, 3) := by decide +kernel
theorem dX12_parted_69 : decode cX12_parted 69 = .ok (.iload_n 1, 1) := by decide +kernel
theorem dX12_parted_70 : decode cX12_parted 70 = .ok (.iaload, 1) := by decide +kernel
theorem dX12_parted_71 : decode cX12_parted 71 = .ok (.iload_n 3, 1) := by decide +kernel
theorem dX12_parted_72 : decode cX12_parted 72 = .ok (.isub, 1) := by decide +kernel
theorem dX12_parted_73 : decode cX12_parted 73 = .ok (.iastore, 1) := by decide +kernel
theorem dX12_parted_74 : decode cX12_parted 74 = .ok (.iconst 0, 1) := by decide +kernel
theorem dX12_parted_75 : decode cX12_parted 75 = .ok (.istore 4, 2) := by decide +kernel
theorem dX12_parted_77 : decode cX12_parted 77 = .ok (.iload 4, 2) := by decide +kernel
theorem dX12_parted_79 : decode cX12_parted 79 = .ok (.aload_n 0, 1) := by decide +kernel
theorem dX12_parted_80 : decode cX12_parted 80 = .ok (.getfield 23, 3) := by decide +kernel
theorem dX12_parted_83 : decode cX12_parted 83 = .ok (.iload_n 2, 1) := by decide +kernel
theorem dX12_parted_84 : decode cX12_parted 84 = .ok (.iaload, 1) := by decide +kernel
theorem dX12_parted_85 : decode cX12_parted 85 = .ok (.if_icmp .ge 35, 3) := by decide +kernel
theorem dX12_parted_88 : decode cX12_parted 88 = .ok (.aload_n 0, 1) := by decide +kernel
theorem dX12_parted_89 : decode cX12_parted 89 = .ok (.getfield 26, 3) := by decide +kernel
theorem dX12_parted_92 : decode cX12_parted 92 = .ok (.bipush 14, 2) := by decide +kernel
theorem dX12_parted_94 : decode cX12_parted 94 = .ok (.iload_n 2, 1) := by decide +kernel
theorem dX12_parted_95 : decode cX12_parted 95 = .ok (.imul, 1) := by decide +kernel
theorem dX12_parted_96 : decode cX12_parted 96 = .ok (.iload 4, 2) := by decide +kernel
theorem dX12_parted_98 : decode cX12_parted 98 = .ok (.iadd, 1) := by decide +kernel
theorem dX12_parted_99 : decode cX12_parted 99 = .ok (.aload_n 0, 1) := by decide +kernel
theorem dX12_parted_100 : decode cX12_parted 100 = .ok (.getfield 26, 3) := by decide +kernel
theorem dX12_parted_103 : decode cX12_parted 103 = .ok (.bipush 14, 2) := by decide +kernel
theorem dX12_parted_105 : decode cX12_parted 105 = .ok (.iload_n 1, 1) := by decide +kernel
theorem dX12_parted_106 : decode cX12_parted 106 = .ok (.imul, 1) := by decide +kernel
theorem dX12_parted_107 : decode cX12_parted 107 = .ok (.iload_n 3, 1) := by decide +kernel
theorem dX12_parted_108 : decode cX12_parted 108 = .ok (.iadd, 1) := by decide +kernel
theorem dX12_parted_109 : decode cX12_parted 109 = .ok (.iload 4, 2) := by decide +kernel
theorem dX12_parted_111 : decode cX12_parted 111 = .ok (.iadd, 1) := by decide +kernel
theorem dX12_parted_112 : decode cX12_parted 112 = .ok (.iaload, 1) := by decide +kernel
theorem dX12_parted_113 : decode cX12_parted 113 = .ok (.iastore, 1) := by decide +kernel
theorem dX12_parted_114 : decode cX12_parted 114 = .ok (.iinc 4 1, 3) := by decide +kernel
theorem dX12_parted_117 : decode cX12_parted 117 = .ok (.goto (-40), 3) := by decide +kernel
theorem dX12_parted_120 : decode cX12_parted 120 = .ok (.aload_n 0, 1) := by decide +kernel
theorem dX12_parted_121 : decode cX12_parted 121 = .ok (.getfield 20, 3) := by decide +kernel
theorem dX12_parted_124 : decode cX12_parted 124 = .ok (.iload_n 1, 1) := by decide +kernel
theorem dX12_parted_125 : decode cX12_parted 125 = .ok (.iaload, 1) := by decide +kernel
theorem dX12_parted_126 : decode cX12_parted 126 = .ok (.ifCond .le 49, 3) := by decide +kernel
theorem dX12_parted_129 : decode cX12_parted 129 = .ok (.iconst 0, 1) := by decide +kernel
theorem dX12_parted_130 : decode cX12_parted 130 = .ok (.istore 4, 2) := by decide +kernel
theorem dX12_parted_132 : decode cX12_parted 132 = .ok (.iload 4, 2) := by decide +kernel
theorem dX12_parted_134 : decode cX12_parted 134 = .ok (.aload_n 0, 1) := by decide +kernel
theorem dX12_parted_135 : decode cX12_parted 135 = .ok (.getfield 23, 3) := by decide +kernel
theorem dX12_parted_138 : decode cX12_parted 138 = .ok (.iload_n 2, 1) := by decide +kernel
theorem dX12_parted_139 : decode cX12_parted 139 = .ok (.iaload, 1) := by decide +kernel
theorem dX12_parted_140 : decode cX12_parted 140 = .ok (.if_icmp .gt 35, 3) := by decide +kernel
theorem dX12_parted_143 : decode cX12_parted 143 = .ok (.aload_n 0, 1) := by decide +kernel
theorem dX12_parted_144 : decode cX12_parted 144 = .ok (.getfield 29, 3) := by decide +kernel
theorem dX12_parted_147 : decode cX12_parted 147 = .ok (.bipush 14, 2) := by decide +kernel
theorem dX12_parted_149 : decode cX12_parted 149 = .ok (.iload_n 2, 1) := by decide +kernel
theorem dX12_parted_150 : decode cX12_parted 150 = .ok (.imul, 1) := by decide +kernel
theorem dX12_parted_151 : decode cX12_parted 151 = .ok (.iload 4, 2) := by decide +kernel
theorem dX12_parted_153 : decode cX12_parted 153 = .ok (.iadd, 1) := by decide +kernel
theorem dX12_parted_154 : decode cX12_parted 154 = .ok (.aload_n 0, 1) := by decide +kernel
theorem dX12_parted_155 : decode cX12_parted 155 = .ok (.getfield 29, 3) := by decide +kernel
theorem dX12_parted_158 : decode cX12_parted 158 = .ok (.bipush 14, 2) := by decide +kernel
theorem dX12_parted_160 : decode cX12_parted 160 = .ok (.iload_n 1, 1) := by decide +kernel
theorem dX12_parted_161 : decode cX12_parted 161 = .ok (.imul, 1) := by decide +kernel
theorem dX12_parted_162 : decode cX12_parted 162 = .ok (.iload_n 3, 1) := by decide +kernel
theorem dX12_parted_163 : decode cX12_parted 163 = .ok (.iadd, 1) := by decide +kernel
theorem dX12_parted_164 : decode cX12_parted 164 = .ok (.iload 4, 2) := by decide +kernel
theorem dX12_parted_166 : decode cX12_parted 166 = .ok (.iadd, 1) := by decide +kernel
theorem dX12_parted_167 : decode cX12_parted 167 = .ok (.iaload, 1) := by decide +kernel
theorem dX12_parted_168 : decode cX12_parted 168 = .ok (.iastore, 1) := by decide +kernel
theorem dX12_parted_169 : decode cX12_parted 169 = .ok (.iinc 4 1, 3) := by decide +kernel
theorem dX12_parted_172 : decode cX12_parted 172 = .ok (.goto (-40), 3) := by decide +kernel
theorem dX12_parted_175 : decode cX12_parted 175 = .ok (.aload_n 0, 1) := by decide +kernel
theorem dX12_parted_176 : decode cX12_parted 176 = .ok (.getfield 32, 3) := by decide +kernel
theorem dX12_parted_179 : decode cX12_parted 179 = .ok (.iload_n 1, 1) := by decide +kernel
theorem dX12_parted_180 : decode cX12_parted 180 = .ok (.aload_n 0, 1) := by decide +kernel
theorem dX12_parted_181 : decode cX12_parted 181 = .ok (.getfield 26, 3) := by decide +kernel
theorem dX12_parted_184 : decode cX12_parted 184 = .ok (.bipush 14, 2) := by decide +kernel
theorem dX12_parted_186 : decode cX12_parted 186 = .ok (.iload_n 1, 1) := by decide +kernel
theorem dX12_parted_187 : decode cX12_parted 187 = .ok (.imul, 1) := by decide +kernel
theorem dX12_parted_188 : decode cX12_parted 188 = .ok (.aload_n 0, 1) := by decide +kernel
theorem dX12_parted_189 : decode cX12_parted 189 = .ok (.getfield 152, 3) := by decide +kernel
theorem dX12_parted_192 : decode cX12_parted 192 = .ok (.iadd, 1) := by decide +kernel
theorem dX12_parted_193 : decode cX12_parted 193 = .ok (.iaload, 1) := by decide +kernel
theorem dX12_parted_194 : decode cX12_parted 194 = .ok (.iastore, 1) := by decide +kernel
theorem dX12_parted_195 : decode cX12_parted 195 = .ok (.aload_n 0, 1) := by decide +kernel
theorem dX12_parted_196 : decode cX12_parted 196 = .ok (.getfield 23, 3) := by decide +kernel
theorem dX12_parted_199 : decode cX12_parted 199 = .ok (.iload_n 1, 1) := by decide +kernel
theorem dX12_parted_200 : decode cX12_parted 200 = .ok (.aload_n 0, 1) := by decide +kernel
theorem dX12_parted_201 : decode cX12_parted 201 = .ok (.getfield 20, 3) := by decide +kernel
theorem dX12_parted_204 : decode cX12_parted 204 = .ok (.iload_n 1, 1) := by decide +kernel
theorem dX12_parted_205 : decode cX12_parted 205 = .ok (.iaload, 1) := by decide +kernel
theorem dX12_parted_206 : decode cX12_parted 206 = .ok (.ifCond .le 10, 3) := by decide +kernel
theorem dX12_parted_209 : decode cX12_parted 209 = .ok (.aload_n 0, 1) := by decide +kernel
theorem dX12_parted_210 : decode cX12_parted 210 = .ok (.getfield 152, 3) := by decide +kernel
theorem dX12_parted_213 : decode cX12_parted 213 = .ok (.goto 4, 3) := by decide +kernel
theorem dX12_parted_216 : decode cX12_parted 216 = .ok (.iload_n 3, 1) := by decide +kernel
theorem dX12_parted_217 : decode cX12_parted 217 = .ok (.iastore, 1) := by decide +kernel
theorem dX12_parted_218 : decode cX12_parted 218 = .ok (.aload_n 0, 1) := by decide +kernel
theorem dX12_parted_219 : decode cX12_parted 219 = .ok (.getfield 35, 3) := by decide +kernel
theorem dX12_parted_222 : decode cX12_parted 222 = .ok (.iload_n 1, 1) := by decide +kernel
theorem dX12_parted_223 : decode cX12_parted 223 = .ok (.iload_n 2, 1) := by decide +kernel
theorem dX12_parted_224 : decode cX12_parted 224 = .ok (.iastore, 1) := by decide +kernel
theorem dX12_parted_225 : decode cX12_parted 225 = .ok (.iload_n 2, 1) := by decide +kernel
theorem dX12_parted_226 : decode cX12_parted 226 = .ok (.ireturn, 1) := by decide +kernel
def f_X12_parted_p217 (ln : Nat → Nat) (x1 : Int32) (x2 : Int32) (z0 : Int32) (z1 : Int32) (s : dr_S) : Option (Int32 × dr_S) := (dr_wr ln s 32 z1 z0).bind (fun s26 => (dr_wr ln s26 36 x1 x2).bind (fun s27 => some (x2, s27)))
def f_X12_parted_p175 (ln : Nat → Nat) (x1 : Int32) (x2 : Int32) (x3 : Int32) (s : dr_S) : Option (Int32 × dr_S) := (dr_rd ln s 33 ((14 * x1) + (s.2 1200))).bind (fun v23 => (dr_wr ln s 35 x1 v23).bind (fun s24 => (dr_rd ln s24 31 x1).bind (fun v25 => (if v25 ≤ 0 then (f_X12_parted_p217 ln x1 x2 x3 x1 s24) else (f_X12_parted_p217 ln x1 x2 ((s24.2 1200)) x1 s24)))))
def f_X12_parted_p132 (ln : Nat → Nat) : Nat → Int32 → Int32 → Int32 → Int32 → dr_S → Option (Int32 × dr_S)
  | 0, _, _, _, _, _ => none
  | n + 1, x1, x2, x3, x4, s => (dr_rd ln s 32 x2).bind (fun v19 => (if v19 < x4 then (f_X12_parted_p175 ln x1 x2 x3 s) else (dr_rd ln s 34 (((14 * x1) + x3) + x4)).bind (fun v20 => (dr_wr ln s 34 ((14 * x2) + x4) v20).bind (fun s21 => dr_let (x4 + 1) (fun y22 => (f_X12_parted_p132 ln n x1 x2 x3 y22 s21))))))
def f_X12_parted_p77 (ln : Nat → Nat) : Nat → Int32 → Int32 → Int32 → Int32 → dr_S → Option (Int32 × dr_S)
  | 0, _, _, _, _, _ => none
  | n + 1, x1, x2, x3, x4, s => (dr_rd ln s 32 x2).bind (fun v14 => (if v14 ≤ x4 then (dr_rd ln s 31 x1).bind (fun v15 => (if v15 ≤ 0 then (f_X12_parted_p175 ln x1 x2 x3 s) else (f_X12_parted_p132 ln dr_N x1 x2 x3 0 s))) else (dr_rd ln s 33 (((14 * x1) + x3) + x4)).bind (fun v16 => (dr_wr ln s 33 ((14 * x2) + x4) v16).bind (fun s17 => dr_let (x4 + 1) (fun y18 => (f_X12_parted_p77 ln n x1 x2 x3 y18 s17))))))
def f_X12_parted (ln : Nat → Nat) (x1 : Int32) (s : dr_S) : Option (Int32 × dr_S) := dr_bnd (f_X12_spare ln  s) (fun r2 s1 => dr_bndv (f_X12_clears ln r2 s1) (fun s3 => (dr_wz ln s3 30 r2 1).bind (fun s4 => (dr_rd ln s4 31 x1).bind (fun v5 => (dr_wr ln s4 31 r2 v5).bind (fun s6 => (dr_rd ln s6 35 x1).bind (fun v7 => (dr_wr ln s6 35 r2 v7).bind (fun s8 => (dr_rd ln s8 36 x1).bind (fun v9 => (dr_wr ln s8 36 r2 v9).bind (fun s10 => dr_let ((s10.2 1200) + 1) (fun y11 => (dr_rd ln s10 32 x1).bind (fun v12 => (dr_wr ln s10 32 r2 (v12 - y11)).bind (fun s13 => (f_X12_parted_p77 ln dr_N x1 r2 y11 0 s13)))))))))))))
section
variable {p : Program} {l : Launch} {e : Env} {s0 : State} {m : MethodId} {args : Array Value} {below : List Frame} {meth : Method} {c : Code} {A : Nat → Prop} {D : va_G} {cI cZ : ClassId} {ad ln : Nat → Nat} {L : List Nat}
set_option maxHeartbeats 4000000 in
set_option maxRecDepth 20000 in
theorem w_X12_parted_p217 (E : dr_E p (dr_rm 1) s0 m args meth c 0 0 A s0.heap D cI cZ ad L cX12_parted 5 RX12 (some .int)) (hap : dr_ap ad L) (hN : ∀ x ∈ nd_12, x ∈ L) : ∀ (x1 : Int32) (x2 : Int32) (z0 : Int32) (z1 : Int32) (s : dr_S), dr_G p l e (dr_rm 1) s0 m args below meth c 0 0 A s0.heap D cI cZ ad ln L 5 (dr_Zi D cI cZ ad ln L A below args s0 0 0) 217 [(0, .ref (ad 12)), (1, .int x1), (2, .int x2)] [.int z0, .int z1, .ref (ad 32)] s (f_X12_parted_p217 ln x1 x2 z0 z1 s) := by
  intro x1 x2 z0 z1 s
  unfold f_X12_parted_p217
  refine g_iastore E (hN 32 (by decide)) (by decide) rfl dX12_parted_217 (fun s26 => ?_)
  refine g_aload_n E dX12_parted_218 0 rfl ?_
  refine gg_12_35 E (hN 12 (by decide)) dX12_parted_219 ?_
  refine g_iload_n E dX12_parted_222 1 rfl ?_
  refine g_iload_n E dX12_parted_223 2 rfl ?_
  refine g_iastore E (hN 36 (by decide)) (by decide) rfl dX12_parted_224 (fun s27 => ?_)
  refine g_iload_n E dX12_parted_225 2 rfl ?_
  exact g_iret E dX12_parted_226
set_option maxHeartbeats 4000000 in
set_option maxRecDepth 20000 in
theorem w_X12_parted_p175 (E : dr_E p (dr_rm 1) s0 m args meth c 0 0 A s0.heap D cI cZ ad L cX12_parted 5 RX12 (some .int)) (hap : dr_ap ad L) (hN : ∀ x ∈ nd_12, x ∈ L) : ∀ (x1 : Int32) (x2 : Int32) (x3 : Int32) (s : dr_S), dr_G p l e (dr_rm 1) s0 m args below meth c 0 0 A s0.heap D cI cZ ad ln L 5 (dr_Zi D cI cZ ad ln L A below args s0 0 0) 175 [(0, .ref (ad 12)), (1, .int x1), (2, .int x2), (3, .int x3)] [] s (f_X12_parted_p175 ln x1 x2 x3 s) := by
  intro x1 x2 x3 s
  unfold f_X12_parted_p175
  refine g_aload_n E dX12_parted_175 0 rfl ?_
  refine gg_12_32 E (hN 12 (by decide)) dX12_parted_176 ?_
  refine g_iload_n E dX12_parted_179 1 rfl ?_
  refine g_aload_n E dX12_parted_180 0 rfl ?_
  refine gg_12_26 E (hN 12 (by decide)) dX12_parted_181 ?_
  refine g_bipush E (v := 14) dX12_parted_184 (by decide) ?_
  refine g_iload_n E dX12_parted_186 1 rfl ?_
  refine g_imul E dX12_parted_187 ?_
  refine g_aload_n E dX12_parted_188 0 rfl ?_
  refine gg_12_152 E (hN 12 (by decide)) dX12_parted_189 ?_
  refine g_iadd E dX12_parted_192 ?_
  refine g_iaload E (hN 33 (by decide)) (by decide) rfl dX12_parted_193 (fun v23 => ?_)
  refine g_iastore E (hN 35 (by decide)) (by decide) rfl dX12_parted_194 (fun s24 => ?_)
  refine g_aload_n E dX12_parted_195 0 rfl ?_
  refine gg_12_23 E (hN 12 (by decide)) dX12_parted_196 ?_
  refine g_iload_n E dX12_parted_199 1 rfl ?_
  refine g_aload_n E dX12_parted_200 0 rfl ?_
  refine gg_12_20 E (hN 12 (by decide)) dX12_parted_201 ?_
  refine g_iload_n E dX12_parted_204 1 rfl ?_
  refine g_iaload E (hN 31 (by decide)) (by decide) rfl dX12_parted_205 (fun v25 => ?_)
  refine g_if_le E 216 dX12_parted_206 (by decide) ?_ ?_
  · refine g_iload_n E dX12_parted_216 3 rfl ?_
    refine g_sub [0, 1, 2] rfl ?_
    exact w_X12_parted_p217 E hap hN x1 x2 x3 x1 s24
  · refine g_aload_n E dX12_parted_209 0 rfl ?_
    refine gg_12_152 E (hN 12 (by decide)) dX12_parted_210 ?_
    refine g_goto E 217 dX12_parted_213 (by decide) ?_
    refine g_sub [0, 1, 2] rfl ?_
    exact w_X12_parted_p217 E hap hN x1 x2 ((s24.2 1200)) x1 s24
set_option maxHeartbeats 4000000 in
set_option maxRecDepth 20000 in
theorem w_X12_parted_p132 (E : dr_E p (dr_rm 1) s0 m args meth c 0 0 A s0.heap D cI cZ ad L cX12_parted 5 RX12 (some .int)) (hap : dr_ap ad L) (hN : ∀ x ∈ nd_12, x ∈ L) : ∀ (n : Nat) (x1 : Int32) (x2 : Int32) (x3 : Int32) (x4 : Int32) (s : dr_S), dr_G p l e (dr_rm 1) s0 m args below meth c 0 0 A s0.heap D cI cZ ad ln L 5 (dr_Zi D cI cZ ad ln L A below args s0 0 0) 132 [(0, .ref (ad 12)), (1, .int x1), (2, .int x2), (3, .int x3), (4, .int x4)] [] s (f_X12_parted_p132 ln n x1 x2 x3 x4 s) := by
  intro n
  induction n with
  | zero =>
    intro x1 x2 x3 x4 s
    rw [f_X12_parted_p132]
    exact g_none
  | succ n hkb132 =>
    intro x1 x2 x3 x4 s
    rw [f_X12_parted_p132]
    refine g_iload E dX12_parted_132 4 rfl ?_
    refine g_aload_n E dX12_parted_134 0 rfl ?_
    refine gg_12_23 E (hN 12 (by decide)) dX12_parted_135 ?_
    refine g_iload_n E dX12_parted_138 2 rfl ?_
    refine g_iaload E (hN 32 (by decide)) (by decide) rfl dX12_parted_139 (fun v19 => ?_)
    refine g_icmp_gt E 175 dX12_parted_140 (by decide) ?_ ?_
    · refine g_sub [0, 1, 2, 3] rfl ?_
      exact w_X12_parted_p175 E hap hN x1 x2 x3 s
    · refine g_aload_n E dX12_parted_143 0 rfl ?_
      refine gg_12_29 E (hN 12 (by decide)) dX12_parted_144 ?_
      refine g_bipush E (v := 14) dX12_parted_147 (by decide) ?_
      refine g_iload_n E dX12_parted_149 2 rfl ?_
      refine g_imul E dX12_parted_150 ?_
      refine g_iload E dX12_parted_151 4 rfl ?_
      refine g_iadd E dX12_parted_153 ?_
      refine g_aload_n E dX12_parted_154 0 rfl ?_
      refine gg_12_29 E (hN 12 (by decide)) dX12_parted_155 ?_
      refine g_bipush E (v := 14) dX12_parted_158 (by decide) ?_
      refine g_iload_n E dX12_parted_160 1 rfl ?_
      refine g_imul E dX12_parted_161 ?_
      refine g_iload_n E dX12_parted_162 3 rfl ?_
      refine g_iadd E dX12_parted_163 ?_
      refine g_iload E dX12_parted_164 4 rfl ?_
      refine g_iadd E dX12_parted_166 ?_
      refine g_iaload E (hN 34 (by decide)) (by decide) rfl dX12_parted_167 (fun v20 => ?_)
      refine g_iastore E (hN 34 (by decide)) (by decide) rfl dX12_parted_168 (fun s21 => ?_)
      refine g_iinc E (lv' := []) (lv'' := fun y22 => [(4, .int y22), (0, .ref (ad 12)), (1, .int x1), (2, .int x2), (3, .int x3)]) (v := 1) dX12_parted_169 4 rfl (by decide) (by decide) (fun _ => rfl) (fun y22 => ?_)
      refine g_goto E 132 dX12_parted_172 (by decide) ?_
      refine g_sub [1, 2, 3, 4, 0] rfl ?_
      exact hkb132 x1 x2 x3 y22 s21
set_option maxHeartbeats 4000000 in
set_option maxRecDepth 20000 in
theorem w_X12_parted_p77 (E : dr_E p (dr_rm 1) s0 m args meth c 0 0 A s0.heap D cI cZ ad L cX12_parted 5 RX12 (some .int)) (hap : dr_ap ad L) (hN : ∀ x ∈ nd_12, x ∈ L) : ∀ (n : Nat) (x1 : Int32) (x2 : Int32) (x3 : Int32) (x4 : Int32) (s : dr_S), dr_G p l e (dr_rm 1) s0 m args below meth c 0 0 A s0.heap D cI cZ ad ln L 5 (dr_Zi D cI cZ ad ln L A below args s0 0 0) 77 [(0, .ref (ad 12)), (1, .int x1), (2, .int x2), (3, .int x3), (4, .int x4)] [] s (f_X12_parted_p77 ln n x1 x2 x3 x4 s) := by
  intro n
  induction n with
  | zero =>
    intro x1 x2 x3 x4 s
    rw [f_X12_parted_p77]
    exact g_none
  | succ n hkb77 =>
    intro x1 x2 x3 x4 s
    rw [f_X12_parted_p77]
    refine g_iload E dX12_parted_77 4 rfl ?_
    refine g_aload_n E dX12_parted_79 0 rfl ?_
    refine gg_12_23 E (hN 12 (by decide)) dX12_parted_80 ?_
    refine g_iload_n E dX12_parted_83 2 rfl ?_
    refine g_iaload E (hN 32 (by decide)) (by decide) rfl dX12_parted_84 (fun v14 => ?_)
    refine g_icmp_ge E 120 dX12_parted_85 (by decide) ?_ ?_
    · refine g_aload_n E dX12_parted_120 0 rfl ?_
      refine gg_12_20 E (hN 12 (by decide)) dX12_parted_121 ?_
      refine g_iload_n E dX12_parted_124 1 rfl ?_
      refine g_iaload E (hN 31 (by decide)) (by decide) rfl dX12_parted_125 (fun v15 => ?_)
      refine g_if_le E 175 dX12_parted_126 (by decide) ?_ ?_
      · refine g_sub [0, 1, 2, 3] rfl ?_
        exact w_X12_parted_p175 E hap hN x1 x2 x3 s
      · refine g_iconst E (v := 0) dX12_parted_129 (by decide) ?_
        refine g_istore E (lv' := [(4, .int 0), (0, .ref (ad 12)), (1, .int x1), (2, .int x2), (3, .int x3)]) dX12_parted_130 (by decide) rfl ?_
        refine g_sub [1, 2, 3, 4, 0] rfl ?_
        exact w_X12_parted_p132 E hap hN dr_N x1 x2 x3 0 s
    · refine g_aload_n E dX12_parted_88 0 rfl ?_
      refine gg_12_26 E (hN 12 (by decide)) dX12_parted_89 ?_
      refine g_bipush E (v := 14) dX12_parted_92 (by decide) ?_
      refine g_iload_n E dX12_parted_94 2 rfl ?_
      refine g_imul E dX12_parted_95 ?_
      refine g_iload E dX12_parted_96 4 rfl ?_
      refine g_iadd E dX12_parted_98 ?_
      refine g_aload_n E dX12_parted_99 0 rfl ?_
      refine gg_12_26 E (hN 12 (by decide)) dX12_parted_100 ?_
      refine g_bipush E (v := 14) dX12_parted_103 (by decide) ?_
      refine g_iload_n E dX12_parted_105 1 rfl ?_
      refine g_imul E dX12_parted_106 ?_
      refine g_iload_n E dX12_parted_107 3 rfl ?_
      refine g_iadd E dX12_parted_108 ?_
      refine g_iload E dX12_parted_109 4 rfl ?_
      refine g_iadd E dX12_parted_111 ?_
      refine g_iaload E (hN 33 (by decide)) (by decide) rfl dX12_parted_112 (fun v16 => ?_)
      refine g_iastore E (hN 33 (by decide)) (by decide) rfl dX12_parted_113 (fun s17 => ?_)
      refine g_iinc E (lv' := []) (lv'' := fun y18 => [(4, .int y18), (0, .ref (ad 12)), (1, .int x1), (2, .int x2), (3, .int x3)]) (v := 1) dX12_parted_114 4 rfl (by decide) (by decide) (fun _ => rfl) (fun y18 => ?_)
      refine g_goto E 77 dX12_parted_117 (by decide) ?_
      refine g_sub [1, 2, 3, 4, 0] rfl ?_
      exact hkb77 x1 x2 x3 y18 s17
set_option maxHeartbeats 4000000 in
set_option maxRecDepth 20000 in
theorem c_X12_parted (hap : dr_ap ad L) (hN : ∀ x ∈ nd_12, x ∈ L) (x1 : Int32) (s : dr_S) : dr_Mi l D cI cZ ad ln L yX12_parted cX12_parted 5 (some .int) 1 [.ref (ad 12), .int x1] s (f_X12_parted ln x1 s) := by
  refine dr_meti (own := RX12) (by decide) rfl (Nat.le_of_ble_eq_true rfl) hap ?_
  intro p e s0 m args below meth c A E
  unfold f_X12_parted
  refine g_eqL (lv' := [(0, .ref (ad 12)), (1, .int x1)]) rfl ?_
  refine g_aload_n E dX12_parted_0 0 rfl ?_
  refine g_cVi E [] rfl (c_X12_spare hap hN  s) (hN 12 (by decide)) (by decide) rfl rfl mi_X12_spare msl_X12_spare mw_X12_spare rfl ml_12_192 ⟨Nat.le_of_ble_eq_true rfl, Nat.le_of_ble_eq_true rfl⟩ (Nat.le_of_ble_eq_true rfl) dX12_parted_1 (fun r2 s1 => ?_)
  refine g_istore_n E (lv' := [(2, .int r2), (0, .ref (ad 12)), (1, .int x1)]) dX12_parted_4 (by decide) rfl ?_
  refine g_aload_n E dX12_parted_5 1 rfl ?_
  refine g_iload_n E dX12_parted_6 0 rfl ?_
  refine g_cVv E [.int r2] rfl (c_X12_clears hap hN r2 s1) (hN 12 (by decide)) (by decide) rfl rfl mi_X12_clears msl_X12_clears mw_X12_clears rfl ml_12_156 ⟨Nat.le_of_ble_eq_true rfl, Nat.le_of_ble_eq_true rfl⟩ (Nat.le_of_ble_eq_true rfl) dX12_parted_7 (fun s3 => ?_)
  refine g_aload_n E dX12_parted_10 1 rfl ?_
  refine gg_12_17 E (hN 12 (by decide)) dX12_parted_11 ?_
  refine g_iload_n E dX12_parted_14 0 rfl ?_
  refine g_iconst E (v := 1) dX12_parted_15 (by decide) ?_
  refine g_bastore E (hN 30 (by decide)) (by decide) rfl dX12_parted_16 (fun s4 => ?_)
  refine g_aload_n E dX12_parted_17 1 rfl ?_
  refine gg_12_20 E (hN 12 (by decide)) dX12_parted_18 ?_
  refine g_iload_n E dX12_parted_21 0 rfl ?_
  refine g_aload_n E dX12_parted_22 1 rfl ?_
  refine gg_12_20 E (hN 12 (by decide)) dX12_parted_23 ?_
  refine g_iload_n E dX12_parted_26 2 rfl ?_
  refine g_iaload E (hN 31 (by decide)) (by decide) rfl dX12_parted_27 (fun v5 => ?_)
  refine g_iastore E (hN 31 (by decide)) (by decide) rfl dX12_parted_28 (fun s6 => ?_)
  refine g_aload_n E dX12_parted_29 1 rfl ?_
  refine gg_12_32 E (hN 12 (by decide)) dX12_parted_30 ?_
  refine g_iload_n E dX12_parted_33 0 rfl ?_
  refine g_aload_n E dX12_parted_34 1 rfl ?_
  refine gg_12_32 E (hN 12 (by decide)) dX12_parted_35 ?_
  refine g_iload_n E dX12_parted_38 2 rfl ?_
  refine g_iaload E (hN 35 (by decide)) (by decide) rfl dX12_parted_39 (fun v7 => ?_)
  refine g_iastore E (hN 35 (by decide)) (by decide) rfl dX12_parted_40 (fun s8 => ?_)
  refine g_aload_n E dX12_parted_41 1 rfl ?_
  refine gg_12_35 E (hN 12 (by decide)) dX12_parted_42 ?_
  refine g_iload_n E dX12_parted_45 0 rfl ?_
  refine g_aload_n E dX12_parted_46 1 rfl ?_
  refine gg_12_35 E (hN 12 (by decide)) dX12_parted_47 ?_
  refine g_iload_n E dX12_parted_50 2 rfl ?_
  refine g_iaload E (hN 36 (by decide)) (by decide) rfl dX12_parted_51 (fun v9 => ?_)
  refine g_iastore E (hN 36 (by decide)) (by decide) rfl dX12_parted_52 (fun s10 => ?_)
  refine g_aload_n E dX12_parted_53 1 rfl ?_
  refine gg_12_152 E (hN 12 (by decide)) dX12_parted_54 ?_
  refine g_iconst E (v := 1) dX12_parted_57 (by decide) ?_
  refine g_iadd E dX12_parted_58 ?_
  refine g_let (fun y11 => ?_)
  refine g_istore_n E (lv' := [(3, .int y11), (2, .int r2), (0, .ref (ad 12)), (1, .int x1)]) dX12_parted_59 (by decide) rfl ?_
  refine g_aload_n E dX12_parted_60 2 rfl ?_
  refine gg_12_23 E (hN 12 (by decide)) dX12_parted_61 ?_
  refine g_iload_n E dX12_parted_64 1 rfl ?_
  refine g_aload_n E dX12_parted_65 2 rfl ?_
  refine gg_12_23 E (hN 12 (by decide)) dX12_parted_66 ?_
  refine g_iload_n E dX12_parted_69 3 rfl ?_
  refine g_iaload E (hN 32 (by decide)) (by decide) rfl dX12_parted_70 (fun v12 => ?_)
  refine g_iload_n E dX12_parted_71 0 rfl ?_
  refine g_isub E dX12_parted_72 ?_
  refine g_iastore E (hN 32 (by decide)) (by decide) rfl dX12_parted_73 (fun s13 => ?_)
  refine g_iconst E (v := 0) dX12_parted_74 (by decide) ?_
  refine g_istore E (lv' := [(4, .int 0), (3, .int y11), (2, .int r2), (0, .ref (ad 12)), (1, .int x1)]) dX12_parted_75 (by decide) rfl ?_
  refine g_sub [3, 4, 2, 1, 0] rfl ?_
  exact w_X12_parted_p77 E hap hN dr_N x1 r2 y11 0 s13
end

theorem dX12_fault_0 : decode cX12_fault 0 = .ok (.iload_n 1, 1) := by decide +kernel
theorem dX12_fault_1 : decode cX12_fault 1 = .ok (.iconst 0, 1) := by decide +kernel
theorem dX12_fault_2 : decode cX12_fault 2 = .ok (.iconst 3, 1) := by decide +kernel
theorem dX12_fault_3 : decode cX12_fault 3 = .ok (.invokestatic 160, 3) := by decide +kernel
theorem dX12_fault_6 : decode cX12_fault 6 = .ok (.ifCond .eq 21, 3) := by decide +kernel
theorem dX12_fault_9 : decode cX12_fault 9 = .ok (.aload_n 0, 1) := by decide +kernel
theorem dX12_fault_10 : decode cX12_fault 10 = .ok (.getfield 44, 3) := by decide +kernel
theorem dX12_fault_13 : decode cX12_fault 13 = .ok (.iload_n 1, 1) := by decide +kernel
theorem dX12_fault_14 : decode cX12_fault 14 = .ok (.iaload, 1) := by decide +kernel
theorem dX12_fault_15 : decode cX12_fault 15 = .ok (.ifCond .ne 12, 3) := by decide +kernel
theorem dX12_fault_18 : decode cX12_fault 18 = .ok (.iload_n 2, 1) := by decide +kernel
theorem dX12_fault_19 : decode cX12_fault 19 = .ok (.iconst 0, 1) := by decide +kernel
theorem dX12_fault_20 : decode cX12_fault 20 = .ok (.iconst 2, 1) := by decide +kernel
theorem dX12_fault_21 : decode cX12_fault 21 = .ok (.invokestatic 160, 3) := by decide +kernel
theorem dX12_fault_24 : decode cX12_fault 24 = .ok (.ifCond .ne 5, 3) := by decide +kernel
theorem dX12_fault_27 : decode cX12_fault 27 = .ok (.iconst 0, 1) := by decide +kernel
theorem dX12_fault_28 : decode cX12_fault 28 = .ok (.ireturn, 1) := by decide +kernel
theorem dX12_fault_29 : decode cX12_fault 29 = .ok (.aload_n 0, 1) := by decide +kernel
theorem dX12_fault_30 : decode cX12_fault 30 = .ok (.getfield 41, 3) := by decide +kernel
theorem dX12_fault_33 : decode cX12_fault 33 = .ok (.iload_n 1, 1) := by decide +kernel
theorem dX12_fault_34 : decode cX12_fault 34 = .ok (.iload_n 2, 1) := by decide +kernel
theorem dX12_fault_35 : decode cX12_fault 35 = .ok (.iastore, 1) := by decide +kernel
theorem dX12_fault_36 : decode cX12_fault 36 = .ok (.iconst 1, 1) := by decide +kernel
theorem dX12_fault_37 : decode cX12_fault 37 = .ok (.ireturn, 1) := by decide +kernel
def f_X12_fault (ln : Nat → Nat) (x1 : Int32) (x2 : Int32) (s : dr_S) : Option (Int32 × dr_S) := dr_bnd (f_X12_in ln x1 0 3 s) (fun r2 s1 => (if r2 = 0 then some (0, s1) else (dr_rd ln s1 39 x1).bind (fun v3 => (if v3 = 0 then dr_bnd (f_X12_in ln x2 0 2 s1) (fun r5 s4 => (if r5 = 0 then some (0, s4) else (dr_wr ln s4 38 x1 x2).bind (fun s6 => some (1, s6)))) else some (0, s1)))))
section
variable {p : Program} {l : Launch} {e : Env} {s0 : State} {m : MethodId} {args : Array Value} {below : List Frame} {meth : Method} {c : Code} {A : Nat → Prop} {D : va_G} {cI cZ : ClassId} {ad ln : Nat → Nat} {L : List Nat}
set_option maxHeartbeats 4000000 in
set_option maxRecDepth 20000 in
theorem c_X12_fault (hap : dr_ap ad L) (hN : ∀ x ∈ nd_12, x ∈ L) (x1 : Int32) (x2 : Int32) (s : dr_S) : dr_Mi l D cI cZ ad ln L yX12_fault cX12_fault 3 (some .boolean) 1 [.ref (ad 12), .int x1, .int x2] s (f_X12_fault ln x1 x2 s) := by
  refine dr_meti (own := RX12) (by decide) rfl (Nat.le_of_ble_eq_true rfl) hap ?_
  intro p e s0 m args below meth c A E
  unfold f_X12_fault
  refine g_eqL (lv' := [(0, .ref (ad 12)), (1, .int x1), (2, .int x2)]) rfl ?_
  refine g_iload_n E dX12_fault_0 1 rfl ?_
  refine g_iconst E (v := 0) dX12_fault_1 (by decide) ?_
  refine g_iconst E (v := 3) dX12_fault_2 (by decide) ?_
  refine g_cSi E [.int x1, .int 0, .int 3] rfl (c_X12_in hap hN x1 0 3 s) ms_X12_in mw_X12_in rfl ml_12_160 ⟨Nat.le_of_ble_eq_true rfl, Nat.le_of_ble_eq_true rfl⟩ (Nat.le_of_ble_eq_true rfl) dX12_fault_3 (fun r2 s1 => ?_)
  refine g_if_eq E 27 dX12_fault_6 (by decide) ?_ ?_
  · refine g_iconst E (v := 0) dX12_fault_27 (by decide) ?_
    exact g_zret E dX12_fault_28 (Or.inl rfl)
  · refine g_aload_n E dX12_fault_9 0 rfl ?_
    refine gg_12_44 E (hN 12 (by decide)) dX12_fault_10 ?_
    refine g_iload_n E dX12_fault_13 1 rfl ?_
    refine g_iaload E (hN 39 (by decide)) (by decide) rfl dX12_fault_14 (fun v3 => ?_)
    refine g_if_ne E 27 dX12_fault_15 (by decide) ?_ ?_
    · refine g_iconst E (v := 0) dX12_fault_27 (by decide) ?_
      exact g_zret E dX12_fault_28 (Or.inl rfl)
    · refine g_iload_n E dX12_fault_18 2 rfl ?_
      refine g_iconst E (v := 0) dX12_fault_19 (by decide) ?_
      refine g_iconst E (v := 2) dX12_fault_20 (by decide) ?_
      refine g_cSi E [.int x2, .int 0, .int 2] rfl (c_X12_in hap hN x2 0 2 s1) ms_X12_in mw_X12_in rfl ml_12_160 ⟨Nat.le_of_ble_eq_true rfl, Nat.le_of_ble_eq_true rfl⟩ (Nat.le_of_ble_eq_true rfl) dX12_fault_21 (fun r5 s4 => ?_)
      refine g_if_ne E 29 dX12_fault_24 (by decide) ?_ ?_
      · refine g_aload_n E dX12_fault_29 0 rfl ?_
        refine gg_12_41 E (hN 12 (by decide)) dX12_fault_30 ?_
        refine g_iload_n E dX12_fault_33 1 rfl ?_
        refine g_iload_n E dX12_fault_34 2 rfl ?_
        refine g_iastore E (hN 38 (by decide)) (by decide) rfl dX12_fault_35 (fun s6 => ?_)
        refine g_iconst E (v := 1) dX12_fault_36 (by decide) ?_
        exact g_zret E dX12_fault_37 (Or.inr rfl)
      · refine g_iconst E (v := 0) dX12_fault_27 (by decide) ?_
        exact g_zret E dX12_fault_28 (Or.inl rfl)
end

theorem dX12_begin_0 : decode cX12_begin 0 = .ok (.iload_n 1, 1) := by decide +kernel
theorem dX12_begin_1 : decode cX12_begin 1 = .ok (.iconst 0, 1) := by decide +kernel
theorem dX12_begin_2 : decode cX12_begin 2 = .ok (.iconst 3, 1) := by decide +kernel
theorem dX12_begin_3 : decode cX12_begin 3 = .ok (.invokestatic 160, 3) := by decide +kernel
theorem dX12_begin_6 : decode cX12_begin 6 = .ok (.ifCond .eq 37, 3) := by decide +kernel
theorem dX12_begin_9 : decode cX12_begin 9 = .ok (.aload_n 0, 1) := by decide +kernel
theorem dX12_begin_10 : decode cX12_begin 10 = .ok (.getfield 44, 3) := by decide +kernel
theorem dX12_begin_13 : decode cX12_begin 13 = .ok (.iload_n 1, 1) := by decide +kernel
theorem dX12_begin_14 : decode cX12_begin 14 = .ok (.iaload, 1) := by decide +kernel
theorem dX12_begin_15 : decode cX12_begin 15 = .ok (.ifCond .ne 28, 3) := by decide +kernel
theorem dX12_begin_18 : decode cX12_begin 18 = .ok (.iload_n 2, 1) := by decide +kernel
theorem dX12_begin_19 : decode cX12_begin 19 = .ok (.iconst 0, 1) := by decide +kernel
theorem dX12_begin_20 : decode cX12_begin 20 = .ok (.iconst 2, 1) := by decide +kernel
theorem dX12_begin_21 : decode cX12_begin 21 = .ok (.invokestatic 160, 3) := by decide +kernel
theorem dX12_begin_24 : decode cX12_begin 24 = .ok (.ifCond .eq 19, 3) := by decide +kernel
theorem dX12_begin_27 : decode cX12_begin 27 = .ok (.iload_n 3, 1) := by decide +kernel
theorem dX12_begin_28 : decode cX12_begin 28 = .ok (.invokestatic 185, 3) := by decide +kernel
theorem dX12_begin_31 : decode cX12_begin 31 = .ok (.ifCond .eq 12, 3) := by decide +kernel
theorem dX12_begin_34 : decode cX12_begin 34 = .ok (.aload_n 0, 1) := by decide +kernel
theorem dX12_begin_35 : decode cX12_begin 35 = .ok (.getfield 175, 3) := by decide +kernel
theorem dX12_begin_38 : decode cX12_begin 38 = .ok (.bipush 120, 2) := by decide +kernel
theorem dX12_begin_40 : decode cX12_begin 40 = .ok (.if_icmp .ne 5, 3) := by decide +kernel
theorem dX12_begin_43 : decode cX12_begin 43 = .ok (.iconst (-1), 1) := by decide +kernel
theorem dX12_begin_44 : decode cX12_begin 44 = .ok (.ireturn, 1) := by decide +kernel
theorem dX12_begin_45 : decode cX12_begin 45 = .ok (.iload_n 2, 1) := by decide +kernel
theorem dX12_begin_46 : decode cX12_begin 46 = .ok (.iconst 1, 1) := by decide +kernel
theorem dX12_begin_47 : decode cX12_begin 47 = .ok (.if_icmp .ne 18, 3) := by decide +kernel
theorem dX12_begin_50 : decode cX12_begin 50 = .ok (.sipush 256, 3) := by decide +kernel
theorem dX12_begin_53 : decode cX12_begin 53 = .ok (.aload_n 0, 1) := by decide +kernel
theorem dX12_begin_54 : decode cX12_begin 54 = .ok (.invokevirtual 196, 3) := by decide +kernel
theorem dX12_begin_57 : decode cX12_begin 57 = .ok (.isub, 1) := by decide +kernel
theorem dX12_begin_58 : decode cX12_begin 58 = .ok (.bipush 60, 2) := by decide +kernel
theorem dX12_begin_60 : decode cX12_begin 60 = .ok (.if_icmp .ge 5, 3) := by decide +kernel
theorem dX12_begin_63 : decode cX12_begin 63 = .ok (.iconst (-1), 1) := by decide +kernel
theorem dX12_begin_64 : decode cX12_begin 64 = .ok (.ireturn, 1) := by decide +kernel
theorem dX12_begin_65 : decode cX12_begin 65 = .ok (.aload_n 0, 1) := by decide +kernel
theorem dX12_begin_66 : decode cX12_begin 66 = .ok (.getfield 77, 3) := by decide +kernel
theorem dX12_begin_69 : decode cX12_begin 69 = .ok (.aload_n 0, 1) := by decide +kernel
theorem dX12_begin_70 : decode cX12_begin 70 = .ok (.getfield 175, 3) := by decide +kernel
theorem dX12_begin_73 : decode cX12_begin 73 = .ok (.iload_n 2, 1) := by decide +kernel
theorem dX12_begin_74 : decode cX12_begin 74 = .ok (.iastore, 1) := by decide +kernel
theorem dX12_begin_75 : decode cX12_begin 75 = .ok (.aload_n 0, 1) := by decide +kernel
theorem dX12_begin_76 : decode cX12_begin 76 = .ok (.getfield 80, 3) := by decide +kernel
theorem dX12_begin_79 : decode cX12_begin 79 = .ok (.aload_n 0, 1) := by decide +kernel
theorem dX12_begin_80 : decode cX12_begin 80 = .ok (.getfield 175, 3) := by decide +kernel
theorem dX12_begin_83 : decode cX12_begin 83 = .ok (.iload_n 3, 1) := by decide +kernel
theorem dX12_begin_84 : decode cX12_begin 84 = .ok (.iastore, 1) := by decide +kernel
theorem dX12_begin_85 : decode cX12_begin 85 = .ok (.aload_n 0, 1) := by decide +kernel
theorem dX12_begin_86 : decode cX12_begin 86 = .ok (.getfield 83, 3) := by decide +kernel
theorem dX12_begin_89 : decode cX12_begin 89 = .ok (.aload_n 0, 1) := by decide +kernel
theorem dX12_begin_90 : decode cX12_begin 90 = .ok (.getfield 175, 3) := by decide +kernel
theorem dX12_begin_93 : decode cX12_begin 93 = .ok (.iconst (-1), 1) := by decide +kernel
theorem dX12_begin_94 : decode cX12_begin 94 = .ok (.iastore, 1) := by decide +kernel
theorem dX12_begin_95 : decode cX12_begin 95 = .ok (.aload_n 0, 1) := by decide +kernel
theorem dX12_begin_96 : decode cX12_begin 96 = .ok (.getfield 86, 3) := by decide +kernel
theorem dX12_begin_99 : decode cX12_begin 99 = .ok (.aload_n 0, 1) := by decide +kernel
theorem dX12_begin_100 : decode cX12_begin 100 = .ok (.getfield 175, 3) := by decide +kernel
theorem dX12_begin_103 : decode cX12_begin 103 = .ok (.aload_n 0, 1) := by decide +kernel
theorem dX12_begin_104 : decode cX12_begin 104 = .ok (.getfield 199, 3) := by decide +kernel
theorem dX12_begin_107 : decode cX12_begin 107 = .ok (.iastore, 1) := by decide +kernel
theorem dX12_begin_108 : decode cX12_begin 108 = .ok (.aload_n 0, 1) := by decide +kernel
theorem dX12_begin_109 : decode cX12_begin 109 = .ok (.getfield 89, 3) := by decide +kernel
theorem dX12_begin_112 : decode cX12_begin 112 = .ok (.aload_n 0, 1) := by decide +kernel
theorem dX12_begin_113 : decode cX12_begin 113 = .ok (.getfield 175, 3) := by decide +kernel
theorem dX12_begin_116 : decode cX12_begin 116 = .ok (.iconst (-1), 1) := by decide +kernel
theorem dX12_begin_117 : decode cX12_begin 117 = .ok (.iastore, 1) := by decide +kernel
theorem dX12_begin_118 : decode cX12_begin 118 = .ok (.aload_n 0, 1) := by decide +kernel
theorem dX12_begin_119 : decode cX12_begin 119 = .ok (.getfield 50, 3) := by decide +kernel
theorem dX12_begin_122 : decode cX12_begin 122 = .ok (.iload_n 1, 1) := by decide +kernel
theorem dX12_begin_123 : decode cX12_begin 123 = .ok (.aload_n 0, 1) := by decide +kernel
theorem dX12_begin_124 : decode cX12_begin 124 = .ok (.getfield 175, 3) := by decide +kernel
theorem dX12_begin_127 : decode cX12_begin 127 = .ok (.iastore, 1) := by decide +kernel
theorem dX12_begin_128 : decode cX12_begin 128 = .ok (.aload_n 0, 1) := by decide +kernel
theorem dX12_begin_129 : decode cX12_begin 129 = .ok (.getfield 44, 3) := by decide +kernel
theorem dX12_begin_132 : decode cX12_begin 132 = .ok (.iload_n 1, 1) := by decide +kernel
theorem dX12_begin_133 : decode cX12_begin 133 = .ok (.iconst 1, 1) := by decide +kernel
theorem dX12_begin_134 : decode cX12_begin 134 = .ok (.iastore, 1) := by decide +kernel
theorem dX12_begin_135 : decode cX12_begin 135 = .ok (.aload_n 0, 1) := by decide +kernel
theorem dX12_begin_136 : decode cX12_begin 136 = .ok (.getfield 47, 3) := by decide +kernel
theorem dX12_begin_139 : decode cX12_begin 139 = .ok (.iload_n 1, 1) := by decide +kernel
theorem dX12_begin_140 : decode cX12_begin 140 = .ok (.aload_n 0, 1) := by decide +kernel
theorem dX12_begin_141 : decode cX12_begin 141 = .ok (.getfield 202, 3) := by decide +kernel
theorem dX12_begin_144 : decode cX12_begin 144 = .ok (.iastore, 1) := by decide +kernel
theorem dX12_begin_145 : decode cX12_begin 145 = .ok (.aload_n 0, 1) := by decide +kernel
theorem dX12_begin_146 : decode cX12_begin 146 = .ok (.getfield 56, 3) := by decide +kernel
theorem dX12_begin_149 : decode cX12_begin 149 = .ok (.iload_n 1, 1) := by decide +kernel
theorem dX12_begin_150 : decode cX12_begin 150 = .ok (.iconst (-1), 1) := by decide +kernel
theorem dX12_begin_151 : decode cX12_begin 151 = .ok (.iastore, 1) := by decide +kernel
theorem dX12_begin_152 : decode cX12_begin 152 = .ok (.iconst 0, 1) := by decide +kernel
theorem dX12_begin_153 : decode cX12_begin 153 = .ok (.istore 4, 2) := by decide +kernel
theorem dX12_begin_155 : decode cX12_begin 155 = .ok (.iload 4, 2) := by decide +kernel
theorem dX12_begin_157 : decode cX12_begin 157 = .ok (.bipush 64, 2) := by decide +kernel
theorem dX12_begin_159 : decode cX12_begin 159 = .ok (.if_icmp .ge 22, 3) := by decide +kernel
theorem dX12_begin_162 : decode cX12_begin 162 = .ok (.aload_n 0, 1) := by decide +kernel
theorem dX12_begin_163 : decode cX12_begin 163 = .ok (.getfield 59, 3) := by decide +kernel
theorem dX12_begin_166 : decode cX12_begin 166 = .ok (.bipush 64, 2) := by decide +kernel
theorem dX12_begin_168 : decode cX12_begin 168 = .ok (.iload_n 1, 1) := by decide +kernel
theorem dX12_begin_169 : decode cX12_begin 169 = .ok (.imul, 1) := by decide +kernel
theorem dX12_begin_170 : decode cX12_begin 170 = .ok (.iload 4, 2) := by decide +kernel
theorem dX12_begin_172 : decode cX12_begin 172 = .ok (.iadd, 1) := by decide +kernel
theorem dX12_begin_173 : decode cX12_begin 173 = .ok (.iconst (-1), 1) := by decide +kernel
theorem dX12_begin_174 : decode cX12_begin 174 = .ok (.iastore, 1) := by decide +kernel
theorem dX12_begin_175 : decode cX12_begin 175 = .ok (.iinc 4 1, 3) := by decide +kernel
theorem dX12_begin_178 : decode cX12_begin 178 = .ok (.goto (-23), 3) := by decide +kernel
theorem dX12_begin_181 : decode cX12_begin 181 = .ok (.aload_n 0, 1) := by decide +kernel
theorem dX12_begin_182 : decode cX12_begin 182 = .ok (.dup, 1) := by decide +kernel
theorem dX12_begin_183 : decode cX12_begin 183 = .ok (.getfield 175, 3) := by decide +kernel
theorem dX12_begin_186 : decode cX12_begin 186 = .ok (.iconst 1, 1) := by decide +kernel
theorem dX12_begin_187 : decode cX12_begin 187 = .ok (.iadd, 1) := by decide +kernel
theorem dX12_begin_188 : decode cX12_begin 188 = .ok (.putfield 175, 3) := by decide +kernel
theorem dX12_begin_191 : decode cX12_begin 191 = .ok (.aload_n 0, 1) := by decide +kernel
theorem dX12_begin_192 : decode cX12_begin 192 = .ok (.getfield 175, 3) := by decide +kernel
theorem dX12_begin_195 : decode cX12_begin 195 = .ok (.iconst 1, 1) := by decide +kernel
theorem dX12_begin_196 : decode cX12_begin 196 = .ok (.isub, 1) := by decide +kernel
theorem dX12_begin_197 : decode cX12_begin 197 = .ok (.ireturn, 1) := by decide +kernel
def f_X12_begin_p155 (ln : Nat → Nat) : Nat → Int32 → Int32 → dr_S → Option (Int32 × dr_S)
  | 0, _, _, _ => none
  | n + 1, x1, x4, s => (if ((64 : Int32) ≤ x4 : Prop) then dr_letS (dr_pf s 1226 ((s.2 1226) + 1)) (fun s19 => some (((s19.2 1226) - 1), s19)) else (dr_wr ln s 44 ((64 * x1) + x4) (-1)).bind (fun s20 => dr_let (x4 + 1) (fun y21 => (f_X12_begin_p155 ln n x1 y21 s20))))
def f_X12_begin_p65 (ln : Nat → Nat) (x1 : Int32) (x2 : Int32) (x3 : Int32) (s : dr_S) : Option (Int32 × dr_S) := (dr_wr ln s 50 (s.2 1226) x2).bind (fun s10 => (dr_wr ln s10 51 (s10.2 1226) x3).bind (fun s11 => (dr_wr ln s11 52 (s11.2 1226) (-1)).bind (fun s12 => (dr_wr ln s12 53 (s12.2 1226) (s12.2 1204)).bind (fun s13 => (dr_wr ln s13 54 (s13.2 1226) (-1)).bind (fun s14 => (dr_wr ln s14 41 x1 (s14.2 1226)).bind (fun s15 => (dr_wr ln s15 39 x1 1).bind (fun s16 => (dr_wr ln s16 40 x1 (s16.2 1205)).bind (fun s17 => (dr_wr ln s17 43 x1 (-1)).bind (fun s18 => (f_X12_begin_p155 ln dr_N x1 0 s18))))))))))
def f_X12_begin (ln : Nat → Nat) (x1 : Int32) (x2 : Int32) (x3 : Int32) (s : dr_S) : Option (Int32 × dr_S) := dr_bnd (f_X12_in ln x1 0 3 s) (fun r2 s1 => (if r2 = 0 then some ((-1), s1) else (dr_rd ln s1 39 x1).bind (fun v3 => (if v3 = 0 then dr_bnd (f_X12_in ln x2 0 2 s1) (fun r5 s4 => (if r5 = 0 then some ((-1), s4) else dr_bnd (f_X12_isHeading ln x3 s4) (fun r7 s6 => (if r7 = 0 then some ((-1), s6) else (if (s6.2 1226) = 120 then some ((-1), s6) else (if x2 = 1 then dr_bnd (f_X12_used ln  s6) (fun r9 s8 => (if ((60 : Int32) ≤ (256 - r9) : Prop) then (f_X12_begin_p65 ln x1 x2 x3 s8) else some ((-1), s8))) else (f_X12_begin_p65 ln x1 x2 x3 s6))))))) else some ((-1), s1)))))
section
variable {p : Program} {l : Launch} {e : Env} {s0 : State} {m : MethodId} {args : Array Value} {below : List Frame} {meth : Method} {c : Code} {A : Nat → Prop} {D : va_G} {cI cZ : ClassId} {ad ln : Nat → Nat} {L : List Nat}
set_option maxHeartbeats 4000000 in
set_option maxRecDepth 20000 in
theorem w_X12_begin_p155 (E : dr_E p (dr_rm 2) s0 m args meth c 0 0 A s0.heap D cI cZ ad L cX12_begin 5 RX12 (some .int)) (hap : dr_ap ad L) (hN : ∀ x ∈ nd_12, x ∈ L) : ∀ (n : Nat) (x1 : Int32) (x4 : Int32) (s : dr_S), dr_G p l e (dr_rm 2) s0 m args below meth c 0 0 A s0.heap D cI cZ ad ln L 5 (dr_Zi D cI cZ ad ln L A below args s0 0 0) 155 [(0, .ref (ad 12)), (1, .int x1), (4, .int x4)] [] s (f_X12_begin_p155 ln n x1 x4 s) := by
  intro n
  induction n with
  | zero =>
    intro x1 x4 s
    rw [f_X12_begin_p155]
    exact g_none
  | succ n hkb155 =>
    intro x1 x4 s
    rw [f_X12_begin_p155]
    refine g_iload E dX12_begin_155 2 rfl ?_
    refine g_bipush E (v := 64) dX12_begin_157 (by decide) ?_
    refine g_icmp_ge E 181 dX12_begin_159 (by decide) ?_ ?_
    · refine g_aload_n E dX12_begin_181 0 rfl ?_
      refine g_dup E dX12_begin_182 rfl ?_
      refine gg_12_175 E (hN 12 (by decide)) dX12_begin_183 ?_
      refine g_iconst E (v := 1) dX12_begin_186 (by decide) ?_
      refine g_iadd E dX12_begin_187 ?_
      refine gp_12_175 E (hN 12 (by decide)) dX12_begin_188 (fun s19 => ?_)
      refine g_aload_n E dX12_begin_191 0 rfl ?_
      refine gg_12_175 E (hN 12 (by decide)) dX12_begin_192 ?_
      refine g_iconst E (v := 1) dX12_begin_195 (by decide) ?_
      refine g_isub E dX12_begin_196 ?_
      exact g_iret E dX12_begin_197
    · refine g_aload_n E dX12_begin_162 0 rfl ?_
      refine gg_12_59 E (hN 12 (by decide)) dX12_begin_163 ?_
      refine g_bipush E (v := 64) dX12_begin_166 (by decide) ?_
      refine g_iload_n E dX12_begin_168 1 rfl ?_
      refine g_imul E dX12_begin_169 ?_
      refine g_iload E dX12_begin_170 2 rfl ?_
      refine g_iadd E dX12_begin_172 ?_
      refine g_iconst E (v := (-1)) dX12_begin_173 (by decide) ?_
      refine g_iastore E (hN 44 (by decide)) (by decide) rfl dX12_begin_174 (fun s20 => ?_)
      refine g_iinc E (lv' := []) (lv'' := fun y21 => [(4, .int y21), (0, .ref (ad 12)), (1, .int x1)]) (v := 1) dX12_begin_175 2 rfl (by decide) (by decide) (fun _ => rfl) (fun y21 => ?_)
      refine g_goto E 155 dX12_begin_178 (by decide) ?_
      refine g_sub [1, 2, 0] rfl ?_
      exact hkb155 x1 y21 s20
set_option maxHeartbeats 4000000 in
set_option maxRecDepth 20000 in
theorem w_X12_begin_p65 (E : dr_E p (dr_rm 2) s0 m args meth c 0 0 A s0.heap D cI cZ ad L cX12_begin 5 RX12 (some .int)) (hap : dr_ap ad L) (hN : ∀ x ∈ nd_12, x ∈ L) : ∀ (x1 : Int32) (x2 : Int32) (x3 : Int32) (s : dr_S), dr_G p l e (dr_rm 2) s0 m args below meth c 0 0 A s0.heap D cI cZ ad ln L 5 (dr_Zi D cI cZ ad ln L A below args s0 0 0) 65 [(0, .ref (ad 12)), (1, .int x1), (2, .int x2), (3, .int x3)] [] s (f_X12_begin_p65 ln x1 x2 x3 s) := by
  intro x1 x2 x3 s
  unfold f_X12_begin_p65
  refine g_aload_n E dX12_begin_65 0 rfl ?_
  refine gg_12_77 E (hN 12 (by decide)) dX12_begin_66 ?_
  refine g_aload_n E dX12_begin_69 0 rfl ?_
  refine gg_12_175 E (hN 12 (by decide)) dX12_begin_70 ?_
  refine g_iload_n E dX12_begin_73 2 rfl ?_
  refine g_iastore E (hN 50 (by decide)) (by decide) rfl dX12_begin_74 (fun s10 => ?_)
  refine g_aload_n E dX12_begin_75 0 rfl ?_
  refine gg_12_80 E (hN 12 (by decide)) dX12_begin_76 ?_
  refine g_aload_n E dX12_begin_79 0 rfl ?_
  refine gg_12_175 E (hN 12 (by decide)) dX12_begin_80 ?_
  refine g_iload_n E dX12_begin_83 3 rfl ?_
  refine g_iastore E (hN 51 (by decide)) (by decide) rfl dX12_begin_84 (fun s11 => ?_)
  refine g_aload_n E dX12_begin_85 0 rfl ?_
  refine gg_12_83 E (hN 12 (by decide)) dX12_begin_86 ?_
  refine g_aload_n E dX12_begin_89 0 rfl ?_
  refine gg_12_175 E (hN 12 (by decide)) dX12_begin_90 ?_
  refine g_iconst E (v := (-1)) dX12_begin_93 (by decide) ?_
  refine g_iastore E (hN 52 (by decide)) (by decide) rfl dX12_begin_94 (fun s12 => ?_)
  refine g_aload_n E dX12_begin_95 0 rfl ?_
  refine gg_12_86 E (hN 12 (by decide)) dX12_begin_96 ?_
  refine g_aload_n E dX12_begin_99 0 rfl ?_
  refine gg_12_175 E (hN 12 (by decide)) dX12_begin_100 ?_
  refine g_aload_n E dX12_begin_103 0 rfl ?_
  refine gg_12_199 E (hN 12 (by decide)) dX12_begin_104 ?_
  refine g_iastore E (hN 53 (by decide)) (by decide) rfl dX12_begin_107 (fun s13 => ?_)
  refine g_aload_n E dX12_begin_108 0 rfl ?_
  refine gg_12_89 E (hN 12 (by decide)) dX12_begin_109 ?_
  refine g_aload_n E dX12_begin_112 0 rfl ?_
  refine gg_12_175 E (hN 12 (by decide)) dX12_begin_113 ?_
  refine g_iconst E (v := (-1)) dX12_begin_116 (by decide) ?_
  refine g_iastore E (hN 54 (by decide)) (by decide) rfl dX12_begin_117 (fun s14 => ?_)
  refine g_aload_n E dX12_begin_118 0 rfl ?_
  refine gg_12_50 E (hN 12 (by decide)) dX12_begin_119 ?_
  refine g_iload_n E dX12_begin_122 1 rfl ?_
  refine g_aload_n E dX12_begin_123 0 rfl ?_
  refine gg_12_175 E (hN 12 (by decide)) dX12_begin_124 ?_
  refine g_iastore E (hN 41 (by decide)) (by decide) rfl dX12_begin_127 (fun s15 => ?_)
  refine g_aload_n E dX12_begin_128 0 rfl ?_
  refine gg_12_44 E (hN 12 (by decide)) dX12_begin_129 ?_
  refine g_iload_n E dX12_begin_132 1 rfl ?_
  refine g_iconst E (v := 1) dX12_begin_133 (by decide) ?_
  refine g_iastore E (hN 39 (by decide)) (by decide) rfl dX12_begin_134 (fun s16 => ?_)
  refine g_aload_n E dX12_begin_135 0 rfl ?_
  refine gg_12_47 E (hN 12 (by decide)) dX12_begin_136 ?_
  refine g_iload_n E dX12_begin_139 1 rfl ?_
  refine g_aload_n E dX12_begin_140 0 rfl ?_
  refine gg_12_202 E (hN 12 (by decide)) dX12_begin_141 ?_
  refine g_iastore E (hN 40 (by decide)) (by decide) rfl dX12_begin_144 (fun s17 => ?_)
  refine g_aload_n E dX12_begin_145 0 rfl ?_
  refine gg_12_56 E (hN 12 (by decide)) dX12_begin_146 ?_
  refine g_iload_n E dX12_begin_149 1 rfl ?_
  refine g_iconst E (v := (-1)) dX12_begin_150 (by decide) ?_
  refine g_iastore E (hN 43 (by decide)) (by decide) rfl dX12_begin_151 (fun s18 => ?_)
  refine g_iconst E (v := 0) dX12_begin_152 (by decide) ?_
  refine g_istore E (lv' := [(4, .int 0), (0, .ref (ad 12)), (1, .int x1), (2, .int x2), (3, .int x3)]) dX12_begin_153 (by decide) rfl ?_
  refine g_sub [1, 2, 0] rfl ?_
  exact w_X12_begin_p155 E hap hN dr_N x1 0 s18
set_option maxHeartbeats 4000000 in
set_option maxRecDepth 20000 in
theorem c_X12_begin (hap : dr_ap ad L) (hN : ∀ x ∈ nd_12, x ∈ L) (x1 : Int32) (x2 : Int32) (x3 : Int32) (s : dr_S) : dr_Mi l D cI cZ ad ln L yX12_begin cX12_begin 5 (some .int) 2 [.ref (ad 12), .int x1, .int x2, .int x3] s (f_X12_begin ln x1 x2 x3 s) := by
  refine dr_meti (own := RX12) (by decide) rfl (Nat.le_of_ble_eq_true rfl) hap ?_
  intro p e s0 m args below meth c A E
  unfold f_X12_begin
  refine g_eqL (lv' := [(0, .ref (ad 12)), (1, .int x1), (2, .int x2), (3, .int x3)]) rfl ?_
  refine g_iload_n E dX12_begin_0 1 rfl ?_
  refine g_iconst E (v := 0) dX12_begin_1 (by decide) ?_
  refine g_iconst E (v := 3) dX12_begin_2 (by decide) ?_
  refine g_cSi E [.int x1, .int 0, .int 3] rfl (c_X12_in hap hN x1 0 3 s) ms_X12_in mw_X12_in rfl ml_12_160 ⟨Nat.le_of_ble_eq_true rfl, Nat.le_of_ble_eq_true rfl⟩ (Nat.le_of_ble_eq_true rfl) dX12_begin_3 (fun r2 s1 => ?_)
  refine g_if_eq E 43 dX12_begin_6 (by decide) ?_ ?_
  · refine g_iconst E (v := (-1)) dX12_begin_43 (by decide) ?_
    exact g_iret E dX12_begin_44
  · refine g_aload_n E dX12_begin_9 0 rfl ?_
    refine gg_12_44 E (hN 12 (by decide)) dX12_begin_10 ?_
    refine g_iload_n E dX12_begin_13 1 rfl ?_
    refine g_iaload E (hN 39 (by decide)) (by decide) rfl dX12_begin_14 (fun v3 => ?_)
    refine g_if_ne E 43 dX12_begin_15 (by decide) ?_ ?_
    · refine g_iconst E (v := (-1)) dX12_begin_43 (by decide) ?_
      exact g_iret E dX12_begin_44
    · refine g_iload_n E dX12_begin_18 2 rfl ?_
      refine g_iconst E (v := 0) dX12_begin_19 (by decide) ?_
      refine g_iconst E (v := 2) dX12_begin_20 (by decide) ?_
      refine g_cSi E [.int x2, .int 0, .int 2] rfl (c_X12_in hap hN x2 0 2 s1) ms_X12_in mw_X12_in rfl ml_12_160 ⟨Nat.le_of_ble_eq_true rfl, Nat.le_of_ble_eq_true rfl⟩ (Nat.le_of_ble_eq_true rfl) dX12_begin_21 (fun r5 s4 => ?_)
      refine g_if_eq E 43 dX12_begin_24 (by decide) ?_ ?_
      · refine g_iconst E (v := (-1)) dX12_begin_43 (by decide) ?_
        exact g_iret E dX12_begin_44
      · refine g_iload_n E dX12_begin_27 3 rfl ?_
        refine g_cSi E [.int x3] rfl (c_X12_isHeading hap hN x3 s4) ms_X12_isHeading mw_X12_isHeading rfl ml_12_185 ⟨Nat.le_of_ble_eq_true rfl, Nat.le_of_ble_eq_true rfl⟩ (Nat.le_of_ble_eq_true rfl) dX12_begin_28 (fun r7 s6 => ?_)
        refine g_if_eq E 43 dX12_begin_31 (by decide) ?_ ?_
        · refine g_iconst E (v := (-1)) dX12_begin_43 (by decide) ?_
          exact g_iret E dX12_begin_44
        · refine g_aload_n E dX12_begin_34 0 rfl ?_
          refine gg_12_175 E (hN 12 (by decide)) dX12_begin_35 ?_
          refine g_bipush E (v := 120) dX12_begin_38 (by decide) ?_
          refine g_icmp_ne E 45 dX12_begin_40 (by decide) ?_ ?_
          · refine g_iload_n E dX12_begin_45 2 rfl ?_
            refine g_iconst E (v := 1) dX12_begin_46 (by decide) ?_
            refine g_icmp_ne E 65 dX12_begin_47 (by decide) ?_ ?_
            · refine g_sub [0, 1, 2, 3] rfl ?_
              exact w_X12_begin_p65 E hap hN x1 x2 x3 s6
            · refine g_sipush E (v := 256) dX12_begin_50 (by decide) ?_
              refine g_aload_n E dX12_begin_53 0 rfl ?_
              refine g_cVi E [] rfl (c_X12_used hap hN  s6) (hN 12 (by decide)) (by decide) rfl rfl mi_X12_used msl_X12_used mw_X12_used rfl ml_12_196 ⟨Nat.le_of_ble_eq_true rfl, Nat.le_of_ble_eq_true rfl⟩ (Nat.le_of_ble_eq_true rfl) dX12_begin_54 (fun r9 s8 => ?_)
              refine g_isub E dX12_begin_57 ?_
              refine g_bipush E (v := 60) dX12_begin_58 (by decide) ?_
              refine g_icmp_ge E 65 dX12_begin_60 (by decide) ?_ ?_
              · refine g_sub [0, 1, 2, 3] rfl ?_
                exact w_X12_begin_p65 E hap hN x1 x2 x3 s8
              · refine g_iconst E (v := (-1)) dX12_begin_63 (by decide) ?_
                exact g_iret E dX12_begin_64
          · refine g_iconst E (v := (-1)) dX12_begin_43 (by decide) ?_
            exact g_iret E dX12_begin_44
end

theorem dX12_isOthers_0 : decode cX12_isOthers 0 = .ok (.aload_n 0, 1) := by decide +kernel
theorem dX12_isOthers_1 : decode cX12_isOthers 1 = .ok (.getfield 41, 3) := by decide +kernel
theorem dX12_isOthers_4 : decode cX12_isOthers 4 = .ok (.iload_n 1, 1) := by decide +kernel
theorem dX12_isOthers_5 : decode cX12_isOthers 5 = .ok (.iaload, 1) := by decide +kernel
theorem dX12_isOthers_6 : decode cX12_isOthers 6 = .ok (.iconst 2, 1) := by decide +kernel
theorem dX12_isOthers_7 : decode cX12_isOthers 7 = .ok (.if_icmp .eq 27, 3) := by decide +kernel
theorem dX12_isOthers_10 : decode cX12_isOthers 10 = .ok (.aload_n 0, 1) := by decide +kernel
theorem dX12_isOthers_11 : decode cX12_isOthers 11 = .ok (.getfield 38, 3) := by decide +kernel
theorem dX12_isOthers_14 : decode cX12_isOthers 14 = .ok (.iload_n 2, 1) := by decide +kernel
theorem dX12_isOthers_15 : decode cX12_isOthers 15 = .ok (.iaload, 1) := by decide +kernel
theorem dX12_isOthers_16 : decode cX12_isOthers 16 = .ok (.iconst (-1), 1) := by decide +kernel
theorem dX12_isOthers_17 : decode cX12_isOthers 17 = .ok (.if_icmp .eq 17, 3) := by decide +kernel
theorem dX12_isOthers_20 : decode cX12_isOthers 20 = .ok (.aload_n 0, 1) := by decide +kernel
theorem dX12_isOthers_21 : decode cX12_isOthers 21 = .ok (.getfield 38, 3) := by decide +kernel
theorem dX12_isOthers_24 : decode cX12_isOthers 24 = .ok (.iload_n 2, 1) := by decide +kernel
theorem dX12_isOthers_25 : decode cX12_isOthers 25 = .ok (.iaload, 1) := by decide +kernel
theorem dX12_isOthers_26 : decode cX12_isOthers 26 = .ok (.iload_n 1, 1) := by decide +kernel
theorem dX12_isOthers_27 : decode cX12_isOthers 27 = .ok (.if_icmp .eq 7, 3) := by decide +kernel
theorem dX12_isOthers_30 : decode cX12_isOthers 30 = .ok (.iconst 1, 1) := by decide +kernel
theorem dX12_isOthers_31 : decode cX12_isOthers 31 = .ok (.goto 4, 3) := by decide +kernel
theorem dX12_isOthers_34 : decode cX12_isOthers 34 = .ok (.iconst 0, 1) := by decide +kernel
theorem dX12_isOthers_35 : decode cX12_isOthers 35 = .ok (.ireturn, 1) := by decide +kernel
def f_X12_isOthers (ln : Nat → Nat) (x1 : Int32) (x2 : Int32) (s : dr_S) : Option (Int32 × dr_S) := (dr_rd ln s 38 x1).bind (fun v1 => (if v1 = 2 then some (0, s) else (dr_rd ln s 37 x2).bind (fun v2 => (if v2 = (-1) then some (0, s) else (dr_rd ln s 37 x2).bind (fun v3 => (if v3 = x1 then some (0, s) else some (1, s)))))))
section
variable {p : Program} {l : Launch} {e : Env} {s0 : State} {m : MethodId} {args : Array Value} {below : List Frame} {meth : Method} {c : Code} {A : Nat → Prop} {D : va_G} {cI cZ : ClassId} {ad ln : Nat → Nat} {L : List Nat}
set_option maxHeartbeats 4000000 in
set_option maxRecDepth 20000 in
theorem c_X12_isOthers (hap : dr_ap ad L) (hN : ∀ x ∈ nd_12, x ∈ L) (x1 : Int32) (x2 : Int32) (s : dr_S) : dr_Mi l D cI cZ ad ln L yX12_isOthers cX12_isOthers 3 (some .boolean) 0 [.ref (ad 12), .int x1, .int x2] s (f_X12_isOthers ln x1 x2 s) := by
  refine dr_meti (own := RX12) (by decide) rfl (Nat.le_of_ble_eq_true rfl) hap ?_
  intro p e s0 m args below meth c A E
  unfold f_X12_isOthers
  refine g_eqL (lv' := [(0, .ref (ad 12)), (1, .int x1), (2, .int x2)]) rfl ?_
  refine g_aload_n E dX12_isOthers_0 0 rfl ?_
  refine gg_12_41 E (hN 12 (by decide)) dX12_isOthers_1 ?_
  refine g_iload_n E dX12_isOthers_4 1 rfl ?_
  refine g_iaload E (hN 38 (by decide)) (by decide) rfl dX12_isOthers_5 (fun v1 => ?_)
  refine g_iconst E (v := 2) dX12_isOthers_6 (by decide) ?_
  refine g_icmp_eq E 34 dX12_isOthers_7 (by decide) ?_ ?_
  · refine g_iconst E (v := 0) dX12_isOthers_34 (by decide) ?_
    exact g_zret E dX12_isOthers_35 (Or.inl rfl)
  · refine g_aload_n E dX12_isOthers_10 0 rfl ?_
    refine gg_12_38 E (hN 12 (by decide)) dX12_isOthers_11 ?_
    refine g_iload_n E dX12_isOthers_14 2 rfl ?_
    refine g_iaload E (hN 37 (by decide)) (by decide) rfl dX12_isOthers_15 (fun v2 => ?_)
    refine g_iconst E (v := (-1)) dX12_isOthers_16 (by decide) ?_
    refine g_icmp_eq E 34 dX12_isOthers_17 (by decide) ?_ ?_
    · refine g_iconst E (v := 0) dX12_isOthers_34 (by decide) ?_
      exact g_zret E dX12_isOthers_35 (Or.inl rfl)
    · refine g_aload_n E dX12_isOthers_20 0 rfl ?_
      refine gg_12_38 E (hN 12 (by decide)) dX12_isOthers_21 ?_
      refine g_iload_n E dX12_isOthers_24 2 rfl ?_
      refine g_iaload E (hN 37 (by decide)) (by decide) rfl dX12_isOthers_25 (fun v3 => ?_)
      refine g_iload_n E dX12_isOthers_26 1 rfl ?_
      refine g_icmp_eq E 34 dX12_isOthers_27 (by decide) ?_ ?_
      · refine g_iconst E (v := 0) dX12_isOthers_34 (by decide) ?_
        exact g_zret E dX12_isOthers_35 (Or.inl rfl)
      · refine g_iconst E (v := 1) dX12_isOthers_30 (by decide) ?_
        refine g_goto E 35 dX12_isOthers_31 (by decide) ?_
        exact g_zret E dX12_isOthers_35 (Or.inr rfl)
end

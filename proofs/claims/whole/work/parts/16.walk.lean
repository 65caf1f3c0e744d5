theorem dX7_judge_0 : decode cX7_judge 0 = .ok (.aload_n 0, 1) := by decide +kernel
theorem dX7_judge_1 : decode cX7_judge 1 = .ok (.iload_n 1, 1) := by decide +kernel
theorem dX7_judge_2 : decode cX7_judge 2 = .ok (.invokevirtual 41, 3) := by decide +kernel
theorem dX7_judge_5 : decode cX7_judge 5 = .ok (.ifCond .ne 5, 3) := by decide +kernel
theorem dX7_judge_8 : decode cX7_judge 8 = .ok (.iconst (-1), 1) := by decide +kernel
theorem dX7_judge_9 : decode cX7_judge 9 = .ok (.ireturn, 1) := by decide +kernel
theorem dX7_judge_10 : decode cX7_judge 10 = .ok (.aload_n 0, 1) := by decide +kernel
theorem dX7_judge_11 : decode cX7_judge 11 = .ok (.getfield 30, 3) := by decide +kernel
theorem dX7_judge_14 : decode cX7_judge 14 = .ok (.iconst 0, 1) := by decide +kernel
theorem dX7_judge_15 : decode cX7_judge 15 = .ok (.invokestatic 45, 3) := by decide +kernel
theorem dX7_judge_18 : decode cX7_judge 18 = .ok (.aload_n 0, 1) := by decide +kernel
theorem dX7_judge_19 : decode cX7_judge 19 = .ok (.iconst 0, 1) := by decide +kernel
theorem dX7_judge_20 : decode cX7_judge 20 = .ok (.iconst 0, 1) := by decide +kernel
theorem dX7_judge_21 : decode cX7_judge 21 = .ok (.iconst 0, 1) := by decide +kernel
theorem dX7_judge_22 : decode cX7_judge 22 = .ok (.invokevirtual 51, 3) := by decide +kernel
theorem dX7_judge_25 : decode cX7_judge 25 = .ok (.ifCond .eq 7, 3) := by decide +kernel
theorem dX7_judge_28 : decode cX7_judge 28 = .ok (.iconst 1, 1) := by decide +kernel
theorem dX7_judge_29 : decode cX7_judge 29 = .ok (.goto 4, 3) := by decide +kernel
theorem dX7_judge_32 : decode cX7_judge 32 = .ok (.iconst 0, 1) := by decide +kernel
theorem dX7_judge_33 : decode cX7_judge 33 = .ok (.ireturn, 1) := by decide +kernel
def f_X7_judge (ln : Nat → Nat) (x1 : Int32) (s : dr_S) : Option (Int32 × dr_S) := dr_bnd (f_X7_canBeAsked ln x1 s) (fun r2 s1 => (if r2 = 0 then some ((-1), s1) else dr_bndv (f_J7_fill_53178 ln 0 s1) (fun s3 => dr_bnd (f_X7_goesOn ln dr_D 0 0 0 s3) (fun r5 s4 => (if r5 = 0 then some (0, s4) else some (1, s4))))))
section
variable {p : Program} {l : Launch} {e : Env} {s0 : State} {m : MethodId} {args : Array Value} {below : List Frame} {meth : Method} {c : Code} {A : Nat → Prop} {D : va_G} {cI cZ : ClassId} {ad ln : Nat → Nat} {L : List Nat}
set_option maxHeartbeats 4000000 in
set_option maxRecDepth 20000 in
theorem c_X7_judge (hap : dr_ap ad L) (hN : ∀ x ∈ nd_7, x ∈ L) (x1 : Int32) (s : dr_S) : dr_Mi l D cI cZ ad ln L yX7_judge cX7_judge 2 (some .int) 15 [.ref (ad 7), .int x1] s (f_X7_judge ln x1 s) := by
  refine dr_meti (own := RX7) (by decide) rfl (Nat.le_of_ble_eq_true rfl) hap ?_
  intro p e s0 m args below meth c A E
  unfold f_X7_judge
  refine g_eqL (lv' := [(0, .ref (ad 7)), (1, .int x1)]) rfl ?_
  refine g_aload_n E dX7_judge_0 0 rfl ?_
  refine g_iload_n E dX7_judge_1 1 rfl ?_
  refine g_cVi E [.int x1] rfl (c_X7_canBeAsked hap hN x1 s) (hN 7 (by decide)) (by decide) rfl rfl mi_X7_canBeAsked msl_X7_canBeAsked mw_X7_canBeAsked rfl ml_7_41 ⟨Nat.le_of_ble_eq_true rfl, Nat.le_of_ble_eq_true rfl⟩ (Nat.le_of_ble_eq_true rfl) dX7_judge_2 (fun r2 s1 => ?_)
  refine g_if_ne E 10 dX7_judge_5 (by decide) ?_ ?_
  · refine g_aload_n E dX7_judge_10 0 rfl ?_
    refine gg_7_30 E (hN 7 (by decide)) dX7_judge_11 ?_
    refine g_iconst E (v := 0) dX7_judge_14 (by decide) ?_
    refine g_cSv E [.ref (ad 26), .int 0] rfl (c_J7_fill_53178 hap (fun x h => hN x (ns_J7_7 x h)) 0 s1) ms_J7_fill_53178 mw_J7_fill_53178 rfl ml_7_45 ⟨Nat.le_of_ble_eq_true rfl, Nat.le_of_ble_eq_true rfl⟩ (Nat.le_of_ble_eq_true rfl) dX7_judge_15 (fun s3 => ?_)
    refine g_aload_n E dX7_judge_18 0 rfl ?_
    refine g_iconst E (v := 0) dX7_judge_19 (by decide) ?_
    refine g_iconst E (v := 0) dX7_judge_20 (by decide) ?_
    refine g_iconst E (v := 0) dX7_judge_21 (by decide) ?_
    refine g_cVi E [.int 0, .int 0, .int 0] rfl (c_X7_goesOn hap hN dr_D 0 0 0 s3) (hN 7 (by decide)) (by decide) rfl rfl mi_X7_goesOn msl_X7_goesOn mw_X7_goesOn rfl ml_7_51 ⟨Nat.le_of_ble_eq_true rfl, Nat.le_of_ble_eq_true rfl⟩ (Nat.le_of_ble_eq_true rfl) dX7_judge_22 (fun r5 s4 => ?_)
    refine g_if_eq E 32 dX7_judge_25 (by decide) ?_ ?_
    · refine g_iconst E (v := 0) dX7_judge_32 (by decide) ?_
      exact g_iret E dX7_judge_33
    · refine g_iconst E (v := 1) dX7_judge_28 (by decide) ?_
      refine g_goto E 33 dX7_judge_29 (by decide) ?_
      exact g_iret E dX7_judge_33
  · refine g_iconst E (v := (-1)) dX7_judge_8 (by decide) ?_
    exact g_iret E dX7_judge_9
end

theorem dX7_kthOfRow_0 : decode cX7_kthOfRow 0 = .ok (.iload_n 1, 1) := by decide +kernel
theorem dX7_kthOfRow_1 : decode cX7_kthOfRow 1 = .ok (.ifCond .lt 26, 3) := by decide +kernel
theorem dX7_kthOfRow_4 : decode cX7_kthOfRow 4 = .ok (.iload_n 1, 1) := by decide +kernel
theorem dX7_kthOfRow_5 : decode cX7_kthOfRow 5 = .ok (.aload_n 0, 1) := by decide +kernel
theorem dX7_kthOfRow_6 : decode cX7_kthOfRow 6 = .ok (.getfield 33, 3) := by decide +kernel
theorem dX7_kthOfRow_9 : decode cX7_kthOfRow 9 = .ok (.if_icmp .ge 18, 3) := by decide +kernel
theorem dX7_kthOfRow_12 : decode cX7_kthOfRow 12 = .ok (.iload_n 1, 1) := by decide +kernel
theorem dX7_kthOfRow_13 : decode cX7_kthOfRow 13 = .ok (.bipush 9, 2) := by decide +kernel
theorem dX7_kthOfRow_15 : decode cX7_kthOfRow 15 = .ok (.if_icmp .ge 12, 3) := by decide +kernel
theorem dX7_kthOfRow_18 : decode cX7_kthOfRow 18 = .ok (.aload_n 0, 1) := by decide +kernel
theorem dX7_kthOfRow_19 : decode cX7_kthOfRow 19 = .ok (.getfield 27, 3) := by decide +kernel
theorem dX7_kthOfRow_22 : decode cX7_kthOfRow 22 = .ok (.iload_n 1, 1) := by decide +kernel
theorem dX7_kthOfRow_23 : decode cX7_kthOfRow 23 = .ok (.iaload, 1) := by decide +kernel
theorem dX7_kthOfRow_24 : decode cX7_kthOfRow 24 = .ok (.goto 4, 3) := by decide +kernel
theorem dX7_kthOfRow_27 : decode cX7_kthOfRow 27 = .ok (.iconst (-1), 1) := by decide +kernel
theorem dX7_kthOfRow_28 : decode cX7_kthOfRow 28 = .ok (.ireturn, 1) := by decide +kernel
def f_X7_kthOfRow (ln : Nat → Nat) (x1 : Int32) (s : dr_S) : Option (Int32 × dr_S) := (if x1 < 0 then some ((-1), s) else (if (s.2 708) ≤ x1 then some ((-1), s) else (if ((9 : Int32) ≤ x1 : Prop) then some ((-1), s) else (dr_rd ln s 25 x1).bind (fun v1 => some (v1, s)))))
section
variable {p : Program} {l : Launch} {e : Env} {s0 : State} {m : MethodId} {args : Array Value} {below : List Frame} {meth : Method} {c : Code} {A : Nat → Prop} {D : va_G} {cI cZ : ClassId} {ad ln : Nat → Nat} {L : List Nat}
set_option maxHeartbeats 4000000 in
set_option maxRecDepth 20000 in
theorem c_X7_kthOfRow (hap : dr_ap ad L) (hN : ∀ x ∈ nd_7, x ∈ L) (x1 : Int32) (s : dr_S) : dr_Mi l D cI cZ ad ln L yX7_kthOfRow cX7_kthOfRow 2 (some .int) 0 [.ref (ad 7), .int x1] s (f_X7_kthOfRow ln x1 s) := by
  refine dr_meti (own := RX7) (by decide) rfl (Nat.le_of_ble_eq_true rfl) hap ?_
  intro p e s0 m args below meth c A E
  unfold f_X7_kthOfRow
  refine g_eqL (lv' := [(0, .ref (ad 7)), (1, .int x1)]) rfl ?_
  refine g_iload_n E dX7_kthOfRow_0 1 rfl ?_
  refine g_if_lt E 27 dX7_kthOfRow_1 (by decide) ?_ ?_
  · refine g_iconst E (v := (-1)) dX7_kthOfRow_27 (by decide) ?_
    exact g_iret E dX7_kthOfRow_28
  · refine g_iload_n E dX7_kthOfRow_4 1 rfl ?_
    refine g_aload_n E dX7_kthOfRow_5 0 rfl ?_
    refine gg_7_33 E (hN 7 (by decide)) dX7_kthOfRow_6 ?_
    refine g_icmp_ge E 27 dX7_kthOfRow_9 (by decide) ?_ ?_
    · refine g_iconst E (v := (-1)) dX7_kthOfRow_27 (by decide) ?_
      exact g_iret E dX7_kthOfRow_28
    · refine g_iload_n E dX7_kthOfRow_12 1 rfl ?_
      refine g_bipush E (v := 9) dX7_kthOfRow_13 (by decide) ?_
      refine g_icmp_ge E 27 dX7_kthOfRow_15 (by decide) ?_ ?_
      · refine g_iconst E (v := (-1)) dX7_kthOfRow_27 (by decide) ?_
        exact g_iret E dX7_kthOfRow_28
      · refine g_aload_n E dX7_kthOfRow_18 0 rfl ?_
        refine gg_7_27 E (hN 7 (by decide)) dX7_kthOfRow_19 ?_
        refine g_iload_n E dX7_kthOfRow_22 1 rfl ?_
        refine g_iaload E (hN 25 (by decide)) (by decide) rfl dX7_kthOfRow_23 (fun v1 => ?_)
        refine g_goto E 28 dX7_kthOfRow_24 (by decide) ?_
        exact g_iret E dX7_kthOfRow_28
end

theorem dX8_takeTheTwo_0 : decode cX8_takeTheTwo 0 = .ok (.aload_n 0, 1) := by decide +kernel
theorem dX8_takeTheTwo_1 : decode cX8_takeTheTwo 1 = .ok (.iconst (-1), 1) := by decide +kernel
theorem dX8_takeTheTwo_2 : decode cX8_takeTheTwo 2 = .ok (.putfield 15, 3) := by decide +kernel
theorem dX8_takeTheTwo_5 : decode cX8_takeTheTwo 5 = .ok (.aload_n 0, 1) := by decide +kernel
theorem dX8_takeTheTwo_6 : decode cX8_takeTheTwo 6 = .ok (.iconst (-1), 1) := by decide +kernel
theorem dX8_takeTheTwo_7 : decode cX8_takeTheTwo 7 = .ok (.putfield 19, 3) := by decide +kernel
theorem dX8_takeTheTwo_10 : decode cX8_takeTheTwo 10 = .ok (.iconst 0, 1) := by decide +kernel
theorem dX8_takeTheTwo_11 : decode cX8_takeTheTwo 11 = .ok (.istore_n 1, 1) := by decide +kernel
theorem dX8_takeTheTwo_12 : decode cX8_takeTheTwo 12 = .ok (.iload_n 1, 1) := by decide +kernel
theorem dX8_takeTheTwo_13 : decode cX8_takeTheTwo 13 = .ok (.iconst 4, 1) := by decide +kernel
theorem dX8_takeTheTwo_14 : decode cX8_takeTheTwo 14 = .ok (.if_icmp .ge 45, 3) := by decide +kernel
theorem dX8_takeTheTwo_17 : decode cX8_takeTheTwo 17 = .ok (.aload_n 0, 1) := by decide +kernel
theorem dX8_takeTheTwo_18 : decode cX8_takeTheTwo 18 = .ok (.getfield 26, 3) := by decide +kernel
theorem dX8_takeTheTwo_21 : decode cX8_takeTheTwo 21 = .ok (.iload_n 1, 1) := by decide +kernel
theorem dX8_takeTheTwo_22 : decode cX8_takeTheTwo 22 = .ok (.invokevirtual 46, 3) := by decide +kernel
theorem dX8_takeTheTwo_25 : decode cX8_takeTheTwo 25 = .ok (.ifCond .ne 28, 3) := by decide +kernel
theorem dX8_takeTheTwo_28 : decode cX8_takeTheTwo 28 = .ok (.aload_n 0, 1) := by decide +kernel
theorem dX8_takeTheTwo_29 : decode cX8_takeTheTwo 29 = .ok (.aload_n 0, 1) := by decide +kernel
theorem dX8_takeTheTwo_30 : decode cX8_takeTheTwo 30 = .ok (.getfield 15, 3) := by decide +kernel
theorem dX8_takeTheTwo_33 : decode cX8_takeTheTwo 33 = .ok (.iconst (-1), 1) := by decide +kernel
theorem dX8_takeTheTwo_34 : decode cX8_takeTheTwo 34 = .ok (.if_icmp .ne 7, 3) := by decide +kernel
theorem dX8_takeTheTwo_37 : decode cX8_takeTheTwo 37 = .ok (.iload_n 1, 1) := by decide +kernel
theorem dX8_takeTheTwo_38 : decode cX8_takeTheTwo 38 = .ok (.goto 7, 3) := by decide +kernel
theorem dX8_takeTheTwo_41 : decode cX8_takeTheTwo 41 = .ok (.aload_n 0, 1) := by decide +kernel
theorem dX8_takeTheTwo_42 : decode cX8_takeTheTwo 42 = .ok (.getfield 15, 3) := by decide +kernel
theorem dX8_takeTheTwo_45 : decode cX8_takeTheTwo 45 = .ok (.putfield 15, 3) := by decide +kernel
theorem dX8_takeTheTwo_48 : decode cX8_takeTheTwo 48 = .ok (.aload_n 0, 1) := by decide +kernel
theorem dX8_takeTheTwo_49 : decode cX8_takeTheTwo 49 = .ok (.iload_n 1, 1) := by decide +kernel
theorem dX8_takeTheTwo_50 : decode cX8_takeTheTwo 50 = .ok (.putfield 19, 3) := by decide +kernel
theorem dX8_takeTheTwo_53 : decode cX8_takeTheTwo 53 = .ok (.iinc 1 1, 3) := by decide +kernel
theorem dX8_takeTheTwo_56 : decode cX8_takeTheTwo 56 = .ok (.goto (-44), 3) := by decide +kernel
theorem dX8_takeTheTwo_59 : decode cX8_takeTheTwo 59 = .ok (.return_, 1) := by decide +kernel
def f_X8_takeTheTwo_p53 (ln : Nat → Nat) (kb12 : Int32 → dr_S → Option (Int32 × dr_S)) (x1 : Int32) (s : dr_S) : Option (Int32 × dr_S) := dr_let (x1 + 1) (fun y7 => (kb12 y7 s))
def f_X8_takeTheTwo_p45 (ln : Nat → Nat) (kb12 : Int32 → dr_S → Option (Int32 × dr_S)) (x1 : Int32) (z0 : Int32) (s : dr_S) : Option (Int32 × dr_S) := dr_letS (dr_pf s 807 z0) (fun s5 => dr_letS (dr_pf s5 808 x1) (fun s6 => (f_X8_takeTheTwo_p53 ln kb12 x1 s6)))
def f_X8_takeTheTwo_p12 (ln : Nat → Nat) : Nat → Int32 → dr_S → Option (Int32 × dr_S)
  | 0, _, _ => none
  | n + 1, x1, s => (if ((4 : Int32) ≤ x1 : Prop) then some (0, s) else dr_bnd (f_X3_isIdle ln x1 s) (fun r4 s3 => (if r4 = 0 then (if (s3.2 807) = (-1) then (f_X8_takeTheTwo_p45 ln (f_X8_takeTheTwo_p12 ln n) x1 x1 s3) else (f_X8_takeTheTwo_p45 ln (f_X8_takeTheTwo_p12 ln n) x1 ((s3.2 807)) s3)) else (f_X8_takeTheTwo_p53 ln (f_X8_takeTheTwo_p12 ln n) x1 s3))))
def f_X8_takeTheTwo (ln : Nat → Nat) (s : dr_S) : Option (Int32 × dr_S) := dr_letS (dr_pf s 807 (-1)) (fun s1 => dr_letS (dr_pf s1 808 (-1)) (fun s2 => (f_X8_takeTheTwo_p12 ln dr_N 0 s2)))
section
variable {p : Program} {l : Launch} {e : Env} {s0 : State} {m : MethodId} {args : Array Value} {below : List Frame} {meth : Method} {c : Code} {A : Nat → Prop} {D : va_G} {cI cZ : ClassId} {ad ln : Nat → Nat} {L : List Nat}
set_option maxHeartbeats 4000000 in
set_option maxRecDepth 20000 in
theorem w_X8_takeTheTwo_p53 {kb12 : Int32 → dr_S → Option (Int32 × dr_S)} (E : dr_E p (dr_rm 3) s0 m args meth c 0 0 A s0.heap D cI cZ ad L cX8_takeTheTwo 2 RX8 none) (hap : dr_ap ad L) (hN : ∀ x ∈ nd_8, x ∈ L) (hkb12 : ∀ (x1 : Int32) (s : dr_S), dr_G p l e (dr_rm 3) s0 m args below meth c 0 0 A s0.heap D cI cZ ad ln L 2 (dr_Zv D cI cZ ad ln L A below args s0 0 0) 12 [(0, .ref (ad 8)), (1, .int x1)] [] s (kb12 x1 s)) : ∀ (x1 : Int32) (s : dr_S), dr_G p l e (dr_rm 3) s0 m args below meth c 0 0 A s0.heap D cI cZ ad ln L 2 (dr_Zv D cI cZ ad ln L A below args s0 0 0) 53 [(0, .ref (ad 8)), (1, .int x1)] [] s (f_X8_takeTheTwo_p53 ln kb12 x1 s) := by
  intro x1 s
  unfold f_X8_takeTheTwo_p53
  refine g_iinc E (lv' := []) (lv'' := fun y7 => [(1, .int y7), (0, .ref (ad 8))]) (v := 1) dX8_takeTheTwo_53 1 rfl (by decide) (by decide) (fun _ => rfl) (fun y7 => ?_)
  refine g_goto E 12 dX8_takeTheTwo_56 (by decide) ?_
  refine g_sub [1, 0] rfl ?_
  exact hkb12 y7 s
set_option maxHeartbeats 4000000 in
set_option maxRecDepth 20000 in
theorem w_X8_takeTheTwo_p45 {kb12 : Int32 → dr_S → Option (Int32 × dr_S)} (E : dr_E p (dr_rm 3) s0 m args meth c 0 0 A s0.heap D cI cZ ad L cX8_takeTheTwo 2 RX8 none) (hap : dr_ap ad L) (hN : ∀ x ∈ nd_8, x ∈ L) (hkb12 : ∀ (x1 : Int32) (s : dr_S), dr_G p l e (dr_rm 3) s0 m args below meth c 0 0 A s0.heap D cI cZ ad ln L 2 (dr_Zv D cI cZ ad ln L A below args s0 0 0) 12 [(0, .ref (ad 8)), (1, .int x1)] [] s (kb12 x1 s)) : ∀ (x1 : Int32) (z0 : Int32) (s : dr_S), dr_G p l e (dr_rm 3) s0 m args below meth c 0 0 A s0.heap D cI cZ ad ln L 2 (dr_Zv D cI cZ ad ln L A below args s0 0 0) 45 [(0, .ref (ad 8)), (1, .int x1)] [.int z0, .ref (ad 8)] s (f_X8_takeTheTwo_p45 ln kb12 x1 z0 s) := by
  intro x1 z0 s
  unfold f_X8_takeTheTwo_p45
  refine gp_8_15 E (hN 8 (by decide)) dX8_takeTheTwo_45 (fun s5 => ?_)
  refine g_aload_n E dX8_takeTheTwo_48 0 rfl ?_
  refine g_iload_n E dX8_takeTheTwo_49 1 rfl ?_
  refine gp_8_19 E (hN 8 (by decide)) dX8_takeTheTwo_50 (fun s6 => ?_)
  refine g_sub [0, 1] rfl ?_
  exact w_X8_takeTheTwo_p53 E hap hN hkb12 x1 s6
set_option maxHeartbeats 4000000 in
set_option maxRecDepth 20000 in
theorem w_X8_takeTheTwo_p12 (E : dr_E p (dr_rm 3) s0 m args meth c 0 0 A s0.heap D cI cZ ad L cX8_takeTheTwo 2 RX8 none) (hap : dr_ap ad L) (hN : ∀ x ∈ nd_8, x ∈ L) : ∀ (n : Nat) (x1 : Int32) (s : dr_S), dr_G p l e (dr_rm 3) s0 m args below meth c 0 0 A s0.heap D cI cZ ad ln L 2 (dr_Zv D cI cZ ad ln L A below args s0 0 0) 12 [(0, .ref (ad 8)), (1, .int x1)] [] s (f_X8_takeTheTwo_p12 ln n x1 s) := by
  intro n
  induction n with
  | zero =>
    intro x1 s
    rw [f_X8_takeTheTwo_p12]
    exact g_none
  | succ n hkb12 =>
    intro x1 s
    rw [f_X8_takeTheTwo_p12]
    refine g_iload_n E dX8_takeTheTwo_12 1 rfl ?_
    refine g_iconst E (v := 4) dX8_takeTheTwo_13 (by decide) ?_
    refine g_icmp_ge E 59 dX8_takeTheTwo_14 (by decide) ?_ ?_
    · exact g_vret E dX8_takeTheTwo_59
    · refine g_aload_n E dX8_takeTheTwo_17 0 rfl ?_
      refine gg_8_26 E (hN 8 (by decide)) dX8_takeTheTwo_18 ?_
      refine g_iload_n E dX8_takeTheTwo_21 1 rfl ?_
      refine g_cVi E [.int x1] rfl (c_X3_isIdle hap (fun x h => hN x (ns_3_8 x h)) x1 s) (hN 3 (by decide)) (by decide) rfl rfl mi_X3_isIdle msl_X3_isIdle mw_X3_isIdle rfl ml_8_46 ⟨Nat.le_of_ble_eq_true rfl, Nat.le_of_ble_eq_true rfl⟩ (Nat.le_of_ble_eq_true rfl) dX8_takeTheTwo_22 (fun r4 s3 => ?_)
      refine g_if_ne E 53 dX8_takeTheTwo_25 (by decide) ?_ ?_
      · refine g_sub [0, 1] rfl ?_
        exact w_X8_takeTheTwo_p53 E hap hN hkb12 x1 s3
      · refine g_aload_n E dX8_takeTheTwo_28 0 rfl ?_
        refine g_aload_n E dX8_takeTheTwo_29 0 rfl ?_
        refine gg_8_15 E (hN 8 (by decide)) dX8_takeTheTwo_30 ?_
        refine g_iconst E (v := (-1)) dX8_takeTheTwo_33 (by decide) ?_
        refine g_icmp_ne E 41 dX8_takeTheTwo_34 (by decide) ?_ ?_
        · refine g_aload_n E dX8_takeTheTwo_41 0 rfl ?_
          refine gg_8_15 E (hN 8 (by decide)) dX8_takeTheTwo_42 ?_
          refine g_sub [0, 1] rfl ?_
          exact w_X8_takeTheTwo_p45 E hap hN hkb12 x1 ((s3.2 807)) s3
        · refine g_iload_n E dX8_takeTheTwo_37 1 rfl ?_
          refine g_goto E 45 dX8_takeTheTwo_38 (by decide) ?_
          refine g_sub [0, 1] rfl ?_
          exact w_X8_takeTheTwo_p45 E hap hN hkb12 x1 x1 s3
set_option maxHeartbeats 4000000 in
set_option maxRecDepth 20000 in
theorem c_X8_takeTheTwo (hap : dr_ap ad L) (hN : ∀ x ∈ nd_8, x ∈ L) (s : dr_S) : dr_Mv l D cI cZ ad ln L yX8_takeTheTwo cX8_takeTheTwo 2 3 [.ref (ad 8)] s (f_X8_takeTheTwo ln  s) := by
  refine dr_metv (own := RX8) (by decide) rfl (Nat.le_of_ble_eq_true rfl) hap ?_
  intro p e s0 m args below meth c A E
  unfold f_X8_takeTheTwo
  refine g_eqL (lv' := [(0, .ref (ad 8))]) rfl ?_
  refine g_aload_n E dX8_takeTheTwo_0 0 rfl ?_
  refine g_iconst E (v := (-1)) dX8_takeTheTwo_1 (by decide) ?_
  refine gp_8_15 E (hN 8 (by decide)) dX8_takeTheTwo_2 (fun s1 => ?_)
  refine g_aload_n E dX8_takeTheTwo_5 0 rfl ?_
  refine g_iconst E (v := (-1)) dX8_takeTheTwo_6 (by decide) ?_
  refine gp_8_19 E (hN 8 (by decide)) dX8_takeTheTwo_7 (fun s2 => ?_)
  refine g_iconst E (v := 0) dX8_takeTheTwo_10 (by decide) ?_
  refine g_istore_n E (lv' := [(1, .int 0), (0, .ref (ad 8))]) dX8_takeTheTwo_11 (by decide) rfl ?_
  refine g_sub [1, 0] rfl ?_
  exact w_X8_takeTheTwo_p12 E hap hN dr_N 0 s2
end

theorem dX8_kthClerk_0 : decode cX8_kthClerk 0 = .ok (.iload_n 1, 1) := by decide +kernel
theorem dX8_kthClerk_1 : decode cX8_kthClerk 1 = .ok (.ifCond .lt 18, 3) := by decide +kernel
theorem dX8_kthClerk_4 : decode cX8_kthClerk 4 = .ok (.iload_n 1, 1) := by decide +kernel
theorem dX8_kthClerk_5 : decode cX8_kthClerk 5 = .ok (.bipush 8, 2) := by decide +kernel
theorem dX8_kthClerk_7 : decode cX8_kthClerk 7 = .ok (.if_icmp .ge 12, 3) := by decide +kernel
theorem dX8_kthClerk_10 : decode cX8_kthClerk 10 = .ok (.aload_n 0, 1) := by decide +kernel
theorem dX8_kthClerk_11 : decode cX8_kthClerk 11 = .ok (.getfield 9, 3) := by decide +kernel
theorem dX8_kthClerk_14 : decode cX8_kthClerk 14 = .ok (.iload_n 1, 1) := by decide +kernel
theorem dX8_kthClerk_15 : decode cX8_kthClerk 15 = .ok (.iaload, 1) := by decide +kernel
theorem dX8_kthClerk_16 : decode cX8_kthClerk 16 = .ok (.goto 4, 3) := by decide +kernel
theorem dX8_kthClerk_19 : decode cX8_kthClerk 19 = .ok (.iconst (-1), 1) := by decide +kernel
theorem dX8_kthClerk_20 : decode cX8_kthClerk 20 = .ok (.ireturn, 1) := by decide +kernel
def f_X8_kthClerk (ln : Nat → Nat) (x1 : Int32) (s : dr_S) : Option (Int32 × dr_S) := (if x1 < 0 then some ((-1), s) else (if ((8 : Int32) ≤ x1 : Prop) then some ((-1), s) else (dr_rd ln s 27 x1).bind (fun v1 => some (v1, s))))
section
variable {p : Program} {l : Launch} {e : Env} {s0 : State} {m : MethodId} {args : Array Value} {below : List Frame} {meth : Method} {c : Code} {A : Nat → Prop} {D : va_G} {cI cZ : ClassId} {ad ln : Nat → Nat} {L : List Nat}
set_option maxHeartbeats 4000000 in
set_option maxRecDepth 20000 in
theorem c_X8_kthClerk (hap : dr_ap ad L) (hN : ∀ x ∈ nd_8, x ∈ L) (x1 : Int32) (s : dr_S) : dr_Mi l D cI cZ ad ln L yX8_kthClerk cX8_kthClerk 2 (some .int) 0 [.ref (ad 8), .int x1] s (f_X8_kthClerk ln x1 s) := by
  refine dr_meti (own := RX8) (by decide) rfl (Nat.le_of_ble_eq_true rfl) hap ?_
  intro p e s0 m args below meth c A E
  unfold f_X8_kthClerk
  refine g_eqL (lv' := [(0, .ref (ad 8)), (1, .int x1)]) rfl ?_
  refine g_iload_n E dX8_kthClerk_0 1 rfl ?_
  refine g_if_lt E 19 dX8_kthClerk_1 (by decide) ?_ ?_
  · refine g_iconst E (v := (-1)) dX8_kthClerk_19 (by decide) ?_
    exact g_iret E dX8_kthClerk_20
  · refine g_iload_n E dX8_kthClerk_4 1 rfl ?_
    refine g_bipush E (v := 8) dX8_kthClerk_5 (by decide) ?_
    refine g_icmp_ge E 19 dX8_kthClerk_7 (by decide) ?_ ?_
    · refine g_iconst E (v := (-1)) dX8_kthClerk_19 (by decide) ?_
      exact g_iret E dX8_kthClerk_20
    · refine g_aload_n E dX8_kthClerk_10 0 rfl ?_
      refine gg_8_9 E (hN 8 (by decide)) dX8_kthClerk_11 ?_
      refine g_iload_n E dX8_kthClerk_14 1 rfl ?_
      refine g_iaload E (hN 27 (by decide)) (by decide) rfl dX8_kthClerk_15 (fun v1 => ?_)
      refine g_goto E 20 dX8_kthClerk_16 (by decide) ?_
      exact g_iret E dX8_kthClerk_20
end

theorem dX9_hasBadHeadings_0 : decode cX9_hasBadHeadings 0 = .ok (.aload_n 0, 1) := by decide +kernel
theorem dX9_hasBadHeadings_1 : decode cX9_hasBadHeadings 1 = .ok (.getfield 9, 3) := by decide +kernel
theorem dX9_hasBadHeadings_4 : decode cX9_hasBadHeadings 4 = .ok (.iload_n 1, 1) := by decide +kernel
theorem dX9_hasBadHeadings_5 : decode cX9_hasBadHeadings 5 = .ok (.iconst 1, 1) := by decide +kernel
theorem dX9_hasBadHeadings_6 : decode cX9_hasBadHeadings 6 = .ok (.invokevirtual 25, 3) := by decide +kernel
theorem dX9_hasBadHeadings_9 : decode cX9_hasBadHeadings 9 = .ok (.istore_n 2, 1) := by decide +kernel
theorem dX9_hasBadHeadings_10 : decode cX9_hasBadHeadings 10 = .ok (.aload_n 0, 1) := by decide +kernel
theorem dX9_hasBadHeadings_11 : decode cX9_hasBadHeadings 11 = .ok (.getfield 9, 3) := by decide +kernel
theorem dX9_hasBadHeadings_14 : decode cX9_hasBadHeadings 14 = .ok (.iload_n 1, 1) := by decide +kernel
theorem dX9_hasBadHeadings_15 : decode cX9_hasBadHeadings 15 = .ok (.iconst 0, 1) := by decide +kernel
theorem dX9_hasBadHeadings_16 : decode cX9_hasBadHeadings 16 = .ok (.invokevirtual 36, 3) := by decide +kernel
theorem dX9_hasBadHeadings_19 : decode cX9_hasBadHeadings 19 = .ok (.istore_n 3, 1) := by decide +kernel
theorem dX9_hasBadHeadings_20 : decode cX9_hasBadHeadings 20 = .ok (.iconst 1, 1) := by decide +kernel
theorem dX9_hasBadHeadings_21 : decode cX9_hasBadHeadings 21 = .ok (.istore 4, 2) := by decide +kernel
theorem dX9_hasBadHeadings_23 : decode cX9_hasBadHeadings 23 = .ok (.iload 4, 2) := by decide +kernel
theorem dX9_hasBadHeadings_25 : decode cX9_hasBadHeadings 25 = .ok (.iload_n 2, 1) := by decide +kernel
theorem dX9_hasBadHeadings_26 : decode cX9_hasBadHeadings 26 = .ok (.if_icmp .ge 39, 3) := by decide +kernel
theorem dX9_hasBadHeadings_29 : decode cX9_hasBadHeadings 29 = .ok (.aload_n 0, 1) := by decide +kernel
theorem dX9_hasBadHeadings_30 : decode cX9_hasBadHeadings 30 = .ok (.getfield 9, 3) := by decide +kernel
theorem dX9_hasBadHeadings_33 : decode cX9_hasBadHeadings 33 = .ok (.iload_n 1, 1) := by decide +kernel
theorem dX9_hasBadHeadings_34 : decode cX9_hasBadHeadings 34 = .ok (.iload 4, 2) := by decide +kernel
theorem dX9_hasBadHeadings_36 : decode cX9_hasBadHeadings 36 = .ok (.invokevirtual 36, 3) := by decide +kernel
theorem dX9_hasBadHeadings_39 : decode cX9_hasBadHeadings 39 = .ok (.istore 5, 2) := by decide +kernel
theorem dX9_hasBadHeadings_41 : decode cX9_hasBadHeadings 41 = .ok (.aload_n 0, 1) := by decide +kernel
theorem dX9_hasBadHeadings_42 : decode cX9_hasBadHeadings 42 = .ok (.getfield 15, 3) := by decide +kernel
theorem dX9_hasBadHeadings_45 : decode cX9_hasBadHeadings 45 = .ok (.iload_n 3, 1) := by decide +kernel
theorem dX9_hasBadHeadings_46 : decode cX9_hasBadHeadings 46 = .ok (.iload 5, 2) := by decide +kernel
theorem dX9_hasBadHeadings_48 : decode cX9_hasBadHeadings 48 = .ok (.invokevirtual 39, 3) := by decide +kernel
theorem dX9_hasBadHeadings_51 : decode cX9_hasBadHeadings 51 = .ok (.ifCond .ne 5, 3) := by decide +kernel
theorem dX9_hasBadHeadings_54 : decode cX9_hasBadHeadings 54 = .ok (.iconst 1, 1) := by decide +kernel
theorem dX9_hasBadHeadings_55 : decode cX9_hasBadHeadings 55 = .ok (.ireturn, 1) := by decide +kernel
theorem dX9_hasBadHeadings_56 : decode cX9_hasBadHeadings 56 = .ok (.iload 5, 2) := by decide +kernel
theorem dX9_hasBadHeadings_58 : decode cX9_hasBadHeadings 58 = .ok (.istore_n 3, 1) := by decide +kernel
theorem dX9_hasBadHeadings_59 : decode cX9_hasBadHeadings 59 = .ok (.iinc 4 1, 3) := by decide +kernel
theorem dX9_hasBadHeadings_62 : decode cX9_hasBadHeadings 62 = .ok (.goto (-39), 3) := by decide +kernel
theorem dX9_hasBadHeadings_65 : decode cX9_hasBadHeadings 65 = .ok (.iload_n 2, 1) := by decide +kernel
theorem dX9_hasBadHeadings_66 : decode cX9_hasBadHeadings 66 = .ok (.iconst 2, 1) := by decide +kernel
theorem dX9_hasBadHeadings_67 : decode cX9_hasBadHeadings 67 = .ok (.aload_n 0, 1) := by decide +kernel
theorem dX9_hasBadHeadings_68 : decode cX9_hasBadHeadings 68 = .ok (.getfield 9, 3) := by decide +kernel
theorem dX9_hasBadHeadings_71 : decode cX9_hasBadHeadings 71 = .ok (.invokevirtual 45, 3) := by decide +kernel
theorem dX9_hasBadHeadings_74 : decode cX9_hasBadHeadings 74 = .ok (.imul, 1) := by decide +kernel
theorem dX9_hasBadHeadings_75 : decode cX9_hasBadHeadings 75 = .ok (.if_icmp .gt 19, 3) := by decide +kernel
theorem dX9_hasBadHeadings_78 : decode cX9_hasBadHeadings 78 = .ok (.iload_n 2, 1) := by decide +kernel
theorem dX9_hasBadHeadings_79 : decode cX9_hasBadHeadings 79 = .ok (.ifCond .le 19, 3) := by decide +kernel
theorem dX9_hasBadHeadings_82 : decode cX9_hasBadHeadings 82 = .ok (.aload_n 0, 1) := by decide +kernel
theorem dX9_hasBadHeadings_83 : decode cX9_hasBadHeadings 83 = .ok (.getfield 9, 3) := by decide +kernel
theorem dX9_hasBadHeadings_86 : decode cX9_hasBadHeadings 86 = .ok (.iload_n 1, 1) := by decide +kernel
theorem dX9_hasBadHeadings_87 : decode cX9_hasBadHeadings 87 = .ok (.iload_n 3, 1) := by decide +kernel
theorem dX9_hasBadHeadings_88 : decode cX9_hasBadHeadings 88 = .ok (.invokevirtual 48, 3) := by decide +kernel
theorem dX9_hasBadHeadings_91 : decode cX9_hasBadHeadings 91 = .ok (.ifCond .ne 7, 3) := by decide +kernel
theorem dX9_hasBadHeadings_94 : decode cX9_hasBadHeadings 94 = .ok (.iconst 1, 1) := by decide +kernel
theorem dX9_hasBadHeadings_95 : decode cX9_hasBadHeadings 95 = .ok (.goto 4, 3) := by decide +kernel
theorem dX9_hasBadHeadings_98 : decode cX9_hasBadHeadings 98 = .ok (.iconst 0, 1) := by decide +kernel
theorem dX9_hasBadHeadings_99 : decode cX9_hasBadHeadings 99 = .ok (.ireturn, 1) := by decide +kernel
def f_X9_hasBadHeadings_p23 (ln : Nat → Nat) : Nat → Int32 → Int32 → Int32 → Int32 → dr_S → Option (Int32 × dr_S)
  | 0, _, _, _, _, _ => none
  | n + 1, x1, x2, x3, x4, s => (if x2 ≤ x4 then dr_bnd (f_X4_half ln  s) (fun r6 s5 => (if (2 * r6) < x2 then some (1, s5) else (if x2 ≤ 0 then some (0, s5) else dr_bnd (f_X4_covers ln x1 x3 s5) (fun r8 s7 => (if r8 = 0 then some (1, s7) else some (0, s7)))))) else dr_bnd (f_X4_heading ln x1 x4 s) (fun r10 s9 => dr_bnd (f_X5_isAhead ln x3 r10 s9) (fun r12 s11 => (if r12 = 0 then some (1, s11) else dr_let (x4 + 1) (fun y13 => (f_X9_hasBadHeadings_p23 ln n x1 x2 r10 y13 s11))))))
def f_X9_hasBadHeadings (ln : Nat → Nat) (x1 : Int32) (s : dr_S) : Option (Int32 × dr_S) := dr_bnd (f_X4_get ln x1 1 s) (fun r2 s1 => dr_bnd (f_X4_heading ln x1 0 s1) (fun r4 s3 => (f_X9_hasBadHeadings_p23 ln dr_N x1 r2 r4 1 s3)))
section
variable {p : Program} {l : Launch} {e : Env} {s0 : State} {m : MethodId} {args : Array Value} {below : List Frame} {meth : Method} {c : Code} {A : Nat → Prop} {D : va_G} {cI cZ : ClassId} {ad ln : Nat → Nat} {L : List Nat}
set_option maxHeartbeats 4000000 in
set_option maxRecDepth 20000 in
theorem w_X9_hasBadHeadings_p23 (E : dr_E p (dr_rm 3) s0 m args meth c 0 0 A s0.heap D cI cZ ad L cX9_hasBadHeadings 6 RX9 (some .boolean)) (hap : dr_ap ad L) (hN : ∀ x ∈ nd_9, x ∈ L) : ∀ (n : Nat) (x1 : Int32) (x2 : Int32) (x3 : Int32) (x4 : Int32) (s : dr_S), dr_G p l e (dr_rm 3) s0 m args below meth c 0 0 A s0.heap D cI cZ ad ln L 6 (dr_Zi D cI cZ ad ln L A below args s0 0 0) 23 [(0, .ref (ad 9)), (1, .int x1), (2, .int x2), (3, .int x3), (4, .int x4)] [] s (f_X9_hasBadHeadings_p23 ln n x1 x2 x3 x4 s) := by
  intro n
  induction n with
  | zero =>
    intro x1 x2 x3 x4 s
    rw [f_X9_hasBadHeadings_p23]
    exact g_none
  | succ n hkb23 =>
    intro x1 x2 x3 x4 s
    rw [f_X9_hasBadHeadings_p23]
    refine g_iload E dX9_hasBadHeadings_23 4 rfl ?_
    refine g_iload_n E dX9_hasBadHeadings_25 2 rfl ?_
    refine g_icmp_ge E 65 dX9_hasBadHeadings_26 (by decide) ?_ ?_
    · refine g_iload_n E dX9_hasBadHeadings_65 2 rfl ?_
      refine g_iconst E (v := 2) dX9_hasBadHeadings_66 (by decide) ?_
      refine g_aload_n E dX9_hasBadHeadings_67 0 rfl ?_
      refine gg_9_9 E (hN 9 (by decide)) dX9_hasBadHeadings_68 ?_
      refine g_cVi E [] rfl (c_X4_half hap (fun x h => hN x (ns_4_9 x h))  s) (hN 4 (by decide)) (by decide) rfl rfl mi_X4_half msl_X4_half mw_X4_half rfl ml_9_45 ⟨Nat.le_of_ble_eq_true rfl, Nat.le_of_ble_eq_true rfl⟩ (Nat.le_of_ble_eq_true rfl) dX9_hasBadHeadings_71 (fun r6 s5 => ?_)
      refine g_imul E dX9_hasBadHeadings_74 ?_
      refine g_icmp_gt E 94 dX9_hasBadHeadings_75 (by decide) ?_ ?_
      · refine g_iconst E (v := 1) dX9_hasBadHeadings_94 (by decide) ?_
        refine g_goto E 99 dX9_hasBadHeadings_95 (by decide) ?_
        exact g_zret E dX9_hasBadHeadings_99 (Or.inr rfl)
      · refine g_iload_n E dX9_hasBadHeadings_78 2 rfl ?_
        refine g_if_le E 98 dX9_hasBadHeadings_79 (by decide) ?_ ?_
        · refine g_iconst E (v := 0) dX9_hasBadHeadings_98 (by decide) ?_
          exact g_zret E dX9_hasBadHeadings_99 (Or.inl rfl)
        · refine g_aload_n E dX9_hasBadHeadings_82 0 rfl ?_
          refine gg_9_9 E (hN 9 (by decide)) dX9_hasBadHeadings_83 ?_
          refine g_iload_n E dX9_hasBadHeadings_86 1 rfl ?_
          refine g_iload_n E dX9_hasBadHeadings_87 3 rfl ?_
          refine g_cVi E [.int x1, .int x3] rfl (c_X4_covers hap (fun x h => hN x (ns_4_9 x h)) x1 x3 s5) (hN 4 (by decide)) (by decide) rfl rfl mi_X4_covers msl_X4_covers mw_X4_covers rfl ml_9_48 ⟨Nat.le_of_ble_eq_true rfl, Nat.le_of_ble_eq_true rfl⟩ (Nat.le_of_ble_eq_true rfl) dX9_hasBadHeadings_88 (fun r8 s7 => ?_)
          refine g_if_ne E 98 dX9_hasBadHeadings_91 (by decide) ?_ ?_
          · refine g_iconst E (v := 0) dX9_hasBadHeadings_98 (by decide) ?_
            exact g_zret E dX9_hasBadHeadings_99 (Or.inl rfl)
          · refine g_iconst E (v := 1) dX9_hasBadHeadings_94 (by decide) ?_
            refine g_goto E 99 dX9_hasBadHeadings_95 (by decide) ?_
            exact g_zret E dX9_hasBadHeadings_99 (Or.inr rfl)
    · refine g_aload_n E dX9_hasBadHeadings_29 0 rfl ?_
      refine gg_9_9 E (hN 9 (by decide)) dX9_hasBadHeadings_30 ?_
      refine g_iload_n E dX9_hasBadHeadings_33 1 rfl ?_
      refine g_iload E dX9_hasBadHeadings_34 4 rfl ?_
      refine g_cVi E [.int x1, .int x4] rfl (c_X4_heading hap (fun x h => hN x (ns_4_9 x h)) x1 x4 s) (hN 4 (by decide)) (by decide) rfl rfl mi_X4_heading msl_X4_heading mw_X4_heading rfl ml_9_36 ⟨Nat.le_of_ble_eq_true rfl, Nat.le_of_ble_eq_true rfl⟩ (Nat.le_of_ble_eq_true rfl) dX9_hasBadHeadings_36 (fun r10 s9 => ?_)
      refine g_istore E (lv' := [(5, .int r10), (0, .ref (ad 9)), (1, .int x1), (2, .int x2), (3, .int x3), (4, .int x4)]) dX9_hasBadHeadings_39 (by decide) rfl ?_
      refine g_aload_n E dX9_hasBadHeadings_41 1 rfl ?_
      refine gg_9_15 E (hN 9 (by decide)) dX9_hasBadHeadings_42 ?_
      refine g_iload_n E dX9_hasBadHeadings_45 4 rfl ?_
      refine g_iload E dX9_hasBadHeadings_46 0 rfl ?_
      refine g_cVi E [.int x3, .int r10] rfl (c_X5_isAhead hap (fun x h => hN x (ns_5_9 x h)) x3 r10 s9) (hN 5 (by decide)) (by decide) rfl rfl mi_X5_isAhead msl_X5_isAhead mw_X5_isAhead rfl ml_9_39 ⟨Nat.le_of_ble_eq_true rfl, Nat.le_of_ble_eq_true rfl⟩ (Nat.le_of_ble_eq_true rfl) dX9_hasBadHeadings_48 (fun r12 s11 => ?_)
      refine g_if_ne E 56 dX9_hasBadHeadings_51 (by decide) ?_ ?_
      · refine g_iload E dX9_hasBadHeadings_56 0 rfl ?_
        refine g_istore_n E (lv' := [(3, .int r10), (5, .int r10), (0, .ref (ad 9)), (1, .int x1), (2, .int x2), (4, .int x4)]) dX9_hasBadHeadings_58 (by decide) rfl ?_
        refine g_iinc E (lv' := []) (lv'' := fun y13 => [(4, .int y13), (3, .int r10), (5, .int r10), (0, .ref (ad 9)), (1, .int x1), (2, .int x2)]) (v := 1) dX9_hasBadHeadings_59 5 rfl (by decide) (by decide) (fun _ => rfl) (fun y13 => ?_)
        refine g_goto E 23 dX9_hasBadHeadings_62 (by decide) ?_
        refine g_sub [3, 4, 5, 1, 0] rfl ?_
        exact hkb23 x1 x2 r10 y13 s11
      · refine g_iconst E (v := 1) dX9_hasBadHeadings_54 (by decide) ?_
        exact g_zret E dX9_hasBadHeadings_55 (Or.inr rfl)
set_option maxHeartbeats 4000000 in
set_option maxRecDepth 20000 in
theorem c_X9_hasBadHeadings (hap : dr_ap ad L) (hN : ∀ x ∈ nd_9, x ∈ L) (x1 : Int32) (s : dr_S) : dr_Mi l D cI cZ ad ln L yX9_hasBadHeadings cX9_hasBadHeadings 6 (some .boolean) 3 [.ref (ad 9), .int x1] s (f_X9_hasBadHeadings ln x1 s) := by
  refine dr_meti (own := RX9) (by decide) rfl (Nat.le_of_ble_eq_true rfl) hap ?_
  intro p e s0 m args below meth c A E
  unfold f_X9_hasBadHeadings
  refine g_eqL (lv' := [(0, .ref (ad 9)), (1, .int x1)]) rfl ?_
  refine g_aload_n E dX9_hasBadHeadings_0 0 rfl ?_
  refine gg_9_9 E (hN 9 (by decide)) dX9_hasBadHeadings_1 ?_
  refine g_iload_n E dX9_hasBadHeadings_4 1 rfl ?_
  refine g_iconst E (v := 1) dX9_hasBadHeadings_5 (by decide) ?_
  refine g_cVi E [.int x1, .int 1] rfl (c_X4_get hap (fun x h => hN x (ns_4_9 x h)) x1 1 s) (hN 4 (by decide)) (by decide) rfl rfl mi_X4_get msl_X4_get mw_X4_get rfl ml_9_25 ⟨Nat.le_of_ble_eq_true rfl, Nat.le_of_ble_eq_true rfl⟩ (Nat.le_of_ble_eq_true rfl) dX9_hasBadHeadings_6 (fun r2 s1 => ?_)
  refine g_istore_n E (lv' := [(2, .int r2), (0, .ref (ad 9)), (1, .int x1)]) dX9_hasBadHeadings_9 (by decide) rfl ?_
  refine g_aload_n E dX9_hasBadHeadings_10 1 rfl ?_
  refine gg_9_9 E (hN 9 (by decide)) dX9_hasBadHeadings_11 ?_
  refine g_iload_n E dX9_hasBadHeadings_14 2 rfl ?_
  refine g_iconst E (v := 0) dX9_hasBadHeadings_15 (by decide) ?_
  refine g_cVi E [.int x1, .int 0] rfl (c_X4_heading hap (fun x h => hN x (ns_4_9 x h)) x1 0 s1) (hN 4 (by decide)) (by decide) rfl rfl mi_X4_heading msl_X4_heading mw_X4_heading rfl ml_9_36 ⟨Nat.le_of_ble_eq_true rfl, Nat.le_of_ble_eq_true rfl⟩ (Nat.le_of_ble_eq_true rfl) dX9_hasBadHeadings_16 (fun r4 s3 => ?_)
  refine g_istore_n E (lv' := [(3, .int r4), (2, .int r2), (0, .ref (ad 9)), (1, .int x1)]) dX9_hasBadHeadings_19 (by decide) rfl ?_
  refine g_iconst E (v := 1) dX9_hasBadHeadings_20 (by decide) ?_
  refine g_istore E (lv' := [(4, .int 1), (3, .int r4), (2, .int r2), (0, .ref (ad 9)), (1, .int x1)]) dX9_hasBadHeadings_21 (by decide) rfl ?_
  refine g_sub [3, 4, 2, 1, 0] rfl ?_
  exact w_X9_hasBadHeadings_p23 E hap hN dr_N x1 r2 r4 1 s3
end

theorem dX9_hasBadChildren_0 : decode cX9_hasBadChildren 0 = .ok (.aload_n 0, 1) := by decide +kernel
theorem dX9_hasBadChildren_1 : decode cX9_hasBadChildren 1 = .ok (.getfield 9, 3) := by decide +kernel
theorem dX9_hasBadChildren_4 : decode cX9_hasBadChildren 4 = .ok (.iload_n 1, 1) := by decide +kernel
theorem dX9_hasBadChildren_5 : decode cX9_hasBadChildren 5 = .ok (.iconst 1, 1) := by decide +kernel
theorem dX9_hasBadChildren_6 : decode cX9_hasBadChildren 6 = .ok (.invokevirtual 25, 3) := by decide +kernel
theorem dX9_hasBadChildren_9 : decode cX9_hasBadChildren 9 = .ok (.istore_n 2, 1) := by decide +kernel
theorem dX9_hasBadChildren_10 : decode cX9_hasBadChildren 10 = .ok (.aload_n 0, 1) := by decide +kernel
theorem dX9_hasBadChildren_11 : decode cX9_hasBadChildren 11 = .ok (.getfield 9, 3) := by decide +kernel
theorem dX9_hasBadChildren_14 : decode cX9_hasBadChildren 14 = .ok (.iload_n 1, 1) := by decide +kernel
theorem dX9_hasBadChildren_15 : decode cX9_hasBadChildren 15 = .ok (.iconst 0, 1) := by decide +kernel
theorem dX9_hasBadChildren_16 : decode cX9_hasBadChildren 16 = .ok (.invokevirtual 25, 3) := by decide +kernel
theorem dX9_hasBadChildren_19 : decode cX9_hasBadChildren 19 = .ok (.iconst 1, 1) := by decide +kernel
theorem dX9_hasBadChildren_20 : decode cX9_hasBadChildren 20 = .ok (.isub, 1) := by decide +kernel
theorem dX9_hasBadChildren_21 : decode cX9_hasBadChildren 21 = .ok (.istore_n 3, 1) := by decide +kernel
theorem dX9_hasBadChildren_22 : decode cX9_hasBadChildren 22 = .ok (.iconst 0, 1) := by decide +kernel
theorem dX9_hasBadChildren_23 : decode cX9_hasBadChildren 23 = .ok (.istore 4, 2) := by decide +kernel
theorem dX9_hasBadChildren_25 : decode cX9_hasBadChildren 25 = .ok (.iload 4, 2) := by decide +kernel
theorem dX9_hasBadChildren_27 : decode cX9_hasBadChildren 27 = .ok (.iload_n 2, 1) := by decide +kernel
theorem dX9_hasBadChildren_28 : decode cX9_hasBadChildren 28 = .ok (.if_icmp .gt 114, 3) := by decide +kernel
theorem dX9_hasBadChildren_31 : decode cX9_hasBadChildren 31 = .ok (.aload_n 0, 1) := by decide +kernel
theorem dX9_hasBadChildren_32 : decode cX9_hasBadChildren 32 = .ok (.getfield 9, 3) := by decide +kernel
theorem dX9_hasBadChildren_35 : decode cX9_hasBadChildren 35 = .ok (.iload_n 1, 1) := by decide +kernel
theorem dX9_hasBadChildren_36 : decode cX9_hasBadChildren 36 = .ok (.iload 4, 2) := by decide +kernel
theorem dX9_hasBadChildren_38 : decode cX9_hasBadChildren 38 = .ok (.invokevirtual 51, 3) := by decide +kernel
theorem dX9_hasBadChildren_41 : decode cX9_hasBadChildren 41 = .ok (.istore 5, 2) := by decide +kernel
theorem dX9_hasBadChildren_43 : decode cX9_hasBadChildren 43 = .ok (.iload 5, 2) := by decide +kernel
theorem dX9_hasBadChildren_45 : decode cX9_hasBadChildren 45 = .ok (.ifCond .lt 15, 3) := by decide +kernel
theorem dX9_hasBadChildren_48 : decode cX9_hasBadChildren 48 = .ok (.iload 5, 2) := by decide +kernel
theorem dX9_hasBadChildren_50 : decode cX9_hasBadChildren 50 = .ok (.aload_n 0, 1) := by decide +kernel
theorem dX9_hasBadChildren_51 : decode cX9_hasBadChildren 51 = .ok (.getfield 9, 3) := by decide +kernel
theorem dX9_hasBadChildren_54 : decode cX9_hasBadChildren 54 = .ok (.invokevirtual 19, 3) := by decide +kernel
theorem dX9_hasBadChildren_57 : decode cX9_hasBadChildren 57 = .ok (.if_icmp .lt 7, 3) := by decide +kernel
theorem dX9_hasBadChildren_60 : decode cX9_hasBadChildren 60 = .ok (.iconst 1, 1) := by decide +kernel
theorem dX9_hasBadChildren_61 : decode cX9_hasBadChildren 61 = .ok (.goto 4, 3) := by decide +kernel
theorem dX9_hasBadChildren_64 : decode cX9_hasBadChildren 64 = .ok (.iconst 0, 1) := by decide +kernel
theorem dX9_hasBadChildren_65 : decode cX9_hasBadChildren 65 = .ok (.istore 6, 2) := by decide +kernel
theorem dX9_hasBadChildren_67 : decode cX9_hasBadChildren 67 = .ok (.iload 6, 2) := by decide +kernel
theorem dX9_hasBadChildren_69 : decode cX9_hasBadChildren 69 = .ok (.ifCond .ne 17, 3) := by decide +kernel
theorem dX9_hasBadChildren_72 : decode cX9_hasBadChildren 72 = .ok (.aload_n 0, 1) := by decide +kernel
theorem dX9_hasBadChildren_73 : decode cX9_hasBadChildren 73 = .ok (.getfield 9, 3) := by decide +kernel
theorem dX9_hasBadChildren_76 : decode cX9_hasBadChildren 76 = .ok (.iload 5, 2) := by decide +kernel
theorem dX9_hasBadChildren_78 : decode cX9_hasBadChildren 78 = .ok (.iconst 0, 1) := by decide +kernel
theorem dX9_hasBadChildren_79 : decode cX9_hasBadChildren 79 = .ok (.invokevirtual 25, 3) := by decide +kernel
theorem dX9_hasBadChildren_82 : decode cX9_hasBadChildren 82 = .ok (.iload_n 3, 1) := by decide +kernel
theorem dX9_hasBadChildren_83 : decode cX9_hasBadChildren 83 = .ok (.if_icmp .eq 5, 3) := by decide +kernel
theorem dX9_hasBadChildren_86 : decode cX9_hasBadChildren 86 = .ok (.iconst 1, 1) := by decide +kernel
theorem dX9_hasBadChildren_87 : decode cX9_hasBadChildren 87 = .ok (.ireturn, 1) := by decide +kernel
theorem dX9_hasBadChildren_88 : decode cX9_hasBadChildren 88 = .ok (.aload_n 0, 1) := by decide +kernel
theorem dX9_hasBadChildren_89 : decode cX9_hasBadChildren 89 = .ok (.getfield 9, 3) := by decide +kernel
theorem dX9_hasBadChildren_92 : decode cX9_hasBadChildren 92 = .ok (.iload 5, 2) := by decide +kernel
theorem dX9_hasBadChildren_94 : decode cX9_hasBadChildren 94 = .ok (.iconst 2, 1) := by decide +kernel
theorem dX9_hasBadChildren_95 : decode cX9_hasBadChildren 95 = .ok (.invokevirtual 25, 3) := by decide +kernel
theorem dX9_hasBadChildren_98 : decode cX9_hasBadChildren 98 = .ok (.istore 7, 2) := by decide +kernel
theorem dX9_hasBadChildren_100 : decode cX9_hasBadChildren 100 = .ok (.iload 4, 2) := by decide +kernel
theorem dX9_hasBadChildren_102 : decode cX9_hasBadChildren 102 = .ok (.iload_n 2, 1) := by decide +kernel
theorem dX9_hasBadChildren_103 : decode cX9_hasBadChildren 103 = .ok (.if_icmp .ge 33, 3) := by decide +kernel
theorem dX9_hasBadChildren_106 : decode cX9_hasBadChildren 106 = .ok (.iload 7, 2) := by decide +kernel
theorem dX9_hasBadChildren_108 : decode cX9_hasBadChildren 108 = .ok (.iconst (-1), 1) := by decide +kernel
theorem dX9_hasBadChildren_109 : decode cX9_hasBadChildren 109 = .ok (.if_icmp .eq 25, 3) := by decide +kernel
theorem dX9_hasBadChildren_112 : decode cX9_hasBadChildren 112 = .ok (.aload_n 0, 1) := by decide +kernel
theorem dX9_hasBadChildren_113 : decode cX9_hasBadChildren 113 = .ok (.getfield 15, 3) := by decide +kernel
theorem dX9_hasBadChildren_116 : decode cX9_hasBadChildren 116 = .ok (.aload_n 0, 1) := by decide +kernel
theorem dX9_hasBadChildren_117 : decode cX9_hasBadChildren 117 = .ok (.getfield 9, 3) := by decide +kernel
theorem dX9_hasBadChildren_120 : decode cX9_hasBadChildren 120 = .ok (.iload_n 1, 1) := by decide +kernel
theorem dX9_hasBadChildren_121 : decode cX9_hasBadChildren 121 = .ok (.iload 4, 2) := by decide +kernel
theorem dX9_hasBadChildren_123 : decode cX9_hasBadChildren 123 = .ok (.invokevirtual 36, 3) := by decide +kernel
theorem dX9_hasBadChildren_126 : decode cX9_hasBadChildren 126 = .ok (.iload 7, 2) := by decide +kernel
theorem dX9_hasBadChildren_128 : decode cX9_hasBadChildren 128 = .ok (.invokevirtual 39, 3) := by decide +kernel
theorem dX9_hasBadChildren_131 : decode cX9_hasBadChildren 131 = .ok (.ifCond .eq 5, 3) := by decide +kernel
theorem dX9_hasBadChildren_134 : decode cX9_hasBadChildren 134 = .ok (.iconst 1, 1) := by decide +kernel
theorem dX9_hasBadChildren_135 : decode cX9_hasBadChildren 135 = .ok (.ireturn, 1) := by decide +kernel
theorem dX9_hasBadChildren_136 : decode cX9_hasBadChildren 136 = .ok (.iinc 4 1, 3) := by decide +kernel
theorem dX9_hasBadChildren_139 : decode cX9_hasBadChildren 139 = .ok (.goto (-114), 3) := by decide +kernel
theorem dX9_hasBadChildren_142 : decode cX9_hasBadChildren 142 = .ok (.iconst 0, 1) := by decide +kernel
theorem dX9_hasBadChildren_143 : decode cX9_hasBadChildren 143 = .ok (.ireturn, 1) := by decide +kernel
def f_X9_hasBadChildren_p136 (ln : Nat → Nat) (kb25 : Int32 → Int32 → Int32 → Int32 → dr_S → Option (Int32 × dr_S)) (x1 : Int32) (x2 : Int32) (x3 : Int32) (x4 : Int32) (s : dr_S) : Option (Int32 × dr_S) := dr_let (x4 + 1) (fun y18 => (kb25 x1 x2 x3 y18 s))
def f_X9_hasBadChildren_p65 (ln : Nat → Nat) (kb25 : Int32 → Int32 → Int32 → Int32 → dr_S → Option (Int32 × dr_S)) (x1 : Int32) (x2 : Int32) (x3 : Int32) (x4 : Int32) (x5 : Int32) (z0 : Int32) (s : dr_S) : Option (Int32 × dr_S) := (if z0 = 0 then dr_bnd (f_X4_get ln x5 0 s) (fun r11 s10 => (if r11 = x3 then dr_bnd (f_X4_get ln x5 2 s10) (fun r13 s12 => (if x2 ≤ x4 then (f_X9_hasBadChildren_p136 ln kb25 x1 x2 x3 x4 s12) else (if r13 = (-1) then some (1, s12) else dr_bnd (f_X4_heading ln x1 x4 s12) (fun r15 s14 => dr_bnd (f_X5_isAhead ln r15 r13 s14) (fun r17 s16 => (if r17 = 0 then (f_X9_hasBadChildren_p136 ln kb25 x1 x2 x3 x4 s16) else some (1, s16))))))) else some (1, s10))) else some (1, s))
def f_X9_hasBadChildren_p60 (ln : Nat → Nat) (kb25 : Int32 → Int32 → Int32 → Int32 → dr_S → Option (Int32 × dr_S)) (x1 : Int32) (x2 : Int32) (x3 : Int32) (x4 : Int32) (x5 : Int32) (s : dr_S) : Option (Int32 × dr_S) := (f_X9_hasBadChildren_p65 ln kb25 x1 x2 x3 x4 x5 1 s)
def f_X9_hasBadChildren_p25 (ln : Nat → Nat) : Nat → Int32 → Int32 → Int32 → Int32 → dr_S → Option (Int32 × dr_S)
  | 0, _, _, _, _, _ => none
  | n + 1, x1, x2, x3, x4, s => (if x2 < x4 then some (0, s) else dr_bnd (f_X4_child ln x1 x4 s) (fun r7 s6 => (if r7 < 0 then (f_X9_hasBadChildren_p60 ln (f_X9_hasBadChildren_p25 ln n) x1 x2 x3 x4 r7 s6) else dr_bnd (f_X4_inUse ln  s6) (fun r9 s8 => (if r7 < r9 then (f_X9_hasBadChildren_p65 ln (f_X9_hasBadChildren_p25 ln n) x1 x2 x3 x4 r7 0 s8) else (f_X9_hasBadChildren_p60 ln (f_X9_hasBadChildren_p25 ln n) x1 x2 x3 x4 r7 s8))))))
def f_X9_hasBadChildren (ln : Nat → Nat) (x1 : Int32) (s : dr_S) : Option (Int32 × dr_S) := dr_bnd (f_X4_get ln x1 1 s) (fun r2 s1 => dr_bnd (f_X4_get ln x1 0 s1) (fun r4 s3 => dr_let (r4 - 1) (fun y5 => (f_X9_hasBadChildren_p25 ln dr_N x1 r2 y5 0 s3))))
section
variable {p : Program} {l : Launch} {e : Env} {s0 : State} {m : MethodId} {args : Array Value} {below : List Frame} {meth : Method} {c : Code} {A : Nat → Prop} {D : va_G} {cI cZ : ClassId} {ad ln : Nat → Nat} {L : List Nat}
set_option maxHeartbeats 4000000 in
set_option maxRecDepth 20000 in
theorem w_X9_hasBadChildren_p136 {kb25 : Int32 → Int32 → Int32 → Int32 → dr_S → Option (Int32 × dr_S)} (E : dr_E p (dr_rm 3) s0 m args meth c 0 0 A s0.heap D cI cZ ad L cX9_hasBadChildren 8 RX9 (some .boolean)) (hap : dr_ap ad L) (hN : ∀ x ∈ nd_9, x ∈ L) (hkb25 : ∀ (x1 : Int32) (x2 : Int32) (x3 : Int32) (x4 : Int32) (s : dr_S), dr_G p l e (dr_rm 3) s0 m args below meth c 0 0 A s0.heap D cI cZ ad ln L 8 (dr_Zi D cI cZ ad ln L A below args s0 0 0) 25 [(0, .ref (ad 9)), (1, .int x1), (2, .int x2), (3, .int x3), (4, .int x4)] [] s (kb25 x1 x2 x3 x4 s)) : ∀ (x1 : Int32) (x2 : Int32) (x3 : Int32) (x4 : Int32) (s : dr_S), dr_G p l e (dr_rm 3) s0 m args below meth c 0 0 A s0.heap D cI cZ ad ln L 8 (dr_Zi D cI cZ ad ln L A below args s0 0 0) 136 [(0, .ref (ad 9)), (1, .int x1), (2, .int x2), (3, .int x3), (4, .int x4)] [] s (f_X9_hasBadChildren_p136 ln kb25 x1 x2 x3 x4 s) := by
  intro x1 x2 x3 x4 s
  unfold f_X9_hasBadChildren_p136
  refine g_iinc E (lv' := []) (lv'' := fun y18 => [(4, .int y18), (0, .ref (ad 9)), (1, .int x1), (2, .int x2), (3, .int x3)]) (v := 1) dX9_hasBadChildren_136 4 rfl (by decide) (by decide) (fun _ => rfl) (fun y18 => ?_)
  refine g_goto E 25 dX9_hasBadChildren_139 (by decide) ?_
  refine g_sub [1, 2, 3, 4, 0] rfl ?_
  exact hkb25 x1 x2 x3 y18 s
set_option maxHeartbeats 4000000 in
set_option maxRecDepth 20000 in
theorem w_X9_hasBadChildren_p65 {kb25 : Int32 → Int32 → Int32 → Int32 → dr_S → Option (Int32 × dr_S)} (E : dr_E p (dr_rm 3) s0 m args meth c 0 0 A s0.heap D cI cZ ad L cX9_hasBadChildren 8 RX9 (some .boolean)) (hap : dr_ap ad L) (hN : ∀ x ∈ nd_9, x ∈ L) (hkb25 : ∀ (x1 : Int32) (x2 : Int32) (x3 : Int32) (x4 : Int32) (s : dr_S), dr_G p l e (dr_rm 3) s0 m args below meth c 0 0 A s0.heap D cI cZ ad ln L 8 (dr_Zi D cI cZ ad ln L A below args s0 0 0) 25 [(0, .ref (ad 9)), (1, .int x1), (2, .int x2), (3, .int x3), (4, .int x4)] [] s (kb25 x1 x2 x3 x4 s)) : ∀ (x1 : Int32) (x2 : Int32) (x3 : Int32) (x4 : Int32) (x5 : Int32) (z0 : Int32) (s : dr_S), dr_G p l e (dr_rm 3) s0 m args below meth c 0 0 A s0.heap D cI cZ ad ln L 8 (dr_Zi D cI cZ ad ln L A below args s0 0 0) 65 [(0, .ref (ad 9)), (1, .int x1), (2, .int x2), (3, .int x3), (4, .int x4), (5, .int x5)] [.int z0] s (f_X9_hasBadChildren_p65 ln kb25 x1 x2 x3 x4 x5 z0 s) := by
  intro x1 x2 x3 x4 x5 z0 s
  unfold f_X9_hasBadChildren_p65
  refine g_istore E (lv' := [(6, .int z0), (0, .ref (ad 9)), (1, .int x1), (2, .int x2), (3, .int x3), (4, .int x4), (5, .int x5)]) dX9_hasBadChildren_65 (by decide) rfl ?_
  refine g_iload E dX9_hasBadChildren_67 0 rfl ?_
  refine g_if_ne E 86 dX9_hasBadChildren_69 (by decide) ?_ ?_
  · refine g_iconst E (v := 1) dX9_hasBadChildren_86 (by decide) ?_
    exact g_zret E dX9_hasBadChildren_87 (Or.inr rfl)
  · refine g_aload_n E dX9_hasBadChildren_72 1 rfl ?_
    refine gg_9_9 E (hN 9 (by decide)) dX9_hasBadChildren_73 ?_
    refine g_iload E dX9_hasBadChildren_76 6 rfl ?_
    refine g_iconst E (v := 0) dX9_hasBadChildren_78 (by decide) ?_
    refine g_cVi E [.int x5, .int 0] rfl (c_X4_get hap (fun x h => hN x (ns_4_9 x h)) x5 0 s) (hN 4 (by decide)) (by decide) rfl rfl mi_X4_get msl_X4_get mw_X4_get rfl ml_9_25 ⟨Nat.le_of_ble_eq_true rfl, Nat.le_of_ble_eq_true rfl⟩ (Nat.le_of_ble_eq_true rfl) dX9_hasBadChildren_79 (fun r11 s10 => ?_)
    refine g_iload_n E dX9_hasBadChildren_82 4 rfl ?_
    refine g_icmp_eq E 88 dX9_hasBadChildren_83 (by decide) ?_ ?_
    · refine g_aload_n E dX9_hasBadChildren_88 1 rfl ?_
      refine gg_9_9 E (hN 9 (by decide)) dX9_hasBadChildren_89 ?_
      refine g_iload E dX9_hasBadChildren_92 6 rfl ?_
      refine g_iconst E (v := 2) dX9_hasBadChildren_94 (by decide) ?_
      refine g_cVi E [.int x5, .int 2] rfl (c_X4_get hap (fun x h => hN x (ns_4_9 x h)) x5 2 s10) (hN 4 (by decide)) (by decide) rfl rfl mi_X4_get msl_X4_get mw_X4_get rfl ml_9_25 ⟨Nat.le_of_ble_eq_true rfl, Nat.le_of_ble_eq_true rfl⟩ (Nat.le_of_ble_eq_true rfl) dX9_hasBadChildren_95 (fun r13 s12 => ?_)
      refine g_istore E (lv' := [(7, .int r13), (6, .int z0), (0, .ref (ad 9)), (1, .int x1), (2, .int x2), (3, .int x3), (4, .int x4), (5, .int x5)]) dX9_hasBadChildren_98 (by decide) rfl ?_
      refine g_iload E dX9_hasBadChildren_100 6 rfl ?_
      refine g_iload_n E dX9_hasBadChildren_102 4 rfl ?_
      refine g_icmp_ge E 136 dX9_hasBadChildren_103 (by decide) ?_ ?_
      · refine g_sub [2, 3, 4, 5, 6] rfl ?_
        exact w_X9_hasBadChildren_p136 E hap hN hkb25 x1 x2 x3 x4 s12
      · refine g_iload E dX9_hasBadChildren_106 0 rfl ?_
        refine g_iconst E (v := (-1)) dX9_hasBadChildren_108 (by decide) ?_
        refine g_icmp_eq E 134 dX9_hasBadChildren_109 (by decide) ?_ ?_
        · refine g_iconst E (v := 1) dX9_hasBadChildren_134 (by decide) ?_
          exact g_zret E dX9_hasBadChildren_135 (Or.inr rfl)
        · refine g_aload_n E dX9_hasBadChildren_112 2 rfl ?_
          refine gg_9_15 E (hN 9 (by decide)) dX9_hasBadChildren_113 ?_
          refine g_aload_n E dX9_hasBadChildren_116 2 rfl ?_
          refine gg_9_9 E (hN 9 (by decide)) dX9_hasBadChildren_117 ?_
          refine g_iload_n E dX9_hasBadChildren_120 3 rfl ?_
          refine g_iload E dX9_hasBadChildren_121 6 rfl ?_
          refine g_cVi E [.int x1, .int x4] rfl (c_X4_heading hap (fun x h => hN x (ns_4_9 x h)) x1 x4 s12) (hN 4 (by decide)) (by decide) rfl rfl mi_X4_heading msl_X4_heading mw_X4_heading rfl ml_9_36 ⟨Nat.le_of_ble_eq_true rfl, Nat.le_of_ble_eq_true rfl⟩ (Nat.le_of_ble_eq_true rfl) dX9_hasBadChildren_123 (fun r15 s14 => ?_)
          refine g_iload E dX9_hasBadChildren_126 0 rfl ?_
          refine g_cVi E [.int r15, .int r13] rfl (c_X5_isAhead hap (fun x h => hN x (ns_5_9 x h)) r15 r13 s14) (hN 5 (by decide)) (by decide) rfl rfl mi_X5_isAhead msl_X5_isAhead mw_X5_isAhead rfl ml_9_39 ⟨Nat.le_of_ble_eq_true rfl, Nat.le_of_ble_eq_true rfl⟩ (Nat.le_of_ble_eq_true rfl) dX9_hasBadChildren_128 (fun r17 s16 => ?_)
          refine g_if_eq E 136 dX9_hasBadChildren_131 (by decide) ?_ ?_
          · refine g_sub [2, 3, 4, 5, 6] rfl ?_
            exact w_X9_hasBadChildren_p136 E hap hN hkb25 x1 x2 x3 x4 s16
          · refine g_iconst E (v := 1) dX9_hasBadChildren_134 (by decide) ?_
            exact g_zret E dX9_hasBadChildren_135 (Or.inr rfl)
    · refine g_iconst E (v := 1) dX9_hasBadChildren_86 (by decide) ?_
      exact g_zret E dX9_hasBadChildren_87 (Or.inr rfl)
set_option maxHeartbeats 4000000 in
set_option maxRecDepth 20000 in
theorem w_X9_hasBadChildren_p60 {kb25 : Int32 → Int32 → Int32 → Int32 → dr_S → Option (Int32 × dr_S)} (E : dr_E p (dr_rm 3) s0 m args meth c 0 0 A s0.heap D cI cZ ad L cX9_hasBadChildren 8 RX9 (some .boolean)) (hap : dr_ap ad L) (hN : ∀ x ∈ nd_9, x ∈ L) (hkb25 : ∀ (x1 : Int32) (x2 : Int32) (x3 : Int32) (x4 : Int32) (s : dr_S), dr_G p l e (dr_rm 3) s0 m args below meth c 0 0 A s0.heap D cI cZ ad ln L 8 (dr_Zi D cI cZ ad ln L A below args s0 0 0) 25 [(0, .ref (ad 9)), (1, .int x1), (2, .int x2), (3, .int x3), (4, .int x4)] [] s (kb25 x1 x2 x3 x4 s)) : ∀ (x1 : Int32) (x2 : Int32) (x3 : Int32) (x4 : Int32) (x5 : Int32) (s : dr_S), dr_G p l e (dr_rm 3) s0 m args below meth c 0 0 A s0.heap D cI cZ ad ln L 8 (dr_Zi D cI cZ ad ln L A below args s0 0 0) 60 [(0, .ref (ad 9)), (1, .int x1), (2, .int x2), (3, .int x3), (4, .int x4), (5, .int x5)] [] s (f_X9_hasBadChildren_p60 ln kb25 x1 x2 x3 x4 x5 s) := by
  intro x1 x2 x3 x4 x5 s
  unfold f_X9_hasBadChildren_p60
  refine g_iconst E (v := 1) dX9_hasBadChildren_60 (by decide) ?_
  refine g_goto E 65 dX9_hasBadChildren_61 (by decide) ?_
  refine g_sub [0, 1, 2, 3, 4, 5] rfl ?_
  exact w_X9_hasBadChildren_p65 E hap hN hkb25 x1 x2 x3 x4 x5 1 s
set_option maxHeartbeats 4000000 in
set_option maxRecDepth 20000 in
theorem w_X9_hasBadChildren_p25 (E : dr_E p (dr_rm 3) s0 m args meth c 0 0 A s0.heap D cI cZ ad L cX9_hasBadChildren 8 RX9 (some .boolean)) (hap : dr_ap ad L) (hN : ∀ x ∈ nd_9, x ∈ L) : ∀ (n : Nat) (x1 : Int32) (x2 : Int32) (x3 : Int32) (x4 : Int32) (s : dr_S), dr_G p l e (dr_rm 3) s0 m args below meth c 0 0 A s0.heap D cI cZ ad ln L 8 (dr_Zi D cI cZ ad ln L A below args s0 0 0) 25 [(0, .ref (ad 9)), (1, .int x1), (2, .int x2), (3, .int x3), (4, .int x4)] [] s (f_X9_hasBadChildren_p25 ln n x1 x2 x3 x4 s) := by
  intro n
  induction n with
  | zero =>
    intro x1 x2 x3 x4 s
    rw [f_X9_hasBadChildren_p25]
    exact g_none
  | succ n hkb25 =>
    intro x1 x2 x3 x4 s
    rw [f_X9_hasBadChildren_p25]
    refine g_iload E dX9_hasBadChildren_25 4 rfl ?_
    refine g_iload_n E dX9_hasBadChildren_27 2 rfl ?_
    refine g_icmp_gt E 142 dX9_hasBadChildren_28 (by decide) ?_ ?_
    · refine g_iconst E (v := 0) dX9_hasBadChildren_142 (by decide) ?_
      exact g_zret E dX9_hasBadChildren_143 (Or.inl rfl)
    · refine g_aload_n E dX9_hasBadChildren_31 0 rfl ?_
      refine gg_9_9 E (hN 9 (by decide)) dX9_hasBadChildren_32 ?_
      refine g_iload_n E dX9_hasBadChildren_35 1 rfl ?_
      refine g_iload E dX9_hasBadChildren_36 4 rfl ?_
      refine g_cVi E [.int x1, .int x4] rfl (c_X4_child hap (fun x h => hN x (ns_4_9 x h)) x1 x4 s) (hN 4 (by decide)) (by decide) rfl rfl mi_X4_child msl_X4_child mw_X4_child rfl ml_9_51 ⟨Nat.le_of_ble_eq_true rfl, Nat.le_of_ble_eq_true rfl⟩ (Nat.le_of_ble_eq_true rfl) dX9_hasBadChildren_38 (fun r7 s6 => ?_)
      refine g_istore E (lv' := [(5, .int r7), (0, .ref (ad 9)), (1, .int x1), (2, .int x2), (3, .int x3), (4, .int x4)]) dX9_hasBadChildren_41 (by decide) rfl ?_
      refine g_iload E dX9_hasBadChildren_43 0 rfl ?_
      refine g_if_lt E 60 dX9_hasBadChildren_45 (by decide) ?_ ?_
      · refine g_sub [1, 2, 3, 4, 5, 0] rfl ?_
        exact w_X9_hasBadChildren_p60 E hap hN hkb25 x1 x2 x3 x4 r7 s6
      · refine g_iload E dX9_hasBadChildren_48 0 rfl ?_
        refine g_aload_n E dX9_hasBadChildren_50 1 rfl ?_
        refine gg_9_9 E (hN 9 (by decide)) dX9_hasBadChildren_51 ?_
        refine g_cVi E [] rfl (c_X4_inUse hap (fun x h => hN x (ns_4_9 x h))  s6) (hN 4 (by decide)) (by decide) rfl rfl mi_X4_inUse msl_X4_inUse mw_X4_inUse rfl ml_9_19 ⟨Nat.le_of_ble_eq_true rfl, Nat.le_of_ble_eq_true rfl⟩ (Nat.le_of_ble_eq_true rfl) dX9_hasBadChildren_54 (fun r9 s8 => ?_)
        refine g_icmp_lt E 64 dX9_hasBadChildren_57 (by decide) ?_ ?_
        · refine g_iconst E (v := 0) dX9_hasBadChildren_64 (by decide) ?_
          refine g_sub [1, 2, 3, 4, 5, 0] rfl ?_
          exact w_X9_hasBadChildren_p65 E hap hN hkb25 x1 x2 x3 x4 r7 0 s8
        · refine g_sub [1, 2, 3, 4, 5, 0] rfl ?_
          exact w_X9_hasBadChildren_p60 E hap hN hkb25 x1 x2 x3 x4 r7 s8
set_option maxHeartbeats 4000000 in
set_option maxRecDepth 20000 in
theorem c_X9_hasBadChildren (hap : dr_ap ad L) (hN : ∀ x ∈ nd_9, x ∈ L) (x1 : Int32) (s : dr_S) : dr_Mi l D cI cZ ad ln L yX9_hasBadChildren cX9_hasBadChildren 8 (some .boolean) 3 [.ref (ad 9), .int x1] s (f_X9_hasBadChildren ln x1 s) := by
  refine dr_meti (own := RX9) (by decide) rfl (Nat.le_of_ble_eq_true rfl) hap ?_
  intro p e s0 m args below meth c A E
  unfold f_X9_hasBadChildren
  refine g_eqL (lv' := [(0, .ref (ad 9)), (1, .int x1)]) rfl ?_
  refine g_aload_n E dX9_hasBadChildren_0 0 rfl ?_
  refine gg_9_9 E (hN 9 (by decide)) dX9_hasBadChildren_1 ?_
  refine g_iload_n E dX9_hasBadChildren_4 1 rfl ?_
  refine g_iconst E (v := 1) dX9_hasBadChildren_5 (by decide) ?_
  refine g_cVi E [.int x1, .int 1] rfl (c_X4_get hap (fun x h => hN x (ns_4_9 x h)) x1 1 s) (hN 4 (by decide)) (by decide) rfl rfl mi_X4_get msl_X4_get mw_X4_get rfl ml_9_25 ⟨Nat.le_of_ble_eq_true rfl, Nat.le_of_ble_eq_true rfl⟩ (Nat.le_of_ble_eq_true rfl) dX9_hasBadChildren_6 (fun r2 s1 => ?_)
  refine g_istore_n E (lv' := [(2, .int r2), (0, .ref (ad 9)), (1, .int x1)]) dX9_hasBadChildren_9 (by decide) rfl ?_
  refine g_aload_n E dX9_hasBadChildren_10 1 rfl ?_
  refine gg_9_9 E (hN 9 (by decide)) dX9_hasBadChildren_11 ?_
  refine g_iload_n E dX9_hasBadChildren_14 2 rfl ?_
  refine g_iconst E (v := 0) dX9_hasBadChildren_15 (by decide) ?_
  refine g_cVi E [.int x1, .int 0] rfl (c_X4_get hap (fun x h => hN x (ns_4_9 x h)) x1 0 s1) (hN 4 (by decide)) (by decide) rfl rfl mi_X4_get msl_X4_get mw_X4_get rfl ml_9_25 ⟨Nat.le_of_ble_eq_true rfl, Nat.le_of_ble_eq_true rfl⟩ (Nat.le_of_ble_eq_true rfl) dX9_hasBadChildren_16 (fun r4 s3 => ?_)
  refine g_iconst E (v := 1) dX9_hasBadChildren_19 (by decide) ?_
  refine g_isub E dX9_hasBadChildren_20 ?_
  refine g_let (fun y5 => ?_)
  refine g_istore_n E (lv' := [(3, .int y5), (2, .int r2), (0, .ref (ad 9)), (1, .int x1)]) dX9_hasBadChildren_21 (by decide) rfl ?_
  refine g_iconst E (v := 0) dX9_hasBadChildren_22 (by decide) ?_
  refine g_istore E (lv' := [(4, .int 0), (3, .int y5), (2, .int r2), (0, .ref (ad 9)), (1, .int x1)]) dX9_hasBadChildren_23 (by decide) rfl ?_
  refine g_sub [3, 4, 2, 1, 0] rfl ?_
  exact w_X9_hasBadChildren_p25 E hap hN dr_N x1 r2 y5 0 s3
end

theorem dX9_leastBad_0 : decode cX9_leastBad 0 = .ok (.iconst 0, 1) := by decide +kernel
theorem dX9_leastBad_1 : decode cX9_leastBad 1 = .ok (.istore_n 1, 1) := by decide +kernel
theorem dX9_leastBad_2 : decode cX9_leastBad 2 = .ok (.iload_n 1, 1) := by decide +kernel
theorem dX9_leastBad_3 : decode cX9_leastBad 3 = .ok (.aload_n 0, 1) := by decide +kernel
theorem dX9_leastBad_4 : decode cX9_leastBad 4 = .ok (.getfield 9, 3) := by decide +kernel
theorem dX9_leastBad_7 : decode cX9_leastBad 7 = .ok (.invokevirtual 19, 3) := by decide +kernel
theorem dX9_leastBad_10 : decode cX9_leastBad 10 = .ok (.if_icmp .ge 49, 3) := by decide +kernel
theorem dX9_leastBad_13 : decode cX9_leastBad 13 = .ok (.aload_n 0, 1) := by decide +kernel
theorem dX9_leastBad_14 : decode cX9_leastBad 14 = .ok (.getfield 9, 3) := by decide +kernel
theorem dX9_leastBad_17 : decode cX9_leastBad 17 = .ok (.iload_n 1, 1) := by decide +kernel
theorem dX9_leastBad_18 : decode cX9_leastBad 18 = .ok (.iconst 0, 1) := by decide +kernel
theorem dX9_leastBad_19 : decode cX9_leastBad 19 = .ok (.invokevirtual 25, 3) := by decide +kernel
theorem dX9_leastBad_22 : decode cX9_leastBad 22 = .ok (.ifCond .le 7, 3) := by decide +kernel
theorem dX9_leastBad_25 : decode cX9_leastBad 25 = .ok (.iconst 1, 1) := by decide +kernel
theorem dX9_leastBad_26 : decode cX9_leastBad 26 = .ok (.goto 4, 3) := by decide +kernel
theorem dX9_leastBad_29 : decode cX9_leastBad 29 = .ok (.iconst 0, 1) := by decide +kernel
theorem dX9_leastBad_30 : decode cX9_leastBad 30 = .ok (.istore_n 2, 1) := by decide +kernel
theorem dX9_leastBad_31 : decode cX9_leastBad 31 = .ok (.aload_n 0, 1) := by decide +kernel
theorem dX9_leastBad_32 : decode cX9_leastBad 32 = .ok (.iload_n 1, 1) := by decide +kernel
theorem dX9_leastBad_33 : decode cX9_leastBad 33 = .ok (.invokevirtual 29, 3) := by decide +kernel
theorem dX9_leastBad_36 : decode cX9_leastBad 36 = .ok (.ifCond .ne 15, 3) := by decide +kernel
theorem dX9_leastBad_39 : decode cX9_leastBad 39 = .ok (.iload_n 2, 1) := by decide +kernel
theorem dX9_leastBad_40 : decode cX9_leastBad 40 = .ok (.ifCond .eq 13, 3) := by decide +kernel
theorem dX9_leastBad_43 : decode cX9_leastBad 43 = .ok (.aload_n 0, 1) := by decide +kernel
theorem dX9_leastBad_44 : decode cX9_leastBad 44 = .ok (.iload_n 1, 1) := by decide +kernel
theorem dX9_leastBad_45 : decode cX9_leastBad 45 = .ok (.invokevirtual 33, 3) := by decide +kernel
theorem dX9_leastBad_48 : decode cX9_leastBad 48 = .ok (.ifCond .eq 5, 3) := by decide +kernel
theorem dX9_leastBad_51 : decode cX9_leastBad 51 = .ok (.iload_n 1, 1) := by decide +kernel
theorem dX9_leastBad_52 : decode cX9_leastBad 52 = .ok (.ireturn, 1) := by decide +kernel
theorem dX9_leastBad_53 : decode cX9_leastBad 53 = .ok (.iinc 1 1, 3) := by decide +kernel
theorem dX9_leastBad_56 : decode cX9_leastBad 56 = .ok (.goto (-54), 3) := by decide +kernel
theorem dX9_leastBad_59 : decode cX9_leastBad 59 = .ok (.iconst (-1), 1) := by decide +kernel
theorem dX9_leastBad_60 : decode cX9_leastBad 60 = .ok (.ireturn, 1) := by decide +kernel
def f_X9_leastBad_p53 (ln : Nat → Nat) (kb2 : Int32 → dr_S → Option (Int32 × dr_S)) (x1 : Int32) (s : dr_S) : Option (Int32 × dr_S) := dr_let (x1 + 1) (fun y9 => (kb2 y9 s))
def f_X9_leastBad_p30 (ln : Nat → Nat) (kb2 : Int32 → dr_S → Option (Int32 × dr_S)) (x1 : Int32) (z0 : Int32) (s : dr_S) : Option (Int32 × dr_S) := dr_bnd (f_X9_hasBadHeadings ln x1 s) (fun r6 s5 => (if r6 = 0 then (if z0 = 0 then (f_X9_leastBad_p53 ln kb2 x1 s5) else dr_bnd (f_X9_hasBadChildren ln x1 s5) (fun r8 s7 => (if r8 = 0 then (f_X9_leastBad_p53 ln kb2 x1 s7) else some (x1, s7)))) else some (x1, s5)))
def f_X9_leastBad_p2 (ln : Nat → Nat) : Nat → Int32 → dr_S → Option (Int32 × dr_S)
  | 0, _, _ => none
  | n + 1, x1, s => dr_bnd (f_X4_inUse ln  s) (fun r2 s1 => (if r2 ≤ x1 then some ((-1), s1) else dr_bnd (f_X4_get ln x1 0 s1) (fun r4 s3 => (if r4 ≤ 0 then (f_X9_leastBad_p30 ln (f_X9_leastBad_p2 ln n) x1 0 s3) else (f_X9_leastBad_p30 ln (f_X9_leastBad_p2 ln n) x1 1 s3)))))
def f_X9_leastBad (ln : Nat → Nat) (s : dr_S) : Option (Int32 × dr_S) := (f_X9_leastBad_p2 ln dr_N 0 s)
section
variable {p : Program} {l : Launch} {e : Env} {s0 : State} {m : MethodId} {args : Array Value} {below : List Frame} {meth : Method} {c : Code} {A : Nat → Prop} {D : va_G} {cI cZ : ClassId} {ad ln : Nat → Nat} {L : List Nat}
set_option maxHeartbeats 4000000 in
set_option maxRecDepth 20000 in
theorem w_X9_leastBad_p53 {kb2 : Int32 → dr_S → Option (Int32 × dr_S)} (E : dr_E p (dr_rm 4) s0 m args meth c 0 0 A s0.heap D cI cZ ad L cX9_leastBad 3 RX9 (some .int)) (hap : dr_ap ad L) (hN : ∀ x ∈ nd_9, x ∈ L) (hkb2 : ∀ (x1 : Int32) (s : dr_S), dr_G p l e (dr_rm 4) s0 m args below meth c 0 0 A s0.heap D cI cZ ad ln L 3 (dr_Zi D cI cZ ad ln L A below args s0 0 0) 2 [(0, .ref (ad 9)), (1, .int x1)] [] s (kb2 x1 s)) : ∀ (x1 : Int32) (s : dr_S), dr_G p l e (dr_rm 4) s0 m args below meth c 0 0 A s0.heap D cI cZ ad ln L 3 (dr_Zi D cI cZ ad ln L A below args s0 0 0) 53 [(0, .ref (ad 9)), (1, .int x1)] [] s (f_X9_leastBad_p53 ln kb2 x1 s) := by
  intro x1 s
  unfold f_X9_leastBad_p53
  refine g_iinc E (lv' := []) (lv'' := fun y9 => [(1, .int y9), (0, .ref (ad 9))]) (v := 1) dX9_leastBad_53 1 rfl (by decide) (by decide) (fun _ => rfl) (fun y9 => ?_)
  refine g_goto E 2 dX9_leastBad_56 (by decide) ?_
  refine g_sub [1, 0] rfl ?_
  exact hkb2 y9 s
set_option maxHeartbeats 4000000 in
set_option maxRecDepth 20000 in
theorem w_X9_leastBad_p30 {kb2 : Int32 → dr_S → Option (Int32 × dr_S)} (E : dr_E p (dr_rm 4) s0 m args meth c 0 0 A s0.heap D cI cZ ad L cX9_leastBad 3 RX9 (some .int)) (hap : dr_ap ad L) (hN : ∀ x ∈ nd_9, x ∈ L) (hkb2 : ∀ (x1 : Int32) (s : dr_S), dr_G p l e (dr_rm 4) s0 m args below meth c 0 0 A s0.heap D cI cZ ad ln L 3 (dr_Zi D cI cZ ad ln L A below args s0 0 0) 2 [(0, .ref (ad 9)), (1, .int x1)] [] s (kb2 x1 s)) : ∀ (x1 : Int32) (z0 : Int32) (s : dr_S), dr_G p l e (dr_rm 4) s0 m args below meth c 0 0 A s0.heap D cI cZ ad ln L 3 (dr_Zi D cI cZ ad ln L A below args s0 0 0) 30 [(0, .ref (ad 9)), (1, .int x1)] [.int z0] s (f_X9_leastBad_p30 ln kb2 x1 z0 s) := by
  intro x1 z0 s
  unfold f_X9_leastBad_p30
  refine g_istore_n E (lv' := [(2, .int z0), (0, .ref (ad 9)), (1, .int x1)]) dX9_leastBad_30 (by decide) rfl ?_
  refine g_aload_n E dX9_leastBad_31 1 rfl ?_
  refine g_iload_n E dX9_leastBad_32 2 rfl ?_
  refine g_cVi E [.int x1] rfl (c_X9_hasBadHeadings hap hN x1 s) (hN 9 (by decide)) (by decide) rfl rfl mi_X9_hasBadHeadings msl_X9_hasBadHeadings mw_X9_hasBadHeadings rfl ml_9_29 ⟨Nat.le_of_ble_eq_true rfl, Nat.le_of_ble_eq_true rfl⟩ (Nat.le_of_ble_eq_true rfl) dX9_leastBad_33 (fun r6 s5 => ?_)
  refine g_if_ne E 51 dX9_leastBad_36 (by decide) ?_ ?_
  · refine g_iload_n E dX9_leastBad_51 2 rfl ?_
    exact g_iret E dX9_leastBad_52
  · refine g_iload_n E dX9_leastBad_39 0 rfl ?_
    refine g_if_eq E 53 dX9_leastBad_40 (by decide) ?_ ?_
    · refine g_sub [1, 2] rfl ?_
      exact w_X9_leastBad_p53 E hap hN hkb2 x1 s5
    · refine g_aload_n E dX9_leastBad_43 1 rfl ?_
      refine g_iload_n E dX9_leastBad_44 2 rfl ?_
      refine g_cVi E [.int x1] rfl (c_X9_hasBadChildren hap hN x1 s5) (hN 9 (by decide)) (by decide) rfl rfl mi_X9_hasBadChildren msl_X9_hasBadChildren mw_X9_hasBadChildren rfl ml_9_33 ⟨Nat.le_of_ble_eq_true rfl, Nat.le_of_ble_eq_true rfl⟩ (Nat.le_of_ble_eq_true rfl) dX9_leastBad_45 (fun r8 s7 => ?_)
      refine g_if_eq E 53 dX9_leastBad_48 (by decide) ?_ ?_
      · refine g_sub [1, 2] rfl ?_
        exact w_X9_leastBad_p53 E hap hN hkb2 x1 s7
      · refine g_iload_n E dX9_leastBad_51 2 rfl ?_
        exact g_iret E dX9_leastBad_52
set_option maxHeartbeats 4000000 in
set_option maxRecDepth 20000 in
theorem w_X9_leastBad_p2 (E : dr_E p (dr_rm 4) s0 m args meth c 0 0 A s0.heap D cI cZ ad L cX9_leastBad 3 RX9 (some .int)) (hap : dr_ap ad L) (hN : ∀ x ∈ nd_9, x ∈ L) : ∀ (n : Nat) (x1 : Int32) (s : dr_S), dr_G p l e (dr_rm 4) s0 m args below meth c 0 0 A s0.heap D cI cZ ad ln L 3 (dr_Zi D cI cZ ad ln L A below args s0 0 0) 2 [(0, .ref (ad 9)), (1, .int x1)] [] s (f_X9_leastBad_p2 ln n x1 s) := by
  intro n
  induction n with
  | zero =>
    intro x1 s
    rw [f_X9_leastBad_p2]
    exact g_none
  | succ n hkb2 =>
    intro x1 s
    rw [f_X9_leastBad_p2]
    refine g_iload_n E dX9_leastBad_2 1 rfl ?_
    refine g_aload_n E dX9_leastBad_3 0 rfl ?_
    refine gg_9_9 E (hN 9 (by decide)) dX9_leastBad_4 ?_
    refine g_cVi E [] rfl (c_X4_inUse hap (fun x h => hN x (ns_4_9 x h))  s) (hN 4 (by decide)) (by decide) rfl rfl mi_X4_inUse msl_X4_inUse mw_X4_inUse rfl ml_9_19 ⟨Nat.le_of_ble_eq_true rfl, Nat.le_of_ble_eq_true rfl⟩ (Nat.le_of_ble_eq_true rfl) dX9_leastBad_7 (fun r2 s1 => ?_)
    refine g_icmp_ge E 59 dX9_leastBad_10 (by decide) ?_ ?_
    · refine g_iconst E (v := (-1)) dX9_leastBad_59 (by decide) ?_
      exact g_iret E dX9_leastBad_60
    · refine g_aload_n E dX9_leastBad_13 0 rfl ?_
      refine gg_9_9 E (hN 9 (by decide)) dX9_leastBad_14 ?_
      refine g_iload_n E dX9_leastBad_17 1 rfl ?_
      refine g_iconst E (v := 0) dX9_leastBad_18 (by decide) ?_
      refine g_cVi E [.int x1, .int 0] rfl (c_X4_get hap (fun x h => hN x (ns_4_9 x h)) x1 0 s1) (hN 4 (by decide)) (by decide) rfl rfl mi_X4_get msl_X4_get mw_X4_get rfl ml_9_25 ⟨Nat.le_of_ble_eq_true rfl, Nat.le_of_ble_eq_true rfl⟩ (Nat.le_of_ble_eq_true rfl) dX9_leastBad_19 (fun r4 s3 => ?_)
      refine g_if_le E 29 dX9_leastBad_22 (by decide) ?_ ?_
      · refine g_iconst E (v := 0) dX9_leastBad_29 (by decide) ?_
        refine g_sub [0, 1] rfl ?_
        exact w_X9_leastBad_p30 E hap hN hkb2 x1 0 s3
      · refine g_iconst E (v := 1) dX9_leastBad_25 (by decide) ?_
        refine g_goto E 30 dX9_leastBad_26 (by decide) ?_
        refine g_sub [0, 1] rfl ?_
        exact w_X9_leastBad_p30 E hap hN hkb2 x1 1 s3
set_option maxHeartbeats 4000000 in
set_option maxRecDepth 20000 in
theorem c_X9_leastBad (hap : dr_ap ad L) (hN : ∀ x ∈ nd_9, x ∈ L) (s : dr_S) : dr_Mi l D cI cZ ad ln L yX9_leastBad cX9_leastBad 3 (some .int) 4 [.ref (ad 9)] s (f_X9_leastBad ln  s) := by
  refine dr_meti (own := RX9) (by decide) rfl (Nat.le_of_ble_eq_true rfl) hap ?_
  intro p e s0 m args below meth c A E
  unfold f_X9_leastBad
  refine g_eqL (lv' := [(0, .ref (ad 9))]) rfl ?_
  refine g_iconst E (v := 0) dX9_leastBad_0 (by decide) ?_
  refine g_istore_n E (lv' := [(1, .int 0), (0, .ref (ad 9))]) dX9_leastBad_1 (by decide) rfl ?_
  refine g_sub [1, 0] rfl ?_
  exact w_X9_leastBad_p2 E hap hN dr_N 0 s
end

theorem dX8_isWrongNow_0 : decode cX8_isWrongNow 0 = .ok (.aload_n 0, 1) := by decide +kernel
theorem dX8_isWrongNow_1 : decode cX8_isWrongNow 1 = .ok (.getfield 30, 3) := by decide +kernel
theorem dX8_isWrongNow_4 : decode cX8_isWrongNow 4 = .ok (.aload_n 0, 1) := by decide +kernel
theorem dX8_isWrongNow_5 : decode cX8_isWrongNow 5 = .ok (.getfield 26, 3) := by decide +kernel
theorem dX8_isWrongNow_8 : decode cX8_isWrongNow 8 = .ok (.aload_n 0, 1) := by decide +kernel
theorem dX8_isWrongNow_9 : decode cX8_isWrongNow 9 = .ok (.getfield 15, 3) := by decide +kernel
theorem dX8_isWrongNow_12 : decode cX8_isWrongNow 12 = .ok (.iconst 2, 1) := by decide +kernel
theorem dX8_isWrongNow_13 : decode cX8_isWrongNow 13 = .ok (.invokevirtual 75, 3) := by decide +kernel
theorem dX8_isWrongNow_16 : decode cX8_isWrongNow 16 = .ok (.iconst 1, 1) := by decide +kernel
theorem dX8_isWrongNow_17 : decode cX8_isWrongNow 17 = .ok (.invokevirtual 81, 3) := by decide +kernel
theorem dX8_isWrongNow_20 : decode cX8_isWrongNow 20 = .ok (.istore_n 1, 1) := by decide +kernel
theorem dX8_isWrongNow_21 : decode cX8_isWrongNow 21 = .ok (.aload_n 0, 1) := by decide +kernel
theorem dX8_isWrongNow_22 : decode cX8_isWrongNow 22 = .ok (.getfield 30, 3) := by decide +kernel
theorem dX8_isWrongNow_25 : decode cX8_isWrongNow 25 = .ok (.aload_n 0, 1) := by decide +kernel
theorem dX8_isWrongNow_26 : decode cX8_isWrongNow 26 = .ok (.getfield 26, 3) := by decide +kernel
theorem dX8_isWrongNow_29 : decode cX8_isWrongNow 29 = .ok (.aload_n 0, 1) := by decide +kernel
theorem dX8_isWrongNow_30 : decode cX8_isWrongNow 30 = .ok (.getfield 19, 3) := by decide +kernel
theorem dX8_isWrongNow_33 : decode cX8_isWrongNow 33 = .ok (.iconst 2, 1) := by decide +kernel
theorem dX8_isWrongNow_34 : decode cX8_isWrongNow 34 = .ok (.invokevirtual 75, 3) := by decide +kernel
theorem dX8_isWrongNow_37 : decode cX8_isWrongNow 37 = .ok (.iconst 1, 1) := by decide +kernel
theorem dX8_isWrongNow_38 : decode cX8_isWrongNow 38 = .ok (.invokevirtual 81, 3) := by decide +kernel
theorem dX8_isWrongNow_41 : decode cX8_isWrongNow 41 = .ok (.istore_n 2, 1) := by decide +kernel
theorem dX8_isWrongNow_42 : decode cX8_isWrongNow 42 = .ok (.aload_n 0, 1) := by decide +kernel
theorem dX8_isWrongNow_43 : decode cX8_isWrongNow 43 = .ok (.getfield 42, 3) := by decide +kernel
theorem dX8_isWrongNow_46 : decode cX8_isWrongNow 46 = .ok (.invokevirtual 82, 3) := by decide +kernel
theorem dX8_isWrongNow_49 : decode cX8_isWrongNow 49 = .ok (.iconst (-1), 1) := by decide +kernel
theorem dX8_isWrongNow_50 : decode cX8_isWrongNow 50 = .ok (.if_icmp .ne 25, 3) := by decide +kernel
theorem dX8_isWrongNow_53 : decode cX8_isWrongNow 53 = .ok (.aload_n 0, 1) := by decide +kernel
theorem dX8_isWrongNow_54 : decode cX8_isWrongNow 54 = .ok (.getfield 38, 3) := by decide +kernel
theorem dX8_isWrongNow_57 : decode cX8_isWrongNow 57 = .ok (.iload_n 1, 1) := by decide +kernel
theorem dX8_isWrongNow_58 : decode cX8_isWrongNow 58 = .ok (.invokevirtual 87, 3) := by decide +kernel
theorem dX8_isWrongNow_61 : decode cX8_isWrongNow 61 = .ok (.ifCond .eq 14, 3) := by decide +kernel
theorem dX8_isWrongNow_64 : decode cX8_isWrongNow 64 = .ok (.aload_n 0, 1) := by decide +kernel
theorem dX8_isWrongNow_65 : decode cX8_isWrongNow 65 = .ok (.getfield 38, 3) := by decide +kernel
theorem dX8_isWrongNow_68 : decode cX8_isWrongNow 68 = .ok (.iload_n 2, 1) := by decide +kernel
theorem dX8_isWrongNow_69 : decode cX8_isWrongNow 69 = .ok (.invokevirtual 87, 3) := by decide +kernel
theorem dX8_isWrongNow_72 : decode cX8_isWrongNow 72 = .ok (.ifCond .ne 7, 3) := by decide +kernel
theorem dX8_isWrongNow_75 : decode cX8_isWrongNow 75 = .ok (.iconst 1, 1) := by decide +kernel
theorem dX8_isWrongNow_76 : decode cX8_isWrongNow 76 = .ok (.goto 4, 3) := by decide +kernel
theorem dX8_isWrongNow_79 : decode cX8_isWrongNow 79 = .ok (.iconst 0, 1) := by decide +kernel
theorem dX8_isWrongNow_80 : decode cX8_isWrongNow 80 = .ok (.ireturn, 1) := by decide +kernel
def f_X8_isWrongNow (ln : Nat → Nat) (s : dr_S) : Option (Int32 × dr_S) := dr_bnd (f_X3_get ln ((s.2 807)) 2 s) (fun r2 s1 => dr_bnd (f_X6_get ln r2 1 s1) (fun r4 s3 => dr_bnd (f_X3_get ln ((s3.2 808)) 2 s3) (fun r6 s5 => dr_bnd (f_X6_get ln r6 1 s5) (fun r8 s7 => dr_bnd (f_X9_leastBad ln  s7) (fun r10 s9 => (if r10 = (-1) then dr_bnd (f_X7_judge ln r4 s9) (fun r12 s11 => (if r12 = 0 then some (1, s11) else dr_bnd (f_X7_judge ln r8 s11) (fun r14 s13 => (if r14 = 0 then some (1, s13) else some (0, s13))))) else some (1, s9)))))))
section
variable {p : Program} {l : Launch} {e : Env} {s0 : State} {m : MethodId} {args : Array Value} {below : List Frame} {meth : Method} {c : Code} {A : Nat → Prop} {D : va_G} {cI cZ : ClassId} {ad ln : Nat → Nat} {L : List Nat}
set_option maxHeartbeats 4000000 in
set_option maxRecDepth 20000 in
theorem c_X8_isWrongNow (hap : dr_ap ad L) (hN : ∀ x ∈ nd_8, x ∈ L) (s : dr_S) : dr_Mi l D cI cZ ad ln L yX8_isWrongNow cX8_isWrongNow 3 (some .boolean) 16 [.ref (ad 8)] s (f_X8_isWrongNow ln  s) := by
  refine dr_meti (own := RX8) (by decide) rfl (Nat.le_of_ble_eq_true rfl) hap ?_
  intro p e s0 m args below meth c A E
  unfold f_X8_isWrongNow
  refine g_eqL (lv' := [(0, .ref (ad 8))]) rfl ?_
  refine g_aload_n E dX8_isWrongNow_0 0 rfl ?_
  refine gg_8_30 E (hN 8 (by decide)) dX8_isWrongNow_1 ?_
  refine g_aload_n E dX8_isWrongNow_4 0 rfl ?_
  refine gg_8_26 E (hN 8 (by decide)) dX8_isWrongNow_5 ?_
  refine g_aload_n E dX8_isWrongNow_8 0 rfl ?_
  refine gg_8_15 E (hN 8 (by decide)) dX8_isWrongNow_9 ?_
  refine g_iconst E (v := 2) dX8_isWrongNow_12 (by decide) ?_
  refine g_cVi E [.int (s.2 807), .int 2] rfl (c_X3_get hap (fun x h => hN x (ns_3_8 x h)) ((s.2 807)) 2 s) (hN 3 (by decide)) (by decide) rfl rfl mi_X3_get msl_X3_get mw_X3_get rfl ml_8_75 ⟨Nat.le_of_ble_eq_true rfl, Nat.le_of_ble_eq_true rfl⟩ (Nat.le_of_ble_eq_true rfl) dX8_isWrongNow_13 (fun r2 s1 => ?_)
  refine g_iconst E (v := 1) dX8_isWrongNow_16 (by decide) ?_
  refine g_cVi E [.int r2, .int 1] rfl (c_X6_get hap (fun x h => hN x (ns_6_8 x h)) r2 1 s1) (hN 6 (by decide)) (by decide) rfl rfl mi_X6_get msl_X6_get mw_X6_get rfl ml_8_81 ⟨Nat.le_of_ble_eq_true rfl, Nat.le_of_ble_eq_true rfl⟩ (Nat.le_of_ble_eq_true rfl) dX8_isWrongNow_17 (fun r4 s3 => ?_)
  refine g_istore_n E (lv' := [(1, .int r4), (0, .ref (ad 8))]) dX8_isWrongNow_20 (by decide) rfl ?_
  refine g_aload_n E dX8_isWrongNow_21 1 rfl ?_
  refine gg_8_30 E (hN 8 (by decide)) dX8_isWrongNow_22 ?_
  refine g_aload_n E dX8_isWrongNow_25 1 rfl ?_
  refine gg_8_26 E (hN 8 (by decide)) dX8_isWrongNow_26 ?_
  refine g_aload_n E dX8_isWrongNow_29 1 rfl ?_
  refine gg_8_19 E (hN 8 (by decide)) dX8_isWrongNow_30 ?_
  refine g_iconst E (v := 2) dX8_isWrongNow_33 (by decide) ?_
  refine g_cVi E [.int (s3.2 808), .int 2] rfl (c_X3_get hap (fun x h => hN x (ns_3_8 x h)) ((s3.2 808)) 2 s3) (hN 3 (by decide)) (by decide) rfl rfl mi_X3_get msl_X3_get mw_X3_get rfl ml_8_75 ⟨Nat.le_of_ble_eq_true rfl, Nat.le_of_ble_eq_true rfl⟩ (Nat.le_of_ble_eq_true rfl) dX8_isWrongNow_34 (fun r6 s5 => ?_)
  refine g_iconst E (v := 1) dX8_isWrongNow_37 (by decide) ?_
  refine g_cVi E [.int r6, .int 1] rfl (c_X6_get hap (fun x h => hN x (ns_6_8 x h)) r6 1 s5) (hN 6 (by decide)) (by decide) rfl rfl mi_X6_get msl_X6_get mw_X6_get rfl ml_8_81 ⟨Nat.le_of_ble_eq_true rfl, Nat.le_of_ble_eq_true rfl⟩ (Nat.le_of_ble_eq_true rfl) dX8_isWrongNow_38 (fun r8 s7 => ?_)
  refine g_istore_n E (lv' := [(2, .int r8), (1, .int r4), (0, .ref (ad 8))]) dX8_isWrongNow_41 (by decide) rfl ?_
  refine g_aload_n E dX8_isWrongNow_42 2 rfl ?_
  refine gg_8_42 E (hN 8 (by decide)) dX8_isWrongNow_43 ?_
  refine g_cVi E [] rfl (c_X9_leastBad hap (fun x h => hN x (ns_9_8 x h))  s7) (hN 9 (by decide)) (by decide) rfl rfl mi_X9_leastBad msl_X9_leastBad mw_X9_leastBad rfl ml_8_82 ⟨Nat.le_of_ble_eq_true rfl, Nat.le_of_ble_eq_true rfl⟩ (Nat.le_of_ble_eq_true rfl) dX8_isWrongNow_46 (fun r10 s9 => ?_)
  refine g_iconst E (v := (-1)) dX8_isWrongNow_49 (by decide) ?_
  refine g_icmp_ne E 75 dX8_isWrongNow_50 (by decide) ?_ ?_
  · refine g_iconst E (v := 1) dX8_isWrongNow_75 (by decide) ?_
    refine g_goto E 80 dX8_isWrongNow_76 (by decide) ?_
    exact g_zret E dX8_isWrongNow_80 (Or.inr rfl)
  · refine g_aload_n E dX8_isWrongNow_53 2 rfl ?_
    refine gg_8_38 E (hN 8 (by decide)) dX8_isWrongNow_54 ?_
    refine g_iload_n E dX8_isWrongNow_57 1 rfl ?_
    refine g_cVi E [.int r4] rfl (c_X7_judge hap (fun x h => hN x (ns_7_8 x h)) r4 s9) (hN 7 (by decide)) (by decide) rfl rfl mi_X7_judge msl_X7_judge mw_X7_judge rfl ml_8_87 ⟨Nat.le_of_ble_eq_true rfl, Nat.le_of_ble_eq_true rfl⟩ (Nat.le_of_ble_eq_true rfl) dX8_isWrongNow_58 (fun r12 s11 => ?_)
    refine g_if_eq E 75 dX8_isWrongNow_61 (by decide) ?_ ?_
    · refine g_iconst E (v := 1) dX8_isWrongNow_75 (by decide) ?_
      refine g_goto E 80 dX8_isWrongNow_76 (by decide) ?_
      exact g_zret E dX8_isWrongNow_80 (Or.inr rfl)
    · refine g_aload_n E dX8_isWrongNow_64 2 rfl ?_
      refine gg_8_38 E (hN 8 (by decide)) dX8_isWrongNow_65 ?_
      refine g_iload_n E dX8_isWrongNow_68 0 rfl ?_
      refine g_cVi E [.int r8] rfl (c_X7_judge hap (fun x h => hN x (ns_7_8 x h)) r8 s11) (hN 7 (by decide)) (by decide) rfl rfl mi_X7_judge msl_X7_judge mw_X7_judge rfl ml_8_87 ⟨Nat.le_of_ble_eq_true rfl, Nat.le_of_ble_eq_true rfl⟩ (Nat.le_of_ble_eq_true rfl) dX8_isWrongNow_69 (fun r14 s13 => ?_)
      refine g_if_ne E 79 dX8_isWrongNow_72 (by decide) ?_ ?_
      · refine g_iconst E (v := 0) dX8_isWrongNow_79 (by decide) ?_
        exact g_zret E dX8_isWrongNow_80 (Or.inl rfl)
      · refine g_iconst E (v := 1) dX8_isWrongNow_75 (by decide) ?_
        refine g_goto E 80 dX8_isWrongNow_76 (by decide) ?_
        exact g_zret E dX8_isWrongNow_80 (Or.inr rfl)
end

theorem dX10_mustGoOn_0 : decode cX10_mustGoOn 0 = .ok (.aload_n 0, 1) := by decide +kernel
theorem dX10_mustGoOn_1 : decode cX10_mustGoOn 1 = .ok (.getfield 15, 3) := by decide +kernel
theorem dX10_mustGoOn_4 : decode cX10_mustGoOn 4 = .ok (.iload_n 1, 1) := by decide +kernel
theorem dX10_mustGoOn_5 : decode cX10_mustGoOn 5 = .ok (.iconst 5, 1) := by decide +kernel
theorem dX10_mustGoOn_6 : decode cX10_mustGoOn 6 = .ok (.invokevirtual 25, 3) := by decide +kernel
theorem dX10_mustGoOn_9 : decode cX10_mustGoOn 9 = .ok (.iconst 1, 1) := by decide +kernel
theorem dX10_mustGoOn_10 : decode cX10_mustGoOn 10 = .ok (.if_icmp .eq 19, 3) := by decide +kernel
theorem dX10_mustGoOn_13 : decode cX10_mustGoOn 13 = .ok (.aload_n 0, 1) := by decide +kernel
theorem dX10_mustGoOn_14 : decode cX10_mustGoOn 14 = .ok (.getfield 9, 3) := by decide +kernel
theorem dX10_mustGoOn_17 : decode cX10_mustGoOn 17 = .ok (.iload_n 2, 1) := by decide +kernel
theorem dX10_mustGoOn_18 : decode cX10_mustGoOn 18 = .ok (.iload_n 3, 1) := by decide +kernel
theorem dX10_mustGoOn_19 : decode cX10_mustGoOn 19 = .ok (.invokevirtual 135, 3) := by decide +kernel
theorem dX10_mustGoOn_22 : decode cX10_mustGoOn 22 = .ok (.ifCond .ne 7, 3) := by decide +kernel
theorem dX10_mustGoOn_25 : decode cX10_mustGoOn 25 = .ok (.iconst 1, 1) := by decide +kernel
theorem dX10_mustGoOn_26 : decode cX10_mustGoOn 26 = .ok (.goto 4, 3) := by decide +kernel
theorem dX10_mustGoOn_29 : decode cX10_mustGoOn 29 = .ok (.iconst 0, 1) := by decide +kernel
theorem dX10_mustGoOn_30 : decode cX10_mustGoOn 30 = .ok (.ireturn, 1) := by decide +kernel
def f_X10_mustGoOn (ln : Nat → Nat) (x1 : Int32) (x2 : Int32) (x3 : Int32) (s : dr_S) : Option (Int32 × dr_S) := dr_bnd (f_X3_get ln x1 5 s) (fun r2 s1 => (if r2 = 1 then some (0, s1) else dr_bnd (f_X4_covers ln x2 x3 s1) (fun r4 s3 => (if r4 = 0 then some (1, s3) else some (0, s3)))))
section
variable {p : Program} {l : Launch} {e : Env} {s0 : State} {m : MethodId} {args : Array Value} {below : List Frame} {meth : Method} {c : Code} {A : Nat → Prop} {D : va_G} {cI cZ : ClassId} {ad ln : Nat → Nat} {L : List Nat}
set_option maxHeartbeats 4000000 in
set_option maxRecDepth 20000 in
theorem c_X10_mustGoOn (hap : dr_ap ad L) (hN : ∀ x ∈ nd_10, x ∈ L) (x1 : Int32) (x2 : Int32) (x3 : Int32) (s : dr_S) : dr_Mi l D cI cZ ad ln L yX10_mustGoOn cX10_mustGoOn 4 (some .boolean) 3 [.ref (ad 10), .int x1, .int x2, .int x3] s (f_X10_mustGoOn ln x1 x2 x3 s) := by
  refine dr_meti (own := RX10) (by decide) rfl (Nat.le_of_ble_eq_true rfl) hap ?_
  intro p e s0 m args below meth c A E
  unfold f_X10_mustGoOn
  refine g_eqL (lv' := [(0, .ref (ad 10)), (1, .int x1), (2, .int x2), (3, .int x3)]) rfl ?_
  refine g_aload_n E dX10_mustGoOn_0 0 rfl ?_
  refine gg_10_15 E (hN 10 (by decide)) dX10_mustGoOn_1 ?_
  refine g_iload_n E dX10_mustGoOn_4 1 rfl ?_
  refine g_iconst E (v := 5) dX10_mustGoOn_5 (by decide) ?_
  refine g_cVi E [.int x1, .int 5] rfl (c_X3_get hap (fun x h => hN x (ns_3_10 x h)) x1 5 s) (hN 3 (by decide)) (by decide) rfl rfl mi_X3_get msl_X3_get mw_X3_get rfl ml_10_25 ⟨Nat.le_of_ble_eq_true rfl, Nat.le_of_ble_eq_true rfl⟩ (Nat.le_of_ble_eq_true rfl) dX10_mustGoOn_6 (fun r2 s1 => ?_)
  refine g_iconst E (v := 1) dX10_mustGoOn_9 (by decide) ?_
  refine g_icmp_eq E 29 dX10_mustGoOn_10 (by decide) ?_ ?_
  · refine g_iconst E (v := 0) dX10_mustGoOn_29 (by decide) ?_
    exact g_zret E dX10_mustGoOn_30 (Or.inl rfl)
  · refine g_aload_n E dX10_mustGoOn_13 0 rfl ?_
    refine gg_10_9 E (hN 10 (by decide)) dX10_mustGoOn_14 ?_
    refine g_iload_n E dX10_mustGoOn_17 2 rfl ?_
    refine g_iload_n E dX10_mustGoOn_18 3 rfl ?_
    refine g_cVi E [.int x2, .int x3] rfl (c_X4_covers hap (fun x h => hN x (ns_4_10 x h)) x2 x3 s1) (hN 4 (by decide)) (by decide) rfl rfl mi_X4_covers msl_X4_covers mw_X4_covers rfl ml_10_135 ⟨Nat.le_of_ble_eq_true rfl, Nat.le_of_ble_eq_true rfl⟩ (Nat.le_of_ble_eq_true rfl) dX10_mustGoOn_19 (fun r4 s3 => ?_)
    refine g_if_ne E 29 dX10_mustGoOn_22 (by decide) ?_ ?_
    · refine g_iconst E (v := 0) dX10_mustGoOn_29 (by decide) ?_
      exact g_zret E dX10_mustGoOn_30 (Or.inl rfl)
    · refine g_iconst E (v := 1) dX10_mustGoOn_25 (by decide) ?_
      refine g_goto E 30 dX10_mustGoOn_26 (by decide) ?_
      exact g_zret E dX10_mustGoOn_30 (Or.inr rfl)
end

theorem dX10_kindOf_0 : decode cX10_kindOf 0 = .ok (.aload_n 0, 1) := by decide +kernel
theorem dX10_kindOf_1 : decode cX10_kindOf 1 = .ok (.getfield 19, 3) := by decide +kernel
theorem dX10_kindOf_4 : decode cX10_kindOf 4 = .ok (.aload_n 0, 1) := by decide +kernel
theorem dX10_kindOf_5 : decode cX10_kindOf 5 = .ok (.getfield 15, 3) := by decide +kernel
theorem dX10_kindOf_8 : decode cX10_kindOf 8 = .ok (.iload_n 1, 1) := by decide +kernel
theorem dX10_kindOf_9 : decode cX10_kindOf 9 = .ok (.iconst 2, 1) := by decide +kernel
theorem dX10_kindOf_10 : decode cX10_kindOf 10 = .ok (.invokevirtual 25, 3) := by decide +kernel
theorem dX10_kindOf_13 : decode cX10_kindOf 13 = .ok (.iconst 0, 1) := by decide +kernel
theorem dX10_kindOf_14 : decode cX10_kindOf 14 = .ok (.invokevirtual 143, 3) := by decide +kernel
theorem dX10_kindOf_17 : decode cX10_kindOf 17 = .ok (.ireturn, 1) := by decide +kernel
def f_X10_kindOf (ln : Nat → Nat) (x1 : Int32) (s : dr_S) : Option (Int32 × dr_S) := dr_bnd (f_X3_get ln x1 2 s) (fun r2 s1 => dr_bnd (f_X6_get ln r2 0 s1) (fun r4 s3 => some (r4, s3)))
section
variable {p : Program} {l : Launch} {e : Env} {s0 : State} {m : MethodId} {args : Array Value} {below : List Frame} {meth : Method} {c : Code} {A : Nat → Prop} {D : va_G} {cI cZ : ClassId} {ad ln : Nat → Nat} {L : List Nat}
set_option maxHeartbeats 4000000 in
set_option maxRecDepth 20000 in
theorem c_X10_kindOf (hap : dr_ap ad L) (hN : ∀ x ∈ nd_10, x ∈ L) (x1 : Int32) (s : dr_S) : dr_Mi l D cI cZ ad ln L yX10_kindOf cX10_kindOf 2 (some .int) 2 [.ref (ad 10), .int x1] s (f_X10_kindOf ln x1 s) := by
  refine dr_meti (own := RX10) (by decide) rfl (Nat.le_of_ble_eq_true rfl) hap ?_
  intro p e s0 m args below meth c A E
  unfold f_X10_kindOf
  refine g_eqL (lv' := [(0, .ref (ad 10)), (1, .int x1)]) rfl ?_
  refine g_aload_n E dX10_kindOf_0 0 rfl ?_
  refine gg_10_19 E (hN 10 (by decide)) dX10_kindOf_1 ?_
  refine g_aload_n E dX10_kindOf_4 0 rfl ?_
  refine gg_10_15 E (hN 10 (by decide)) dX10_kindOf_5 ?_
  refine g_iload_n E dX10_kindOf_8 1 rfl ?_
  refine g_iconst E (v := 2) dX10_kindOf_9 (by decide) ?_
  refine g_cVi E [.int x1, .int 2] rfl (c_X3_get hap (fun x h => hN x (ns_3_10 x h)) x1 2 s) (hN 3 (by decide)) (by decide) rfl rfl mi_X3_get msl_X3_get mw_X3_get rfl ml_10_25 ⟨Nat.le_of_ble_eq_true rfl, Nat.le_of_ble_eq_true rfl⟩ (Nat.le_of_ble_eq_true rfl) dX10_kindOf_10 (fun r2 s1 => ?_)
  refine g_iconst E (v := 0) dX10_kindOf_13 (by decide) ?_
  refine g_cVi E [.int r2, .int 0] rfl (c_X6_get hap (fun x h => hN x (ns_6_10 x h)) r2 0 s1) (hN 6 (by decide)) (by decide) rfl rfl mi_X6_get msl_X6_get mw_X6_get rfl ml_10_143 ⟨Nat.le_of_ble_eq_true rfl, Nat.le_of_ble_eq_true rfl⟩ (Nat.le_of_ble_eq_true rfl) dX10_kindOf_14 (fun r4 s3 => ?_)
  exact g_iret E dX10_kindOf_17
end

theorem dX10_isFree_0 : decode cX10_isFree 0 = .ok (.aload_n 0, 1) := by decide +kernel
theorem dX10_isFree_1 : decode cX10_isFree 1 = .ok (.getfield 9, 3) := by decide +kernel
theorem dX10_isFree_4 : decode cX10_isFree 4 = .ok (.iload_n 2, 1) := by decide +kernel
theorem dX10_isFree_5 : decode cX10_isFree 5 = .ok (.iconst 4, 1) := by decide +kernel
theorem dX10_isFree_6 : decode cX10_isFree 6 = .ok (.invokevirtual 49, 3) := by decide +kernel
theorem dX10_isFree_9 : decode cX10_isFree 9 = .ok (.istore_n 3, 1) := by decide +kernel
theorem dX10_isFree_10 : decode cX10_isFree 10 = .ok (.iload_n 3, 1) := by decide +kernel
theorem dX10_isFree_11 : decode cX10_isFree 11 = .ok (.iconst (-1), 1) := by decide +kernel
theorem dX10_isFree_12 : decode cX10_isFree 12 = .ok (.if_icmp .eq 21, 3) := by decide +kernel
theorem dX10_isFree_15 : decode cX10_isFree 15 = .ok (.iload_n 3, 1) := by decide +kernel
theorem dX10_isFree_16 : decode cX10_isFree 16 = .ok (.iload_n 1, 1) := by decide +kernel
theorem dX10_isFree_17 : decode cX10_isFree 17 = .ok (.if_icmp .eq 16, 3) := by decide +kernel
theorem dX10_isFree_20 : decode cX10_isFree 20 = .ok (.aload_n 0, 1) := by decide +kernel
theorem dX10_isFree_21 : decode cX10_isFree 21 = .ok (.getfield 15, 3) := by decide +kernel
theorem dX10_isFree_24 : decode cX10_isFree 24 = .ok (.iload_n 1, 1) := by decide +kernel
theorem dX10_isFree_25 : decode cX10_isFree 25 = .ok (.iconst 5, 1) := by decide +kernel
theorem dX10_isFree_26 : decode cX10_isFree 26 = .ok (.invokevirtual 25, 3) := by decide +kernel
theorem dX10_isFree_29 : decode cX10_isFree 29 = .ok (.iconst 2, 1) := by decide +kernel
theorem dX10_isFree_30 : decode cX10_isFree 30 = .ok (.if_icmp .ne 7, 3) := by decide +kernel
theorem dX10_isFree_33 : decode cX10_isFree 33 = .ok (.iconst 1, 1) := by decide +kernel
theorem dX10_isFree_34 : decode cX10_isFree 34 = .ok (.goto 4, 3) := by decide +kernel
theorem dX10_isFree_37 : decode cX10_isFree 37 = .ok (.iconst 0, 1) := by decide +kernel
theorem dX10_isFree_38 : decode cX10_isFree 38 = .ok (.ireturn, 1) := by decide +kernel
def f_X10_isFree (ln : Nat → Nat) (x1 : Int32) (x2 : Int32) (s : dr_S) : Option (Int32 × dr_S) := dr_bnd (f_X4_get ln x2 4 s) (fun r2 s1 => (if r2 = (-1) then some (1, s1) else (if r2 = x1 then some (1, s1) else dr_bnd (f_X3_get ln x1 5 s1) (fun r4 s3 => (if r4 = 2 then some (1, s3) else some (0, s3))))))
section
variable {p : Program} {l : Launch} {e : Env} {s0 : State} {m : MethodId} {args : Array Value} {below : List Frame} {meth : Method} {c : Code} {A : Nat → Prop} {D : va_G} {cI cZ : ClassId} {ad ln : Nat → Nat} {L : List Nat}
set_option maxHeartbeats 4000000 in
set_option maxRecDepth 20000 in
theorem c_X10_isFree (hap : dr_ap ad L) (hN : ∀ x ∈ nd_10, x ∈ L) (x1 : Int32) (x2 : Int32) (s : dr_S) : dr_Mi l D cI cZ ad ln L yX10_isFree cX10_isFree 4 (some .boolean) 2 [.ref (ad 10), .int x1, .int x2] s (f_X10_isFree ln x1 x2 s) := by
  refine dr_meti (own := RX10) (by decide) rfl (Nat.le_of_ble_eq_true rfl) hap ?_
  intro p e s0 m args below meth c A E
  unfold f_X10_isFree
  refine g_eqL (lv' := [(0, .ref (ad 10)), (1, .int x1), (2, .int x2)]) rfl ?_
  refine g_aload_n E dX10_isFree_0 0 rfl ?_
  refine gg_10_9 E (hN 10 (by decide)) dX10_isFree_1 ?_
  refine g_iload_n E dX10_isFree_4 2 rfl ?_
  refine g_iconst E (v := 4) dX10_isFree_5 (by decide) ?_
  refine g_cVi E [.int x2, .int 4] rfl (c_X4_get hap (fun x h => hN x (ns_4_10 x h)) x2 4 s) (hN 4 (by decide)) (by decide) rfl rfl mi_X4_get msl_X4_get mw_X4_get rfl ml_10_49 ⟨Nat.le_of_ble_eq_true rfl, Nat.le_of_ble_eq_true rfl⟩ (Nat.le_of_ble_eq_true rfl) dX10_isFree_6 (fun r2 s1 => ?_)
  refine g_istore_n E (lv' := [(3, .int r2), (0, .ref (ad 10)), (1, .int x1), (2, .int x2)]) dX10_isFree_9 (by decide) rfl ?_
  refine g_iload_n E dX10_isFree_10 0 rfl ?_
  refine g_iconst E (v := (-1)) dX10_isFree_11 (by decide) ?_
  refine g_icmp_eq E 33 dX10_isFree_12 (by decide) ?_ ?_
  · refine g_iconst E (v := 1) dX10_isFree_33 (by decide) ?_
    refine g_goto E 38 dX10_isFree_34 (by decide) ?_
    exact g_zret E dX10_isFree_38 (Or.inr rfl)
  · refine g_iload_n E dX10_isFree_15 0 rfl ?_
    refine g_iload_n E dX10_isFree_16 2 rfl ?_
    refine g_icmp_eq E 33 dX10_isFree_17 (by decide) ?_ ?_
    · refine g_iconst E (v := 1) dX10_isFree_33 (by decide) ?_
      refine g_goto E 38 dX10_isFree_34 (by decide) ?_
      exact g_zret E dX10_isFree_38 (Or.inr rfl)
    · refine g_aload_n E dX10_isFree_20 1 rfl ?_
      refine gg_10_15 E (hN 10 (by decide)) dX10_isFree_21 ?_
      refine g_iload_n E dX10_isFree_24 2 rfl ?_
      refine g_iconst E (v := 5) dX10_isFree_25 (by decide) ?_
      refine g_cVi E [.int x1, .int 5] rfl (c_X3_get hap (fun x h => hN x (ns_3_10 x h)) x1 5 s1) (hN 3 (by decide)) (by decide) rfl rfl mi_X3_get msl_X3_get mw_X3_get rfl ml_10_25 ⟨Nat.le_of_ble_eq_true rfl, Nat.le_of_ble_eq_true rfl⟩ (Nat.le_of_ble_eq_true rfl) dX10_isFree_26 (fun r4 s3 => ?_)
      refine g_iconst E (v := 2) dX10_isFree_29 (by decide) ?_
      refine g_icmp_ne E 37 dX10_isFree_30 (by decide) ?_ ?_
      · refine g_iconst E (v := 0) dX10_isFree_37 (by decide) ?_
        exact g_zret E dX10_isFree_38 (Or.inl rfl)
      · refine g_iconst E (v := 1) dX10_isFree_33 (by decide) ?_
        refine g_goto E 38 dX10_isFree_34 (by decide) ?_
        exact g_zret E dX10_isFree_38 (Or.inr rfl)
end

theorem dX10_latch_0 : decode cX10_latch 0 = .ok (.aload_n 0, 1) := by decide +kernel
theorem dX10_latch_1 : decode cX10_latch 1 = .ok (.getfield 15, 3) := by decide +kernel
theorem dX10_latch_4 : decode cX10_latch 4 = .ok (.iload_n 1, 1) := by decide +kernel
theorem dX10_latch_5 : decode cX10_latch 5 = .ok (.iconst 5, 1) := by decide +kernel
theorem dX10_latch_6 : decode cX10_latch 6 = .ok (.invokevirtual 25, 3) := by decide +kernel
theorem dX10_latch_9 : decode cX10_latch 9 = .ok (.iconst 2, 1) := by decide +kernel
theorem dX10_latch_10 : decode cX10_latch 10 = .ok (.if_icmp .eq 13, 3) := by decide +kernel
theorem dX10_latch_13 : decode cX10_latch 13 = .ok (.aload_n 0, 1) := by decide +kernel
theorem dX10_latch_14 : decode cX10_latch 14 = .ok (.getfield 9, 3) := by decide +kernel
theorem dX10_latch_17 : decode cX10_latch 17 = .ok (.iload_n 2, 1) := by decide +kernel
theorem dX10_latch_18 : decode cX10_latch 18 = .ok (.iconst 4, 1) := by decide +kernel
theorem dX10_latch_19 : decode cX10_latch 19 = .ok (.iload_n 1, 1) := by decide +kernel
theorem dX10_latch_20 : decode cX10_latch 20 = .ok (.invokevirtual 138, 3) := by decide +kernel
theorem dX10_latch_23 : decode cX10_latch 23 = .ok (.aload_n 0, 1) := by decide +kernel
theorem dX10_latch_24 : decode cX10_latch 24 = .ok (.getfield 15, 3) := by decide +kernel
theorem dX10_latch_27 : decode cX10_latch 27 = .ok (.iload_n 1, 1) := by decide +kernel
theorem dX10_latch_28 : decode cX10_latch 28 = .ok (.iconst 1, 1) := by decide +kernel
theorem dX10_latch_29 : decode cX10_latch 29 = .ok (.iload_n 2, 1) := by decide +kernel
theorem dX10_latch_30 : decode cX10_latch 30 = .ok (.invokevirtual 54, 3) := by decide +kernel
theorem dX10_latch_33 : decode cX10_latch 33 = .ok (.aload_n 0, 1) := by decide +kernel
theorem dX10_latch_34 : decode cX10_latch 34 = .ok (.getfield 15, 3) := by decide +kernel
theorem dX10_latch_37 : decode cX10_latch 37 = .ok (.iload_n 1, 1) := by decide +kernel
theorem dX10_latch_38 : decode cX10_latch 38 = .ok (.iconst 0, 1) := by decide +kernel
theorem dX10_latch_39 : decode cX10_latch 39 = .ok (.iconst 2, 1) := by decide +kernel
theorem dX10_latch_40 : decode cX10_latch 40 = .ok (.invokevirtual 54, 3) := by decide +kernel
theorem dX10_latch_43 : decode cX10_latch 43 = .ok (.return_, 1) := by decide +kernel
def f_X10_latch_p23 (ln : Nat → Nat) (x1 : Int32) (x2 : Int32) (s : dr_S) : Option (Int32 × dr_S) := dr_bndv (f_X3_set ln x1 1 x2 s) (fun s4 => dr_bndv (f_X3_set ln x1 0 2 s4) (fun s5 => some (0, s5)))
def f_X10_latch (ln : Nat → Nat) (x1 : Int32) (x2 : Int32) (s : dr_S) : Option (Int32 × dr_S) := dr_bnd (f_X3_get ln x1 5 s) (fun r2 s1 => (if r2 = 2 then (f_X10_latch_p23 ln x1 x2 s1) else dr_bndv (f_X4_set ln x2 4 x1 s1) (fun s3 => (f_X10_latch_p23 ln x1 x2 s3))))
section
variable {p : Program} {l : Launch} {e : Env} {s0 : State} {m : MethodId} {args : Array Value} {below : List Frame} {meth : Method} {c : Code} {A : Nat → Prop} {D : va_G} {cI cZ : ClassId} {ad ln : Nat → Nat} {L : List Nat}
set_option maxHeartbeats 4000000 in
set_option maxRecDepth 20000 in
theorem w_X10_latch_p23 (E : dr_E p (dr_rm 2) s0 m args meth c 0 0 A s0.heap D cI cZ ad L cX10_latch 3 RX10 none) (hap : dr_ap ad L) (hN : ∀ x ∈ nd_10, x ∈ L) : ∀ (x1 : Int32) (x2 : Int32) (s : dr_S), dr_G p l e (dr_rm 2) s0 m args below meth c 0 0 A s0.heap D cI cZ ad ln L 3 (dr_Zv D cI cZ ad ln L A below args s0 0 0) 23 [(0, .ref (ad 10)), (1, .int x1), (2, .int x2)] [] s (f_X10_latch_p23 ln x1 x2 s) := by
  intro x1 x2 s
  unfold f_X10_latch_p23
  refine g_aload_n E dX10_latch_23 0 rfl ?_
  refine gg_10_15 E (hN 10 (by decide)) dX10_latch_24 ?_
  refine g_iload_n E dX10_latch_27 1 rfl ?_
  refine g_iconst E (v := 1) dX10_latch_28 (by decide) ?_
  refine g_iload_n E dX10_latch_29 2 rfl ?_
  refine g_cVv E [.int x1, .int 1, .int x2] rfl (c_X3_set hap (fun x h => hN x (ns_3_10 x h)) x1 1 x2 s) (hN 3 (by decide)) (by decide) rfl rfl mi_X3_set msl_X3_set mw_X3_set rfl ml_10_54 ⟨Nat.le_of_ble_eq_true rfl, Nat.le_of_ble_eq_true rfl⟩ (Nat.le_of_ble_eq_true rfl) dX10_latch_30 (fun s4 => ?_)
  refine g_aload_n E dX10_latch_33 0 rfl ?_
  refine gg_10_15 E (hN 10 (by decide)) dX10_latch_34 ?_
  refine g_iload_n E dX10_latch_37 1 rfl ?_
  refine g_iconst E (v := 0) dX10_latch_38 (by decide) ?_
  refine g_iconst E (v := 2) dX10_latch_39 (by decide) ?_
  refine g_cVv E [.int x1, .int 0, .int 2] rfl (c_X3_set hap (fun x h => hN x (ns_3_10 x h)) x1 0 2 s4) (hN 3 (by decide)) (by decide) rfl rfl mi_X3_set msl_X3_set mw_X3_set rfl ml_10_54 ⟨Nat.le_of_ble_eq_true rfl, Nat.le_of_ble_eq_true rfl⟩ (Nat.le_of_ble_eq_true rfl) dX10_latch_40 (fun s5 => ?_)
  exact g_vret E dX10_latch_43
set_option maxHeartbeats 4000000 in
set_option maxRecDepth 20000 in
theorem c_X10_latch (hap : dr_ap ad L) (hN : ∀ x ∈ nd_10, x ∈ L) (x1 : Int32) (x2 : Int32) (s : dr_S) : dr_Mv l D cI cZ ad ln L yX10_latch cX10_latch 3 2 [.ref (ad 10), .int x1, .int x2] s (f_X10_latch ln x1 x2 s) := by
  refine dr_metv (own := RX10) (by decide) rfl (Nat.le_of_ble_eq_true rfl) hap ?_
  intro p e s0 m args below meth c A E
  unfold f_X10_latch
  refine g_eqL (lv' := [(0, .ref (ad 10)), (1, .int x1), (2, .int x2)]) rfl ?_
  refine g_aload_n E dX10_latch_0 0 rfl ?_
  refine gg_10_15 E (hN 10 (by decide)) dX10_latch_1 ?_
  refine g_iload_n E dX10_latch_4 1 rfl ?_
  refine g_iconst E (v := 5) dX10_latch_5 (by decide) ?_
  refine g_cVi E [.int x1, .int 5] rfl (c_X3_get hap (fun x h => hN x (ns_3_10 x h)) x1 5 s) (hN 3 (by decide)) (by decide) rfl rfl mi_X3_get msl_X3_get mw_X3_get rfl ml_10_25 ⟨Nat.le_of_ble_eq_true rfl, Nat.le_of_ble_eq_true rfl⟩ (Nat.le_of_ble_eq_true rfl) dX10_latch_6 (fun r2 s1 => ?_)
  refine g_iconst E (v := 2) dX10_latch_9 (by decide) ?_
  refine g_icmp_eq E 23 dX10_latch_10 (by decide) ?_ ?_
  · refine g_sub [0, 1, 2] rfl ?_
    exact w_X10_latch_p23 E hap hN x1 x2 s1
  · refine g_aload_n E dX10_latch_13 0 rfl ?_
    refine gg_10_9 E (hN 10 (by decide)) dX10_latch_14 ?_
    refine g_iload_n E dX10_latch_17 2 rfl ?_
    refine g_iconst E (v := 4) dX10_latch_18 (by decide) ?_
    refine g_iload_n E dX10_latch_19 1 rfl ?_
    refine g_cVv E [.int x2, .int 4, .int x1] rfl (c_X4_set hap (fun x h => hN x (ns_4_10 x h)) x2 4 x1 s1) (hN 4 (by decide)) (by decide) rfl rfl mi_X4_set msl_X4_set mw_X4_set rfl ml_10_138 ⟨Nat.le_of_ble_eq_true rfl, Nat.le_of_ble_eq_true rfl⟩ (Nat.le_of_ble_eq_true rfl) dX10_latch_20 (fun s3 => ?_)
    refine g_sub [0, 1, 2] rfl ?_
    exact w_X10_latch_p23 E hap hN x1 x2 s3
end

theorem dX10_end_0 : decode cX10_end 0 = .ok (.aload_n 0, 1) := by decide +kernel
theorem dX10_end_1 : decode cX10_end 1 = .ok (.getfield 19, 3) := by decide +kernel
theorem dX10_end_4 : decode cX10_end 4 = .ok (.aload_n 0, 1) := by decide +kernel
theorem dX10_end_5 : decode cX10_end 5 = .ok (.getfield 15, 3) := by decide +kernel
theorem dX10_end_8 : decode cX10_end 8 = .ok (.iload_n 1, 1) := by decide +kernel
theorem dX10_end_9 : decode cX10_end 9 = .ok (.iconst 2, 1) := by decide +kernel
theorem dX10_end_10 : decode cX10_end 10 = .ok (.invokevirtual 25, 3) := by decide +kernel
theorem dX10_end_13 : decode cX10_end 13 = .ok (.iload_n 2, 1) := by decide +kernel
theorem dX10_end_14 : decode cX10_end 14 = .ok (.invokevirtual 139, 3) := by decide +kernel
theorem dX10_end_17 : decode cX10_end 17 = .ok (.aload_n 0, 1) := by decide +kernel
theorem dX10_end_18 : decode cX10_end 18 = .ok (.getfield 15, 3) := by decide +kernel
theorem dX10_end_21 : decode cX10_end 21 = .ok (.iload_n 1, 1) := by decide +kernel
theorem dX10_end_22 : decode cX10_end 22 = .ok (.invokevirtual 140, 3) := by decide +kernel
theorem dX10_end_25 : decode cX10_end 25 = .ok (.return_, 1) := by decide +kernel
def f_X10_end (ln : Nat → Nat) (x1 : Int32) (x2 : Int32) (s : dr_S) : Option (Int32 × dr_S) := dr_bnd (f_X3_get ln x1 2 s) (fun r2 s1 => dr_bndv (f_X6_end ln r2 x2 s1) (fun s3 => dr_bndv (f_X3_rest ln x1 s3) (fun s4 => some (0, s4))))
section
variable {p : Program} {l : Launch} {e : Env} {s0 : State} {m : MethodId} {args : Array Value} {below : List Frame} {meth : Method} {c : Code} {A : Nat → Prop} {D : va_G} {cI cZ : ClassId} {ad ln : Nat → Nat} {L : List Nat}
set_option maxHeartbeats 4000000 in
set_option maxRecDepth 20000 in
theorem c_X10_end (hap : dr_ap ad L) (hN : ∀ x ∈ nd_10, x ∈ L) (x1 : Int32) (x2 : Int32) (s : dr_S) : dr_Mv l D cI cZ ad ln L yX10_end cX10_end 3 3 [.ref (ad 10), .int x1, .int x2] s (f_X10_end ln x1 x2 s) := by
  refine dr_metv (own := RX10) (by decide) rfl (Nat.le_of_ble_eq_true rfl) hap ?_
  intro p e s0 m args below meth c A E
  unfold f_X10_end
  refine g_eqL (lv' := [(0, .ref (ad 10)), (1, .int x1), (2, .int x2)]) rfl ?_
  refine g_aload_n E dX10_end_0 0 rfl ?_
  refine gg_10_19 E (hN 10 (by decide)) dX10_end_1 ?_
  refine g_aload_n E dX10_end_4 0 rfl ?_
  refine gg_10_15 E (hN 10 (by decide)) dX10_end_5 ?_
  refine g_iload_n E dX10_end_8 1 rfl ?_
  refine g_iconst E (v := 2) dX10_end_9 (by decide) ?_
  refine g_cVi E [.int x1, .int 2] rfl (c_X3_get hap (fun x h => hN x (ns_3_10 x h)) x1 2 s) (hN 3 (by decide)) (by decide) rfl rfl mi_X3_get msl_X3_get mw_X3_get rfl ml_10_25 ⟨Nat.le_of_ble_eq_true rfl, Nat.le_of_ble_eq_true rfl⟩ (Nat.le_of_ble_eq_true rfl) dX10_end_10 (fun r2 s1 => ?_)
  refine g_iload_n E dX10_end_13 2 rfl ?_
  refine g_cVv E [.int r2, .int x2] rfl (c_X6_end hap (fun x h => hN x (ns_6_10 x h)) r2 x2 s1) (hN 6 (by decide)) (by decide) rfl rfl mi_X6_end msl_X6_end mw_X6_end rfl ml_10_139 ⟨Nat.le_of_ble_eq_true rfl, Nat.le_of_ble_eq_true rfl⟩ (Nat.le_of_ble_eq_true rfl) dX10_end_14 (fun s3 => ?_)
  refine g_aload_n E dX10_end_17 0 rfl ?_
  refine gg_10_15 E (hN 10 (by decide)) dX10_end_18 ?_
  refine g_iload_n E dX10_end_21 1 rfl ?_
  refine g_cVv E [.int x1] rfl (c_X3_rest hap (fun x h => hN x (ns_3_10 x h)) x1 s3) (hN 3 (by decide)) (by decide) rfl rfl mi_X3_rest msl_X3_rest mw_X3_rest rfl ml_10_140 ⟨Nat.le_of_ble_eq_true rfl, Nat.le_of_ble_eq_true rfl⟩ (Nat.le_of_ble_eq_true rfl) dX10_end_22 (fun s4 => ?_)
  exact g_vret E dX10_end_25
end

theorem dX10_read_0 : decode cX10_read 0 = .ok (.aload_n 0, 1) := by decide +kernel
theorem dX10_read_1 : decode cX10_read 1 = .ok (.getfield 15, 3) := by decide +kernel
theorem dX10_read_4 : decode cX10_read 4 = .ok (.iload_n 1, 1) := by decide +kernel
theorem dX10_read_5 : decode cX10_read 5 = .ok (.iconst 1, 1) := by decide +kernel
theorem dX10_read_6 : decode cX10_read 6 = .ok (.invokevirtual 25, 3) := by decide +kernel
theorem dX10_read_9 : decode cX10_read 9 = .ok (.istore_n 2, 1) := by decide +kernel
theorem dX10_read_10 : decode cX10_read 10 = .ok (.aload_n 0, 1) := by decide +kernel
theorem dX10_read_11 : decode cX10_read 11 = .ok (.getfield 15, 3) := by decide +kernel
theorem dX10_read_14 : decode cX10_read 14 = .ok (.iload_n 1, 1) := by decide +kernel
theorem dX10_read_15 : decode cX10_read 15 = .ok (.iconst 3, 1) := by decide +kernel
theorem dX10_read_16 : decode cX10_read 16 = .ok (.invokevirtual 25, 3) := by decide +kernel
theorem dX10_read_19 : decode cX10_read 19 = .ok (.istore_n 3, 1) := by decide +kernel
theorem dX10_read_20 : decode cX10_read 20 = .ok (.aload_n 0, 1) := by decide +kernel
theorem dX10_read_21 : decode cX10_read 21 = .ok (.getfield 9, 3) := by decide +kernel
theorem dX10_read_24 : decode cX10_read 24 = .ok (.iload_n 2, 1) := by decide +kernel
theorem dX10_read_25 : decode cX10_read 25 = .ok (.iconst 0, 1) := by decide +kernel
theorem dX10_read_26 : decode cX10_read 26 = .ok (.invokevirtual 49, 3) := by decide +kernel
theorem dX10_read_29 : decode cX10_read 29 = .ok (.istore 4, 2) := by decide +kernel
theorem dX10_read_31 : decode cX10_read 31 = .ok (.aload_n 0, 1) := by decide +kernel
theorem dX10_read_32 : decode cX10_read 32 = .ok (.iload_n 1, 1) := by decide +kernel
theorem dX10_read_33 : decode cX10_read 33 = .ok (.iload_n 2, 1) := by decide +kernel
theorem dX10_read_34 : decode cX10_read 34 = .ok (.iload_n 3, 1) := by decide +kernel
theorem dX10_read_35 : decode cX10_read 35 = .ok (.invokevirtual 50, 3) := by decide +kernel
theorem dX10_read_38 : decode cX10_read 38 = .ok (.ifCond .eq 24, 3) := by decide +kernel
theorem dX10_read_41 : decode cX10_read 41 = .ok (.aload_n 0, 1) := by decide +kernel
theorem dX10_read_42 : decode cX10_read 42 = .ok (.getfield 15, 3) := by decide +kernel
theorem dX10_read_45 : decode cX10_read 45 = .ok (.iload_n 1, 1) := by decide +kernel
theorem dX10_read_46 : decode cX10_read 46 = .ok (.iconst 1, 1) := by decide +kernel
theorem dX10_read_47 : decode cX10_read 47 = .ok (.aload_n 0, 1) := by decide +kernel
theorem dX10_read_48 : decode cX10_read 48 = .ok (.getfield 9, 3) := by decide +kernel
theorem dX10_read_51 : decode cX10_read 51 = .ok (.iload_n 2, 1) := by decide +kernel
theorem dX10_read_52 : decode cX10_read 52 = .ok (.iconst 3, 1) := by decide +kernel
theorem dX10_read_53 : decode cX10_read 53 = .ok (.invokevirtual 49, 3) := by decide +kernel
theorem dX10_read_56 : decode cX10_read 56 = .ok (.invokevirtual 54, 3) := by decide +kernel
theorem dX10_read_59 : decode cX10_read 59 = .ok (.goto 97, 3) := by decide +kernel
theorem dX10_read_62 : decode cX10_read 62 = .ok (.iload 4, 2) := by decide +kernel
theorem dX10_read_64 : decode cX10_read 64 = .ok (.ifCond .le 43, 3) := by decide +kernel
theorem dX10_read_67 : decode cX10_read 67 = .ok (.aload_n 0, 1) := by decide +kernel
theorem dX10_read_68 : decode cX10_read 68 = .ok (.getfield 15, 3) := by decide +kernel
theorem dX10_read_71 : decode cX10_read 71 = .ok (.iload_n 1, 1) := by decide +kernel
theorem dX10_read_72 : decode cX10_read 72 = .ok (.iload 4, 2) := by decide +kernel
theorem dX10_read_74 : decode cX10_read 74 = .ok (.iload_n 2, 1) := by decide +kernel
theorem dX10_read_75 : decode cX10_read 75 = .ok (.invokevirtual 58, 3) := by decide +kernel
theorem dX10_read_78 : decode cX10_read 78 = .ok (.aload_n 0, 1) := by decide +kernel
theorem dX10_read_79 : decode cX10_read 79 = .ok (.getfield 15, 3) := by decide +kernel
theorem dX10_read_82 : decode cX10_read 82 = .ok (.iload_n 1, 1) := by decide +kernel
theorem dX10_read_83 : decode cX10_read 83 = .ok (.iconst 1, 1) := by decide +kernel
theorem dX10_read_84 : decode cX10_read 84 = .ok (.aload_n 0, 1) := by decide +kernel
theorem dX10_read_85 : decode cX10_read 85 = .ok (.getfield 9, 3) := by decide +kernel
theorem dX10_read_88 : decode cX10_read 88 = .ok (.iload_n 2, 1) := by decide +kernel
theorem dX10_read_89 : decode cX10_read 89 = .ok (.aload_n 0, 1) := by decide +kernel
theorem dX10_read_90 : decode cX10_read 90 = .ok (.getfield 9, 3) := by decide +kernel
theorem dX10_read_93 : decode cX10_read 93 = .ok (.iload_n 2, 1) := by decide +kernel
theorem dX10_read_94 : decode cX10_read 94 = .ok (.iload_n 3, 1) := by decide +kernel
theorem dX10_read_95 : decode cX10_read 95 = .ok (.invokevirtual 61, 3) := by decide +kernel
theorem dX10_read_98 : decode cX10_read 98 = .ok (.invokevirtual 64, 3) := by decide +kernel
theorem dX10_read_101 : decode cX10_read 101 = .ok (.invokevirtual 54, 3) := by decide +kernel
theorem dX10_read_104 : decode cX10_read 104 = .ok (.goto 52, 3) := by decide +kernel
theorem dX10_read_107 : decode cX10_read 107 = .ok (.aload_n 0, 1) := by decide +kernel
theorem dX10_read_108 : decode cX10_read 108 = .ok (.iload_n 1, 1) := by decide +kernel
theorem dX10_read_109 : decode cX10_read 109 = .ok (.invokevirtual 67, 3) := by decide +kernel
theorem dX10_read_112 : decode cX10_read 112 = .ok (.ifCond .ne 29, 3) := by decide +kernel
theorem dX10_read_115 : decode cX10_read 115 = .ok (.aload_n 0, 1) := by decide +kernel
theorem dX10_read_116 : decode cX10_read 116 = .ok (.iload_n 1, 1) := by decide +kernel
theorem dX10_read_117 : decode cX10_read 117 = .ok (.aload_n 0, 1) := by decide +kernel
theorem dX10_read_118 : decode cX10_read 118 = .ok (.getfield 9, 3) := by decide +kernel
theorem dX10_read_121 : decode cX10_read 121 = .ok (.iload_n 2, 1) := by decide +kernel
theorem dX10_read_122 : decode cX10_read 122 = .ok (.iload_n 3, 1) := by decide +kernel
theorem dX10_read_123 : decode cX10_read 123 = .ok (.invokevirtual 71, 3) := by decide +kernel
theorem dX10_read_126 : decode cX10_read 126 = .ok (.iconst (-1), 1) := by decide +kernel
theorem dX10_read_127 : decode cX10_read 127 = .ok (.if_icmp .ne 7, 3) := by decide +kernel
theorem dX10_read_130 : decode cX10_read 130 = .ok (.iconst 0, 1) := by decide +kernel
theorem dX10_read_131 : decode cX10_read 131 = .ok (.goto 4, 3) := by decide +kernel
theorem dX10_read_134 : decode cX10_read 134 = .ok (.iconst 1, 1) := by decide +kernel
theorem dX10_read_135 : decode cX10_read 135 = .ok (.invokevirtual 74, 3) := by decide +kernel
theorem dX10_read_138 : decode cX10_read 138 = .ok (.goto 18, 3) := by decide +kernel
theorem dX10_read_141 : decode cX10_read 141 = .ok (.aload_n 0, 1) := by decide +kernel
theorem dX10_read_142 : decode cX10_read 142 = .ok (.iload_n 1, 1) := by decide +kernel
theorem dX10_read_143 : decode cX10_read 143 = .ok (.iload_n 2, 1) := by decide +kernel
theorem dX10_read_144 : decode cX10_read 144 = .ok (.invokevirtual 78, 3) := by decide +kernel
theorem dX10_read_147 : decode cX10_read 147 = .ok (.ifCond .eq 9, 3) := by decide +kernel
theorem dX10_read_150 : decode cX10_read 150 = .ok (.aload_n 0, 1) := by decide +kernel
theorem dX10_read_151 : decode cX10_read 151 = .ok (.iload_n 1, 1) := by decide +kernel
theorem dX10_read_152 : decode cX10_read 152 = .ok (.iload_n 2, 1) := by decide +kernel
theorem dX10_read_153 : decode cX10_read 153 = .ok (.invokevirtual 82, 3) := by decide +kernel
theorem dX10_read_156 : decode cX10_read 156 = .ok (.return_, 1) := by decide +kernel
def f_X10_read_p135 (ln : Nat → Nat) (z0 : Int32) (z1 : Int32) (s : dr_S) : Option (Int32 × dr_S) := dr_bndv (f_X10_end ln z1 z0 s) (fun s25 => some (0, s25))
def f_X10_read (ln : Nat → Nat) (x1 : Int32) (s : dr_S) : Option (Int32 × dr_S) := dr_bnd (f_X3_get ln x1 1 s) (fun r2 s1 => dr_bnd (f_X3_get ln x1 3 s1) (fun r4 s3 => dr_bnd (f_X4_get ln r2 0 s3) (fun r6 s5 => dr_bnd (f_X10_mustGoOn ln x1 r2 r4 s5) (fun r8 s7 => (if r8 = 0 then (if r6 ≤ 0 then dr_bnd (f_X10_kindOf ln x1 s7) (fun r10 s9 => (if r10 = 0 then dr_bnd (f_X4_placeOf ln r2 r4 s9) (fun r15 s14 => (if r15 = (-1) then (f_X10_read_p135 ln 0 x1 s14) else (f_X10_read_p135 ln 1 x1 s14))) else dr_bnd (f_X10_isFree ln x1 r2 s9) (fun r12 s11 => (if r12 = 0 then some (0, s11) else dr_bndv (f_X10_latch ln x1 r2 s11) (fun s13 => some (0, s13)))))) else dr_bndv (f_X3_keepPath ln x1 r6 r2 s7) (fun s16 => dr_bnd (f_X4_wayOf ln r2 r4 s16) (fun r18 s17 => dr_bnd (f_X4_child ln r2 r18 s17) (fun r20 s19 => dr_bndv (f_X3_set ln x1 1 r20 s19) (fun s21 => some (0, s21)))))) else dr_bnd (f_X4_get ln r2 3 s7) (fun r23 s22 => dr_bndv (f_X3_set ln x1 1 r23 s22) (fun s24 => some (0, s24))))))))
section
variable {p : Program} {l : Launch} {e : Env} {s0 : State} {m : MethodId} {args : Array Value} {below : List Frame} {meth : Method} {c : Code} {A : Nat → Prop} {D : va_G} {cI cZ : ClassId} {ad ln : Nat → Nat} {L : List Nat}
set_option maxHeartbeats 4000000 in
set_option maxRecDepth 20000 in
theorem w_X10_read_p135 (E : dr_E p (dr_rm 4) s0 m args meth c 0 0 A s0.heap D cI cZ ad L cX10_read 5 RX10 none) (hap : dr_ap ad L) (hN : ∀ x ∈ nd_10, x ∈ L) : ∀ (z0 : Int32) (z1 : Int32) (s : dr_S), dr_G p l e (dr_rm 4) s0 m args below meth c 0 0 A s0.heap D cI cZ ad ln L 5 (dr_Zv D cI cZ ad ln L A below args s0 0 0) 135 [] [.int z0, .int z1, .ref (ad 10)] s (f_X10_read_p135 ln z0 z1 s) := by
  intro z0 z1 s
  unfold f_X10_read_p135
  refine g_cVv E [.int z1, .int z0] rfl (c_X10_end hap hN z1 z0 s) (hN 10 (by decide)) (by decide) rfl rfl mi_X10_end msl_X10_end mw_X10_end rfl ml_10_74 ⟨Nat.le_of_ble_eq_true rfl, Nat.le_of_ble_eq_true rfl⟩ (Nat.le_of_ble_eq_true rfl) dX10_read_135 (fun s25 => ?_)
  refine g_goto E 156 dX10_read_138 (by decide) ?_
  exact g_vret E dX10_read_156
set_option maxHeartbeats 4000000 in
set_option maxRecDepth 20000 in
theorem c_X10_read (hap : dr_ap ad L) (hN : ∀ x ∈ nd_10, x ∈ L) (x1 : Int32) (s : dr_S) : dr_Mv l D cI cZ ad ln L yX10_read cX10_read 5 4 [.ref (ad 10), .int x1] s (f_X10_read ln x1 s) := by
  refine dr_metv (own := RX10) (by decide) rfl (Nat.le_of_ble_eq_true rfl) hap ?_
  intro p e s0 m args below meth c A E
  unfold f_X10_read
  refine g_eqL (lv' := [(0, .ref (ad 10)), (1, .int x1)]) rfl ?_
  refine g_aload_n E dX10_read_0 0 rfl ?_
  refine gg_10_15 E (hN 10 (by decide)) dX10_read_1 ?_
  refine g_iload_n E dX10_read_4 1 rfl ?_
  refine g_iconst E (v := 1) dX10_read_5 (by decide) ?_
  refine g_cVi E [.int x1, .int 1] rfl (c_X3_get hap (fun x h => hN x (ns_3_10 x h)) x1 1 s) (hN 3 (by decide)) (by decide) rfl rfl mi_X3_get msl_X3_get mw_X3_get rfl ml_10_25 ⟨Nat.le_of_ble_eq_true rfl, Nat.le_of_ble_eq_true rfl⟩ (Nat.le_of_ble_eq_true rfl) dX10_read_6 (fun r2 s1 => ?_)
  refine g_istore_n E (lv' := [(2, .int r2), (0, .ref (ad 10)), (1, .int x1)]) dX10_read_9 (by decide) rfl ?_
  refine g_aload_n E dX10_read_10 1 rfl ?_
  refine gg_10_15 E (hN 10 (by decide)) dX10_read_11 ?_
  refine g_iload_n E dX10_read_14 2 rfl ?_
  refine g_iconst E (v := 3) dX10_read_15 (by decide) ?_
  refine g_cVi E [.int x1, .int 3] rfl (c_X3_get hap (fun x h => hN x (ns_3_10 x h)) x1 3 s1) (hN 3 (by decide)) (by decide) rfl rfl mi_X3_get msl_X3_get mw_X3_get rfl ml_10_25 ⟨Nat.le_of_ble_eq_true rfl, Nat.le_of_ble_eq_true rfl⟩ (Nat.le_of_ble_eq_true rfl) dX10_read_16 (fun r4 s3 => ?_)
  refine g_istore_n E (lv' := [(3, .int r4), (2, .int r2), (0, .ref (ad 10)), (1, .int x1)]) dX10_read_19 (by decide) rfl ?_
  refine g_aload_n E dX10_read_20 2 rfl ?_
  refine gg_10_9 E (hN 10 (by decide)) dX10_read_21 ?_
  refine g_iload_n E dX10_read_24 1 rfl ?_
  refine g_iconst E (v := 0) dX10_read_25 (by decide) ?_
  refine g_cVi E [.int r2, .int 0] rfl (c_X4_get hap (fun x h => hN x (ns_4_10 x h)) r2 0 s3) (hN 4 (by decide)) (by decide) rfl rfl mi_X4_get msl_X4_get mw_X4_get rfl ml_10_49 ⟨Nat.le_of_ble_eq_true rfl, Nat.le_of_ble_eq_true rfl⟩ (Nat.le_of_ble_eq_true rfl) dX10_read_26 (fun r6 s5 => ?_)
  refine g_istore E (lv' := [(4, .int r6), (3, .int r4), (2, .int r2), (0, .ref (ad 10)), (1, .int x1)]) dX10_read_29 (by decide) rfl ?_
  refine g_aload_n E dX10_read_31 3 rfl ?_
  refine g_iload_n E dX10_read_32 4 rfl ?_
  refine g_iload_n E dX10_read_33 2 rfl ?_
  refine g_iload_n E dX10_read_34 1 rfl ?_
  refine g_cVi E [.int x1, .int r2, .int r4] rfl (c_X10_mustGoOn hap hN x1 r2 r4 s5) (hN 10 (by decide)) (by decide) rfl rfl mi_X10_mustGoOn msl_X10_mustGoOn mw_X10_mustGoOn rfl ml_10_50 ⟨Nat.le_of_ble_eq_true rfl, Nat.le_of_ble_eq_true rfl⟩ (Nat.le_of_ble_eq_true rfl) dX10_read_35 (fun r8 s7 => ?_)
  refine g_if_eq E 62 dX10_read_38 (by decide) ?_ ?_
  · refine g_iload E dX10_read_62 0 rfl ?_
    refine g_if_le E 107 dX10_read_64 (by decide) ?_ ?_
    · refine g_aload_n E dX10_read_107 3 rfl ?_
      refine g_iload_n E dX10_read_108 4 rfl ?_
      refine g_cVi E [.int x1] rfl (c_X10_kindOf hap hN x1 s7) (hN 10 (by decide)) (by decide) rfl rfl mi_X10_kindOf msl_X10_kindOf mw_X10_kindOf rfl ml_10_67 ⟨Nat.le_of_ble_eq_true rfl, Nat.le_of_ble_eq_true rfl⟩ (Nat.le_of_ble_eq_true rfl) dX10_read_109 (fun r10 s9 => ?_)
      refine g_if_ne E 141 dX10_read_112 (by decide) ?_ ?_
      · refine g_aload_n E dX10_read_141 3 rfl ?_
        refine g_iload_n E dX10_read_142 4 rfl ?_
        refine g_iload_n E dX10_read_143 2 rfl ?_
        refine g_cVi E [.int x1, .int r2] rfl (c_X10_isFree hap hN x1 r2 s9) (hN 10 (by decide)) (by decide) rfl rfl mi_X10_isFree msl_X10_isFree mw_X10_isFree rfl ml_10_78 ⟨Nat.le_of_ble_eq_true rfl, Nat.le_of_ble_eq_true rfl⟩ (Nat.le_of_ble_eq_true rfl) dX10_read_144 (fun r12 s11 => ?_)
        refine g_if_eq E 156 dX10_read_147 (by decide) ?_ ?_
        · exact g_vret E dX10_read_156
        · refine g_aload_n E dX10_read_150 3 rfl ?_
          refine g_iload_n E dX10_read_151 4 rfl ?_
          refine g_iload_n E dX10_read_152 2 rfl ?_
          refine g_cVv E [.int x1, .int r2] rfl (c_X10_latch hap hN x1 r2 s11) (hN 10 (by decide)) (by decide) rfl rfl mi_X10_latch msl_X10_latch mw_X10_latch rfl ml_10_82 ⟨Nat.le_of_ble_eq_true rfl, Nat.le_of_ble_eq_true rfl⟩ (Nat.le_of_ble_eq_true rfl) dX10_read_153 (fun s13 => ?_)
          exact g_vret E dX10_read_156
      · refine g_aload_n E dX10_read_115 3 rfl ?_
        refine g_iload_n E dX10_read_116 4 rfl ?_
        refine g_aload_n E dX10_read_117 3 rfl ?_
        refine gg_10_9 E (hN 10 (by decide)) dX10_read_118 ?_
        refine g_iload_n E dX10_read_121 2 rfl ?_
        refine g_iload_n E dX10_read_122 1 rfl ?_
        refine g_cVi E [.int r2, .int r4] rfl (c_X4_placeOf hap (fun x h => hN x (ns_4_10 x h)) r2 r4 s9) (hN 4 (by decide)) (by decide) rfl rfl mi_X4_placeOf msl_X4_placeOf mw_X4_placeOf rfl ml_10_71 ⟨Nat.le_of_ble_eq_true rfl, Nat.le_of_ble_eq_true rfl⟩ (Nat.le_of_ble_eq_true rfl) dX10_read_123 (fun r15 s14 => ?_)
        refine g_iconst E (v := (-1)) dX10_read_126 (by decide) ?_
        refine g_icmp_ne E 134 dX10_read_127 (by decide) ?_ ?_
        · refine g_iconst E (v := 1) dX10_read_134 (by decide) ?_
          refine g_sub [] rfl ?_
          exact w_X10_read_p135 E hap hN 1 x1 s14
        · refine g_iconst E (v := 0) dX10_read_130 (by decide) ?_
          refine g_goto E 135 dX10_read_131 (by decide) ?_
          refine g_sub [] rfl ?_
          exact w_X10_read_p135 E hap hN 0 x1 s14
    · refine g_aload_n E dX10_read_67 3 rfl ?_
      refine gg_10_15 E (hN 10 (by decide)) dX10_read_68 ?_
      refine g_iload_n E dX10_read_71 4 rfl ?_
      refine g_iload E dX10_read_72 0 rfl ?_
      refine g_iload_n E dX10_read_74 2 rfl ?_
      refine g_cVv E [.int x1, .int r6, .int r2] rfl (c_X3_keepPath hap (fun x h => hN x (ns_3_10 x h)) x1 r6 r2 s7) (hN 3 (by decide)) (by decide) rfl rfl mi_X3_keepPath msl_X3_keepPath mw_X3_keepPath rfl ml_10_58 ⟨Nat.le_of_ble_eq_true rfl, Nat.le_of_ble_eq_true rfl⟩ (Nat.le_of_ble_eq_true rfl) dX10_read_75 (fun s16 => ?_)
      refine g_aload_n E dX10_read_78 3 rfl ?_
      refine gg_10_15 E (hN 10 (by decide)) dX10_read_79 ?_
      refine g_iload_n E dX10_read_82 4 rfl ?_
      refine g_iconst E (v := 1) dX10_read_83 (by decide) ?_
      refine g_aload_n E dX10_read_84 3 rfl ?_
      refine gg_10_9 E (hN 10 (by decide)) dX10_read_85 ?_
      refine g_iload_n E dX10_read_88 2 rfl ?_
      refine g_aload_n E dX10_read_89 3 rfl ?_
      refine gg_10_9 E (hN 10 (by decide)) dX10_read_90 ?_
      refine g_iload_n E dX10_read_93 2 rfl ?_
      refine g_iload_n E dX10_read_94 1 rfl ?_
      refine g_cVi E [.int r2, .int r4] rfl (c_X4_wayOf hap (fun x h => hN x (ns_4_10 x h)) r2 r4 s16) (hN 4 (by decide)) (by decide) rfl rfl mi_X4_wayOf msl_X4_wayOf mw_X4_wayOf rfl ml_10_61 ⟨Nat.le_of_ble_eq_true rfl, Nat.le_of_ble_eq_true rfl⟩ (Nat.le_of_ble_eq_true rfl) dX10_read_95 (fun r18 s17 => ?_)
      refine g_cVi E [.int r2, .int r18] rfl (c_X4_child hap (fun x h => hN x (ns_4_10 x h)) r2 r18 s17) (hN 4 (by decide)) (by decide) rfl rfl mi_X4_child msl_X4_child mw_X4_child rfl ml_10_64 ⟨Nat.le_of_ble_eq_true rfl, Nat.le_of_ble_eq_true rfl⟩ (Nat.le_of_ble_eq_true rfl) dX10_read_98 (fun r20 s19 => ?_)
      refine g_cVv E [.int x1, .int 1, .int r20] rfl (c_X3_set hap (fun x h => hN x (ns_3_10 x h)) x1 1 r20 s19) (hN 3 (by decide)) (by decide) rfl rfl mi_X3_set msl_X3_set mw_X3_set rfl ml_10_54 ⟨Nat.le_of_ble_eq_true rfl, Nat.le_of_ble_eq_true rfl⟩ (Nat.le_of_ble_eq_true rfl) dX10_read_101 (fun s21 => ?_)
      refine g_goto E 156 dX10_read_104 (by decide) ?_
      exact g_vret E dX10_read_156
  · refine g_aload_n E dX10_read_41 3 rfl ?_
    refine gg_10_15 E (hN 10 (by decide)) dX10_read_42 ?_
    refine g_iload_n E dX10_read_45 4 rfl ?_
    refine g_iconst E (v := 1) dX10_read_46 (by decide) ?_
    refine g_aload_n E dX10_read_47 3 rfl ?_
    refine gg_10_9 E (hN 10 (by decide)) dX10_read_48 ?_
    refine g_iload_n E dX10_read_51 2 rfl ?_
    refine g_iconst E (v := 3) dX10_read_52 (by decide) ?_
    refine g_cVi E [.int r2, .int 3] rfl (c_X4_get hap (fun x h => hN x (ns_4_10 x h)) r2 3 s7) (hN 4 (by decide)) (by decide) rfl rfl mi_X4_get msl_X4_get mw_X4_get rfl ml_10_49 ⟨Nat.le_of_ble_eq_true rfl, Nat.le_of_ble_eq_true rfl⟩ (Nat.le_of_ble_eq_true rfl) dX10_read_53 (fun r23 s22 => ?_)
    refine g_cVv E [.int x1, .int 1, .int r23] rfl (c_X3_set hap (fun x h => hN x (ns_3_10 x h)) x1 1 r23 s22) (hN 3 (by decide)) (by decide) rfl rfl mi_X3_set msl_X3_set mw_X3_set rfl ml_10_54 ⟨Nat.le_of_ble_eq_true rfl, Nat.le_of_ble_eq_true rfl⟩ (Nat.le_of_ble_eq_true rfl) dX10_read_56 (fun s24 => ?_)
    refine g_goto E 156 dX10_read_59 (by decide) ?_
    exact g_vret E dX10_read_156
end

theorem dX10_mustGoOn_0 : decode cX10_mustGoOn 0 = .ok (.aload_n 0, 1) := by decide +kernel
theorem dX10_mustGoOn_1 : decode cX10_mustGoOn 1 = .ok (.getfield 15, 3) := by decide +kernel
theorem dX10_mustGoOn_4 : decode cX10_mustGoOn 4 = .ok (.iload_n 1, 1) := by decide +kernel
theorem dX10_mustGoOn_5 : decode cX10_mustGoOn 5 = .ok (.iconst 5, 1) := by decide +kernel
theorem dX10_mustGoOn_6 : decode cX10_mustGoOn 6 = .ok (.invokevirtual 25, 3) := by decide +kernel
theorem dX10_mustGoOn_9 : decode cX10_mustGoOn 9 = .ok (.iconst 1, 1) := by decide +kernel
theorem dX10_mustGoOn_10 : decode cX10_mustGoOn 10 = .ok (.if_icmp .eq 19, 3) := by decide +kernel
theorem dX10_mustGoOn_13 : decode cX10_mustGoOn 13 = .ok (.aload_n 0, 1) := by decide +kernel
theorem dX10_mustGoOn_14 : decode cX10_mustGoOn 14 = .ok (.getfield 9, 3) := by decide +kernel
theorem dX10_mustGoOn_17 : decode cX10_mustGoOn 17 = .ok (.iload_n 2, 1) := by decide +kernel
theorem dX10_mustGoOn_18 : decode cX10_mustGoOn 18 = .ok (.iload_n 3, 1) := by decide +kernel
theorem dX10_mustGoOn_19 : decode cX10_mustGoOn 19 = .ok (.invokevirtual 135, 3) := by decide +kernel
theorem dX10_mustGoOn_22 : decode cX10_mustGoOn 22 = .ok (.ifCond .ne 7, 3) := by decide +kernel
theorem dX10_mustGoOn_25 : decode cX10_mustGoOn 25 = .ok (.iconst 1, 1) := by decide +kernel
theorem dX10_mustGoOn_26 : decode cX10_mustGoOn 26 = .ok (.goto 4, 3) := by decide +kernel
theorem dX10_mustGoOn_29 : decode cX10_mustGoOn 29 = .ok (.iconst 0, 1) := by decide +kernel
theorem dX10_mustGoOn_30 : decode cX10_mustGoOn 30 = .ok (.ireturn, 1) := by decide +kernel
def f_X10_mustGoOn (ln : Nat → Nat) (x1 : Int32) (x2 : Int32) (x3 : Int32) (s : dr_S) : Option (Int32 × dr_S) := dr_bnd (f_X3_get ln x1 5 s) (fun r2 s1 => (if r2 = 1 then some (0, s1) else dr_bnd (f_X4_covers ln x2 x3 s1) (fun r4 s3 => (if r4 = 0 then some (1, s3) else some (0, s3)))))
section
variable {p : Program} {l : Launch} {e : Env} {s0 : State} {m : MethodId} {args : Array Value} {below : List Frame} {meth : Method} {c : Code} {A : Nat → Prop} {D : va_G} {cI cZ : ClassId} {ad ln : Nat → Nat} {L : List Nat}
set_option maxHeartbeats 4000000 in
set_option maxRecDepth 20000 in
theorem c_X10_mustGoOn (hap : dr_ap ad L) (hN : ∀ x ∈ nd_10, x ∈ L) (x1 : Int32) (x2 : Int32) (x3 : Int32) (s : dr_S) : dr_Mi l D cI cZ ad ln L yX10_mustGoOn cX10_mustGoOn 4 (some .boolean) 3 [.ref (ad 10), .int x1, .int x2, .int x3] s (f_X10_mustGoOn ln x1 x2 x3 s) := by
  refine dr_meti (own := RX10) (by decide) rfl (Nat.le_of_ble_eq_true rfl) hap ?_
  intro p e s0 m args below meth c A E
  unfold f_X10_mustGoOn
  refine g_eqL (lv' := [(0, .ref (ad 10)), (1, .int x1), (2, .int x2), (3, .int x3)]) rfl ?_
  refine g_aload_n E dX10_mustGoOn_0 0 rfl ?_
  refine gg_10_15 E (hN 10 (by decide)) dX10_mustGoOn_1 ?_
  refine g_iload_n E dX10_mustGoOn_4 1 rfl ?_
  refine g_iconst E (v := 5) dX10_mustGoOn_5 (by decide) ?_
  refine g_cVi E [.int x1, .int 5] rfl (c_X3_get hap (fun x h => hN x (ns_3_10 x h)) x1 5 s) (hN 3 (by decide)) (by decide) rfl rfl mi_X3_get msl_X3_get mw_X3_get rfl ml_10_25 ⟨Nat.le_of_ble_eq_true rfl, Nat.le_of_ble_eq_true rfl⟩ (Nat.le_of_ble_eq_true rfl) dX10_mustGoOn_6 (fun r2 s1 => ?_)
  refine g_iconst E (v := 1) dX10_mustGoOn_9 (by decide) ?_
  refine g_icmp_eq E 29 dX10_mustGoOn_10 (by decide) ?_ ?_
  · refine g_iconst E (v := 0) dX10_mustGoOn_29 (by decide) ?_
    exact g_zret E dX10_mustGoOn_30 (Or.inl rfl)
  · refine g_aload_n E dX10_mustGoOn_13 0 rfl ?_
    refine gg_10_9 E (hN 10 (by decide)) dX10_mustGoOn_14 ?_
    refine g_iload_n E dX10_mustGoOn_17 2 rfl ?_
    refine g_iload_n E dX10_mustGoOn_18 3 rfl ?_
    refine g_cVi E [.int x2, .int x3] rfl (c_X4_covers hap (fun x h => hN x (ns_4_10 x h)) x2 x3 s1) (hN 4 (by decide)) (by decide) rfl rfl mi_X4_covers msl_X4_covers mw_X4_covers rfl ml_10_135 ⟨Nat.le_of_ble_eq_true rfl, Nat.le_of_ble_eq_true rfl⟩ (Nat.le_of_ble_eq_true rfl) dX10_mustGoOn_19 (fun r4 s3 => ?_)
    refine g_if_ne E 29 dX10_mustGoOn_22 (by decide) ?_ ?_
    · refine g_iconst E (v := 0) dX10_mustGoOn_29 (by decide) ?_
      exact g_zret E dX10_mustGoOn_30 (Or.inl rfl)
    · refine g_iconst E (v := 1) dX10_mustGoOn_25 (by decide) ?_
      refine g_goto E 30 dX10_mustGoOn_26 (by decide) ?_
      exact g_zret E dX10_mustGoOn_30 (Or.inr rfl)
end

theorem dX10_kindOf_0 : decode cX10_kindOf 0 = .ok (.aload_n 0, 1) := by decide +kernel
theorem dX10_kindOf_1 : decode cX10_kindOf 1 = .ok (.getfield 19, 3) := by decide +kernel
theorem dX10_kindOf_4 : decode cX10_kindOf 4 = .ok (.aload_n 0, 1) := by decide +kernel
theorem dX10_kindOf_5 : decode cX10_kindOf 5 = .ok (.getfield 15, 3) := by decide +kernel
theorem dX10_kindOf_8 : decode cX10_kindOf 8 = .ok (.iload_n 1, 1) := by decide +kernel
theorem dX10_kindOf_9 : decode cX10_kindOf 9 = .ok (.iconst 2, 1) := by decide +kernel
theorem dX10_kindOf_10 : decode cX10_kindOf 10 = .ok (.invokevirtual 25, 3) := by decide +kernel
theorem dX10_kindOf_13 : decode cX10_kindOf 13 = .ok (.iconst 0, 1) := by decide +kernel
theorem dX10_kindOf_14 : decode cX10_kindOf 14 = .ok (.invokevirtual 143, 3) := by decide +kernel
theorem dX10_kindOf_17 : decode cX10_kindOf 17 = .ok (.ireturn, 1) := by decide +kernel
def f_X10_kindOf (ln : Nat → Nat) (x1 : Int32) (s : dr_S) : Option (Int32 × dr_S) := dr_bnd (f_X3_get ln x1 2 s) (fun r2 s1 => dr_bnd (f_X6_get ln r2 0 s1) (fun r4 s3 => some (r4, s3)))
section
variable {p : Program} {l : Launch} {e : Env} {s0 : State} {m : MethodId} {args : Array Value} {below : List Frame} {meth : Method} {c : Code} {A : Nat → Prop} {D : va_G} {cI cZ : ClassId} {ad ln : Nat → Nat} {L : List Nat}
set_option maxHeartbeats 4000000 in
set_option maxRecDepth 20000 in
theorem c_X10_kindOf (hap : dr_ap ad L) (hN : ∀ x ∈ nd_10, x ∈ L) (x1 : Int32) (s : dr_S) : dr_Mi l D cI cZ ad ln L yX10_kindOf cX10_kindOf 2 (some .int) 2 [.ref (ad 10), .int x1] s (f_X10_kindOf ln x1 s) := by
  refine dr_meti (own := RX10) (by decide) rfl (Nat.le_of_ble_eq_true rfl) hap ?_
  intro p e s0 m args below meth c A E
  unfold f_X10_kindOf
  refine g_eqL (lv' := [(0, .ref (ad 10)), (1, .int x1)]) rfl ?_
  refine g_aload_n E dX10_kindOf_0 0 rfl ?_
  refine gg_10_19 E (hN 10 (by decide)) dX10_kindOf_1 ?_
  refine g_aload_n E dX10_kindOf_4 0 rfl ?_
  refine gg_10_15 E (hN 10 (by decide)) dX10_kindOf_5 ?_
  refine g_iload_n E dX10_kindOf_8 1 rfl ?_
  refine g_iconst E (v := 2) dX10_kindOf_9 (by decide) ?_
  refine g_cVi E [.int x1, .int 2] rfl (c_X3_get hap (fun x h => hN x (ns_3_10 x h)) x1 2 s) (hN 3 (by decide)) (by decide) rfl rfl mi_X3_get msl_X3_get mw_X3_get rfl ml_10_25 ⟨Nat.le_of_ble_eq_true rfl, Nat.le_of_ble_eq_true rfl⟩ (Nat.le_of_ble_eq_true rfl) dX10_kindOf_10 (fun r2 s1 => ?_)
  refine g_iconst E (v := 0) dX10_kindOf_13 (by decide) ?_
  refine g_cVi E [.int r2, .int 0] rfl (c_X6_get hap (fun x h => hN x (ns_6_10 x h)) r2 0 s1) (hN 6 (by decide)) (by decide) rfl rfl mi_X6_get msl_X6_get mw_X6_get rfl ml_10_143 ⟨Nat.le_of_ble_eq_true rfl, Nat.le_of_ble_eq_true rfl⟩ (Nat.le_of_ble_eq_true rfl) dX10_kindOf_14 (fun r4 s3 => ?_)
  exact g_iret E dX10_kindOf_17
end

theorem dX10_isFree_0 : decode cX10_isFree 0 = .ok (.aload_n 0, 1) := by decide +kernel
theorem dX10_isFree_1 : decode cX10_isFree 1 = .ok (.getfield 9, 3) := by decide +kernel
theorem dX10_isFree_4 : decode cX10_isFree 4 = .ok (.iload_n 2, 1) := by decide +kernel
theorem dX10_isFree_5 : decode cX10_isFree 5 = .ok (.iconst 4, 1) := by decide +kernel
theorem dX10_isFree_6 : decode cX10_isFree 6 = .ok (.invokevirtual 49, 3) := by decide +kernel
theorem dX10_isFree_9 : decode cX10_isFree 9 = .ok (.istore_n 3, 1) := by decide +kernel
theorem dX10_isFree_10 : decode cX10_isFree 10 = .ok (.iload_n 3, 1) := by decide +kernel
theorem dX10_isFree_11 : decode cX10_isFree 11 = .ok (.iconst (-1), 1) := by decide +kernel
theorem dX10_isFree_12 : decode cX10_isFree 12 = .ok (.if_icmp .eq 21, 3) := by decide +kernel
theorem dX10_isFree_15 : decode cX10_isFree 15 = .ok (.iload_n 3, 1) := by decide +kernel
theorem dX10_isFree_16 : decode cX10_isFree 16 = .ok (.iload_n 1, 1) := by decide +kernel
theorem dX10_isFree_17 : decode cX10_isFree 17 = .ok (.if_icmp .eq 16, 3) := by decide +kernel
theorem dX10_isFree_20 : decode cX10_isFree 20 = .ok (.aload_n 0, 1) := by decide +kernel
theorem dX10_isFree_21 : decode cX10_isFree 21 = .ok (.getfield 15, 3) := by decide +kernel
theorem dX10_isFree_24 : decode cX10_isFree 24 = .ok (.iload_n 1, 1) := by decide +kernel
theorem dX10_isFree_25 : decode cX10_isFree 25 = .ok (.iconst 5, 1) := by decide +kernel
theorem dX10_isFree_26 : decode cX10_isFree 26 = .ok (.invokevirtual 25, 3) := by decide +kernel
theorem dX10_isFree_29 : decode cX10_isFree 29 = .ok (.iconst 2, 1) := by decide +kernel
theorem dX10_isFree_30 : decode cX10_isFree 30 = .ok (.if_icmp .ne 7, 3) := by decide +kernel
theorem dX10_isFree_33 : decode cX10_isFree 33 = .ok (.iconst 1, 1) := by decide +kernel
theorem dX10_isFree_34 : decode cX10_isFree 34 = .ok (.goto 4, 3) := by decide +kernel
theorem dX10_isFree_37 : decode cX10_isFree 37 = .ok (.iconst 0, 1) := by decide +kernel
theorem dX10_isFree_38 : decode cX10_isFree 38 = .ok (.ireturn, 1) := by decide +kernel
def f_X10_isFree (ln : Nat → Nat) (x1 : Int32) (x2 : Int32) (s : dr_S) : Option (Int32 × dr_S) := dr_bnd (f_X4_get ln x2 4 s) (fun r2 s1 => (if r2 = (-1) then some (1, s1) else (if r2 = x1 then some (1, s1) else dr_bnd (f_X3_get ln x1 5 s1) (fun r4 s3 => (if r4 = 2 then some (1, s3) else some (0, s3))))))
section
variable {p : Program} {l : Launch} {e : Env} {s0 : State} {m : MethodId} {args : Array Value} {below : List Frame} {meth : Method} {c : Code} {A : Nat → Prop} {D : va_G} {cI cZ : ClassId} {ad ln : Nat → Nat} {L : List Nat}
set_option maxHeartbeats 4000000 in
set_option maxRecDepth 20000 in
theorem c_X10_isFree (hap : dr_ap ad L) (hN : ∀ x ∈ nd_10, x ∈ L) (x1 : Int32) (x2 : Int32) (s : dr_S) : dr_Mi l D cI cZ ad ln L yX10_isFree cX10_isFree 4 (some .boolean) 2 [.ref (ad 10), .int x1, .int x2] s (f_X10_isFree ln x1 x2 s) := by
  refine dr_meti (own := RX10) (by decide) rfl (Nat.le_of_ble_eq_true rfl) hap ?_
  intro p e s0 m args below meth c A E
  unfold f_X10_isFree
  refine g_eqL (lv' := [(0, .ref (ad 10)), (1, .int x1), (2, .int x2)]) rfl ?_
  refine g_aload_n E dX10_isFree_0 0 rfl ?_
  refine gg_10_9 E (hN 10 (by decide)) dX10_isFree_1 ?_
  refine g_iload_n E dX10_isFree_4 2 rfl ?_
  refine g_iconst E (v := 4) dX10_isFree_5 (by decide) ?_
  refine g_cVi E [.int x2, .int 4] rfl (c_X4_get hap (fun x h => hN x (ns_4_10 x h)) x2 4 s) (hN 4 (by decide)) (by decide) rfl rfl mi_X4_get msl_X4_get mw_X4_get rfl ml_10_49 ⟨Nat.le_of_ble_eq_true rfl, Nat.le_of_ble_eq_true rfl⟩ (Nat.le_of_ble_eq_true rfl) dX10_isFree_6 (fun r2 s1 => ?_)
  refine g_istore_n E (lv' := [(3, .int r2), (0, .ref (ad 10)), (1, .int x1), (2, .int x2)]) dX10_isFree_9 (by decide) rfl ?_
  refine g_iload_n E dX10_isFree_10 0 rfl ?_
  refine g_iconst E (v := (-1)) dX10_isFree_11 (by decide) ?_
  refine g_icmp_eq E 33 dX10_isFree_12 (by decide) ?_ ?_
  · refine g_iconst E (v := 1) dX10_isFree_33 (by decide) ?_
    refine g_goto E 38 dX10_isFree_34 (by decide) ?_
    exact g_zret E dX10_isFree_38 (Or.inr rfl)
  · refine g_iload_n E dX10_isFree_15 0 rfl ?_
    refine g_iload_n E dX10_isFree_16 2 rfl ?_
    refine g_icmp_eq E 33 dX10_isFree_17 (by decide) ?_ ?_
    · refine g_iconst E (v := 1) dX10_isFree_33 (by decide) ?_
      refine g_goto E 38 dX10_isFree_34 (by decide) ?_
      exact g_zret E dX10_isFree_38 (Or.inr rfl)
    · refine g_aload_n E dX10_isFree_20 1 rfl ?_
      refine gg_10_15 E (hN 10 (by decide)) dX10_isFree_21 ?_
      refine g_iload_n E dX10_isFree_24 2 rfl ?_
      refine g_iconst E (v := 5) dX10_isFree_25 (by decide) ?_
      refine g_cVi E [.int x1, .int 5] rfl (c_X3_get hap (fun x h => hN x (ns_3_10 x h)) x1 5 s1) (hN 3 (by decide)) (by decide) rfl rfl mi_X3_get msl_X3_get mw_X3_get rfl ml_10_25 ⟨Nat.le_of_ble_eq_true rfl, Nat.le_of_ble_eq_true rfl⟩ (Nat.le_of_ble_eq_true rfl) dX10_isFree_26 (fun r4 s3 => ?_)
      refine g_iconst E (v := 2) dX10_isFree_29 (by decide) ?_
      refine g_icmp_ne E 37 dX10_isFree_30 (by decide) ?_ ?_
      · refine g_iconst E (v := 0) dX10_isFree_37 (by decide) ?_
        exact g_zret E dX10_isFree_38 (Or.inl rfl)
      · refine g_iconst E (v := 1) dX10_isFree_33 (by decide) ?_
        refine g_goto E 38 dX10_isFree_34 (by decide) ?_
        exact g_zret E dX10_isFree_38 (Or.inr rfl)
end

theorem dX10_latch_0 : decode cX10_latch 0 = .ok (.aload_n 0, 1) := by decide +kernel
theorem dX10_latch_1 : decode cX10_latch 1 = .ok (.getfield 15, 3) := by decide +kernel
theorem dX10_latch_4 : decode cX10_latch 4 = .ok (.iload_n 1, 1) := by decide +kernel
theorem dX10_latch_5 : decode cX10_latch 5 = .ok (.iconst 5, 1) := by decide +kernel
theorem dX10_latch_6 : decode cX10_latch 6 = .ok (.invokevirtual 25, 3) := by decide +kernel
theorem dX10_latch_9 : decode cX10_latch 9 = .ok (.iconst 2, 1) := by decide +kernel
theorem dX10_latch_10 : decode cX10_latch 10 = .ok (.if_icmp .eq 13, 3) := by decide +kernel
theorem dX10_latch_13 : decode cX10_latch 13 = .ok (.aload_n 0, 1) := by decide +kernel
theorem dX10_latch_14 : decode cX10_latch 14 = .ok (.getfield 9, 3) := by decide +kernel
theorem dX10_latch_17 : decode cX10_latch 17 = .ok (.iload_n 2, 1) := by decide +kernel
theorem dX10_latch_18 : decode cX10_latch 18 = .ok (.iconst 4, 1) := by decide +kernel
theorem dX10_latch_19 : decode cX10_latch 19 = .ok (.iload_n 1, 1) := by decide +kernel
theorem dX10_latch_20 : decode cX10_latch 20 = .ok (.invokevirtual 138, 3) := by decide +kernel
theorem dX10_latch_23 : decode cX10_latch 23 = .ok (.aload_n 0, 1) := by decide +kernel
theorem dX10_latch_24 : decode cX10_latch 24 = .ok (.getfield 15, 3) := by decide +kernel
theorem dX10_latch_27 : decode cX10_latch 27 = .ok (.iload_n 1, 1) := by decide +kernel
theorem dX10_latch_28 : decode cX10_latch 28 = .ok (.iconst 1, 1) := by decide +kernel
theorem dX10_latch_29 : decode cX10_latch 29 = .ok (.iload_n 2, 1) := by decide +kernel
theorem dX10_latch_30 : decode cX10_latch 30 = .ok (.invokevirtual 54, 3) := by decide +kernel
theorem dX10_latch_33 : decode cX10_latch 33 = .ok (.aload_n 0, 1) := by decide +kernel
theorem dX10_latch_34 : decode cX10_latch 34 = .ok (.getfield 15, 3) := by decide +kernel
theorem dX10_latch_37 : decode cX10_latch 37 = .ok (.iload_n 1, 1) := by decide +kernel
theorem dX10_latch_38 : decode cX10_latch 38 = .ok (.iconst 0, 1) := by decide +kernel
theorem dX10_latch_39 : decode cX10_latch 39 = .ok (.iconst 2, 1) := by decide +kernel
theorem dX10_latch_40 : decode cX10_latch 40 = .ok (.invokevirtual 54, 3) := by decide +kernel
theorem dX10_latch_43 : decode cX10_latch 43 = .ok (.return_, 1) := by decide +kernel
def f_X10_latch_p23 (ln : Nat → Nat) (x1 : Int32) (x2 : Int32) (s : dr_S) : Option (Int32 × dr_S) := dr_bndv (f_X3_set ln x1 1 x2 s) (fun s4 => dr_bndv (f_X3_set ln x1 0 2 s4) (fun s5 => some (0, s5)))
def f_X10_latch (ln : Nat → Nat) (x1 : Int32) (x2 : Int32) (s : dr_S) : Option (Int32 × dr_S) := dr_bnd (f_X3_get ln x1 5 s) (fun r2 s1 => (if r2 = 2 then (f_X10_latch_p23 ln x1 x2 s1) else dr_bndv (f_X4_set ln x2 4 x1 s1) (fun s3 => (f_X10_latch_p23 ln x1 x2 s3))))
section
variable {p : Program} {l : Launch} {e : Env} {s0 : State} {m : MethodId} {args : Array Value} {below : List Frame} {meth : Method} {c : Code} {A : Nat → Prop} {D : va_G} {cI cZ : ClassId} {ad ln : Nat → Nat} {L : List Nat}
set_option maxHeartbeats 4000000 in
set_option maxRecDepth 20000 in
theorem w_X10_latch_p23 (E : dr_E p (dr_rm 2) s0 m args meth c 0 0 A s0.heap D cI cZ ad L cX10_latch 3 RX10 none) (hap : dr_ap ad L) (hN : ∀ x ∈ nd_10, x ∈ L) : ∀ (x1 : Int32) (x2 : Int32) (s : dr_S), dr_G p l e (dr_rm 2) s0 m args below meth c 0 0 A s0.heap D cI cZ ad ln L 3 (dr_Zv D cI cZ ad ln L A below args s0 0 0) 23 [(0, .ref (ad 10)), (1, .int x1), (2, .int x2)] [] s (f_X10_latch_p23 ln x1 x2 s) := by
  intro x1 x2 s
  unfold f_X10_latch_p23
  refine g_aload_n E dX10_latch_23 0 rfl ?_
  refine gg_10_15 E (hN 10 (by decide)) dX10_latch_24 ?_
  refine g_iload_n E dX10_latch_27 1 rfl ?_
  refine g_iconst E (v := 1) dX10_latch_28 (by decide) ?_
  refine g_iload_n E dX10_latch_29 2 rfl ?_
  refine g_cVv E [.int x1, .int 1, .int x2] rfl (c_X3_set hap (fun x h => hN x (ns_3_10 x h)) x1 1 x2 s) (hN 3 (by decide)) (by decide) rfl rfl mi_X3_set msl_X3_set mw_X3_set rfl ml_10_54 ⟨Nat.le_of_ble_eq_true rfl, Nat.le_of_ble_eq_true rfl⟩ (Nat.le_of_ble_eq_true rfl) dX10_latch_30 (fun s4 => ?_)
  refine g_aload_n E dX10_latch_33 0 rfl ?_
  refine gg_10_15 E (hN 10 (by decide)) dX10_latch_34 ?_
  refine g_iload_n E dX10_latch_37 1 rfl ?_
  refine g_iconst E (v := 0) dX10_latch_38 (by decide) ?_
  refine g_iconst E (v := 2) dX10_latch_39 (by decide) ?_
  refine g_cVv E [.int x1, .int 0, .int 2] rfl (c_X3_set hap (fun x h => hN x (ns_3_10 x h)) x1 0 2 s4) (hN 3 (by decide)) (by decide) rfl rfl mi_X3_set msl_X3_set mw_X3_set rfl ml_10_54 ⟨Nat.le_of_ble_eq_true rfl, Nat.le_of_ble_eq_true rfl⟩ (Nat.le_of_ble_eq_true rfl) dX10_latch_40 (fun s5 => ?_)
  exact g_vret E dX10_latch_43
set_option maxHeartbeats 4000000 in
set_option maxRecDepth 20000 in
theorem c_X10_latch (hap : dr_ap ad L) (hN : ∀ x ∈ nd_10, x ∈ L) (x1 : Int32) (x2 : Int32) (s : dr_S) : dr_Mv l D cI cZ ad ln L yX10_latch cX10_latch 3 2 [.ref (ad 10), .int x1, .int x2] s (f_X10_latch ln x1 x2 s) := by
  refine dr_metv (own := RX10) (by decide) rfl (Nat.le_of_ble_eq_true rfl) hap ?_
  intro p e s0 m args below meth c A E
  unfold f_X10_latch
  refine g_eqL (lv' := [(0, .ref (ad 10)), (1, .int x1), (2, .int x2)]) rfl ?_
  refine g_aload_n E dX10_latch_0 0 rfl ?_
  refine gg_10_15 E (hN 10 (by decide)) dX10_latch_1 ?_
  refine g_iload_n E dX10_latch_4 1 rfl ?_
  refine g_iconst E (v := 5) dX10_latch_5 (by decide) ?_
  refine g_cVi E [.int x1, .int 5] rfl (c_X3_get hap (fun x h => hN x (ns_3_10 x h)) x1 5 s) (hN 3 (by decide)) (by decide) rfl rfl mi_X3_get msl_X3_get mw_X3_get rfl ml_10_25 ⟨Nat.le_of_ble_eq_true rfl, Nat.le_of_ble_eq_true rfl⟩ (Nat.le_of_ble_eq_true rfl) dX10_latch_6 (fun r2 s1 => ?_)
  refine g_iconst E (v := 2) dX10_latch_9 (by decide) ?_
  refine g_icmp_eq E 23 dX10_latch_10 (by decide) ?_ ?_
  · refine g_sub [0, 1, 2] rfl ?_
    exact w_X10_latch_p23 E hap hN x1 x2 s1
  · refine g_aload_n E dX10_latch_13 0 rfl ?_
    refine gg_10_9 E (hN 10 (by decide)) dX10_latch_14 ?_
    refine g_iload_n E dX10_latch_17 2 rfl ?_
    refine g_iconst E (v := 4) dX10_latch_18 (by decide) ?_
    refine g_iload_n E dX10_latch_19 1 rfl ?_
    refine g_cVv E [.int x2, .int 4, .int x1] rfl (c_X4_set hap (fun x h => hN x (ns_4_10 x h)) x2 4 x1 s1) (hN 4 (by decide)) (by decide) rfl rfl mi_X4_set msl_X4_set mw_X4_set rfl ml_10_138 ⟨Nat.le_of_ble_eq_true rfl, Nat.le_of_ble_eq_true rfl⟩ (Nat.le_of_ble_eq_true rfl) dX10_latch_20 (fun s3 => ?_)
    refine g_sub [0, 1, 2] rfl ?_
    exact w_X10_latch_p23 E hap hN x1 x2 s3
end

theorem dX10_end_0 : decode cX10_end 0 = .ok (.aload_n 0, 1) := by decide +kernel
theorem dX10_end_1 : decode cX10_end 1 = .ok (.getfield 19, 3) := by decide +kernel
theorem dX10_end_4 : decode cX10_end 4 = .ok (.aload_n 0, 1) := by decide +kernel
theorem dX10_end_5 : decode cX10_end 5 = .ok (.getfield 15, 3) := by decide +kernel
theorem dX10_end_8 : decode cX10_end 8 = .ok (.iload_n 1, 1) := by decide +kernel
theorem dX10_end_9 : decode cX10_end 9 = .ok (.iconst 2, 1) := by decide +kernel
theorem dX10_end_10 : decode cX10_end 10 = .ok (.invokevirtual 25, 3) := by decide +kernel
theorem dX10_end_13 : decode cX10_end 13 = .ok (.iload_n 2, 1) := by decide +kernel
theorem dX10_end_14 : decode cX10_end 14 = .ok (.invokevirtual 139, 3) := by decide +kernel
theorem dX10_end_17 : decode cX10_end 17 = .ok (.aload_n 0, 1) := by decide +kernel
theorem dX10_end_18 : decode cX10_end 18 = .ok (.getfield 15, 3) := by decide +kernel
theorem dX10_end_21 : decode cX10_end 21 = .ok (.iload_n 1, 1) := by decide +kernel
theorem dX10_end_22 : decode cX10_end 22 = .ok (.invokevirtual 140, 3) := by decide +kernel
theorem dX10_end_25 : decode cX10_end 25 = .ok (.return_, 1) := by decide +kernel
def f_X10_end (ln : Nat → Nat) (x1 : Int32) (x2 : Int32) (s : dr_S) : Option (Int32 × dr_S) := dr_bnd (f_X3_get ln x1 2 s) (fun r2 s1 => dr_bndv (f_X6_end ln r2 x2 s1) (fun s3 => dr_bndv (f_X3_rest ln x1 s3) (fun s4 => some (0, s4))))
section
variable {p : Program} {l : Launch} {e : Env} {s0 : State} {m : MethodId} {args : Array Value} {below : List Frame} {meth : Method} {c : Code} {A : Nat → Prop} {D : va_G} {cI cZ : ClassId} {ad ln : Nat → Nat} {L : List Nat}
set_option maxHeartbeats 4000000 in
set_option maxRecDepth 20000 in
theorem c_X10_end (hap : dr_ap ad L) (hN : ∀ x ∈ nd_10, x ∈ L) (x1 : Int32) (x2 : Int32) (s : dr_S) : dr_Mv l D cI cZ ad ln L yX10_end cX10_end 3 3 [.ref (ad 10), .int x1, .int x2] s (f_X10_end ln x1 x2 s) := by
  refine dr_metv (own := RX10) (by decide) rfl (Nat.le_of_ble_eq_true rfl) hap ?_
  intro p e s0 m args below meth c A E
  unfold f_X10_end
  refine g_eqL (lv' := [(0, .ref (ad 10)), (1, .int x1), (2, .int x2)]) rfl ?_
  refine g_aload_n E dX10_end_0 0 rfl ?_
  refine gg_10_19 E (hN 10 (by decide)) dX10_end_1 ?_
  refine g_aload_n E dX10_end_4 0 rfl ?_
  refine gg_10_15 E (hN 10 (by decide)) dX10_end_5 ?_
  refine g_iload_n E dX10_end_8 1 rfl ?_
  refine g_iconst E (v := 2) dX10_end_9 (by decide) ?_
  refine g_cVi E [.int x1, .int 2] rfl (c_X3_get hap (fun x h => hN x (ns_3_10 x h)) x1 2 s) (hN 3 (by decide)) (by decide) rfl rfl mi_X3_get msl_X3_get mw_X3_get rfl ml_10_25 ⟨Nat.le_of_ble_eq_true rfl, Nat.le_of_ble_eq_true rfl⟩ (Nat.le_of_ble_eq_true rfl) dX10_end_10 (fun r2 s1 => ?_)
  refine g_iload_n E dX10_end_13 2 rfl ?_
  refine g_cVv E [.int r2, .int x2] rfl (c_X6_end hap (fun x h => hN x (ns_6_10 x h)) r2 x2 s1) (hN 6 (by decide)) (by decide) rfl rfl mi_X6_end msl_X6_end mw_X6_end rfl ml_10_139 ⟨Nat.le_of_ble_eq_true rfl, Nat.le_of_ble_eq_true rfl⟩ (Nat.le_of_ble_eq_true rfl) dX10_end_14 (fun s3 => ?_)
  refine g_aload_n E dX10_end_17 0 rfl ?_
  refine gg_10_15 E (hN 10 (by decide)) dX10_end_18 ?_
  refine g_iload_n E dX10_end_21 1 rfl ?_
  refine g_cVv E [.int x1] rfl (c_X3_rest hap (fun x h => hN x (ns_3_10 x h)) x1 s3) (hN 3 (by decide)) (by decide) rfl rfl mi_X3_rest msl_X3_rest mw_X3_rest rfl ml_10_140 ⟨Nat.le_of_ble_eq_true rfl, Nat.le_of_ble_eq_true rfl⟩ (Nat.le_of_ble_eq_true rfl) dX10_end_22 (fun s4 => ?_)
  exact g_vret E dX10_end_25
end

theorem dX10_read_0 : decode cX10_read 0 = .ok (.aload_n 0, 1) := by decide +kernel
theorem dX10_read_1 : decode cX10_read 1 = .ok (.getfield 15, 3) := by decide +kernel
theorem dX10_read_4 : decode cX10_read 4 = .ok (.iload_n 1, 1) := by decide +kernel
theorem dX10_read_5 : decode cX10_read 5 = .ok (.iconst 1, 1) := by decide +kernel
theorem dX10_read_6 : decode cX10_read 6 = .ok (.invokevirtual 25, 3) := by decide +kernel
theorem dX10_read_9 : decode cX10_read 9 = .ok (.istore_n 2, 1) := by decide +kernel
theorem dX10_read_10 : decode cX10_read 10 = .ok (.aload_n 0, 1) := by decide +kernel
theorem dX10_read_11 : decode cX10_read 11 = .ok (.getfield 15, 3) := by decide +kernel
theorem dX10_read_14 : decode cX10_read 14 = .ok (.iload_n 1, 1) := by decide +kernel
theorem dX10_read_15 : decode cX10_read 15 = .ok (.iconst 3, 1) := by decide +kernel
theorem dX10_read_16 : decode cX10_read 16 = .ok (.invokevirtual 25, 3) := by decide +kernel
theorem dX10_read_19 : decode cX10_read 19 = .ok (.istore_n 3, 1) := by decide +kernel
theorem dX10_read_20 : decode cX10_read 20 = .ok (.aload_n 0, 1) := by decide +kernel
theorem dX10_read_21 : decode cX10_read 21 = .ok (.getfield 9, 3) := by decide +kernel
theorem dX10_read_24 : decode cX10_read 24 = .ok (.iload_n 2, 1) := by decide +kernel
theorem dX10_read_25 : decode cX10_read 25 = .ok (.iconst 0, 1) := by decide +kernel
theorem dX10_read_26 : decode cX10_read 26 = .ok (.invokevirtual 49, 3) := by decide +kernel
theorem dX10_read_29 : decode cX10_read 29 = .ok (.istore 4, 2) := by decide +kernel
theorem dX10_read_31 : decode cX10_read 31 = .ok (.aload_n 0, 1) := by decide +kernel
theorem dX10_read_32 : decode cX10_read 32 = .ok (.iload_n 1, 1) := by decide +kernel
theorem dX10_read_33 : decode cX10_read 33 = .ok (.iload_n 2, 1) := by decide +kernel
theorem dX10_read_34 : decode cX10_read 34 = .ok (.iload_n 3, 1) := by decide +kernel
theorem dX10_read_35 : decode cX10_read 35 = .ok (.invokevirtual 50, 3) := by decide +kernel
theorem dX10_read_38 : decode cX10_read 38 = .ok (.ifCond .eq 24, 3) := by decide +kernel
theorem dX10_read_41 : decode cX10_read 41 = .ok (.aload_n 0, 1) := by decide +kernel
theorem dX10_read_42 : decode cX10_read 42 = .ok (.getfield 15, 3) := by decide +kernel
theorem dX10_read_45 : decode cX10_read 45 = .ok (.iload_n 1, 1) := by decide +kernel
theorem dX10_read_46 : decode cX10_read 46 = .ok (.iconst 1, 1) := by decide +kernel
theorem dX10_read_47 : decode cX10_read 47 = .ok (.aload_n 0, 1) := by decide +kernel
theorem dX10_read_48 : decode cX10_read 48 = .ok (.getfield 9, 3) := by decide +kernel
theorem dX10_read_51 : decode cX10_read 51 = .ok (.iload_n 2, 1) := by decide +kernel
theorem dX10_read_52 : decode cX10_read 52 = .ok (.iconst 3, 1) := by decide +kernel
theorem dX10_read_53 : decode cX10_read 53 = .ok (.invokevirtual 49, 3) := by decide +kernel
theorem dX10_read_56 : decode cX10_read 56 = .ok (.invokevirtual 54, 3) := by decide +kernel
theorem dX10_read_59 : decode cX10_read 59 = .ok (.goto 97, 3) := by decide +kernel
theorem dX10_read_62 : decode cX10_read 62 = .ok (.iload 4, 2) := by decide +kernel
theorem dX10_read_64 : decode cX10_read 64 = .ok (.ifCond .le 43, 3) := by decide +kernel
theorem dX10_read_67 : decode cX10_read 67 = .ok (.aload_n 0, 1) := by decide +kernel
theorem dX10_read_68 : decode cX10_read 68 = .ok (.getfield 15, 3) := by decide +kernel
theorem dX10_read_71 : decode cX10_read 71 = .ok (.iload_n 1, 1) := by decide +kernel
theorem dX10_read_72 : decode cX10_read 72 = .ok (.iload 4, 2) := by decide +kernel
theorem dX10_read_74 : decode cX10_read 74 = .ok (.iload_n 2, 1) := by decide +kernel
theorem dX10_read_75 : decode cX10_read 75 = .ok (.invokevirtual 58, 3) := by decide +kernel
theorem dX10_read_78 : decode cX10_read 78 = .ok (.aload_n 0, 1) := by decide +kernel
theorem dX10_read_79 : decode cX10_read 79 = .ok (.getfield 15, 3) := by decide +kernel
theorem dX10_read_82 : decode cX10_read 82 = .ok (.iload_n 1, 1) := by decide +kernel
theorem dX10_read_83 : decode cX10_read 83 = .ok (.iconst 1, 1) := by decide +kernel
theorem dX10_read_84 : decode cX10_read 84 = .ok (.aload_n 0, 1) := by decide +kernel
theorem dX10_read_85 : decode cX10_read 85 = .ok (.getfield 9, 3) := by decide +kernel
theorem dX10_read_88 : decode cX10_read 88 = .ok (.iload_n 2, 1) := by decide +kernel
theorem dX10_read_89 : decode cX10_read 89 = .ok (.aload_n 0, 1) := by decide +kernel
theorem dX10_read_90 : decode cX10_read 90 = .ok (.getfield 9, 3) := by decide +kernel
theorem dX10_read_93 : decode cX10_read 93 = .ok (.iload_n 2, 1) := by decide +kernel
theorem dX10_read_94 : decode cX10_read 94 = .ok (.iload_n 3, 1) := by decide +kernel
theorem dX10_read_95 : decode cX10_read 95 = .ok (.invokevirtual 61, 3) := by decide +kernel
theorem dX10_read_98 : decode cX10_read 98 = .ok (.invokevirtual 64, 3) := by decide +kernel
theorem dX10_read_101 : decode cX10_read 101 = .ok (.invokevirtual 54, 3) := by decide +kernel
theorem dX10_read_104 : decode cX10_read 104 = .ok (.goto 52, 3) := by decide +kernel
theorem dX10_read_107 : decode cX10_read 107 = .ok (.aload_n 0, 1) := by decide +kernel
theorem dX10_read_108 : decode cX10_read 108 = .ok (.iload_n 1, 1) := by decide +kernel
theorem dX10_read_109 : decode cX10_read 109 = .ok (.invokevirtual 67, 3) := by decide +kernel
theorem dX10_read_112 : decode cX10_read 112 = .ok (.ifCond .ne 29, 3) := by decide +kernel
theorem dX10_read_115 : decode cX10_read 115 = .ok (.aload_n 0, 1) := by decide +kernel
theorem dX10_read_116 : decode cX10_read 116 = .ok (.iload_n 1, 1) := by decide +kernel
theorem dX10_read_117 : decode cX10_read 117 = .ok (.aload_n 0, 1) := by decide +kernel
theorem dX10_read_118 : decode cX10_read 118 = .ok (.getfield 9, 3) := by decide +kernel
theorem dX10_read_121 : decode cX10_read 121 = .ok (.iload_n 2, 1) := by decide +kernel
theorem dX10_read_122 : decode cX10_read 122 = .ok (.iload_n 3, 1) := by decide +kernel
theorem dX10_read_123 : decode cX10_read 123 = .ok (.invokevirtual 71, 3) := by decide +kernel
theorem dX10_read_126 : decode cX10_read 126 = .ok (.iconst (-1), 1) := by decide +kernel
theorem dX10_read_127 : decode cX10_read 127 = .ok (.if_icmp .ne 7, 3) := by decide +kernel
theorem dX10_read_130 : decode cX10_read 130 = .ok (.iconst 0, 1) := by decide +kernel
theorem dX10_read_131 : decode cX10_read 131 = .ok (.goto 4, 3) := by decide +kernel
theorem dX10_read_134 : decode cX10_read 134 = .ok (.iconst 1, 1) := by decide +kernel
theorem dX10_read_135 : decode cX10_read 135 = .ok (.invokevirtual 74, 3) := by decide +kernel
theorem dX10_read_138 : decode cX10_read 138 = .ok (.goto 18, 3) := by decide +kernel
theorem dX10_read_141 : decode cX10_read 141 = .ok (.aload_n 0, 1) := by decide +kernel
theorem dX10_read_142 : decode cX10_read 142 = .ok (.iload_n 1, 1) := by decide +kernel
theorem dX10_read_143 : decode cX10_read 143 = .ok (.iload_n 2, 1) := by decide +kernel
theorem dX10_read_144 : decode cX10_read 144 = .ok (.invokevirtual 78, 3) := by decide +kernel
theorem dX10_read_147 : decode cX10_read 147 = .ok (.ifCond .eq 9, 3) := by decide +kernel
theorem dX10_read_150 : decode cX10_read 150 = .ok (.aload_n 0, 1) := by decide +kernel
theorem dX10_read_151 : decode cX10_read 151 = .ok (.iload_n 1, 1) := by decide +kernel
theorem dX10_read_152 : decode cX10_read 152 = .ok (.iload_n 2, 1) := by decide +kernel
theorem dX10_read_153 : decode cX10_read 153 = .ok (.invokevirtual 82, 3) := by decide +kernel
theorem dX10_read_156 : decode cX10_read 156 = .ok (.return_, 1) := by decide +kernel
def f_X10_read_p135 (ln : Nat → Nat) (z0 : Int32) (z1 : Int32) (s : dr_S) : Option (Int32 × dr_S) := dr_bndv (f_X10_end ln z1 z0 s) (fun s25 => some (0, s25))
def f_X10_read (ln : Nat → Nat) (x1 : Int32) (s : dr_S) : Option (Int32 × dr_S) := dr_bnd (f_X3_get ln x1 1 s) (fun r2 s1 => dr_bnd (f_X3_get ln x1 3 s1) (fun r4 s3 => dr_bnd (f_X4_get ln r2 0 s3) (fun r6 s5 => dr_bnd (f_X10_mustGoOn ln x1 r2 r4 s5) (fun r8 s7 => (if r8 = 0 then (if r6 ≤ 0 then dr_bnd (f_X10_kindOf ln x1 s7) (fun r10 s9 => (if r10 = 0 then dr_bnd (f_X4_placeOf ln r2 r4 s9) (fun r15 s14 => (if r15 = (-1) then (f_X10_read_p135 ln 0 x1 s14) else (f_X10_read_p135 ln 1 x1 s14))) else dr_bnd (f_X10_isFree ln x1 r2 s9) (fun r12 s11 => (if r12 = 0 then some (0, s11) else dr_bndv (f_X10_latch ln x1 r2 s11) (fun s13 => some (0, s13)))))) else dr_bndv (f_X3_keepPath ln x1 r6 r2 s7) (fun s16 => dr_bnd (f_X4_wayOf ln r2 r4 s16) (fun r18 s17 => dr_bnd (f_X4_child ln r2 r18 s17) (fun r20 s19 => dr_bndv (f_X3_set ln x1 1 r20 s19) (fun s21 => some (0, s21)))))) else dr_bnd (f_X4_get ln r2 3 s7) (fun r23 s22 => dr_bndv (f_X3_set ln x1 1 r23 s22) (fun s24 => some (0, s24))))))))
section
variable {p : Program} {l : Launch} {e : Env} {s0 : State} {m : MethodId} {args : Array Value} {below : List Frame} {meth : Method} {c : Code} {A : Nat → Prop} {D : va_G} {cI cZ : ClassId} {ad ln : Nat → Nat} {L : List Nat}
set_option maxHeartbeats 4000000 in
set_option maxRecDepth 20000 in
theorem w_X10_read_p135 (E : dr_E p (dr_rm 4) s0 m args meth c 0 0 A s0.heap D cI cZ ad L cX10_read 5 RX10 none) (hap : dr_ap ad L) (hN : ∀ x ∈ nd_10, x ∈ L) : ∀ (z0 : Int32) (z1 : Int32) (s : dr_S), dr_G p l e (dr_rm 4) s0 m args below meth c 0 0 A s0.heap D cI cZ ad ln L 5 (dr_Zv D cI cZ ad ln L A below args s0 0 0) 135 [] [.int z0, .int z1, .ref (ad 10)] s (f_X10_read_p135 ln z0 z1 s) := by
  intro z0 z1 s
  unfold f_X10_read_p135
  refine g_cVv E [.int z1, .int z0] rfl (c_X10_end hap hN z1 z0 s) (hN 10 (by decide)) (by decide) rfl rfl mi_X10_end msl_X10_end mw_X10_end rfl ml_10_74 ⟨Nat.le_of_ble_eq_true rfl, Nat.le_of_ble_eq_true rfl⟩ (Nat.le_of_ble_eq_true rfl) dX10_read_135 (fun s25 => ?_)
  refine g_goto E 156 dX10_read_138 (by decide) ?_
  exact g_vret E dX10_read_156
set_option maxHeartbeats 4000000 in
set_option maxRecDepth 20000 in
theorem c_X10_read (hap : dr_ap ad L) (hN : ∀ x ∈ nd_10, x ∈ L) (x1 : Int32) (s : dr_S) : dr_Mv l D cI cZ ad ln L yX10_read cX10_read 5 4 [.ref (ad 10), .int x1] s (f_X10_read ln x1 s) := by
  refine dr_metv (own := RX10) (by decide) rfl (Nat.le_of_ble_eq_true rfl) hap ?_
  intro p e s0 m args below meth c A E
  unfold f_X10_read
  refine g_eqL (lv' := [(0, .ref (ad 10)), (1, .int x1)]) rfl ?_
  refine g_aload_n E dX10_read_0 0 rfl ?_
  refine gg_10_15 E (hN 10 (by decide)) dX10_read_1 ?_
  refine g_iload_n E dX10_read_4 1 rfl ?_
  refine g_iconst E (v := 1) dX10_read_5 (by decide) ?_
  refine g_cVi E [.int x1, .int 1] rfl (c_X3_get hap (fun x h => hN x (ns_3_10 x h)) x1 1 s) (hN 3 (by decide)) (by decide) rfl rfl mi_X3_get msl_X3_get mw_X3_get rfl ml_10_25 ⟨Nat.le_of_ble_eq_true rfl, Nat.le_of_ble_eq_true rfl⟩ (Nat.le_of_ble_eq_true rfl) dX10_read_6 (fun r2 s1 => ?_)
  refine g_istore_n E (lv' := [(2, .int r2), (0, .ref (ad 10)), (1, .int x1)]) dX10_read_9 (by decide) rfl ?_
  refine g_aload_n E dX10_read_10 1 rfl ?_
  refine gg_10_15 E (hN 10 (by decide)) dX10_read_11 ?_
  refine g_iload_n E dX10_read_14 2 rfl ?_
  refine g_iconst E (v := 3) dX10_read_15 (by decide) ?_
  refine g_cVi E [.int x1, .int 3] rfl (c_X3_get hap (fun x h => hN x (ns_3_10 x h)) x1 3 s1) (hN 3 (by decide)) (by decide) rfl rfl mi_X3_get msl_X3_get mw_X3_get rfl ml_10_25 ⟨Nat.le_of_ble_eq_true rfl, Nat.le_of_ble_eq_true rfl⟩ (Nat.le_of_ble_eq_true rfl) dX10_read_16 (fun r4 s3 => ?_)
  refine g_istore_n E (lv' := [(3, .int r4), (2, .int r2), (0, .ref (ad 10)), (1, .int x1)]) dX10_read_19 (by decide) rfl ?_
  refine g_aload_n E dX10_read_20 2 rfl ?_
  refine gg_10_9 E (hN 10 (by decide)) dX10_read_21 ?_
  refine g_iload_n E dX10_read_24 1 rfl ?_
  refine g_iconst E (v := 0) dX10_read_25 (by decide) ?_
  refine g_cVi E [.int r2, .int 0] rfl (c_X4_get hap (fun x h => hN x (ns_4_10 x h)) r2 0 s3) (hN 4 (by decide)) (by decide) rfl rfl mi_X4_get msl_X4_get mw_X4_get rfl ml_10_49 ⟨Nat.le_of_ble_eq_true rfl, Nat.le_of_ble_eq_true rfl⟩ (Nat.le_of_ble_eq_true rfl) dX10_read_26 (fun r6 s5 => ?_)
  refine g_istore E (lv' := [(4, .int r6), (3, .int r4), (2, .int r2), (0, .ref (ad 10)), (1, .int x1)]) dX10_read_29 (by decide) rfl ?_
  refine g_aload_n E dX10_read_31 3 rfl ?_
  refine g_iload_n E dX10_read_32 4 rfl ?_
  refine g_iload_n E dX10_read_33 2 rfl ?_
  refine g_iload_n E dX10_read_34 1 rfl ?_
  refine g_cVi E [.int x1, .int r2, .int r4] rfl (c_X10_mustGoOn hap hN x1 r2 r4 s5) (hN 10 (by decide)) (by decide) rfl rfl mi_X10_mustGoOn msl_X10_mustGoOn mw_X10_mustGoOn rfl ml_10_50 ⟨Nat.le_of_ble_eq_true rfl, Nat.le_of_ble_eq_true rfl⟩ (Nat.le_of_ble_eq_true rfl) dX10_read_35 (fun r8 s7 => ?_)
  refine g_if_eq E 62 dX10_read_38 (by decide) ?_ ?_
  · refine g_iload E dX10_read_62 0 rfl ?_
    refine g_if_le E 107 dX10_read_64 (by decide) ?_ ?_
    · refine g_aload_n E dX10_read_107 3 rfl ?_
      refine g_iload_n E dX10_read_108 4 rfl ?_
      refine g_cVi E [.int x1] rfl (c_X10_kindOf hap hN x1 s7) (hN 10 (by decide)) (by decide) rfl rfl mi_X10_kindOf msl_X10_kindOf mw_X10_kindOf rfl ml_10_67 ⟨Nat.le_of_ble_eq_true rfl, Nat.le_of_ble_eq_true rfl⟩ (Nat.le_of_ble_eq_true rfl) dX10_read_109 (fun r10 s9 => ?_)
      refine g_if_ne E 141 dX10_read_112 (by decide) ?_ ?_
      · refine g_aload_n E dX10_read_141 3 rfl ?_
        refine g_iload_n E dX10_read_142 4 rfl ?_
        refine g_iload_n E dX10_read_143 2 rfl ?_
        refine g_cVi E [.int x1, .int r2] rfl (c_X10_isFree hap hN x1 r2 s9) (hN 10 (by decide)) (by decide) rfl rfl mi_X10_isFree msl_X10_isFree mw_X10_isFree rfl ml_10_78 ⟨Nat.le_of_ble_eq_true rfl, Nat.le_of_ble_eq_true rfl⟩ (Nat.le_of_ble_eq_true rfl) dX10_read_144 (fun r12 s11 => ?_)
        refine g_if_eq E 156 dX10_read_147 (by decide) ?_ ?_
        · exact g_vret E dX10_read_156
        · refine g_aload_n E dX10_read_150 3 rfl ?_
          refine g_iload_n E dX10_read_151 4 rfl ?_
          refine g_iload_n E dX10_read_152 2 rfl ?_
          refine g_cVv E [.int x1, .int r2] rfl (c_X10_latch hap hN x1 r2 s11) (hN 10 (by decide)) (by decide) rfl rfl mi_X10_latch msl_X10_latch mw_X10_latch rfl ml_10_82 ⟨Nat.le_of_ble_eq_true rfl, Nat.le_of_ble_eq_true rfl⟩ (Nat.le_of_ble_eq_true rfl) dX10_read_153 (fun s13 => ?_)
          exact g_vret E dX10_read_156
      · refine g_aload_n E dX10_read_115 3 rfl ?_
        refine g_iload_n E dX10_read_116 4 rfl ?_
        refine g_aload_n E dX10_read_117 3 rfl ?_
        refine gg_10_9 E (hN 10 (by decide)) dX10_read_118 ?_
        refine g_iload_n E dX10_read_121 2 rfl ?_
        refine g_iload_n E dX10_read_122 1 rfl ?_
        refine g_cVi E [.int r2, .int r4] rfl (c_X4_placeOf hap (fun x h => hN x (ns_4_10 x h)) r2 r4 s9) (hN 4 (by decide)) (by decide) rfl rfl mi_X4_placeOf msl_X4_placeOf mw_X4_placeOf rfl ml_10_71 ⟨Nat.le_of_ble_eq_true rfl, Nat.le_of_ble_eq_true rfl⟩ (Nat.le_of_ble_eq_true rfl) dX10_read_123 (fun r15 s14 => ?_)
        refine g_iconst E (v := (-1)) dX10_read_126 (by decide) ?_
        refine g_icmp_ne E 134 dX10_read_127 (by decide) ?_ ?_
        · refine g_iconst E (v := 1) dX10_read_134 (by decide) ?_
          refine g_sub [] rfl ?_
          exact w_X10_read_p135 E hap hN 1 x1 s14
        · refine g_iconst E (v := 0) dX10_read_130 (by decide) ?_
          refine g_goto E 135 dX10_read_131 (by decide) ?_
          refine g_sub [] rfl ?_
          exact w_X10_read_p135 E hap hN 0 x1 s14
    · refine g_aload_n E dX10_read_67 3 rfl ?_
      refine gg_10_15 E (hN 10 (by decide)) dX10_read_68 ?_
      refine g_iload_n E dX10_read_71 4 rfl ?_
      refine g_iload E dX10_read_72 0 rfl ?_
      refine g_iload_n E dX10_read_74 2 rfl ?_
      refine g_cVv E [.int x1, .int r6, .int r2] rfl (c_X3_keepPath hap (fun x h => hN x (ns_3_10 x h)) x1 r6 r2 s7) (hN 3 (by decide)) (by decide) rfl rfl mi_X3_keepPath msl_X3_keepPath mw_X3_keepPath rfl ml_10_58 ⟨Nat.le_of_ble_eq_true rfl, Nat.le_of_ble_eq_true rfl⟩ (Nat.le_of_ble_eq_true rfl) dX10_read_75 (fun s16 => ?_)
      refine g_aload_n E dX10_read_78 3 rfl ?_
      refine gg_10_15 E (hN 10 (by decide)) dX10_read_79 ?_
      refine g_iload_n E dX10_read_82 4 rfl ?_
      refine g_iconst E (v := 1) dX10_read_83 (by decide) ?_
      refine g_aload_n E dX10_read_84 3 rfl ?_
      refine gg_10_9 E (hN 10 (by decide)) dX10_read_85 ?_
      refine g_iload_n E dX10_read_88 2 rfl ?_
      refine g_aload_n E dX10_read_89 3 rfl ?_
      refine gg_10_9 E (hN 10 (by decide)) dX10_read_90 ?_
      refine g_iload_n E dX10_read_93 2 rfl ?_
      refine g_iload_n E dX10_read_94 1 rfl ?_
      refine g_cVi E [.int r2, .int r4] rfl (c_X4_wayOf hap (fun x h => hN x (ns_4_10 x h)) r2 r4 s16) (hN 4 (by decide)) (by decide) rfl rfl mi_X4_wayOf msl_X4_wayOf mw_X4_wayOf rfl ml_10_61 ⟨Nat.le_of_ble_eq_true rfl, Nat.le_of_ble_eq_true rfl⟩ (Nat.le_of_ble_eq_true rfl) dX10_read_95 (fun r18 s17 => ?_)
      refine g_cVi E [.int r2, .int r18] rfl (c_X4_child hap (fun x h => hN x (ns_4_10 x h)) r2 r18 s17) (hN 4 (by decide)) (by decide) rfl rfl mi_X4_child msl_X4_child mw_X4_child rfl ml_10_64 ⟨Nat.le_of_ble_eq_true rfl, Nat.le_of_ble_eq_true rfl⟩ (Nat.le_of_ble_eq_true rfl) dX10_read_98 (fun r20 s19 => ?_)
      refine g_cVv E [.int x1, .int 1, .int r20] rfl (c_X3_set hap (fun x h => hN x (ns_3_10 x h)) x1 1 r20 s19) (hN 3 (by decide)) (by decide) rfl rfl mi_X3_set msl_X3_set mw_X3_set rfl ml_10_54 ⟨Nat.le_of_ble_eq_true rfl, Nat.le_of_ble_eq_true rfl⟩ (Nat.le_of_ble_eq_true rfl) dX10_read_101 (fun s21 => ?_)
      refine g_goto E 156 dX10_read_104 (by decide) ?_
      exact g_vret E dX10_read_156
  · refine g_aload_n E dX10_read_41 3 rfl ?_
    refine gg_10_15 E (hN 10 (by decide)) dX10_read_42 ?_
    refine g_iload_n E dX10_read_45 4 rfl ?_
    refine g_iconst E (v := 1) dX10_read_46 (by decide) ?_
    refine g_aload_n E dX10_read_47 3 rfl ?_
    refine gg_10_9 E (hN 10 (by decide)) dX10_read_48 ?_
    refine g_iload_n E dX10_read_51 2 rfl ?_
    refine g_iconst E (v := 3) dX10_read_52 (by decide) ?_
    refine g_cVi E [.int r2, .int 3] rfl (c_X4_get hap (fun x h => hN x (ns_4_10 x h)) r2 3 s7) (hN 4 (by decide)) (by decide) rfl rfl mi_X4_get msl_X4_get mw_X4_get rfl ml_10_49 ⟨Nat.le_of_ble_eq_true rfl, Nat.le_of_ble_eq_true rfl⟩ (Nat.le_of_ble_eq_true rfl) dX10_read_53 (fun r23 s22 => ?_)
    refine g_cVv E [.int x1, .int 1, .int r23] rfl (c_X3_set hap (fun x h => hN x (ns_3_10 x h)) x1 1 r23 s22) (hN 3 (by decide)) (by decide) rfl rfl mi_X3_set msl_X3_set mw_X3_set rfl ml_10_54 ⟨Nat.le_of_ble_eq_true rfl, Nat.le_of_ble_eq_true rfl⟩ (Nat.le_of_ble_eq_true rfl) dX10_read_56 (fun s24 => ?_)
    refine g_goto E 156 dX10_read_59 (by decide) ?_
    exact g_vret E dX10_read_156
end

theorem dX10_letGo_0 : decode cX10_letGo 0 = .ok (.aload_n 0, 1) := by decide +kernel
theorem dX10_letGo_1 : decode cX10_letGo 1 = .ok (.getfield 15, 3) := by decide +kernel
theorem dX10_letGo_4 : decode cX10_letGo 4 = .ok (.iload_n 1, 1) := by decide +kernel
theorem dX10_letGo_5 : decode cX10_letGo 5 = .ok (.iconst 5, 1) := by decide +kernel
theorem dX10_letGo_6 : decode cX10_letGo 6 = .ok (.invokevirtual 25, 3) := by decide +kernel
theorem dX10_letGo_9 : decode cX10_letGo 9 = .ok (.iconst 2, 1) := by decide +kernel
theorem dX10_letGo_10 : decode cX10_letGo 10 = .ok (.if_icmp .eq 13, 3) := by decide +kernel
theorem dX10_letGo_13 : decode cX10_letGo 13 = .ok (.aload_n 0, 1) := by decide +kernel
theorem dX10_letGo_14 : decode cX10_letGo 14 = .ok (.getfield 9, 3) := by decide +kernel
theorem dX10_letGo_17 : decode cX10_letGo 17 = .ok (.iload_n 2, 1) := by decide +kernel
theorem dX10_letGo_18 : decode cX10_letGo 18 = .ok (.iconst 4, 1) := by decide +kernel
theorem dX10_letGo_19 : decode cX10_letGo 19 = .ok (.iconst (-1), 1) := by decide +kernel
theorem dX10_letGo_20 : decode cX10_letGo 20 = .ok (.invokevirtual 138, 3) := by decide +kernel
theorem dX10_letGo_23 : decode cX10_letGo 23 = .ok (.return_, 1) := by decide +kernel
def f_X10_letGo (ln : Nat → Nat) (x1 : Int32) (x2 : Int32) (s : dr_S) : Option (Int32 × dr_S) := dr_bnd (f_X3_get ln x1 5 s) (fun r2 s1 => (if r2 = 2 then some (0, s1) else dr_bndv (f_X4_set ln x2 4 ((-1)) s1) (fun s3 => some (0, s3))))
section
variable {p : Program} {l : Launch} {e : Env} {s0 : State} {m : MethodId} {args : Array Value} {below : List Frame} {meth : Method} {c : Code} {A : Nat → Prop} {D : va_G} {cI cZ : ClassId} {ad ln : Nat → Nat} {L : List Nat}
set_option maxHeartbeats 4000000 in
set_option maxRecDepth 20000 in
theorem c_X10_letGo (hap : dr_ap ad L) (hN : ∀ x ∈ nd_10, x ∈ L) (x1 : Int32) (x2 : Int32) (s : dr_S) : dr_Mv l D cI cZ ad ln L yX10_letGo cX10_letGo 3 2 [.ref (ad 10), .int x1, .int x2] s (f_X10_letGo ln x1 x2 s) := by
  refine dr_metv (own := RX10) (by decide) rfl (Nat.le_of_ble_eq_true rfl) hap ?_
  intro p e s0 m args below meth c A E
  unfold f_X10_letGo
  refine g_eqL (lv' := [(0, .ref (ad 10)), (1, .int x1), (2, .int x2)]) rfl ?_
  refine g_aload_n E dX10_letGo_0 0 rfl ?_
  refine gg_10_15 E (hN 10 (by decide)) dX10_letGo_1 ?_
  refine g_iload_n E dX10_letGo_4 1 rfl ?_
  refine g_iconst E (v := 5) dX10_letGo_5 (by decide) ?_
  refine g_cVi E [.int x1, .int 5] rfl (c_X3_get hap (fun x h => hN x (ns_3_10 x h)) x1 5 s) (hN 3 (by decide)) (by decide) rfl rfl mi_X3_get msl_X3_get mw_X3_get rfl ml_10_25 ⟨Nat.le_of_ble_eq_true rfl, Nat.le_of_ble_eq_true rfl⟩ (Nat.le_of_ble_eq_true rfl) dX10_letGo_6 (fun r2 s1 => ?_)
  refine g_iconst E (v := 2) dX10_letGo_9 (by decide) ?_
  refine g_icmp_eq E 23 dX10_letGo_10 (by decide) ?_ ?_
  · exact g_vret E dX10_letGo_23
  · refine g_aload_n E dX10_letGo_13 0 rfl ?_
    refine gg_10_9 E (hN 10 (by decide)) dX10_letGo_14 ?_
    refine g_iload_n E dX10_letGo_17 2 rfl ?_
    refine g_iconst E (v := 4) dX10_letGo_18 (by decide) ?_
    refine g_iconst E (v := (-1)) dX10_letGo_19 (by decide) ?_
    refine g_cVv E [.int x2, .int 4, .int (-1)] rfl (c_X4_set hap (fun x h => hN x (ns_4_10 x h)) x2 4 ((-1)) s1) (hN 4 (by decide)) (by decide) rfl rfl mi_X4_set msl_X4_set mw_X4_set rfl ml_10_138 ⟨Nat.le_of_ble_eq_true rfl, Nat.le_of_ble_eq_true rfl⟩ (Nat.le_of_ble_eq_true rfl) dX10_letGo_20 (fun s3 => ?_)
    exact g_vret E dX10_letGo_23
end

theorem dX10_moveTo_0 : decode cX10_moveTo 0 = .ok (.iload_n 2, 1) := by decide +kernel
theorem dX10_moveTo_1 : decode cX10_moveTo 1 = .ok (.iconst (-1), 1) := by decide +kernel
theorem dX10_moveTo_2 : decode cX10_moveTo 2 = .ok (.if_icmp .eq 12, 3) := by decide +kernel
theorem dX10_moveTo_5 : decode cX10_moveTo 5 = .ok (.aload_n 0, 1) := by decide +kernel
theorem dX10_moveTo_6 : decode cX10_moveTo 6 = .ok (.iload_n 1, 1) := by decide +kernel
theorem dX10_moveTo_7 : decode cX10_moveTo 7 = .ok (.iload_n 2, 1) := by decide +kernel
theorem dX10_moveTo_8 : decode cX10_moveTo 8 = .ok (.invokevirtual 78, 3) := by decide +kernel
theorem dX10_moveTo_11 : decode cX10_moveTo 11 = .ok (.ifCond .ne 4, 3) := by decide +kernel
theorem dX10_moveTo_14 : decode cX10_moveTo 14 = .ok (.return_, 1) := by decide +kernel
theorem dX10_moveTo_15 : decode cX10_moveTo 15 = .ok (.aload_n 0, 1) := by decide +kernel
theorem dX10_moveTo_16 : decode cX10_moveTo 16 = .ok (.iload_n 1, 1) := by decide +kernel
theorem dX10_moveTo_17 : decode cX10_moveTo 17 = .ok (.aload_n 0, 1) := by decide +kernel
theorem dX10_moveTo_18 : decode cX10_moveTo 18 = .ok (.getfield 15, 3) := by decide +kernel
theorem dX10_moveTo_21 : decode cX10_moveTo 21 = .ok (.iload_n 1, 1) := by decide +kernel
theorem dX10_moveTo_22 : decode cX10_moveTo 22 = .ok (.iconst 1, 1) := by decide +kernel
theorem dX10_moveTo_23 : decode cX10_moveTo 23 = .ok (.invokevirtual 25, 3) := by decide +kernel
theorem dX10_moveTo_26 : decode cX10_moveTo 26 = .ok (.invokevirtual 100, 3) := by decide +kernel
theorem dX10_moveTo_29 : decode cX10_moveTo 29 = .ok (.aload_n 0, 1) := by decide +kernel
theorem dX10_moveTo_30 : decode cX10_moveTo 30 = .ok (.iload_n 1, 1) := by decide +kernel
theorem dX10_moveTo_31 : decode cX10_moveTo 31 = .ok (.iload_n 2, 1) := by decide +kernel
theorem dX10_moveTo_32 : decode cX10_moveTo 32 = .ok (.invokevirtual 82, 3) := by decide +kernel
theorem dX10_moveTo_35 : decode cX10_moveTo 35 = .ok (.return_, 1) := by decide +kernel
def f_X10_moveTo (ln : Nat → Nat) (x1 : Int32) (x2 : Int32) (s : dr_S) : Option (Int32 × dr_S) := (if x2 = (-1) then some (0, s) else dr_bnd (f_X10_isFree ln x1 x2 s) (fun r2 s1 => (if r2 = 0 then some (0, s1) else dr_bnd (f_X3_get ln x1 1 s1) (fun r4 s3 => dr_bndv (f_X10_letGo ln x1 r4 s3) (fun s5 => dr_bndv (f_X10_latch ln x1 x2 s5) (fun s6 => some (0, s6)))))))
section
variable {p : Program} {l : Launch} {e : Env} {s0 : State} {m : MethodId} {args : Array Value} {below : List Frame} {meth : Method} {c : Code} {A : Nat → Prop} {D : va_G} {cI cZ : ClassId} {ad ln : Nat → Nat} {L : List Nat}
set_option maxHeartbeats 4000000 in
set_option maxRecDepth 20000 in
theorem c_X10_moveTo (hap : dr_ap ad L) (hN : ∀ x ∈ nd_10, x ∈ L) (x1 : Int32) (x2 : Int32) (s : dr_S) : dr_Mv l D cI cZ ad ln L yX10_moveTo cX10_moveTo 3 3 [.ref (ad 10), .int x1, .int x2] s (f_X10_moveTo ln x1 x2 s) := by
  refine dr_metv (own := RX10) (by decide) rfl (Nat.le_of_ble_eq_true rfl) hap ?_
  intro p e s0 m args below meth c A E
  unfold f_X10_moveTo
  refine g_eqL (lv' := [(0, .ref (ad 10)), (1, .int x1), (2, .int x2)]) rfl ?_
  refine g_iload_n E dX10_moveTo_0 2 rfl ?_
  refine g_iconst E (v := (-1)) dX10_moveTo_1 (by decide) ?_
  refine g_icmp_eq E 14 dX10_moveTo_2 (by decide) ?_ ?_
  · exact g_vret E dX10_moveTo_14
  · refine g_aload_n E dX10_moveTo_5 0 rfl ?_
    refine g_iload_n E dX10_moveTo_6 1 rfl ?_
    refine g_iload_n E dX10_moveTo_7 2 rfl ?_
    refine g_cVi E [.int x1, .int x2] rfl (c_X10_isFree hap hN x1 x2 s) (hN 10 (by decide)) (by decide) rfl rfl mi_X10_isFree msl_X10_isFree mw_X10_isFree rfl ml_10_78 ⟨Nat.le_of_ble_eq_true rfl, Nat.le_of_ble_eq_true rfl⟩ (Nat.le_of_ble_eq_true rfl) dX10_moveTo_8 (fun r2 s1 => ?_)
    refine g_if_ne E 15 dX10_moveTo_11 (by decide) ?_ ?_
    · refine g_aload_n E dX10_moveTo_15 0 rfl ?_
      refine g_iload_n E dX10_moveTo_16 1 rfl ?_
      refine g_aload_n E dX10_moveTo_17 0 rfl ?_
      refine gg_10_15 E (hN 10 (by decide)) dX10_moveTo_18 ?_
      refine g_iload_n E dX10_moveTo_21 1 rfl ?_
      refine g_iconst E (v := 1) dX10_moveTo_22 (by decide) ?_
      refine g_cVi E [.int x1, .int 1] rfl (c_X3_get hap (fun x h => hN x (ns_3_10 x h)) x1 1 s1) (hN 3 (by decide)) (by decide) rfl rfl mi_X3_get msl_X3_get mw_X3_get rfl ml_10_25 ⟨Nat.le_of_ble_eq_true rfl, Nat.le_of_ble_eq_true rfl⟩ (Nat.le_of_ble_eq_true rfl) dX10_moveTo_23 (fun r4 s3 => ?_)
      refine g_cVv E [.int x1, .int r4] rfl (c_X10_letGo hap hN x1 r4 s3) (hN 10 (by decide)) (by decide) rfl rfl mi_X10_letGo msl_X10_letGo mw_X10_letGo rfl ml_10_100 ⟨Nat.le_of_ble_eq_true rfl, Nat.le_of_ble_eq_true rfl⟩ (Nat.le_of_ble_eq_true rfl) dX10_moveTo_26 (fun s5 => ?_)
      refine g_aload_n E dX10_moveTo_29 0 rfl ?_
      refine g_iload_n E dX10_moveTo_30 1 rfl ?_
      refine g_iload_n E dX10_moveTo_31 2 rfl ?_
      refine g_cVv E [.int x1, .int x2] rfl (c_X10_latch hap hN x1 x2 s5) (hN 10 (by decide)) (by decide) rfl rfl mi_X10_latch msl_X10_latch mw_X10_latch rfl ml_10_82 ⟨Nat.le_of_ble_eq_true rfl, Nat.le_of_ble_eq_true rfl⟩ (Nat.le_of_ble_eq_true rfl) dX10_moveTo_32 (fun s6 => ?_)
      exact g_vret E dX10_moveTo_35
    · exact g_vret E dX10_moveTo_14
end

theorem dX10_hold_0 : decode cX10_hold 0 = .ok (.aload_n 0, 1) := by decide +kernel
theorem dX10_hold_1 : decode cX10_hold 1 = .ok (.getfield 15, 3) := by decide +kernel
theorem dX10_hold_4 : decode cX10_hold 4 = .ok (.iload_n 1, 1) := by decide +kernel
theorem dX10_hold_5 : decode cX10_hold 5 = .ok (.iconst 1, 1) := by decide +kernel
theorem dX10_hold_6 : decode cX10_hold 6 = .ok (.invokevirtual 25, 3) := by decide +kernel
theorem dX10_hold_9 : decode cX10_hold 9 = .ok (.istore_n 2, 1) := by decide +kernel
theorem dX10_hold_10 : decode cX10_hold 10 = .ok (.aload_n 0, 1) := by decide +kernel
theorem dX10_hold_11 : decode cX10_hold 11 = .ok (.iload_n 1, 1) := by decide +kernel
theorem dX10_hold_12 : decode cX10_hold 12 = .ok (.iload_n 2, 1) := by decide +kernel
theorem dX10_hold_13 : decode cX10_hold 13 = .ok (.aload_n 0, 1) := by decide +kernel
theorem dX10_hold_14 : decode cX10_hold 14 = .ok (.getfield 15, 3) := by decide +kernel
theorem dX10_hold_17 : decode cX10_hold 17 = .ok (.iload_n 1, 1) := by decide +kernel
theorem dX10_hold_18 : decode cX10_hold 18 = .ok (.iconst 3, 1) := by decide +kernel
theorem dX10_hold_19 : decode cX10_hold 19 = .ok (.invokevirtual 25, 3) := by decide +kernel
theorem dX10_hold_22 : decode cX10_hold 22 = .ok (.invokevirtual 50, 3) := by decide +kernel
theorem dX10_hold_25 : decode cX10_hold 25 = .ok (.ifCond .ne 26, 3) := by decide +kernel
theorem dX10_hold_28 : decode cX10_hold 28 = .ok (.aload_n 0, 1) := by decide +kernel
theorem dX10_hold_29 : decode cX10_hold 29 = .ok (.getfield 9, 3) := by decide +kernel
theorem dX10_hold_32 : decode cX10_hold 32 = .ok (.iload_n 2, 1) := by decide +kernel
theorem dX10_hold_33 : decode cX10_hold 33 = .ok (.iload_n 1, 1) := by decide +kernel
theorem dX10_hold_34 : decode cX10_hold 34 = .ok (.invokestatic 85, 3) := by decide +kernel
theorem dX10_hold_37 : decode cX10_hold 37 = .ok (.invokevirtual 88, 3) := by decide +kernel
theorem dX10_hold_40 : decode cX10_hold 40 = .ok (.aload_n 0, 1) := by decide +kernel
theorem dX10_hold_41 : decode cX10_hold 41 = .ok (.getfield 15, 3) := by decide +kernel
theorem dX10_hold_44 : decode cX10_hold 44 = .ok (.iload_n 1, 1) := by decide +kernel
theorem dX10_hold_45 : decode cX10_hold 45 = .ok (.iconst 0, 1) := by decide +kernel
theorem dX10_hold_46 : decode cX10_hold 46 = .ok (.iconst 3, 1) := by decide +kernel
theorem dX10_hold_47 : decode cX10_hold 47 = .ok (.invokevirtual 54, 3) := by decide +kernel
theorem dX10_hold_50 : decode cX10_hold 50 = .ok (.return_, 1) := by decide +kernel
theorem dX10_hold_51 : decode cX10_hold 51 = .ok (.aload_n 0, 1) := by decide +kernel
theorem dX10_hold_52 : decode cX10_hold 52 = .ok (.iload_n 1, 1) := by decide +kernel
theorem dX10_hold_53 : decode cX10_hold 53 = .ok (.aload_n 0, 1) := by decide +kernel
theorem dX10_hold_54 : decode cX10_hold 54 = .ok (.getfield 9, 3) := by decide +kernel
theorem dX10_hold_57 : decode cX10_hold 57 = .ok (.iload_n 2, 1) := by decide +kernel
theorem dX10_hold_58 : decode cX10_hold 58 = .ok (.iconst 3, 1) := by decide +kernel
theorem dX10_hold_59 : decode cX10_hold 59 = .ok (.invokevirtual 49, 3) := by decide +kernel
theorem dX10_hold_62 : decode cX10_hold 62 = .ok (.invokevirtual 91, 3) := by decide +kernel
theorem dX10_hold_65 : decode cX10_hold 65 = .ok (.return_, 1) := by decide +kernel
def f_X10_hold (ln : Nat → Nat) (x1 : Int32) (s : dr_S) : Option (Int32 × dr_S) := dr_bnd (f_X3_get ln x1 1 s) (fun r2 s1 => dr_bnd (f_X3_get ln x1 3 s1) (fun r4 s3 => dr_bnd (f_X10_mustGoOn ln x1 r2 r4 s3) (fun r6 s5 => (if r6 = 0 then dr_bnd (f_X4_copyOf ln x1 s5) (fun r11 s10 => dr_bndv (f_X4_bring ln r2 r11 s10) (fun s12 => dr_bndv (f_X3_set ln x1 0 3 s12) (fun s13 => some (0, s13)))) else dr_bnd (f_X4_get ln r2 3 s5) (fun r8 s7 => dr_bndv (f_X10_moveTo ln x1 r8 s7) (fun s9 => some (0, s9)))))))
section
variable {p : Program} {l : Launch} {e : Env} {s0 : State} {m : MethodId} {args : Array Value} {below : List Frame} {meth : Method} {c : Code} {A : Nat → Prop} {D : va_G} {cI cZ : ClassId} {ad ln : Nat → Nat} {L : List Nat}
set_option maxHeartbeats 4000000 in
set_option maxRecDepth 20000 in
theorem c_X10_hold (hap : dr_ap ad L) (hN : ∀ x ∈ nd_10, x ∈ L) (x1 : Int32) (s : dr_S) : dr_Mv l D cI cZ ad ln L yX10_hold cX10_hold 3 4 [.ref (ad 10), .int x1] s (f_X10_hold ln x1 s) := by
  refine dr_metv (own := RX10) (by decide) rfl (Nat.le_of_ble_eq_true rfl) hap ?_
  intro p e s0 m args below meth c A E
  unfold f_X10_hold
  refine g_eqL (lv' := [(0, .ref (ad 10)), (1, .int x1)]) rfl ?_
  refine g_aload_n E dX10_hold_0 0 rfl ?_
  refine gg_10_15 E (hN 10 (by decide)) dX10_hold_1 ?_
  refine g_iload_n E dX10_hold_4 1 rfl ?_
  refine g_iconst E (v := 1) dX10_hold_5 (by decide) ?_
  refine g_cVi E [.int x1, .int 1] rfl (c_X3_get hap (fun x h => hN x (ns_3_10 x h)) x1 1 s) (hN 3 (by decide)) (by decide) rfl rfl mi_X3_get msl_X3_get mw_X3_get rfl ml_10_25 ⟨Nat.le_of_ble_eq_true rfl, Nat.le_of_ble_eq_true rfl⟩ (Nat.le_of_ble_eq_true rfl) dX10_hold_6 (fun r2 s1 => ?_)
  refine g_istore_n E (lv' := [(2, .int r2), (0, .ref (ad 10)), (1, .int x1)]) dX10_hold_9 (by decide) rfl ?_
  refine g_aload_n E dX10_hold_10 1 rfl ?_
  refine g_iload_n E dX10_hold_11 2 rfl ?_
  refine g_iload_n E dX10_hold_12 0 rfl ?_
  refine g_aload_n E dX10_hold_13 1 rfl ?_
  refine gg_10_15 E (hN 10 (by decide)) dX10_hold_14 ?_
  refine g_iload_n E dX10_hold_17 2 rfl ?_
  refine g_iconst E (v := 3) dX10_hold_18 (by decide) ?_
  refine g_cVi E [.int x1, .int 3] rfl (c_X3_get hap (fun x h => hN x (ns_3_10 x h)) x1 3 s1) (hN 3 (by decide)) (by decide) rfl rfl mi_X3_get msl_X3_get mw_X3_get rfl ml_10_25 ⟨Nat.le_of_ble_eq_true rfl, Nat.le_of_ble_eq_true rfl⟩ (Nat.le_of_ble_eq_true rfl) dX10_hold_19 (fun r4 s3 => ?_)
  refine g_cVi E [.int x1, .int r2, .int r4] rfl (c_X10_mustGoOn hap hN x1 r2 r4 s3) (hN 10 (by decide)) (by decide) rfl rfl mi_X10_mustGoOn msl_X10_mustGoOn mw_X10_mustGoOn rfl ml_10_50 ⟨Nat.le_of_ble_eq_true rfl, Nat.le_of_ble_eq_true rfl⟩ (Nat.le_of_ble_eq_true rfl) dX10_hold_22 (fun r6 s5 => ?_)
  refine g_if_ne E 51 dX10_hold_25 (by decide) ?_ ?_
  · refine g_aload_n E dX10_hold_51 1 rfl ?_
    refine g_iload_n E dX10_hold_52 2 rfl ?_
    refine g_aload_n E dX10_hold_53 1 rfl ?_
    refine gg_10_9 E (hN 10 (by decide)) dX10_hold_54 ?_
    refine g_iload_n E dX10_hold_57 0 rfl ?_
    refine g_iconst E (v := 3) dX10_hold_58 (by decide) ?_
    refine g_cVi E [.int r2, .int 3] rfl (c_X4_get hap (fun x h => hN x (ns_4_10 x h)) r2 3 s5) (hN 4 (by decide)) (by decide) rfl rfl mi_X4_get msl_X4_get mw_X4_get rfl ml_10_49 ⟨Nat.le_of_ble_eq_true rfl, Nat.le_of_ble_eq_true rfl⟩ (Nat.le_of_ble_eq_true rfl) dX10_hold_59 (fun r8 s7 => ?_)
    refine g_cVv E [.int x1, .int r8] rfl (c_X10_moveTo hap hN x1 r8 s7) (hN 10 (by decide)) (by decide) rfl rfl mi_X10_moveTo msl_X10_moveTo mw_X10_moveTo rfl ml_10_91 ⟨Nat.le_of_ble_eq_true rfl, Nat.le_of_ble_eq_true rfl⟩ (Nat.le_of_ble_eq_true rfl) dX10_hold_62 (fun s9 => ?_)
    exact g_vret E dX10_hold_65
  · refine g_aload_n E dX10_hold_28 1 rfl ?_
    refine gg_10_9 E (hN 10 (by decide)) dX10_hold_29 ?_
    refine g_iload_n E dX10_hold_32 0 rfl ?_
    refine g_iload_n E dX10_hold_33 2 rfl ?_
    refine g_cSi E [.int x1] rfl (c_X4_copyOf hap (fun x h => hN x (ns_4_10 x h)) x1 s5) ms_X4_copyOf mw_X4_copyOf rfl ml_10_85 ⟨Nat.le_of_ble_eq_true rfl, Nat.le_of_ble_eq_true rfl⟩ (Nat.le_of_ble_eq_true rfl) dX10_hold_34 (fun r11 s10 => ?_)
    refine g_cVv E [.int r2, .int r11] rfl (c_X4_bring hap (fun x h => hN x (ns_4_10 x h)) r2 r11 s10) (hN 4 (by decide)) (by decide) rfl rfl mi_X4_bring msl_X4_bring mw_X4_bring rfl ml_10_88 ⟨Nat.le_of_ble_eq_true rfl, Nat.le_of_ble_eq_true rfl⟩ (Nat.le_of_ble_eq_true rfl) dX10_hold_37 (fun s12 => ?_)
    refine g_aload_n E dX10_hold_40 1 rfl ?_
    refine gg_10_15 E (hN 10 (by decide)) dX10_hold_41 ?_
    refine g_iload_n E dX10_hold_44 2 rfl ?_
    refine g_iconst E (v := 0) dX10_hold_45 (by decide) ?_
    refine g_iconst E (v := 3) dX10_hold_46 (by decide) ?_
    refine g_cVv E [.int x1, .int 0, .int 3] rfl (c_X3_set hap (fun x h => hN x (ns_3_10 x h)) x1 0 3 s12) (hN 3 (by decide)) (by decide) rfl rfl mi_X3_set msl_X3_set mw_X3_set rfl ml_10_54 ⟨Nat.le_of_ble_eq_true rfl, Nat.le_of_ble_eq_true rfl⟩ (Nat.le_of_ble_eq_true rfl) dX10_hold_47 (fun s13 => ?_)
    exact g_vret E dX10_hold_50
end

theorem dX10_writeCard_0 : decode cX10_writeCard 0 = .ok (.aload_n 0, 1) := by decide +kernel
theorem dX10_writeCard_1 : decode cX10_writeCard 1 = .ok (.getfield 15, 3) := by decide +kernel
theorem dX10_writeCard_4 : decode cX10_writeCard 4 = .ok (.iload_n 1, 1) := by decide +kernel
theorem dX10_writeCard_5 : decode cX10_writeCard 5 = .ok (.iconst 3, 1) := by decide +kernel
theorem dX10_writeCard_6 : decode cX10_writeCard 6 = .ok (.invokevirtual 25, 3) := by decide +kernel
theorem dX10_writeCard_9 : decode cX10_writeCard 9 = .ok (.istore_n 3, 1) := by decide +kernel
theorem dX10_writeCard_10 : decode cX10_writeCard 10 = .ok (.aload_n 0, 1) := by decide +kernel
theorem dX10_writeCard_11 : decode cX10_writeCard 11 = .ok (.iload_n 1, 1) := by decide +kernel
theorem dX10_writeCard_12 : decode cX10_writeCard 12 = .ok (.invokevirtual 67, 3) := by decide +kernel
theorem dX10_writeCard_15 : decode cX10_writeCard 15 = .ok (.iconst 1, 1) := by decide +kernel
theorem dX10_writeCard_16 : decode cX10_writeCard 16 = .ok (.if_icmp .ne 7, 3) := by decide +kernel
theorem dX10_writeCard_19 : decode cX10_writeCard 19 = .ok (.iconst 1, 1) := by decide +kernel
theorem dX10_writeCard_20 : decode cX10_writeCard 20 = .ok (.goto 4, 3) := by decide +kernel
theorem dX10_writeCard_23 : decode cX10_writeCard 23 = .ok (.iconst 0, 1) := by decide +kernel
theorem dX10_writeCard_24 : decode cX10_writeCard 24 = .ok (.istore 4, 2) := by decide +kernel
theorem dX10_writeCard_26 : decode cX10_writeCard 26 = .ok (.aload_n 0, 1) := by decide +kernel
theorem dX10_writeCard_27 : decode cX10_writeCard 27 = .ok (.getfield 9, 3) := by decide +kernel
theorem dX10_writeCard_30 : decode cX10_writeCard 30 = .ok (.iload_n 1, 1) := by decide +kernel
theorem dX10_writeCard_31 : decode cX10_writeCard 31 = .ok (.invokestatic 85, 3) := by decide +kernel
theorem dX10_writeCard_34 : decode cX10_writeCard 34 = .ok (.iload_n 3, 1) := by decide +kernel
theorem dX10_writeCard_35 : decode cX10_writeCard 35 = .ok (.invokevirtual 71, 3) := by decide +kernel
theorem dX10_writeCard_38 : decode cX10_writeCard 38 = .ok (.istore 5, 2) := by decide +kernel
theorem dX10_writeCard_40 : decode cX10_writeCard 40 = .ok (.iload 4, 2) := by decide +kernel
theorem dX10_writeCard_42 : decode cX10_writeCard 42 = .ok (.iload 5, 2) := by decide +kernel
theorem dX10_writeCard_44 : decode cX10_writeCard 44 = .ok (.iconst (-1), 1) := by decide +kernel
theorem dX10_writeCard_45 : decode cX10_writeCard 45 = .ok (.if_icmp .ne 7, 3) := by decide +kernel
theorem dX10_writeCard_48 : decode cX10_writeCard 48 = .ok (.iconst 1, 1) := by decide +kernel
theorem dX10_writeCard_49 : decode cX10_writeCard 49 = .ok (.goto 4, 3) := by decide +kernel
theorem dX10_writeCard_52 : decode cX10_writeCard 52 = .ok (.iconst 0, 1) := by decide +kernel
theorem dX10_writeCard_53 : decode cX10_writeCard 53 = .ok (.if_icmp .eq 5, 3) := by decide +kernel
theorem dX10_writeCard_56 : decode cX10_writeCard 56 = .ok (.iconst 0, 1) := by decide +kernel
theorem dX10_writeCard_57 : decode cX10_writeCard 57 = .ok (.ireturn, 1) := by decide +kernel
theorem dX10_writeCard_58 : decode cX10_writeCard 58 = .ok (.aload_n 0, 1) := by decide +kernel
theorem dX10_writeCard_59 : decode cX10_writeCard 59 = .ok (.getfield 9, 3) := by decide +kernel
theorem dX10_writeCard_62 : decode cX10_writeCard 62 = .ok (.iload_n 1, 1) := by decide +kernel
theorem dX10_writeCard_63 : decode cX10_writeCard 63 = .ok (.invokestatic 85, 3) := by decide +kernel
theorem dX10_writeCard_66 : decode cX10_writeCard 66 = .ok (.iload_n 2, 1) := by decide +kernel
theorem dX10_writeCard_67 : decode cX10_writeCard 67 = .ok (.invokevirtual 88, 3) := by decide +kernel
theorem dX10_writeCard_70 : decode cX10_writeCard 70 = .ok (.iload 4, 2) := by decide +kernel
theorem dX10_writeCard_72 : decode cX10_writeCard 72 = .ok (.ifCond .eq 25, 3) := by decide +kernel
theorem dX10_writeCard_75 : decode cX10_writeCard 75 = .ok (.aload_n 0, 1) := by decide +kernel
theorem dX10_writeCard_76 : decode cX10_writeCard 76 = .ok (.getfield 9, 3) := by decide +kernel
theorem dX10_writeCard_79 : decode cX10_writeCard 79 = .ok (.iload_n 2, 1) := by decide +kernel
theorem dX10_writeCard_80 : decode cX10_writeCard 80 = .ok (.aload_n 0, 1) := by decide +kernel
theorem dX10_writeCard_81 : decode cX10_writeCard 81 = .ok (.getfield 9, 3) := by decide +kernel
theorem dX10_writeCard_84 : decode cX10_writeCard 84 = .ok (.iload_n 2, 1) := by decide +kernel
theorem dX10_writeCard_85 : decode cX10_writeCard 85 = .ok (.iload_n 3, 1) := by decide +kernel
theorem dX10_writeCard_86 : decode cX10_writeCard 86 = .ok (.invokevirtual 61, 3) := by decide +kernel
theorem dX10_writeCard_89 : decode cX10_writeCard 89 = .ok (.iload_n 3, 1) := by decide +kernel
theorem dX10_writeCard_90 : decode cX10_writeCard 90 = .ok (.iconst (-1), 1) := by decide +kernel
theorem dX10_writeCard_91 : decode cX10_writeCard 91 = .ok (.invokevirtual 110, 3) := by decide +kernel
theorem dX10_writeCard_94 : decode cX10_writeCard 94 = .ok (.goto 13, 3) := by decide +kernel
theorem dX10_writeCard_97 : decode cX10_writeCard 97 = .ok (.aload_n 0, 1) := by decide +kernel
theorem dX10_writeCard_98 : decode cX10_writeCard 98 = .ok (.getfield 9, 3) := by decide +kernel
theorem dX10_writeCard_101 : decode cX10_writeCard 101 = .ok (.iload_n 2, 1) := by decide +kernel
theorem dX10_writeCard_102 : decode cX10_writeCard 102 = .ok (.iload 5, 2) := by decide +kernel
theorem dX10_writeCard_104 : decode cX10_writeCard 104 = .ok (.invokevirtual 117, 3) := by decide +kernel
theorem dX10_writeCard_107 : decode cX10_writeCard 107 = .ok (.aload_n 0, 1) := by decide +kernel
theorem dX10_writeCard_108 : decode cX10_writeCard 108 = .ok (.getfield 19, 3) := by decide +kernel
theorem dX10_writeCard_111 : decode cX10_writeCard 111 = .ok (.aload_n 0, 1) := by decide +kernel
theorem dX10_writeCard_112 : decode cX10_writeCard 112 = .ok (.getfield 15, 3) := by decide +kernel
theorem dX10_writeCard_115 : decode cX10_writeCard 115 = .ok (.iload_n 1, 1) := by decide +kernel
theorem dX10_writeCard_116 : decode cX10_writeCard 116 = .ok (.iconst 2, 1) := by decide +kernel
theorem dX10_writeCard_117 : decode cX10_writeCard 117 = .ok (.invokevirtual 25, 3) := by decide +kernel
theorem dX10_writeCard_120 : decode cX10_writeCard 120 = .ok (.invokevirtual 120, 3) := by decide +kernel
theorem dX10_writeCard_123 : decode cX10_writeCard 123 = .ok (.iconst 1, 1) := by decide +kernel
theorem dX10_writeCard_124 : decode cX10_writeCard 124 = .ok (.ireturn, 1) := by decide +kernel
def f_X10_writeCard_p107 (ln : Nat → Nat) (x1 : Int32) (s : dr_S) : Option (Int32 × dr_S) := dr_bnd (f_X3_get ln x1 2 s) (fun r17 s16 => dr_bndv (f_X6_changeCards ln r17 s16) (fun s18 => some (1, s18)))
def f_X10_writeCard_p53 (ln : Nat → Nat) (x1 : Int32) (x2 : Int32) (x3 : Int32) (x4 : Int32) (x5 : Int32) (z0 : Int32) (z1 : Int32) (s : dr_S) : Option (Int32 × dr_S) := (if z1 = z0 then dr_bnd (f_X4_copyOf ln x1 s) (fun r10 s9 => dr_bndv (f_X4_bring ln r10 x2 s9) (fun s11 => (if x4 = 0 then dr_bndv (f_X4_remove ln x2 x5 s11) (fun s12 => (f_X10_writeCard_p107 ln x1 s12)) else dr_bnd (f_X4_wayOf ln x2 x3 s11) (fun r14 s13 => dr_bndv (f_X4_insert ln x2 r14 x3 ((-1)) s13) (fun s15 => (f_X10_writeCard_p107 ln x1 s15)))))) else some (0, s))
def f_X10_writeCard_p24 (ln : Nat → Nat) (x1 : Int32) (x2 : Int32) (x3 : Int32) (z0 : Int32) (s : dr_S) : Option (Int32 × dr_S) := dr_bnd (f_X4_copyOf ln x1 s) (fun r6 s5 => dr_bnd (f_X4_placeOf ln r6 x3 s5) (fun r8 s7 => (if r8 = (-1) then (f_X10_writeCard_p53 ln x1 x2 x3 z0 r8 1 z0 s7) else (f_X10_writeCard_p53 ln x1 x2 x3 z0 r8 0 z0 s7))))
def f_X10_writeCard (ln : Nat → Nat) (x1 : Int32) (x2 : Int32) (s : dr_S) : Option (Int32 × dr_S) := dr_bnd (f_X3_get ln x1 3 s) (fun r2 s1 => dr_bnd (f_X10_kindOf ln x1 s1) (fun r4 s3 => (if r4 = 1 then (f_X10_writeCard_p24 ln x1 x2 r2 1 s3) else (f_X10_writeCard_p24 ln x1 x2 r2 0 s3))))
section
variable {p : Program} {l : Launch} {e : Env} {s0 : State} {m : MethodId} {args : Array Value} {below : List Frame} {meth : Method} {c : Code} {A : Nat → Prop} {D : va_G} {cI cZ : ClassId} {ad ln : Nat → Nat} {L : List Nat}
set_option maxHeartbeats 4000000 in
set_option maxRecDepth 20000 in
theorem w_X10_writeCard_p107 (E : dr_E p (dr_rm 3) s0 m args meth c 0 0 A s0.heap D cI cZ ad L cX10_writeCard 6 RX10 (some .boolean)) (hap : dr_ap ad L) (hN : ∀ x ∈ nd_10, x ∈ L) : ∀ (x1 : Int32) (s : dr_S), dr_G p l e (dr_rm 3) s0 m args below meth c 0 0 A s0.heap D cI cZ ad ln L 6 (dr_Zi D cI cZ ad ln L A below args s0 0 0) 107 [(0, .ref (ad 10)), (1, .int x1)] [] s (f_X10_writeCard_p107 ln x1 s) := by
  intro x1 s
  unfold f_X10_writeCard_p107
  refine g_aload_n E dX10_writeCard_107 0 rfl ?_
  refine gg_10_19 E (hN 10 (by decide)) dX10_writeCard_108 ?_
  refine g_aload_n E dX10_writeCard_111 0 rfl ?_
  refine gg_10_15 E (hN 10 (by decide)) dX10_writeCard_112 ?_
  refine g_iload_n E dX10_writeCard_115 1 rfl ?_
  refine g_iconst E (v := 2) dX10_writeCard_116 (by decide) ?_
  refine g_cVi E [.int x1, .int 2] rfl (c_X3_get hap (fun x h => hN x (ns_3_10 x h)) x1 2 s) (hN 3 (by decide)) (by decide) rfl rfl mi_X3_get msl_X3_get mw_X3_get rfl ml_10_25 ⟨Nat.le_of_ble_eq_true rfl, Nat.le_of_ble_eq_true rfl⟩ (Nat.le_of_ble_eq_true rfl) dX10_writeCard_117 (fun r17 s16 => ?_)
  refine g_cVv E [.int r17] rfl (c_X6_changeCards hap (fun x h => hN x (ns_6_10 x h)) r17 s16) (hN 6 (by decide)) (by decide) rfl rfl mi_X6_changeCards msl_X6_changeCards mw_X6_changeCards rfl ml_10_120 ⟨Nat.le_of_ble_eq_true rfl, Nat.le_of_ble_eq_true rfl⟩ (Nat.le_of_ble_eq_true rfl) dX10_writeCard_120 (fun s18 => ?_)
  refine g_iconst E (v := 1) dX10_writeCard_123 (by decide) ?_
  exact g_zret E dX10_writeCard_124 (Or.inr rfl)
set_option maxHeartbeats 4000000 in
set_option maxRecDepth 20000 in
theorem w_X10_writeCard_p53 (E : dr_E p (dr_rm 3) s0 m args meth c 0 0 A s0.heap D cI cZ ad L cX10_writeCard 6 RX10 (some .boolean)) (hap : dr_ap ad L) (hN : ∀ x ∈ nd_10, x ∈ L) : ∀ (x1 : Int32) (x2 : Int32) (x3 : Int32) (x4 : Int32) (x5 : Int32) (z0 : Int32) (z1 : Int32) (s : dr_S), dr_G p l e (dr_rm 3) s0 m args below meth c 0 0 A s0.heap D cI cZ ad ln L 6 (dr_Zi D cI cZ ad ln L A below args s0 0 0) 53 [(0, .ref (ad 10)), (1, .int x1), (2, .int x2), (3, .int x3), (4, .int x4), (5, .int x5)] [.int z0, .int z1] s (f_X10_writeCard_p53 ln x1 x2 x3 x4 x5 z0 z1 s) := by
  intro x1 x2 x3 x4 x5 z0 z1 s
  unfold f_X10_writeCard_p53
  refine g_icmp_eq E 58 dX10_writeCard_53 (by decide) ?_ ?_
  · refine g_aload_n E dX10_writeCard_58 0 rfl ?_
    refine gg_10_9 E (hN 10 (by decide)) dX10_writeCard_59 ?_
    refine g_iload_n E dX10_writeCard_62 1 rfl ?_
    refine g_cSi E [.int x1] rfl (c_X4_copyOf hap (fun x h => hN x (ns_4_10 x h)) x1 s) ms_X4_copyOf mw_X4_copyOf rfl ml_10_85 ⟨Nat.le_of_ble_eq_true rfl, Nat.le_of_ble_eq_true rfl⟩ (Nat.le_of_ble_eq_true rfl) dX10_writeCard_63 (fun r10 s9 => ?_)
    refine g_iload_n E dX10_writeCard_66 2 rfl ?_
    refine g_cVv E [.int r10, .int x2] rfl (c_X4_bring hap (fun x h => hN x (ns_4_10 x h)) r10 x2 s9) (hN 4 (by decide)) (by decide) rfl rfl mi_X4_bring msl_X4_bring mw_X4_bring rfl ml_10_88 ⟨Nat.le_of_ble_eq_true rfl, Nat.le_of_ble_eq_true rfl⟩ (Nat.le_of_ble_eq_true rfl) dX10_writeCard_67 (fun s11 => ?_)
    refine g_iload E dX10_writeCard_70 4 rfl ?_
    refine g_if_eq E 97 dX10_writeCard_72 (by decide) ?_ ?_
    · refine g_aload_n E dX10_writeCard_97 0 rfl ?_
      refine gg_10_9 E (hN 10 (by decide)) dX10_writeCard_98 ?_
      refine g_iload_n E dX10_writeCard_101 2 rfl ?_
      refine g_iload E dX10_writeCard_102 5 rfl ?_
      refine g_cVv E [.int x2, .int x5] rfl (c_X4_remove hap (fun x h => hN x (ns_4_10 x h)) x2 x5 s11) (hN 4 (by decide)) (by decide) rfl rfl mi_X4_remove msl_X4_remove mw_X4_remove rfl ml_10_117 ⟨Nat.le_of_ble_eq_true rfl, Nat.le_of_ble_eq_true rfl⟩ (Nat.le_of_ble_eq_true rfl) dX10_writeCard_104 (fun s12 => ?_)
      refine g_sub [0, 1] rfl ?_
      exact w_X10_writeCard_p107 E hap hN x1 s12
    · refine g_aload_n E dX10_writeCard_75 0 rfl ?_
      refine gg_10_9 E (hN 10 (by decide)) dX10_writeCard_76 ?_
      refine g_iload_n E dX10_writeCard_79 2 rfl ?_
      refine g_aload_n E dX10_writeCard_80 0 rfl ?_
      refine gg_10_9 E (hN 10 (by decide)) dX10_writeCard_81 ?_
      refine g_iload_n E dX10_writeCard_84 2 rfl ?_
      refine g_iload_n E dX10_writeCard_85 3 rfl ?_
      refine g_cVi E [.int x2, .int x3] rfl (c_X4_wayOf hap (fun x h => hN x (ns_4_10 x h)) x2 x3 s11) (hN 4 (by decide)) (by decide) rfl rfl mi_X4_wayOf msl_X4_wayOf mw_X4_wayOf rfl ml_10_61 ⟨Nat.le_of_ble_eq_true rfl, Nat.le_of_ble_eq_true rfl⟩ (Nat.le_of_ble_eq_true rfl) dX10_writeCard_86 (fun r14 s13 => ?_)
      refine g_iload_n E dX10_writeCard_89 3 rfl ?_
      refine g_iconst E (v := (-1)) dX10_writeCard_90 (by decide) ?_
      refine g_cVv E [.int x2, .int r14, .int x3, .int (-1)] rfl (c_X4_insert hap (fun x h => hN x (ns_4_10 x h)) x2 r14 x3 ((-1)) s13) (hN 4 (by decide)) (by decide) rfl rfl mi_X4_insert msl_X4_insert mw_X4_insert rfl ml_10_110 ⟨Nat.le_of_ble_eq_true rfl, Nat.le_of_ble_eq_true rfl⟩ (Nat.le_of_ble_eq_true rfl) dX10_writeCard_91 (fun s15 => ?_)
      refine g_goto E 107 dX10_writeCard_94 (by decide) ?_
      refine g_sub [0, 1] rfl ?_
      exact w_X10_writeCard_p107 E hap hN x1 s15
  · refine g_iconst E (v := 0) dX10_writeCard_56 (by decide) ?_
    exact g_zret E dX10_writeCard_57 (Or.inl rfl)
set_option maxHeartbeats 4000000 in
set_option maxRecDepth 20000 in
theorem w_X10_writeCard_p24 (E : dr_E p (dr_rm 3) s0 m args meth c 0 0 A s0.heap D cI cZ ad L cX10_writeCard 6 RX10 (some .boolean)) (hap : dr_ap ad L) (hN : ∀ x ∈ nd_10, x ∈ L) : ∀ (x1 : Int32) (x2 : Int32) (x3 : Int32) (z0 : Int32) (s : dr_S), dr_G p l e (dr_rm 3) s0 m args below meth c 0 0 A s0.heap D cI cZ ad ln L 6 (dr_Zi D cI cZ ad ln L A below args s0 0 0) 24 [(0, .ref (ad 10)), (1, .int x1), (2, .int x2), (3, .int x3)] [.int z0] s (f_X10_writeCard_p24 ln x1 x2 x3 z0 s) := by
  intro x1 x2 x3 z0 s
  unfold f_X10_writeCard_p24
  refine g_istore E (lv' := [(4, .int z0), (0, .ref (ad 10)), (1, .int x1), (2, .int x2), (3, .int x3)]) dX10_writeCard_24 (by decide) rfl ?_
  refine g_aload_n E dX10_writeCard_26 1 rfl ?_
  refine gg_10_9 E (hN 10 (by decide)) dX10_writeCard_27 ?_
  refine g_iload_n E dX10_writeCard_30 2 rfl ?_
  refine g_cSi E [.int x1] rfl (c_X4_copyOf hap (fun x h => hN x (ns_4_10 x h)) x1 s) ms_X4_copyOf mw_X4_copyOf rfl ml_10_85 ⟨Nat.le_of_ble_eq_true rfl, Nat.le_of_ble_eq_true rfl⟩ (Nat.le_of_ble_eq_true rfl) dX10_writeCard_31 (fun r6 s5 => ?_)
  refine g_iload_n E dX10_writeCard_34 4 rfl ?_
  refine g_cVi E [.int r6, .int x3] rfl (c_X4_placeOf hap (fun x h => hN x (ns_4_10 x h)) r6 x3 s5) (hN 4 (by decide)) (by decide) rfl rfl mi_X4_placeOf msl_X4_placeOf mw_X4_placeOf rfl ml_10_71 ⟨Nat.le_of_ble_eq_true rfl, Nat.le_of_ble_eq_true rfl⟩ (Nat.le_of_ble_eq_true rfl) dX10_writeCard_35 (fun r8 s7 => ?_)
  refine g_istore E (lv' := [(5, .int r8), (4, .int z0), (0, .ref (ad 10)), (1, .int x1), (2, .int x2), (3, .int x3)]) dX10_writeCard_38 (by decide) rfl ?_
  refine g_iload E dX10_writeCard_40 1 rfl ?_
  refine g_iload E dX10_writeCard_42 0 rfl ?_
  refine g_iconst E (v := (-1)) dX10_writeCard_44 (by decide) ?_
  refine g_icmp_ne E 52 dX10_writeCard_45 (by decide) ?_ ?_
  · refine g_iconst E (v := 0) dX10_writeCard_52 (by decide) ?_
    refine g_sub [2, 3, 4, 5, 1, 0] rfl ?_
    exact w_X10_writeCard_p53 E hap hN x1 x2 x3 z0 r8 0 z0 s7
  · refine g_iconst E (v := 1) dX10_writeCard_48 (by decide) ?_
    refine g_goto E 53 dX10_writeCard_49 (by decide) ?_
    refine g_sub [2, 3, 4, 5, 1, 0] rfl ?_
    exact w_X10_writeCard_p53 E hap hN x1 x2 x3 z0 r8 1 z0 s7
set_option maxHeartbeats 4000000 in
set_option maxRecDepth 20000 in
theorem c_X10_writeCard (hap : dr_ap ad L) (hN : ∀ x ∈ nd_10, x ∈ L) (x1 : Int32) (x2 : Int32) (s : dr_S) : dr_Mi l D cI cZ ad ln L yX10_writeCard cX10_writeCard 6 (some .boolean) 3 [.ref (ad 10), .int x1, .int x2] s (f_X10_writeCard ln x1 x2 s) := by
  refine dr_meti (own := RX10) (by decide) rfl (Nat.le_of_ble_eq_true rfl) hap ?_
  intro p e s0 m args below meth c A E
  unfold f_X10_writeCard
  refine g_eqL (lv' := [(0, .ref (ad 10)), (1, .int x1), (2, .int x2)]) rfl ?_
  refine g_aload_n E dX10_writeCard_0 0 rfl ?_
  refine gg_10_15 E (hN 10 (by decide)) dX10_writeCard_1 ?_
  refine g_iload_n E dX10_writeCard_4 1 rfl ?_
  refine g_iconst E (v := 3) dX10_writeCard_5 (by decide) ?_
  refine g_cVi E [.int x1, .int 3] rfl (c_X3_get hap (fun x h => hN x (ns_3_10 x h)) x1 3 s) (hN 3 (by decide)) (by decide) rfl rfl mi_X3_get msl_X3_get mw_X3_get rfl ml_10_25 ⟨Nat.le_of_ble_eq_true rfl, Nat.le_of_ble_eq_true rfl⟩ (Nat.le_of_ble_eq_true rfl) dX10_writeCard_6 (fun r2 s1 => ?_)
  refine g_istore_n E (lv' := [(3, .int r2), (0, .ref (ad 10)), (1, .int x1), (2, .int x2)]) dX10_writeCard_9 (by decide) rfl ?_
  refine g_aload_n E dX10_writeCard_10 1 rfl ?_
  refine g_iload_n E dX10_writeCard_11 2 rfl ?_
  refine g_cVi E [.int x1] rfl (c_X10_kindOf hap hN x1 s1) (hN 10 (by decide)) (by decide) rfl rfl mi_X10_kindOf msl_X10_kindOf mw_X10_kindOf rfl ml_10_67 ⟨Nat.le_of_ble_eq_true rfl, Nat.le_of_ble_eq_true rfl⟩ (Nat.le_of_ble_eq_true rfl) dX10_writeCard_12 (fun r4 s3 => ?_)
  refine g_iconst E (v := 1) dX10_writeCard_15 (by decide) ?_
  refine g_icmp_ne E 23 dX10_writeCard_16 (by decide) ?_ ?_
  · refine g_iconst E (v := 0) dX10_writeCard_23 (by decide) ?_
    refine g_sub [1, 2, 3, 0] rfl ?_
    exact w_X10_writeCard_p24 E hap hN x1 x2 r2 0 s3
  · refine g_iconst E (v := 1) dX10_writeCard_19 (by decide) ?_
    refine g_goto E 24 dX10_writeCard_20 (by decide) ?_
    refine g_sub [1, 2, 3, 0] rfl ?_
    exact w_X10_writeCard_p24 E hap hN x1 x2 r2 1 s3
end

theorem dX10_writeGuide_0 : decode cX10_writeGuide 0 = .ok (.aload_n 0, 1) := by decide +kernel
theorem dX10_writeGuide_1 : decode cX10_writeGuide 1 = .ok (.getfield 15, 3) := by decide +kernel
theorem dX10_writeGuide_4 : decode cX10_writeGuide 4 = .ok (.iload_n 1, 1) := by decide +kernel
theorem dX10_writeGuide_5 : decode cX10_writeGuide 5 = .ok (.iconst 3, 1) := by decide +kernel
theorem dX10_writeGuide_6 : decode cX10_writeGuide 6 = .ok (.invokevirtual 25, 3) := by decide +kernel
theorem dX10_writeGuide_9 : decode cX10_writeGuide 9 = .ok (.istore_n 3, 1) := by decide +kernel
theorem dX10_writeGuide_10 : decode cX10_writeGuide 10 = .ok (.aload_n 0, 1) := by decide +kernel
theorem dX10_writeGuide_11 : decode cX10_writeGuide 11 = .ok (.getfield 15, 3) := by decide +kernel
theorem dX10_writeGuide_14 : decode cX10_writeGuide 14 = .ok (.iload_n 1, 1) := by decide +kernel
theorem dX10_writeGuide_15 : decode cX10_writeGuide 15 = .ok (.iconst 4, 1) := by decide +kernel
theorem dX10_writeGuide_16 : decode cX10_writeGuide 16 = .ok (.invokevirtual 25, 3) := by decide +kernel
theorem dX10_writeGuide_19 : decode cX10_writeGuide 19 = .ok (.istore 4, 2) := by decide +kernel
theorem dX10_writeGuide_21 : decode cX10_writeGuide 21 = .ok (.aload_n 0, 1) := by decide +kernel
theorem dX10_writeGuide_22 : decode cX10_writeGuide 22 = .ok (.getfield 9, 3) := by decide +kernel
theorem dX10_writeGuide_25 : decode cX10_writeGuide 25 = .ok (.iload_n 1, 1) := by decide +kernel
theorem dX10_writeGuide_26 : decode cX10_writeGuide 26 = .ok (.invokestatic 85, 3) := by decide +kernel
theorem dX10_writeGuide_29 : decode cX10_writeGuide 29 = .ok (.iload_n 2, 1) := by decide +kernel
theorem dX10_writeGuide_30 : decode cX10_writeGuide 30 = .ok (.invokevirtual 88, 3) := by decide +kernel
theorem dX10_writeGuide_33 : decode cX10_writeGuide 33 = .ok (.aload_n 0, 1) := by decide +kernel
theorem dX10_writeGuide_34 : decode cX10_writeGuide 34 = .ok (.getfield 9, 3) := by decide +kernel
theorem dX10_writeGuide_37 : decode cX10_writeGuide 37 = .ok (.iload_n 2, 1) := by decide +kernel
theorem dX10_writeGuide_38 : decode cX10_writeGuide 38 = .ok (.iload_n 3, 1) := by decide +kernel
theorem dX10_writeGuide_39 : decode cX10_writeGuide 39 = .ok (.invokevirtual 71, 3) := by decide +kernel
theorem dX10_writeGuide_42 : decode cX10_writeGuide 42 = .ok (.istore 5, 2) := by decide +kernel
theorem dX10_writeGuide_44 : decode cX10_writeGuide 44 = .ok (.iload 5, 2) := by decide +kernel
theorem dX10_writeGuide_46 : decode cX10_writeGuide 46 = .ok (.iconst (-1), 1) := by decide +kernel
theorem dX10_writeGuide_47 : decode cX10_writeGuide 47 = .ok (.if_icmp .ne 26, 3) := by decide +kernel
theorem dX10_writeGuide_50 : decode cX10_writeGuide 50 = .ok (.aload_n 0, 1) := by decide +kernel
theorem dX10_writeGuide_51 : decode cX10_writeGuide 51 = .ok (.getfield 9, 3) := by decide +kernel
theorem dX10_writeGuide_54 : decode cX10_writeGuide 54 = .ok (.iload_n 2, 1) := by decide +kernel
theorem dX10_writeGuide_55 : decode cX10_writeGuide 55 = .ok (.aload_n 0, 1) := by decide +kernel
theorem dX10_writeGuide_56 : decode cX10_writeGuide 56 = .ok (.getfield 9, 3) := by decide +kernel
theorem dX10_writeGuide_59 : decode cX10_writeGuide 59 = .ok (.iload_n 2, 1) := by decide +kernel
theorem dX10_writeGuide_60 : decode cX10_writeGuide 60 = .ok (.iload_n 3, 1) := by decide +kernel
theorem dX10_writeGuide_61 : decode cX10_writeGuide 61 = .ok (.invokevirtual 61, 3) := by decide +kernel
theorem dX10_writeGuide_64 : decode cX10_writeGuide 64 = .ok (.iload_n 3, 1) := by decide +kernel
theorem dX10_writeGuide_65 : decode cX10_writeGuide 65 = .ok (.iload 4, 2) := by decide +kernel
theorem dX10_writeGuide_67 : decode cX10_writeGuide 67 = .ok (.invokevirtual 110, 3) := by decide +kernel
theorem dX10_writeGuide_70 : decode cX10_writeGuide 70 = .ok (.goto 17, 3) := by decide +kernel
theorem dX10_writeGuide_73 : decode cX10_writeGuide 73 = .ok (.aload_n 0, 1) := by decide +kernel
theorem dX10_writeGuide_74 : decode cX10_writeGuide 74 = .ok (.getfield 9, 3) := by decide +kernel
theorem dX10_writeGuide_77 : decode cX10_writeGuide 77 = .ok (.iload_n 2, 1) := by decide +kernel
theorem dX10_writeGuide_78 : decode cX10_writeGuide 78 = .ok (.iload 5, 2) := by decide +kernel
theorem dX10_writeGuide_80 : decode cX10_writeGuide 80 = .ok (.iconst 1, 1) := by decide +kernel
theorem dX10_writeGuide_81 : decode cX10_writeGuide 81 = .ok (.iadd, 1) := by decide +kernel
theorem dX10_writeGuide_82 : decode cX10_writeGuide 82 = .ok (.iload 4, 2) := by decide +kernel
theorem dX10_writeGuide_84 : decode cX10_writeGuide 84 = .ok (.invokevirtual 114, 3) := by decide +kernel
theorem dX10_writeGuide_87 : decode cX10_writeGuide 87 = .ok (.return_, 1) := by decide +kernel
def f_X10_writeGuide (ln : Nat → Nat) (x1 : Int32) (x2 : Int32) (s : dr_S) : Option (Int32 × dr_S) := dr_bnd (f_X3_get ln x1 3 s) (fun r2 s1 => dr_bnd (f_X3_get ln x1 4 s1) (fun r4 s3 => dr_bnd (f_X4_copyOf ln x1 s3) (fun r6 s5 => dr_bndv (f_X4_bring ln r6 x2 s5) (fun s7 => dr_bnd (f_X4_placeOf ln x2 r2 s7) (fun r9 s8 => (if r9 = (-1) then dr_bnd (f_X4_wayOf ln x2 r2 s8) (fun r12 s11 => dr_bndv (f_X4_insert ln x2 r12 r2 r4 s11) (fun s13 => some (0, s13))) else dr_bndv (f_X4_setChild ln x2 ((r9 + 1)) r4 s8) (fun s10 => some (0, s10))))))))
section
variable {p : Program} {l : Launch} {e : Env} {s0 : State} {m : MethodId} {args : Array Value} {below : List Frame} {meth : Method} {c : Code} {A : Nat → Prop} {D : va_G} {cI cZ : ClassId} {ad ln : Nat → Nat} {L : List Nat}
set_option maxHeartbeats 4000000 in
set_option maxRecDepth 20000 in
theorem c_X10_writeGuide (hap : dr_ap ad L) (hN : ∀ x ∈ nd_10, x ∈ L) (x1 : Int32) (x2 : Int32) (s : dr_S) : dr_Mv l D cI cZ ad ln L yX10_writeGuide cX10_writeGuide 6 3 [.ref (ad 10), .int x1, .int x2] s (f_X10_writeGuide ln x1 x2 s) := by
  refine dr_metv (own := RX10) (by decide) rfl (Nat.le_of_ble_eq_true rfl) hap ?_
  intro p e s0 m args below meth c A E
  unfold f_X10_writeGuide
  refine g_eqL (lv' := [(0, .ref (ad 10)), (1, .int x1), (2, .int x2)]) rfl ?_
  refine g_aload_n E dX10_writeGuide_0 0 rfl ?_
  refine gg_10_15 E (hN 10 (by decide)) dX10_writeGuide_1 ?_
  refine g_iload_n E dX10_writeGuide_4 1 rfl ?_
  refine g_iconst E (v := 3) dX10_writeGuide_5 (by decide) ?_
  refine g_cVi E [.int x1, .int 3] rfl (c_X3_get hap (fun x h => hN x (ns_3_10 x h)) x1 3 s) (hN 3 (by decide)) (by decide) rfl rfl mi_X3_get msl_X3_get mw_X3_get rfl ml_10_25 ⟨Nat.le_of_ble_eq_true rfl, Nat.le_of_ble_eq_true rfl⟩ (Nat.le_of_ble_eq_true rfl) dX10_writeGuide_6 (fun r2 s1 => ?_)
  refine g_istore_n E (lv' := [(3, .int r2), (0, .ref (ad 10)), (1, .int x1), (2, .int x2)]) dX10_writeGuide_9 (by decide) rfl ?_
  refine g_aload_n E dX10_writeGuide_10 1 rfl ?_
  refine gg_10_15 E (hN 10 (by decide)) dX10_writeGuide_11 ?_
  refine g_iload_n E dX10_writeGuide_14 2 rfl ?_
  refine g_iconst E (v := 4) dX10_writeGuide_15 (by decide) ?_
  refine g_cVi E [.int x1, .int 4] rfl (c_X3_get hap (fun x h => hN x (ns_3_10 x h)) x1 4 s1) (hN 3 (by decide)) (by decide) rfl rfl mi_X3_get msl_X3_get mw_X3_get rfl ml_10_25 ⟨Nat.le_of_ble_eq_true rfl, Nat.le_of_ble_eq_true rfl⟩ (Nat.le_of_ble_eq_true rfl) dX10_writeGuide_16 (fun r4 s3 => ?_)
  refine g_istore E (lv' := [(4, .int r4), (3, .int r2), (0, .ref (ad 10)), (1, .int x1), (2, .int x2)]) dX10_writeGuide_19 (by decide) rfl ?_
  refine g_aload_n E dX10_writeGuide_21 2 rfl ?_
  refine gg_10_9 E (hN 10 (by decide)) dX10_writeGuide_22 ?_
  refine g_iload_n E dX10_writeGuide_25 3 rfl ?_
  refine g_cSi E [.int x1] rfl (c_X4_copyOf hap (fun x h => hN x (ns_4_10 x h)) x1 s3) ms_X4_copyOf mw_X4_copyOf rfl ml_10_85 ⟨Nat.le_of_ble_eq_true rfl, Nat.le_of_ble_eq_true rfl⟩ (Nat.le_of_ble_eq_true rfl) dX10_writeGuide_26 (fun r6 s5 => ?_)
  refine g_iload_n E dX10_writeGuide_29 4 rfl ?_
  refine g_cVv E [.int r6, .int x2] rfl (c_X4_bring hap (fun x h => hN x (ns_4_10 x h)) r6 x2 s5) (hN 4 (by decide)) (by decide) rfl rfl mi_X4_bring msl_X4_bring mw_X4_bring rfl ml_10_88 ⟨Nat.le_of_ble_eq_true rfl, Nat.le_of_ble_eq_true rfl⟩ (Nat.le_of_ble_eq_true rfl) dX10_writeGuide_30 (fun s7 => ?_)
  refine g_aload_n E dX10_writeGuide_33 2 rfl ?_
  refine gg_10_9 E (hN 10 (by decide)) dX10_writeGuide_34 ?_
  refine g_iload_n E dX10_writeGuide_37 4 rfl ?_
  refine g_iload_n E dX10_writeGuide_38 1 rfl ?_
  refine g_cVi E [.int x2, .int r2] rfl (c_X4_placeOf hap (fun x h => hN x (ns_4_10 x h)) x2 r2 s7) (hN 4 (by decide)) (by decide) rfl rfl mi_X4_placeOf msl_X4_placeOf mw_X4_placeOf rfl ml_10_71 ⟨Nat.le_of_ble_eq_true rfl, Nat.le_of_ble_eq_true rfl⟩ (Nat.le_of_ble_eq_true rfl) dX10_writeGuide_39 (fun r9 s8 => ?_)
  refine g_istore E (lv' := [(5, .int r9), (4, .int r4), (3, .int r2), (0, .ref (ad 10)), (1, .int x1), (2, .int x2)]) dX10_writeGuide_42 (by decide) rfl ?_
  refine g_iload E dX10_writeGuide_44 0 rfl ?_
  refine g_iconst E (v := (-1)) dX10_writeGuide_46 (by decide) ?_
  refine g_icmp_ne E 73 dX10_writeGuide_47 (by decide) ?_ ?_
  · refine g_aload_n E dX10_writeGuide_73 3 rfl ?_
    refine gg_10_9 E (hN 10 (by decide)) dX10_writeGuide_74 ?_
    refine g_iload_n E dX10_writeGuide_77 5 rfl ?_
    refine g_iload E dX10_writeGuide_78 0 rfl ?_
    refine g_iconst E (v := 1) dX10_writeGuide_80 (by decide) ?_
    refine g_iadd E dX10_writeGuide_81 ?_
    refine g_iload E dX10_writeGuide_82 1 rfl ?_
    refine g_cVv E [.int x2, .int (r9 + 1), .int r4] rfl (c_X4_setChild hap (fun x h => hN x (ns_4_10 x h)) x2 ((r9 + 1)) r4 s8) (hN 4 (by decide)) (by decide) rfl rfl mi_X4_setChild msl_X4_setChild mw_X4_setChild rfl ml_10_114 ⟨Nat.le_of_ble_eq_true rfl, Nat.le_of_ble_eq_true rfl⟩ (Nat.le_of_ble_eq_true rfl) dX10_writeGuide_84 (fun s10 => ?_)
    exact g_vret E dX10_writeGuide_87
  · refine g_aload_n E dX10_writeGuide_50 3 rfl ?_
    refine gg_10_9 E (hN 10 (by decide)) dX10_writeGuide_51 ?_
    refine g_iload_n E dX10_writeGuide_54 5 rfl ?_
    refine g_aload_n E dX10_writeGuide_55 3 rfl ?_
    refine gg_10_9 E (hN 10 (by decide)) dX10_writeGuide_56 ?_
    refine g_iload_n E dX10_writeGuide_59 5 rfl ?_
    refine g_iload_n E dX10_writeGuide_60 2 rfl ?_
    refine g_cVi E [.int x2, .int r2] rfl (c_X4_wayOf hap (fun x h => hN x (ns_4_10 x h)) x2 r2 s8) (hN 4 (by decide)) (by decide) rfl rfl mi_X4_wayOf msl_X4_wayOf mw_X4_wayOf rfl ml_10_61 ⟨Nat.le_of_ble_eq_true rfl, Nat.le_of_ble_eq_true rfl⟩ (Nat.le_of_ble_eq_true rfl) dX10_writeGuide_61 (fun r12 s11 => ?_)
    refine g_iload_n E dX10_writeGuide_64 2 rfl ?_
    refine g_iload E dX10_writeGuide_65 1 rfl ?_
    refine g_cVv E [.int x2, .int r12, .int r2, .int r4] rfl (c_X4_insert hap (fun x h => hN x (ns_4_10 x h)) x2 r12 r2 r4 s11) (hN 4 (by decide)) (by decide) rfl rfl mi_X4_insert msl_X4_insert mw_X4_insert rfl ml_10_110 ⟨Nat.le_of_ble_eq_true rfl, Nat.le_of_ble_eq_true rfl⟩ (Nat.le_of_ble_eq_true rfl) dX10_writeGuide_67 (fun s13 => ?_)
    refine g_goto E 87 dX10_writeGuide_70 (by decide) ?_
    exact g_vret E dX10_writeGuide_87
end

theorem dX10_write_0 : decode cX10_write 0 = .ok (.aload_n 0, 1) := by decide +kernel
theorem dX10_write_1 : decode cX10_write 1 = .ok (.getfield 15, 3) := by decide +kernel
theorem dX10_write_4 : decode cX10_write 4 = .ok (.iload_n 1, 1) := by decide +kernel
theorem dX10_write_5 : decode cX10_write 5 = .ok (.iconst 1, 1) := by decide +kernel
theorem dX10_write_6 : decode cX10_write 6 = .ok (.invokevirtual 25, 3) := by decide +kernel
theorem dX10_write_9 : decode cX10_write 9 = .ok (.istore_n 2, 1) := by decide +kernel
theorem dX10_write_10 : decode cX10_write 10 = .ok (.aload_n 0, 1) := by decide +kernel
theorem dX10_write_11 : decode cX10_write 11 = .ok (.getfield 9, 3) := by decide +kernel
theorem dX10_write_14 : decode cX10_write 14 = .ok (.iload_n 2, 1) := by decide +kernel
theorem dX10_write_15 : decode cX10_write 15 = .ok (.iconst 0, 1) := by decide +kernel
theorem dX10_write_16 : decode cX10_write 16 = .ok (.invokevirtual 49, 3) := by decide +kernel
theorem dX10_write_19 : decode cX10_write 19 = .ok (.ifCond .le 12, 3) := by decide +kernel
theorem dX10_write_22 : decode cX10_write 22 = .ok (.aload_n 0, 1) := by decide +kernel
theorem dX10_write_23 : decode cX10_write 23 = .ok (.iload_n 1, 1) := by decide +kernel
theorem dX10_write_24 : decode cX10_write 24 = .ok (.iload_n 2, 1) := by decide +kernel
theorem dX10_write_25 : decode cX10_write 25 = .ok (.invokevirtual 94, 3) := by decide +kernel
theorem dX10_write_28 : decode cX10_write 28 = .ok (.goto 25, 3) := by decide +kernel
theorem dX10_write_31 : decode cX10_write 31 = .ok (.aload_n 0, 1) := by decide +kernel
theorem dX10_write_32 : decode cX10_write 32 = .ok (.iload_n 1, 1) := by decide +kernel
theorem dX10_write_33 : decode cX10_write 33 = .ok (.iload_n 2, 1) := by decide +kernel
theorem dX10_write_34 : decode cX10_write 34 = .ok (.invokevirtual 97, 3) := by decide +kernel
theorem dX10_write_37 : decode cX10_write 37 = .ok (.ifCond .ne 16, 3) := by decide +kernel
theorem dX10_write_40 : decode cX10_write 40 = .ok (.aload_n 0, 1) := by decide +kernel
theorem dX10_write_41 : decode cX10_write 41 = .ok (.iload_n 1, 1) := by decide +kernel
theorem dX10_write_42 : decode cX10_write 42 = .ok (.iload_n 2, 1) := by decide +kernel
theorem dX10_write_43 : decode cX10_write 43 = .ok (.invokevirtual 100, 3) := by decide +kernel
theorem dX10_write_46 : decode cX10_write 46 = .ok (.aload_n 0, 1) := by decide +kernel
theorem dX10_write_47 : decode cX10_write 47 = .ok (.iload_n 1, 1) := by decide +kernel
theorem dX10_write_48 : decode cX10_write 48 = .ok (.iconst 0, 1) := by decide +kernel
theorem dX10_write_49 : decode cX10_write 49 = .ok (.invokevirtual 74, 3) := by decide +kernel
theorem dX10_write_52 : decode cX10_write 52 = .ok (.return_, 1) := by decide +kernel
theorem dX10_write_53 : decode cX10_write 53 = .ok (.iconst (-1), 1) := by decide +kernel
theorem dX10_write_54 : decode cX10_write 54 = .ok (.istore_n 3, 1) := by decide +kernel
theorem dX10_write_55 : decode cX10_write 55 = .ok (.aload_n 0, 1) := by decide +kernel
theorem dX10_write_56 : decode cX10_write 56 = .ok (.getfield 9, 3) := by decide +kernel
theorem dX10_write_59 : decode cX10_write 59 = .ok (.iload_n 2, 1) := by decide +kernel
theorem dX10_write_60 : decode cX10_write 60 = .ok (.iconst 1, 1) := by decide +kernel
theorem dX10_write_61 : decode cX10_write 61 = .ok (.invokevirtual 49, 3) := by decide +kernel
theorem dX10_write_64 : decode cX10_write 64 = .ok (.iconst 2, 1) := by decide +kernel
theorem dX10_write_65 : decode cX10_write 65 = .ok (.aload_n 0, 1) := by decide +kernel
theorem dX10_write_66 : decode cX10_write 66 = .ok (.getfield 9, 3) := by decide +kernel
theorem dX10_write_69 : decode cX10_write 69 = .ok (.invokevirtual 103, 3) := by decide +kernel
theorem dX10_write_72 : decode cX10_write 72 = .ok (.imul, 1) := by decide +kernel
theorem dX10_write_73 : decode cX10_write 73 = .ok (.if_icmp .le 12, 3) := by decide +kernel
theorem dX10_write_76 : decode cX10_write 76 = .ok (.aload_n 0, 1) := by decide +kernel
theorem dX10_write_77 : decode cX10_write 77 = .ok (.getfield 9, 3) := by decide +kernel
theorem dX10_write_80 : decode cX10_write 80 = .ok (.iload_n 2, 1) := by decide +kernel
theorem dX10_write_81 : decode cX10_write 81 = .ok (.invokevirtual 107, 3) := by decide +kernel
theorem dX10_write_84 : decode cX10_write 84 = .ok (.istore_n 3, 1) := by decide +kernel
theorem dX10_write_85 : decode cX10_write 85 = .ok (.iload_n 3, 1) := by decide +kernel
theorem dX10_write_86 : decode cX10_write 86 = .ok (.iconst (-1), 1) := by decide +kernel
theorem dX10_write_87 : decode cX10_write 87 = .ok (.if_icmp .ne 16, 3) := by decide +kernel
theorem dX10_write_90 : decode cX10_write 90 = .ok (.aload_n 0, 1) := by decide +kernel
theorem dX10_write_91 : decode cX10_write 91 = .ok (.iload_n 1, 1) := by decide +kernel
theorem dX10_write_92 : decode cX10_write 92 = .ok (.iload_n 2, 1) := by decide +kernel
theorem dX10_write_93 : decode cX10_write 93 = .ok (.invokevirtual 100, 3) := by decide +kernel
theorem dX10_write_96 : decode cX10_write 96 = .ok (.aload_n 0, 1) := by decide +kernel
theorem dX10_write_97 : decode cX10_write 97 = .ok (.iload_n 1, 1) := by decide +kernel
theorem dX10_write_98 : decode cX10_write 98 = .ok (.iconst 1, 1) := by decide +kernel
theorem dX10_write_99 : decode cX10_write 99 = .ok (.invokevirtual 74, 3) := by decide +kernel
theorem dX10_write_102 : decode cX10_write 102 = .ok (.return_, 1) := by decide +kernel
theorem dX10_write_103 : decode cX10_write 103 = .ok (.aload_n 0, 1) := by decide +kernel
theorem dX10_write_104 : decode cX10_write 104 = .ok (.getfield 15, 3) := by decide +kernel
theorem dX10_write_107 : decode cX10_write 107 = .ok (.iload_n 1, 1) := by decide +kernel
theorem dX10_write_108 : decode cX10_write 108 = .ok (.iconst 3, 1) := by decide +kernel
theorem dX10_write_109 : decode cX10_write 109 = .ok (.aload_n 0, 1) := by decide +kernel
theorem dX10_write_110 : decode cX10_write 110 = .ok (.getfield 9, 3) := by decide +kernel
theorem dX10_write_113 : decode cX10_write 113 = .ok (.iload_n 2, 1) := by decide +kernel
theorem dX10_write_114 : decode cX10_write 114 = .ok (.iconst 2, 1) := by decide +kernel
theorem dX10_write_115 : decode cX10_write 115 = .ok (.invokevirtual 49, 3) := by decide +kernel
theorem dX10_write_118 : decode cX10_write 118 = .ok (.invokevirtual 54, 3) := by decide +kernel
theorem dX10_write_121 : decode cX10_write 121 = .ok (.aload_n 0, 1) := by decide +kernel
theorem dX10_write_122 : decode cX10_write 122 = .ok (.getfield 15, 3) := by decide +kernel
theorem dX10_write_125 : decode cX10_write 125 = .ok (.iload_n 1, 1) := by decide +kernel
theorem dX10_write_126 : decode cX10_write 126 = .ok (.iconst 4, 1) := by decide +kernel
theorem dX10_write_127 : decode cX10_write 127 = .ok (.iload_n 3, 1) := by decide +kernel
theorem dX10_write_128 : decode cX10_write 128 = .ok (.invokevirtual 54, 3) := by decide +kernel
theorem dX10_write_131 : decode cX10_write 131 = .ok (.aload_n 0, 1) := by decide +kernel
theorem dX10_write_132 : decode cX10_write 132 = .ok (.getfield 15, 3) := by decide +kernel
theorem dX10_write_135 : decode cX10_write 135 = .ok (.iload_n 1, 1) := by decide +kernel
theorem dX10_write_136 : decode cX10_write 136 = .ok (.iconst 0, 1) := by decide +kernel
theorem dX10_write_137 : decode cX10_write 137 = .ok (.iconst 4, 1) := by decide +kernel
theorem dX10_write_138 : decode cX10_write 138 = .ok (.invokevirtual 54, 3) := by decide +kernel
theorem dX10_write_141 : decode cX10_write 141 = .ok (.return_, 1) := by decide +kernel
def f_X10_write_p85 (ln : Nat → Nat) (x1 : Int32) (x2 : Int32) (x3 : Int32) (s : dr_S) : Option (Int32 × dr_S) := (if x3 = (-1) then dr_bndv (f_X10_letGo ln x1 x2 s) (fun s21 => dr_bndv (f_X10_end ln x1 1 s21) (fun s22 => some (0, s22))) else dr_bnd (f_X4_get ln x2 2 s) (fun r17 s16 => dr_bndv (f_X3_set ln x1 3 r17 s16) (fun s18 => dr_bndv (f_X3_set ln x1 4 x3 s18) (fun s19 => dr_bndv (f_X3_set ln x1 0 4 s19) (fun s20 => some (0, s20))))))
def f_X10_write_p53 (ln : Nat → Nat) (x1 : Int32) (x2 : Int32) (s : dr_S) : Option (Int32 × dr_S) := dr_bnd (f_X4_get ln x2 1 s) (fun r11 s10 => dr_bnd (f_X4_half ln  s10) (fun r13 s12 => (if r11 ≤ (2 * r13) then (f_X10_write_p85 ln x1 x2 ((-1)) s12) else dr_bnd (f_X4_part ln x2 s12) (fun r15 s14 => (f_X10_write_p85 ln x1 x2 r15 s14)))))
def f_X10_write (ln : Nat → Nat) (x1 : Int32) (s : dr_S) : Option (Int32 × dr_S) := dr_bnd (f_X3_get ln x1 1 s) (fun r2 s1 => dr_bnd (f_X4_get ln r2 0 s1) (fun r4 s3 => (if r4 ≤ 0 then dr_bnd (f_X10_writeCard ln x1 r2 s3) (fun r6 s5 => (if r6 = 0 then dr_bndv (f_X10_letGo ln x1 r2 s5) (fun s7 => dr_bndv (f_X10_end ln x1 0 s7) (fun s8 => some (0, s8))) else (f_X10_write_p53 ln x1 r2 s5))) else dr_bndv (f_X10_writeGuide ln x1 r2 s3) (fun s9 => (f_X10_write_p53 ln x1 r2 s9)))))
section
variable {p : Program} {l : Launch} {e : Env} {s0 : State} {m : MethodId} {args : Array Value} {below : List Frame} {meth : Method} {c : Code} {A : Nat → Prop} {D : va_G} {cI cZ : ClassId} {ad ln : Nat → Nat} {L : List Nat}
set_option maxHeartbeats 4000000 in
set_option maxRecDepth 20000 in
theorem w_X10_write_p85 (E : dr_E p (dr_rm 4) s0 m args meth c 0 0 A s0.heap D cI cZ ad L cX10_write 4 RX10 none) (hap : dr_ap ad L) (hN : ∀ x ∈ nd_10, x ∈ L) : ∀ (x1 : Int32) (x2 : Int32) (x3 : Int32) (s : dr_S), dr_G p l e (dr_rm 4) s0 m args below meth c 0 0 A s0.heap D cI cZ ad ln L 4 (dr_Zv D cI cZ ad ln L A below args s0 0 0) 85 [(0, .ref (ad 10)), (1, .int x1), (2, .int x2), (3, .int x3)] [] s (f_X10_write_p85 ln x1 x2 x3 s) := by
  intro x1 x2 x3 s
  unfold f_X10_write_p85
  refine g_iload_n E dX10_write_85 3 rfl ?_
  refine g_iconst E (v := (-1)) dX10_write_86 (by decide) ?_
  refine g_icmp_ne E 103 dX10_write_87 (by decide) ?_ ?_
  · refine g_aload_n E dX10_write_103 0 rfl ?_
    refine gg_10_15 E (hN 10 (by decide)) dX10_write_104 ?_
    refine g_iload_n E dX10_write_107 1 rfl ?_
    refine g_iconst E (v := 3) dX10_write_108 (by decide) ?_
    refine g_aload_n E dX10_write_109 0 rfl ?_
    refine gg_10_9 E (hN 10 (by decide)) dX10_write_110 ?_
    refine g_iload_n E dX10_write_113 2 rfl ?_
    refine g_iconst E (v := 2) dX10_write_114 (by decide) ?_
    refine g_cVi E [.int x2, .int 2] rfl (c_X4_get hap (fun x h => hN x (ns_4_10 x h)) x2 2 s) (hN 4 (by decide)) (by decide) rfl rfl mi_X4_get msl_X4_get mw_X4_get rfl ml_10_49 ⟨Nat.le_of_ble_eq_true rfl, Nat.le_of_ble_eq_true rfl⟩ (Nat.le_of_ble_eq_true rfl) dX10_write_115 (fun r17 s16 => ?_)
    refine g_cVv E [.int x1, .int 3, .int r17] rfl (c_X3_set hap (fun x h => hN x (ns_3_10 x h)) x1 3 r17 s16) (hN 3 (by decide)) (by decide) rfl rfl mi_X3_set msl_X3_set mw_X3_set rfl ml_10_54 ⟨Nat.le_of_ble_eq_true rfl, Nat.le_of_ble_eq_true rfl⟩ (Nat.le_of_ble_eq_true rfl) dX10_write_118 (fun s18 => ?_)
    refine g_aload_n E dX10_write_121 0 rfl ?_
    refine gg_10_15 E (hN 10 (by decide)) dX10_write_122 ?_
    refine g_iload_n E dX10_write_125 1 rfl ?_
    refine g_iconst E (v := 4) dX10_write_126 (by decide) ?_
    refine g_iload_n E dX10_write_127 3 rfl ?_
    refine g_cVv E [.int x1, .int 4, .int x3] rfl (c_X3_set hap (fun x h => hN x (ns_3_10 x h)) x1 4 x3 s18) (hN 3 (by decide)) (by decide) rfl rfl mi_X3_set msl_X3_set mw_X3_set rfl ml_10_54 ⟨Nat.le_of_ble_eq_true rfl, Nat.le_of_ble_eq_true rfl⟩ (Nat.le_of_ble_eq_true rfl) dX10_write_128 (fun s19 => ?_)
    refine g_aload_n E dX10_write_131 0 rfl ?_
    refine gg_10_15 E (hN 10 (by decide)) dX10_write_132 ?_
    refine g_iload_n E dX10_write_135 1 rfl ?_
    refine g_iconst E (v := 0) dX10_write_136 (by decide) ?_
    refine g_iconst E (v := 4) dX10_write_137 (by decide) ?_
    refine g_cVv E [.int x1, .int 0, .int 4] rfl (c_X3_set hap (fun x h => hN x (ns_3_10 x h)) x1 0 4 s19) (hN 3 (by decide)) (by decide) rfl rfl mi_X3_set msl_X3_set mw_X3_set rfl ml_10_54 ⟨Nat.le_of_ble_eq_true rfl, Nat.le_of_ble_eq_true rfl⟩ (Nat.le_of_ble_eq_true rfl) dX10_write_138 (fun s20 => ?_)
    exact g_vret E dX10_write_141
  · refine g_aload_n E dX10_write_90 0 rfl ?_
    refine g_iload_n E dX10_write_91 1 rfl ?_
    refine g_iload_n E dX10_write_92 2 rfl ?_
    refine g_cVv E [.int x1, .int x2] rfl (c_X10_letGo hap hN x1 x2 s) (hN 10 (by decide)) (by decide) rfl rfl mi_X10_letGo msl_X10_letGo mw_X10_letGo rfl ml_10_100 ⟨Nat.le_of_ble_eq_true rfl, Nat.le_of_ble_eq_true rfl⟩ (Nat.le_of_ble_eq_true rfl) dX10_write_93 (fun s21 => ?_)
    refine g_aload_n E dX10_write_96 0 rfl ?_
    refine g_iload_n E dX10_write_97 1 rfl ?_
    refine g_iconst E (v := 1) dX10_write_98 (by decide) ?_
    refine g_cVv E [.int x1, .int 1] rfl (c_X10_end hap hN x1 1 s21) (hN 10 (by decide)) (by decide) rfl rfl mi_X10_end msl_X10_end mw_X10_end rfl ml_10_74 ⟨Nat.le_of_ble_eq_true rfl, Nat.le_of_ble_eq_true rfl⟩ (Nat.le_of_ble_eq_true rfl) dX10_write_99 (fun s22 => ?_)
    exact g_vret E dX10_write_102
set_option maxHeartbeats 4000000 in
set_option maxRecDepth 20000 in
theorem w_X10_write_p53 (E : dr_E p (dr_rm 4) s0 m args meth c 0 0 A s0.heap D cI cZ ad L cX10_write 4 RX10 none) (hap : dr_ap ad L) (hN : ∀ x ∈ nd_10, x ∈ L) : ∀ (x1 : Int32) (x2 : Int32) (s : dr_S), dr_G p l e (dr_rm 4) s0 m args below meth c 0 0 A s0.heap D cI cZ ad ln L 4 (dr_Zv D cI cZ ad ln L A below args s0 0 0) 53 [(0, .ref (ad 10)), (1, .int x1), (2, .int x2)] [] s (f_X10_write_p53 ln x1 x2 s) := by
  intro x1 x2 s
  unfold f_X10_write_p53
  refine g_iconst E (v := (-1)) dX10_write_53 (by decide) ?_
  refine g_istore_n E (lv' := [(3, .int (-1)), (0, .ref (ad 10)), (1, .int x1), (2, .int x2)]) dX10_write_54 (by decide) rfl ?_
  refine g_aload_n E dX10_write_55 1 rfl ?_
  refine gg_10_9 E (hN 10 (by decide)) dX10_write_56 ?_
  refine g_iload_n E dX10_write_59 3 rfl ?_
  refine g_iconst E (v := 1) dX10_write_60 (by decide) ?_
  refine g_cVi E [.int x2, .int 1] rfl (c_X4_get hap (fun x h => hN x (ns_4_10 x h)) x2 1 s) (hN 4 (by decide)) (by decide) rfl rfl mi_X4_get msl_X4_get mw_X4_get rfl ml_10_49 ⟨Nat.le_of_ble_eq_true rfl, Nat.le_of_ble_eq_true rfl⟩ (Nat.le_of_ble_eq_true rfl) dX10_write_61 (fun r11 s10 => ?_)
  refine g_iconst E (v := 2) dX10_write_64 (by decide) ?_
  refine g_aload_n E dX10_write_65 1 rfl ?_
  refine gg_10_9 E (hN 10 (by decide)) dX10_write_66 ?_
  refine g_cVi E [] rfl (c_X4_half hap (fun x h => hN x (ns_4_10 x h))  s10) (hN 4 (by decide)) (by decide) rfl rfl mi_X4_half msl_X4_half mw_X4_half rfl ml_10_103 ⟨Nat.le_of_ble_eq_true rfl, Nat.le_of_ble_eq_true rfl⟩ (Nat.le_of_ble_eq_true rfl) dX10_write_69 (fun r13 s12 => ?_)
  refine g_imul E dX10_write_72 ?_
  refine g_icmp_le E 85 dX10_write_73 (by decide) ?_ ?_
  · refine g_sub [1, 2, 3, 0] rfl ?_
    exact w_X10_write_p85 E hap hN x1 x2 ((-1)) s12
  · refine g_aload_n E dX10_write_76 1 rfl ?_
    refine gg_10_9 E (hN 10 (by decide)) dX10_write_77 ?_
    refine g_iload_n E dX10_write_80 3 rfl ?_
    refine g_cVi E [.int x2] rfl (c_X4_part hap (fun x h => hN x (ns_4_10 x h)) x2 s12) (hN 4 (by decide)) (by decide) rfl rfl mi_X4_part msl_X4_part mw_X4_part rfl ml_10_107 ⟨Nat.le_of_ble_eq_true rfl, Nat.le_of_ble_eq_true rfl⟩ (Nat.le_of_ble_eq_true rfl) dX10_write_81 (fun r15 s14 => ?_)
    refine g_istore_n E (lv' := [(3, .int r15), (0, .ref (ad 10)), (1, .int x1), (2, .int x2)]) dX10_write_84 (by decide) rfl ?_
    refine g_sub [1, 2, 3, 0] rfl ?_
    exact w_X10_write_p85 E hap hN x1 x2 r15 s14
set_option maxHeartbeats 4000000 in
set_option maxRecDepth 20000 in
theorem c_X10_write (hap : dr_ap ad L) (hN : ∀ x ∈ nd_10, x ∈ L) (x1 : Int32) (s : dr_S) : dr_Mv l D cI cZ ad ln L yX10_write cX10_write 4 4 [.ref (ad 10), .int x1] s (f_X10_write ln x1 s) := by
  refine dr_metv (own := RX10) (by decide) rfl (Nat.le_of_ble_eq_true rfl) hap ?_
  intro p e s0 m args below meth c A E
  unfold f_X10_write
  refine g_eqL (lv' := [(0, .ref (ad 10)), (1, .int x1)]) rfl ?_
  refine g_aload_n E dX10_write_0 0 rfl ?_
  refine gg_10_15 E (hN 10 (by decide)) dX10_write_1 ?_
  refine g_iload_n E dX10_write_4 1 rfl ?_
  refine g_iconst E (v := 1) dX10_write_5 (by decide) ?_
  refine g_cVi E [.int x1, .int 1] rfl (c_X3_get hap (fun x h => hN x (ns_3_10 x h)) x1 1 s) (hN 3 (by decide)) (by decide) rfl rfl mi_X3_get msl_X3_get mw_X3_get rfl ml_10_25 ⟨Nat.le_of_ble_eq_true rfl, Nat.le_of_ble_eq_true rfl⟩ (Nat.le_of_ble_eq_true rfl) dX10_write_6 (fun r2 s1 => ?_)
  refine g_istore_n E (lv' := [(2, .int r2), (0, .ref (ad 10)), (1, .int x1)]) dX10_write_9 (by decide) rfl ?_
  refine g_aload_n E dX10_write_10 1 rfl ?_
  refine gg_10_9 E (hN 10 (by decide)) dX10_write_11 ?_
  refine g_iload_n E dX10_write_14 0 rfl ?_
  refine g_iconst E (v := 0) dX10_write_15 (by decide) ?_
  refine g_cVi E [.int r2, .int 0] rfl (c_X4_get hap (fun x h => hN x (ns_4_10 x h)) r2 0 s1) (hN 4 (by decide)) (by decide) rfl rfl mi_X4_get msl_X4_get mw_X4_get rfl ml_10_49 ⟨Nat.le_of_ble_eq_true rfl, Nat.le_of_ble_eq_true rfl⟩ (Nat.le_of_ble_eq_true rfl) dX10_write_16 (fun r4 s3 => ?_)
  refine g_if_le E 31 dX10_write_19 (by decide) ?_ ?_
  · refine g_aload_n E dX10_write_31 1 rfl ?_
    refine g_iload_n E dX10_write_32 2 rfl ?_
    refine g_iload_n E dX10_write_33 0 rfl ?_
    refine g_cVi E [.int x1, .int r2] rfl (c_X10_writeCard hap hN x1 r2 s3) (hN 10 (by decide)) (by decide) rfl rfl mi_X10_writeCard msl_X10_writeCard mw_X10_writeCard rfl ml_10_97 ⟨Nat.le_of_ble_eq_true rfl, Nat.le_of_ble_eq_true rfl⟩ (Nat.le_of_ble_eq_true rfl) dX10_write_34 (fun r6 s5 => ?_)
    refine g_if_ne E 53 dX10_write_37 (by decide) ?_ ?_
    · refine g_sub [1, 2, 0] rfl ?_
      exact w_X10_write_p53 E hap hN x1 r2 s5
    · refine g_aload_n E dX10_write_40 1 rfl ?_
      refine g_iload_n E dX10_write_41 2 rfl ?_
      refine g_iload_n E dX10_write_42 0 rfl ?_
      refine g_cVv E [.int x1, .int r2] rfl (c_X10_letGo hap hN x1 r2 s5) (hN 10 (by decide)) (by decide) rfl rfl mi_X10_letGo msl_X10_letGo mw_X10_letGo rfl ml_10_100 ⟨Nat.le_of_ble_eq_true rfl, Nat.le_of_ble_eq_true rfl⟩ (Nat.le_of_ble_eq_true rfl) dX10_write_43 (fun s7 => ?_)
      refine g_aload_n E dX10_write_46 1 rfl ?_
      refine g_iload_n E dX10_write_47 2 rfl ?_
      refine g_iconst E (v := 0) dX10_write_48 (by decide) ?_
      refine g_cVv E [.int x1, .int 0] rfl (c_X10_end hap hN x1 0 s7) (hN 10 (by decide)) (by decide) rfl rfl mi_X10_end msl_X10_end mw_X10_end rfl ml_10_74 ⟨Nat.le_of_ble_eq_true rfl, Nat.le_of_ble_eq_true rfl⟩ (Nat.le_of_ble_eq_true rfl) dX10_write_49 (fun s8 => ?_)
      exact g_vret E dX10_write_52
  · refine g_aload_n E dX10_write_22 1 rfl ?_
    refine g_iload_n E dX10_write_23 2 rfl ?_
    refine g_iload_n E dX10_write_24 0 rfl ?_
    refine g_cVv E [.int x1, .int r2] rfl (c_X10_writeGuide hap hN x1 r2 s3) (hN 10 (by decide)) (by decide) rfl rfl mi_X10_writeGuide msl_X10_writeGuide mw_X10_writeGuide rfl ml_10_94 ⟨Nat.le_of_ble_eq_true rfl, Nat.le_of_ble_eq_true rfl⟩ (Nat.le_of_ble_eq_true rfl) dX10_write_25 (fun s9 => ?_)
    refine g_goto E 53 dX10_write_28 (by decide) ?_
    refine g_sub [1, 2, 0] rfl ?_
    exact w_X10_write_p53 E hap hN x1 r2 s9
end

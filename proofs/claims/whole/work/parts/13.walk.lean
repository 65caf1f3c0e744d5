theorem dX2_fill_0 : decode cX2_fill 0 = .ok (.iconst 0, 1) := by decide +kernel
theorem dX2_fill_1 : decode cX2_fill 1 = .ok (.istore 4, 2) := by decide +kernel
theorem dX2_fill_3 : decode cX2_fill 3 = .ok (.iload 4, 2) := by decide +kernel
theorem dX2_fill_5 : decode cX2_fill 5 = .ok (.iload_n 2, 1) := by decide +kernel
theorem dX2_fill_6 : decode cX2_fill 6 = .ok (.if_icmp .ge 18, 3) := by decide +kernel
theorem dX2_fill_9 : decode cX2_fill 9 = .ok (.aload_n 0, 1) := by decide +kernel
theorem dX2_fill_10 : decode cX2_fill 10 = .ok (.iload_n 1, 1) := by decide +kernel
theorem dX2_fill_11 : decode cX2_fill 11 = .ok (.iload 4, 2) := by decide +kernel
theorem dX2_fill_13 : decode cX2_fill 13 = .ok (.iadd, 1) := by decide +kernel
theorem dX2_fill_14 : decode cX2_fill 14 = .ok (.iload_n 3, 1) := by decide +kernel
theorem dX2_fill_15 : decode cX2_fill 15 = .ok (.invokevirtual 35, 3) := by decide +kernel
theorem dX2_fill_18 : decode cX2_fill 18 = .ok (.iinc 4 1, 3) := by decide +kernel
theorem dX2_fill_21 : decode cX2_fill 21 = .ok (.goto (-18), 3) := by decide +kernel
theorem dX2_fill_24 : decode cX2_fill 24 = .ok (.return_, 1) := by decide +kernel
def f_X2_fill_p3 (ln : Nat → Nat) : Nat → Int32 → Int32 → Int32 → Int32 → dr_S → Option (Int32 × dr_S)
  | 0, _, _, _, _, _ => none
  | n + 1, x1, x2, x3, x4, s => (if x2 ≤ x4 then some (0, s) else dr_bndv (f_X2_put ln ((x1 + x4)) x3 s) (fun s1 => dr_let (x4 + 1) (fun y2 => (f_X2_fill_p3 ln n x1 x2 x3 y2 s1))))
def f_X2_fill (ln : Nat → Nat) (x1 : Int32) (x2 : Int32) (x3 : Int32) (s : dr_S) : Option (Int32 × dr_S) := (f_X2_fill_p3 ln dr_N x1 x2 x3 0 s)
section
variable {p : Program} {l : Launch} {e : Env} {s0 : State} {m : MethodId} {args : Array Value} {below : List Frame} {meth : Method} {c : Code} {A : Nat → Prop} {D : va_G} {cI cZ : ClassId} {ad ln : Nat → Nat} {L : List Nat}
set_option maxHeartbeats 4000000 in
set_option maxRecDepth 20000 in
theorem w_X2_fill_p3 (E : dr_E p (dr_rm 1) s0 m args meth c 0 0 A s0.heap D cI cZ ad L cX2_fill 5 RX2 none) (hap : dr_ap ad L) (hN : ∀ x ∈ nd_2, x ∈ L) : ∀ (n : Nat) (x1 : Int32) (x2 : Int32) (x3 : Int32) (x4 : Int32) (s : dr_S), dr_G p l e (dr_rm 1) s0 m args below meth c 0 0 A s0.heap D cI cZ ad ln L 5 (dr_Zv D cI cZ ad ln L A below args s0 0 0) 3 [(0, .ref (ad 2)), (1, .int x1), (2, .int x2), (3, .int x3), (4, .int x4)] [] s (f_X2_fill_p3 ln n x1 x2 x3 x4 s) := by
  intro n
  induction n with
  | zero =>
    intro x1 x2 x3 x4 s
    rw [f_X2_fill_p3]
    exact g_none
  | succ n hkb3 =>
    intro x1 x2 x3 x4 s
    rw [f_X2_fill_p3]
    refine g_iload E dX2_fill_3 4 rfl ?_
    refine g_iload_n E dX2_fill_5 2 rfl ?_
    refine g_icmp_ge E 24 dX2_fill_6 (by decide) ?_ ?_
    · exact g_vret E dX2_fill_24
    · refine g_aload_n E dX2_fill_9 0 rfl ?_
      refine g_iload_n E dX2_fill_10 1 rfl ?_
      refine g_iload E dX2_fill_11 4 rfl ?_
      refine g_iadd E dX2_fill_13 ?_
      refine g_iload_n E dX2_fill_14 3 rfl ?_
      refine g_cVv E [.int (x1 + x4), .int x3] rfl (c_X2_put hap hN ((x1 + x4)) x3 s) (hN 2 (by decide)) (by decide) rfl rfl mi_X2_put msl_X2_put mw_X2_put rfl ml_2_35 ⟨Nat.le_of_ble_eq_true rfl, Nat.le_of_ble_eq_true rfl⟩ (Nat.le_of_ble_eq_true rfl) dX2_fill_15 (fun s1 => ?_)
      refine g_iinc E (lv' := []) (lv'' := fun y2 => [(4, .int y2), (0, .ref (ad 2)), (1, .int x1), (2, .int x2), (3, .int x3)]) (v := 1) dX2_fill_18 4 rfl (by decide) (by decide) (fun _ => rfl) (fun y2 => ?_)
      refine g_goto E 3 dX2_fill_21 (by decide) ?_
      refine g_sub [1, 2, 3, 4, 0] rfl ?_
      exact hkb3 x1 x2 x3 y2 s1
set_option maxHeartbeats 4000000 in
set_option maxRecDepth 20000 in
theorem c_X2_fill (hap : dr_ap ad L) (hN : ∀ x ∈ nd_2, x ∈ L) (x1 : Int32) (x2 : Int32) (x3 : Int32) (s : dr_S) : dr_Mv l D cI cZ ad ln L yX2_fill cX2_fill 5 1 [.ref (ad 2), .int x1, .int x2, .int x3] s (f_X2_fill ln x1 x2 x3 s) := by
  refine dr_metv (own := RX2) (by decide) rfl (Nat.le_of_ble_eq_true rfl) hap ?_
  intro p e s0 m args below meth c A E
  unfold f_X2_fill
  refine g_eqL (lv' := [(0, .ref (ad 2)), (1, .int x1), (2, .int x2), (3, .int x3)]) rfl ?_
  refine g_iconst E (v := 0) dX2_fill_0 (by decide) ?_
  refine g_istore E (lv' := [(4, .int 0), (0, .ref (ad 2)), (1, .int x1), (2, .int x2), (3, .int x3)]) dX2_fill_1 (by decide) rfl ?_
  refine g_sub [1, 2, 3, 4, 0] rfl ?_
  exact w_X2_fill_p3 E hap hN dr_N x1 x2 x3 0 s
end

theorem dX2_copy_0 : decode cX2_copy 0 = .ok (.iconst 0, 1) := by decide +kernel
theorem dX2_copy_1 : decode cX2_copy 1 = .ok (.istore 4, 2) := by decide +kernel
theorem dX2_copy_3 : decode cX2_copy 3 = .ok (.iload 4, 2) := by decide +kernel
theorem dX2_copy_5 : decode cX2_copy 5 = .ok (.iload_n 3, 1) := by decide +kernel
theorem dX2_copy_6 : decode cX2_copy 6 = .ok (.if_icmp .ge 25, 3) := by decide +kernel
theorem dX2_copy_9 : decode cX2_copy 9 = .ok (.aload_n 0, 1) := by decide +kernel
theorem dX2_copy_10 : decode cX2_copy 10 = .ok (.iload_n 2, 1) := by decide +kernel
theorem dX2_copy_11 : decode cX2_copy 11 = .ok (.iload 4, 2) := by decide +kernel
theorem dX2_copy_13 : decode cX2_copy 13 = .ok (.iadd, 1) := by decide +kernel
theorem dX2_copy_14 : decode cX2_copy 14 = .ok (.aload_n 0, 1) := by decide +kernel
theorem dX2_copy_15 : decode cX2_copy 15 = .ok (.iload_n 1, 1) := by decide +kernel
theorem dX2_copy_16 : decode cX2_copy 16 = .ok (.iload 4, 2) := by decide +kernel
theorem dX2_copy_18 : decode cX2_copy 18 = .ok (.iadd, 1) := by decide +kernel
theorem dX2_copy_19 : decode cX2_copy 19 = .ok (.invokevirtual 39, 3) := by decide +kernel
theorem dX2_copy_22 : decode cX2_copy 22 = .ok (.invokevirtual 35, 3) := by decide +kernel
theorem dX2_copy_25 : decode cX2_copy 25 = .ok (.iinc 4 1, 3) := by decide +kernel
theorem dX2_copy_28 : decode cX2_copy 28 = .ok (.goto (-25), 3) := by decide +kernel
theorem dX2_copy_31 : decode cX2_copy 31 = .ok (.return_, 1) := by decide +kernel
def f_X2_copy_p3 (ln : Nat → Nat) : Nat → Int32 → Int32 → Int32 → Int32 → dr_S → Option (Int32 × dr_S)
  | 0, _, _, _, _, _ => none
  | n + 1, x1, x2, x3, x4, s => (if x3 ≤ x4 then some (0, s) else dr_bnd (f_X2_get ln ((x1 + x4)) s) (fun r2 s1 => dr_bndv (f_X2_put ln ((x2 + x4)) r2 s1) (fun s3 => dr_let (x4 + 1) (fun y4 => (f_X2_copy_p3 ln n x1 x2 x3 y4 s3)))))
def f_X2_copy (ln : Nat → Nat) (x1 : Int32) (x2 : Int32) (x3 : Int32) (s : dr_S) : Option (Int32 × dr_S) := (f_X2_copy_p3 ln dr_N x1 x2 x3 0 s)
section
variable {p : Program} {l : Launch} {e : Env} {s0 : State} {m : MethodId} {args : Array Value} {below : List Frame} {meth : Method} {c : Code} {A : Nat → Prop} {D : va_G} {cI cZ : ClassId} {ad ln : Nat → Nat} {L : List Nat}
set_option maxHeartbeats 4000000 in
set_option maxRecDepth 20000 in
theorem w_X2_copy_p3 (E : dr_E p (dr_rm 1) s0 m args meth c 0 0 A s0.heap D cI cZ ad L cX2_copy 5 RX2 none) (hap : dr_ap ad L) (hN : ∀ x ∈ nd_2, x ∈ L) : ∀ (n : Nat) (x1 : Int32) (x2 : Int32) (x3 : Int32) (x4 : Int32) (s : dr_S), dr_G p l e (dr_rm 1) s0 m args below meth c 0 0 A s0.heap D cI cZ ad ln L 5 (dr_Zv D cI cZ ad ln L A below args s0 0 0) 3 [(0, .ref (ad 2)), (1, .int x1), (2, .int x2), (3, .int x3), (4, .int x4)] [] s (f_X2_copy_p3 ln n x1 x2 x3 x4 s) := by
  intro n
  induction n with
  | zero =>
    intro x1 x2 x3 x4 s
    rw [f_X2_copy_p3]
    exact g_none
  | succ n hkb3 =>
    intro x1 x2 x3 x4 s
    rw [f_X2_copy_p3]
    refine g_iload E dX2_copy_3 4 rfl ?_
    refine g_iload_n E dX2_copy_5 3 rfl ?_
    refine g_icmp_ge E 31 dX2_copy_6 (by decide) ?_ ?_
    · exact g_vret E dX2_copy_31
    · refine g_aload_n E dX2_copy_9 0 rfl ?_
      refine g_iload_n E dX2_copy_10 2 rfl ?_
      refine g_iload E dX2_copy_11 4 rfl ?_
      refine g_iadd E dX2_copy_13 ?_
      refine g_aload_n E dX2_copy_14 0 rfl ?_
      refine g_iload_n E dX2_copy_15 1 rfl ?_
      refine g_iload E dX2_copy_16 4 rfl ?_
      refine g_iadd E dX2_copy_18 ?_
      refine g_cVi E [.int (x1 + x4)] rfl (c_X2_get hap hN ((x1 + x4)) s) (hN 2 (by decide)) (by decide) rfl rfl mi_X2_get msl_X2_get mw_X2_get rfl ml_2_39 ⟨Nat.le_of_ble_eq_true rfl, Nat.le_of_ble_eq_true rfl⟩ (Nat.le_of_ble_eq_true rfl) dX2_copy_19 (fun r2 s1 => ?_)
      refine g_cVv E [.int (x2 + x4), .int r2] rfl (c_X2_put hap hN ((x2 + x4)) r2 s1) (hN 2 (by decide)) (by decide) rfl rfl mi_X2_put msl_X2_put mw_X2_put rfl ml_2_35 ⟨Nat.le_of_ble_eq_true rfl, Nat.le_of_ble_eq_true rfl⟩ (Nat.le_of_ble_eq_true rfl) dX2_copy_22 (fun s3 => ?_)
      refine g_iinc E (lv' := []) (lv'' := fun y4 => [(4, .int y4), (0, .ref (ad 2)), (1, .int x1), (2, .int x2), (3, .int x3)]) (v := 1) dX2_copy_25 4 rfl (by decide) (by decide) (fun _ => rfl) (fun y4 => ?_)
      refine g_goto E 3 dX2_copy_28 (by decide) ?_
      refine g_sub [1, 2, 3, 4, 0] rfl ?_
      exact hkb3 x1 x2 x3 y4 s3
set_option maxHeartbeats 4000000 in
set_option maxRecDepth 20000 in
theorem c_X2_copy (hap : dr_ap ad L) (hN : ∀ x ∈ nd_2, x ∈ L) (x1 : Int32) (x2 : Int32) (x3 : Int32) (s : dr_S) : dr_Mv l D cI cZ ad ln L yX2_copy cX2_copy 5 1 [.ref (ad 2), .int x1, .int x2, .int x3] s (f_X2_copy ln x1 x2 x3 s) := by
  refine dr_metv (own := RX2) (by decide) rfl (Nat.le_of_ble_eq_true rfl) hap ?_
  intro p e s0 m args below meth c A E
  unfold f_X2_copy
  refine g_eqL (lv' := [(0, .ref (ad 2)), (1, .int x1), (2, .int x2), (3, .int x3)]) rfl ?_
  refine g_iconst E (v := 0) dX2_copy_0 (by decide) ?_
  refine g_istore E (lv' := [(4, .int 0), (0, .ref (ad 2)), (1, .int x1), (2, .int x2), (3, .int x3)]) dX2_copy_1 (by decide) rfl ?_
  refine g_sub [1, 2, 3, 4, 0] rfl ?_
  exact w_X2_copy_p3 E hap hN dr_N x1 x2 x3 0 s
end

theorem dX2_startTrying_0 : decode cX2_startTrying 0 = .ok (.aload_n 0, 1) := by decide +kernel
theorem dX2_startTrying_1 : decode cX2_startTrying 1 = .ok (.iconst 1, 1) := by decide +kernel
theorem dX2_startTrying_2 : decode cX2_startTrying 2 = .ok (.putfield 22, 3) := by decide +kernel
theorem dX2_startTrying_5 : decode cX2_startTrying 5 = .ok (.aload_n 0, 1) := by decide +kernel
theorem dX2_startTrying_6 : decode cX2_startTrying 6 = .ok (.getfield 18, 3) := by decide +kernel
theorem dX2_startTrying_9 : decode cX2_startTrying 9 = .ok (.ireturn, 1) := by decide +kernel
def f_X2_startTrying (ln : Nat → Nat) (s : dr_S) : Option (Int32 × dr_S) := dr_letS (dr_pf s 204 1) (fun s1 => some ((s1.2 203), s1))
section
variable {p : Program} {l : Launch} {e : Env} {s0 : State} {m : MethodId} {args : Array Value} {below : List Frame} {meth : Method} {c : Code} {A : Nat → Prop} {D : va_G} {cI cZ : ClassId} {ad ln : Nat → Nat} {L : List Nat}
set_option maxHeartbeats 4000000 in
set_option maxRecDepth 20000 in
theorem c_X2_startTrying (hap : dr_ap ad L) (hN : ∀ x ∈ nd_2, x ∈ L) (s : dr_S) : dr_Mi l D cI cZ ad ln L yX2_startTrying cX2_startTrying 1 (some .int) 0 [.ref (ad 2)] s (f_X2_startTrying ln  s) := by
  refine dr_meti (own := RX2) (by decide) rfl (Nat.le_of_ble_eq_true rfl) hap ?_
  intro p e s0 m args below meth c A E
  unfold f_X2_startTrying
  refine g_eqL (lv' := [(0, .ref (ad 2))]) rfl ?_
  refine g_aload_n E dX2_startTrying_0 0 rfl ?_
  refine g_iconst E (v := 1) dX2_startTrying_1 (by decide) ?_
  refine gp_2_22 E (hN 2 (by decide)) (Or.inr rfl) dX2_startTrying_2 (fun s1 => ?_)
  refine g_aload_n E dX2_startTrying_5 0 rfl ?_
  refine gg_2_18 E (hN 2 (by decide)) dX2_startTrying_6 ?_
  exact g_iret E dX2_startTrying_9
end

theorem dX2_takeBack_0 : decode cX2_takeBack 0 = .ok (.aload_n 0, 1) := by decide +kernel
theorem dX2_takeBack_1 : decode cX2_takeBack 1 = .ok (.getfield 18, 3) := by decide +kernel
theorem dX2_takeBack_4 : decode cX2_takeBack 4 = .ok (.sipush 1024, 3) := by decide +kernel
theorem dX2_takeBack_7 : decode cX2_takeBack 7 = .ok (.invokestatic 43, 3) := by decide +kernel
theorem dX2_takeBack_10 : decode cX2_takeBack 10 = .ok (.iconst 1, 1) := by decide +kernel
theorem dX2_takeBack_11 : decode cX2_takeBack 11 = .ok (.isub, 1) := by decide +kernel
theorem dX2_takeBack_12 : decode cX2_takeBack 12 = .ok (.istore_n 2, 1) := by decide +kernel
theorem dX2_takeBack_13 : decode cX2_takeBack 13 = .ok (.iload_n 2, 1) := by decide +kernel
theorem dX2_takeBack_14 : decode cX2_takeBack 14 = .ok (.iload_n 1, 1) := by decide +kernel
theorem dX2_takeBack_15 : decode cX2_takeBack 15 = .ok (.if_icmp .lt 50, 3) := by decide +kernel
theorem dX2_takeBack_18 : decode cX2_takeBack 18 = .ok (.iload_n 2, 1) := by decide +kernel
theorem dX2_takeBack_19 : decode cX2_takeBack 19 = .ok (.ifCond .lt 46, 3) := by decide +kernel
theorem dX2_takeBack_22 : decode cX2_takeBack 22 = .ok (.aload_n 0, 1) := by decide +kernel
theorem dX2_takeBack_23 : decode cX2_takeBack 23 = .ok (.getfield 11, 3) := by decide +kernel
theorem dX2_takeBack_26 : decode cX2_takeBack 26 = .ok (.iload_n 2, 1) := by decide +kernel
theorem dX2_takeBack_27 : decode cX2_takeBack 27 = .ok (.iaload, 1) := by decide +kernel
theorem dX2_takeBack_28 : decode cX2_takeBack 28 = .ok (.istore_n 3, 1) := by decide +kernel
theorem dX2_takeBack_29 : decode cX2_takeBack 29 = .ok (.iload_n 3, 1) := by decide +kernel
theorem dX2_takeBack_30 : decode cX2_takeBack 30 = .ok (.ifCond .lt 24, 3) := by decide +kernel
theorem dX2_takeBack_33 : decode cX2_takeBack 33 = .ok (.iload_n 3, 1) := by decide +kernel
theorem dX2_takeBack_34 : decode cX2_takeBack 34 = .ok (.aload_n 0, 1) := by decide +kernel
theorem dX2_takeBack_35 : decode cX2_takeBack 35 = .ok (.getfield 32, 3) := by decide +kernel
theorem dX2_takeBack_38 : decode cX2_takeBack 38 = .ok (.arraylength, 1) := by decide +kernel
theorem dX2_takeBack_39 : decode cX2_takeBack 39 = .ok (.if_icmp .ge 15, 3) := by decide +kernel
theorem dX2_takeBack_42 : decode cX2_takeBack 42 = .ok (.aload_n 0, 1) := by decide +kernel
theorem dX2_takeBack_43 : decode cX2_takeBack 43 = .ok (.getfield 32, 3) := by decide +kernel
theorem dX2_takeBack_46 : decode cX2_takeBack 46 = .ok (.iload_n 3, 1) := by decide +kernel
theorem dX2_takeBack_47 : decode cX2_takeBack 47 = .ok (.aload_n 0, 1) := by decide +kernel
theorem dX2_takeBack_48 : decode cX2_takeBack 48 = .ok (.getfield 15, 3) := by decide +kernel
theorem dX2_takeBack_51 : decode cX2_takeBack 51 = .ok (.iload_n 2, 1) := by decide +kernel
theorem dX2_takeBack_52 : decode cX2_takeBack 52 = .ok (.iaload, 1) := by decide +kernel
theorem dX2_takeBack_53 : decode cX2_takeBack 53 = .ok (.iastore, 1) := by decide +kernel
theorem dX2_takeBack_54 : decode cX2_takeBack 54 = .ok (.aload_n 0, 1) := by decide +kernel
theorem dX2_takeBack_55 : decode cX2_takeBack 55 = .ok (.iload_n 2, 1) := by decide +kernel
theorem dX2_takeBack_56 : decode cX2_takeBack 56 = .ok (.putfield 18, 3) := by decide +kernel
theorem dX2_takeBack_59 : decode cX2_takeBack 59 = .ok (.iinc 2 (-1), 3) := by decide +kernel
theorem dX2_takeBack_62 : decode cX2_takeBack 62 = .ok (.goto (-49), 3) := by decide +kernel
theorem dX2_takeBack_65 : decode cX2_takeBack 65 = .ok (.aload_n 0, 1) := by decide +kernel
theorem dX2_takeBack_66 : decode cX2_takeBack 66 = .ok (.aload_n 0, 1) := by decide +kernel
theorem dX2_takeBack_67 : decode cX2_takeBack 67 = .ok (.getfield 18, 3) := by decide +kernel
theorem dX2_takeBack_70 : decode cX2_takeBack 70 = .ok (.ifCond .le 7, 3) := by decide +kernel
theorem dX2_takeBack_73 : decode cX2_takeBack 73 = .ok (.iconst 1, 1) := by decide +kernel
theorem dX2_takeBack_74 : decode cX2_takeBack 74 = .ok (.goto 4, 3) := by decide +kernel
theorem dX2_takeBack_77 : decode cX2_takeBack 77 = .ok (.iconst 0, 1) := by decide +kernel
theorem dX2_takeBack_78 : decode cX2_takeBack 78 = .ok (.putfield 22, 3) := by decide +kernel
theorem dX2_takeBack_81 : decode cX2_takeBack 81 = .ok (.return_, 1) := by decide +kernel
def f_X2_takeBack_p65 (ln : Nat → Nat) (s : dr_S) : Option (Int32 × dr_S) := (if (s.2 203) ≤ 0 then dr_letS (dr_pf s 204 0) (fun s7 => some (0, s7)) else dr_letS (dr_pf s 204 1) (fun s8 => some (0, s8)))
def f_X2_takeBack_p54 (ln : Nat → Nat) (kb13 : Int32 → Int32 → dr_S → Option (Int32 × dr_S)) (x1 : Int32) (x2 : Int32) (s : dr_S) : Option (Int32 × dr_S) := dr_letS (dr_pf s 203 x2) (fun s5 => dr_let (x2 + (-1)) (fun y6 => (kb13 x1 y6 s5)))
def f_X2_takeBack_p13 (ln : Nat → Nat) : Nat → Int32 → Int32 → dr_S → Option (Int32 × dr_S)
  | 0, _, _, _ => none
  | n + 1, x1, x2, s => (if x2 < x1 then (f_X2_takeBack_p65 ln  s) else (if x2 < 0 then (f_X2_takeBack_p65 ln  s) else (dr_rd ln s 15 x2).bind (fun v2 => (if v2 < 0 then (f_X2_takeBack_p54 ln (f_X2_takeBack_p13 ln n) x1 x2 s) else (if (Int32.ofNat (ln 14)) ≤ v2 then (f_X2_takeBack_p54 ln (f_X2_takeBack_p13 ln n) x1 x2 s) else (dr_rd ln s 16 x2).bind (fun v3 => (dr_wr ln s 14 v2 v3).bind (fun s4 => (f_X2_takeBack_p54 ln (f_X2_takeBack_p13 ln n) x1 x2 s4))))))))
def f_X2_takeBack (ln : Nat → Nat) (x1 : Int32) (s : dr_S) : Option (Int32 × dr_S) := dr_let ((dr_min (s.2 203) 1024) - 1) (fun y1 => (f_X2_takeBack_p13 ln dr_N x1 y1 s))
section
variable {p : Program} {l : Launch} {e : Env} {s0 : State} {m : MethodId} {args : Array Value} {below : List Frame} {meth : Method} {c : Code} {A : Nat → Prop} {D : va_G} {cI cZ : ClassId} {ad ln : Nat → Nat} {L : List Nat}
set_option maxHeartbeats 4000000 in
set_option maxRecDepth 20000 in
theorem w_X2_takeBack_p65 (E : dr_E p (dr_rm 1) s0 m args meth c 0 0 A s0.heap D cI cZ ad L cX2_takeBack 4 RX2 none) (hap : dr_ap ad L) (hN : ∀ x ∈ nd_2, x ∈ L) : ∀ (s : dr_S), dr_G p l e (dr_rm 1) s0 m args below meth c 0 0 A s0.heap D cI cZ ad ln L 4 (dr_Zv D cI cZ ad ln L A below args s0 0 0) 65 [(0, .ref (ad 2))] [] s (f_X2_takeBack_p65 ln  s) := by
  intro s
  unfold f_X2_takeBack_p65
  refine g_aload_n E dX2_takeBack_65 0 rfl ?_
  refine g_aload_n E dX2_takeBack_66 0 rfl ?_
  refine gg_2_18 E (hN 2 (by decide)) dX2_takeBack_67 ?_
  refine g_if_le E 77 dX2_takeBack_70 (by decide) ?_ ?_
  · refine g_iconst E (v := 0) dX2_takeBack_77 (by decide) ?_
    refine gp_2_22 E (hN 2 (by decide)) (Or.inl rfl) dX2_takeBack_78 (fun s7 => ?_)
    exact g_vret E dX2_takeBack_81
  · refine g_iconst E (v := 1) dX2_takeBack_73 (by decide) ?_
    refine g_goto E 78 dX2_takeBack_74 (by decide) ?_
    refine gp_2_22 E (hN 2 (by decide)) (Or.inr rfl) dX2_takeBack_78 (fun s8 => ?_)
    exact g_vret E dX2_takeBack_81
set_option maxHeartbeats 4000000 in
set_option maxRecDepth 20000 in
theorem w_X2_takeBack_p54 {kb13 : Int32 → Int32 → dr_S → Option (Int32 × dr_S)} (E : dr_E p (dr_rm 1) s0 m args meth c 0 0 A s0.heap D cI cZ ad L cX2_takeBack 4 RX2 none) (hap : dr_ap ad L) (hN : ∀ x ∈ nd_2, x ∈ L) (hkb13 : ∀ (x1 : Int32) (x2 : Int32) (s : dr_S), dr_G p l e (dr_rm 1) s0 m args below meth c 0 0 A s0.heap D cI cZ ad ln L 4 (dr_Zv D cI cZ ad ln L A below args s0 0 0) 13 [(0, .ref (ad 2)), (1, .int x1), (2, .int x2)] [] s (kb13 x1 x2 s)) : ∀ (x1 : Int32) (x2 : Int32) (s : dr_S), dr_G p l e (dr_rm 1) s0 m args below meth c 0 0 A s0.heap D cI cZ ad ln L 4 (dr_Zv D cI cZ ad ln L A below args s0 0 0) 54 [(0, .ref (ad 2)), (1, .int x1), (2, .int x2)] [] s (f_X2_takeBack_p54 ln kb13 x1 x2 s) := by
  intro x1 x2 s
  unfold f_X2_takeBack_p54
  refine g_aload_n E dX2_takeBack_54 0 rfl ?_
  refine g_iload_n E dX2_takeBack_55 2 rfl ?_
  refine gp_2_18 E (hN 2 (by decide)) dX2_takeBack_56 (fun s5 => ?_)
  refine g_iinc E (lv' := []) (lv'' := fun y6 => [(2, .int y6), (0, .ref (ad 2)), (1, .int x1)]) (v := (-1)) dX2_takeBack_59 2 rfl (by decide) (by decide) (fun _ => rfl) (fun y6 => ?_)
  refine g_goto E 13 dX2_takeBack_62 (by decide) ?_
  refine g_sub [1, 2, 0] rfl ?_
  exact hkb13 x1 y6 s5
set_option maxHeartbeats 4000000 in
set_option maxRecDepth 20000 in
theorem w_X2_takeBack_p13 (E : dr_E p (dr_rm 1) s0 m args meth c 0 0 A s0.heap D cI cZ ad L cX2_takeBack 4 RX2 none) (hap : dr_ap ad L) (hN : ∀ x ∈ nd_2, x ∈ L) : ∀ (n : Nat) (x1 : Int32) (x2 : Int32) (s : dr_S), dr_G p l e (dr_rm 1) s0 m args below meth c 0 0 A s0.heap D cI cZ ad ln L 4 (dr_Zv D cI cZ ad ln L A below args s0 0 0) 13 [(0, .ref (ad 2)), (1, .int x1), (2, .int x2)] [] s (f_X2_takeBack_p13 ln n x1 x2 s) := by
  intro n
  induction n with
  | zero =>
    intro x1 x2 s
    rw [f_X2_takeBack_p13]
    exact g_none
  | succ n hkb13 =>
    intro x1 x2 s
    rw [f_X2_takeBack_p13]
    refine g_iload_n E dX2_takeBack_13 2 rfl ?_
    refine g_iload_n E dX2_takeBack_14 1 rfl ?_
    refine g_icmp_lt E 65 dX2_takeBack_15 (by decide) ?_ ?_
    · refine g_sub [0] rfl ?_
      exact w_X2_takeBack_p65 E hap hN  s
    · refine g_iload_n E dX2_takeBack_18 2 rfl ?_
      refine g_if_lt E 65 dX2_takeBack_19 (by decide) ?_ ?_
      · refine g_sub [0] rfl ?_
        exact w_X2_takeBack_p65 E hap hN  s
      · refine g_aload_n E dX2_takeBack_22 0 rfl ?_
        refine gg_2_11 E (hN 2 (by decide)) dX2_takeBack_23 ?_
        refine g_iload_n E dX2_takeBack_26 2 rfl ?_
        refine g_iaload E (hN 15 (by decide)) (by decide) rfl dX2_takeBack_27 (fun v2 => ?_)
        refine g_istore_n E (lv' := [(3, .int v2), (0, .ref (ad 2)), (1, .int x1), (2, .int x2)]) dX2_takeBack_28 (by decide) rfl ?_
        refine g_iload_n E dX2_takeBack_29 0 rfl ?_
        refine g_if_lt E 54 dX2_takeBack_30 (by decide) ?_ ?_
        · refine g_sub [1, 2, 3] rfl ?_
          exact w_X2_takeBack_p54 E hap hN hkb13 x1 x2 s
        · refine g_iload_n E dX2_takeBack_33 0 rfl ?_
          refine g_aload_n E dX2_takeBack_34 1 rfl ?_
          refine gg_2_32 E (hN 2 (by decide)) dX2_takeBack_35 ?_
          refine g_alen E (hN 14 (by decide)) (by decide) rfl dX2_takeBack_38 ?_
          refine g_icmp_ge E 54 dX2_takeBack_39 (by decide) ?_ ?_
          · refine g_sub [1, 2, 3] rfl ?_
            exact w_X2_takeBack_p54 E hap hN hkb13 x1 x2 s
          · refine g_aload_n E dX2_takeBack_42 1 rfl ?_
            refine gg_2_32 E (hN 2 (by decide)) dX2_takeBack_43 ?_
            refine g_iload_n E dX2_takeBack_46 0 rfl ?_
            refine g_aload_n E dX2_takeBack_47 1 rfl ?_
            refine gg_2_15 E (hN 2 (by decide)) dX2_takeBack_48 ?_
            refine g_iload_n E dX2_takeBack_51 3 rfl ?_
            refine g_iaload E (hN 16 (by decide)) (by decide) rfl dX2_takeBack_52 (fun v3 => ?_)
            refine g_iastore E (hN 14 (by decide)) (by decide) rfl dX2_takeBack_53 (fun s4 => ?_)
            refine g_sub [1, 2, 3] rfl ?_
            exact w_X2_takeBack_p54 E hap hN hkb13 x1 x2 s4
set_option maxHeartbeats 4000000 in
set_option maxRecDepth 20000 in
theorem c_X2_takeBack (hap : dr_ap ad L) (hN : ∀ x ∈ nd_2, x ∈ L) (x1 : Int32) (s : dr_S) : dr_Mv l D cI cZ ad ln L yX2_takeBack cX2_takeBack 4 1 [.ref (ad 2), .int x1] s (f_X2_takeBack ln x1 s) := by
  refine dr_metv (own := RX2) (by decide) rfl (Nat.le_of_ble_eq_true rfl) hap ?_
  intro p e s0 m args below meth c A E
  unfold f_X2_takeBack
  refine g_eqL (lv' := [(0, .ref (ad 2)), (1, .int x1)]) rfl ?_
  refine g_aload_n E dX2_takeBack_0 0 rfl ?_
  refine gg_2_18 E (hN 2 (by decide)) dX2_takeBack_1 ?_
  refine g_sipush E (v := 1024) dX2_takeBack_4 (by decide) ?_
  refine g_mmin E ml_2_43 ⟨Nat.le_of_ble_eq_true rfl, Nat.le_of_ble_eq_true rfl⟩ dX2_takeBack_7 ?_
  refine g_iconst E (v := 1) dX2_takeBack_10 (by decide) ?_
  refine g_isub E dX2_takeBack_11 ?_
  refine g_let (fun y1 => ?_)
  refine g_istore_n E (lv' := [(2, .int y1), (0, .ref (ad 2)), (1, .int x1)]) dX2_takeBack_12 (by decide) rfl ?_
  refine g_sub [1, 2, 0] rfl ?_
  exact w_X2_takeBack_p13 E hap hN dr_N x1 y1 s
end

theorem dX3_get_0 : decode cX3_get 0 = .ok (.aload_n 0, 1) := by decide +kernel
theorem dX3_get_1 : decode cX3_get 1 = .ok (.getfield 11, 3) := by decide +kernel
theorem dX3_get_4 : decode cX3_get 4 = .ok (.aload_n 0, 1) := by decide +kernel
theorem dX3_get_5 : decode cX3_get 5 = .ok (.getfield 15, 3) := by decide +kernel
theorem dX3_get_8 : decode cX3_get 8 = .ok (.iload_n 1, 1) := by decide +kernel
theorem dX3_get_9 : decode cX3_get 9 = .ok (.sipush 128, 3) := by decide +kernel
theorem dX3_get_12 : decode cX3_get 12 = .ok (.imul, 1) := by decide +kernel
theorem dX3_get_13 : decode cX3_get 13 = .ok (.iadd, 1) := by decide +kernel
theorem dX3_get_14 : decode cX3_get 14 = .ok (.iload_n 2, 1) := by decide +kernel
theorem dX3_get_15 : decode cX3_get 15 = .ok (.iadd, 1) := by decide +kernel
theorem dX3_get_16 : decode cX3_get 16 = .ok (.invokevirtual 27, 3) := by decide +kernel
theorem dX3_get_19 : decode cX3_get 19 = .ok (.ireturn, 1) := by decide +kernel
def f_X3_get (ln : Nat → Nat) (x1 : Int32) (x2 : Int32) (s : dr_S) : Option (Int32 × dr_S) := dr_bnd (f_X2_get ln ((((s.2 301) + (x1 * 128)) + x2)) s) (fun r2 s1 => some (r2, s1))
section
variable {p : Program} {l : Launch} {e : Env} {s0 : State} {m : MethodId} {args : Array Value} {below : List Frame} {meth : Method} {c : Code} {A : Nat → Prop} {D : va_G} {cI cZ : ClassId} {ad ln : Nat → Nat} {L : List Nat}
set_option maxHeartbeats 4000000 in
set_option maxRecDepth 20000 in
theorem c_X3_get (hap : dr_ap ad L) (hN : ∀ x ∈ nd_3, x ∈ L) (x1 : Int32) (x2 : Int32) (s : dr_S) : dr_Mi l D cI cZ ad ln L yX3_get cX3_get 3 (some .int) 1 [.ref (ad 3), .int x1, .int x2] s (f_X3_get ln x1 x2 s) := by
  refine dr_meti (own := RX3) (by decide) rfl (Nat.le_of_ble_eq_true rfl) hap ?_
  intro p e s0 m args below meth c A E
  unfold f_X3_get
  refine g_eqL (lv' := [(0, .ref (ad 3)), (1, .int x1), (2, .int x2)]) rfl ?_
  refine g_aload_n E dX3_get_0 0 rfl ?_
  refine gg_3_11 E (hN 3 (by decide)) dX3_get_1 ?_
  refine g_aload_n E dX3_get_4 0 rfl ?_
  refine gg_3_15 E (hN 3 (by decide)) dX3_get_5 ?_
  refine g_iload_n E dX3_get_8 1 rfl ?_
  refine g_sipush E (v := 128) dX3_get_9 (by decide) ?_
  refine g_imul E dX3_get_12 ?_
  refine g_iadd E dX3_get_13 ?_
  refine g_iload_n E dX3_get_14 2 rfl ?_
  refine g_iadd E dX3_get_15 ?_
  refine g_cVi E [.int (((s.2 301) + (x1 * 128)) + x2)] rfl (c_X2_get hap (fun x h => hN x (ns_2_3 x h)) ((((s.2 301) + (x1 * 128)) + x2)) s) (hN 2 (by decide)) (by decide) rfl rfl mi_X2_get msl_X2_get mw_X2_get rfl ml_3_27 ⟨Nat.le_of_ble_eq_true rfl, Nat.le_of_ble_eq_true rfl⟩ (Nat.le_of_ble_eq_true rfl) dX3_get_16 (fun r2 s1 => ?_)
  exact g_iret E dX3_get_19
end

theorem dX3_set_0 : decode cX3_set 0 = .ok (.aload_n 0, 1) := by decide +kernel
theorem dX3_set_1 : decode cX3_set 1 = .ok (.getfield 11, 3) := by decide +kernel
theorem dX3_set_4 : decode cX3_set 4 = .ok (.aload_n 0, 1) := by decide +kernel
theorem dX3_set_5 : decode cX3_set 5 = .ok (.getfield 15, 3) := by decide +kernel
theorem dX3_set_8 : decode cX3_set 8 = .ok (.iload_n 1, 1) := by decide +kernel
theorem dX3_set_9 : decode cX3_set 9 = .ok (.sipush 128, 3) := by decide +kernel
theorem dX3_set_12 : decode cX3_set 12 = .ok (.imul, 1) := by decide +kernel
theorem dX3_set_13 : decode cX3_set 13 = .ok (.iadd, 1) := by decide +kernel
theorem dX3_set_14 : decode cX3_set 14 = .ok (.iload_n 2, 1) := by decide +kernel
theorem dX3_set_15 : decode cX3_set 15 = .ok (.iadd, 1) := by decide +kernel
theorem dX3_set_16 : decode cX3_set 16 = .ok (.iload_n 3, 1) := by decide +kernel
theorem dX3_set_17 : decode cX3_set 17 = .ok (.invokevirtual 33, 3) := by decide +kernel
theorem dX3_set_20 : decode cX3_set 20 = .ok (.return_, 1) := by decide +kernel
def f_X3_set (ln : Nat → Nat) (x1 : Int32) (x2 : Int32) (x3 : Int32) (s : dr_S) : Option (Int32 × dr_S) := dr_bndv (f_X2_put ln ((((s.2 301) + (x1 * 128)) + x2)) x3 s) (fun s1 => some (0, s1))
section
variable {p : Program} {l : Launch} {e : Env} {s0 : State} {m : MethodId} {args : Array Value} {below : List Frame} {meth : Method} {c : Code} {A : Nat → Prop} {D : va_G} {cI cZ : ClassId} {ad ln : Nat → Nat} {L : List Nat}
set_option maxHeartbeats 4000000 in
set_option maxRecDepth 20000 in
theorem c_X3_set (hap : dr_ap ad L) (hN : ∀ x ∈ nd_3, x ∈ L) (x1 : Int32) (x2 : Int32) (x3 : Int32) (s : dr_S) : dr_Mv l D cI cZ ad ln L yX3_set cX3_set 4 1 [.ref (ad 3), .int x1, .int x2, .int x3] s (f_X3_set ln x1 x2 x3 s) := by
  refine dr_metv (own := RX3) (by decide) rfl (Nat.le_of_ble_eq_true rfl) hap ?_
  intro p e s0 m args below meth c A E
  unfold f_X3_set
  refine g_eqL (lv' := [(0, .ref (ad 3)), (1, .int x1), (2, .int x2), (3, .int x3)]) rfl ?_
  refine g_aload_n E dX3_set_0 0 rfl ?_
  refine gg_3_11 E (hN 3 (by decide)) dX3_set_1 ?_
  refine g_aload_n E dX3_set_4 0 rfl ?_
  refine gg_3_15 E (hN 3 (by decide)) dX3_set_5 ?_
  refine g_iload_n E dX3_set_8 1 rfl ?_
  refine g_sipush E (v := 128) dX3_set_9 (by decide) ?_
  refine g_imul E dX3_set_12 ?_
  refine g_iadd E dX3_set_13 ?_
  refine g_iload_n E dX3_set_14 2 rfl ?_
  refine g_iadd E dX3_set_15 ?_
  refine g_iload_n E dX3_set_16 3 rfl ?_
  refine g_cVv E [.int (((s.2 301) + (x1 * 128)) + x2), .int x3] rfl (c_X2_put hap (fun x h => hN x (ns_2_3 x h)) ((((s.2 301) + (x1 * 128)) + x2)) x3 s) (hN 2 (by decide)) (by decide) rfl rfl mi_X2_put msl_X2_put mw_X2_put rfl ml_3_33 ⟨Nat.le_of_ble_eq_true rfl, Nat.le_of_ble_eq_true rfl⟩ (Nat.le_of_ble_eq_true rfl) dX3_set_17 (fun s1 => ?_)
  exact g_vret E dX3_set_20
end

theorem dX3_isIdle_0 : decode cX3_isIdle 0 = .ok (.aload_n 0, 1) := by decide +kernel
theorem dX3_isIdle_1 : decode cX3_isIdle 1 = .ok (.iload_n 1, 1) := by decide +kernel
theorem dX3_isIdle_2 : decode cX3_isIdle 2 = .ok (.iconst 0, 1) := by decide +kernel
theorem dX3_isIdle_3 : decode cX3_isIdle 3 = .ok (.invokevirtual 37, 3) := by decide +kernel
theorem dX3_isIdle_6 : decode cX3_isIdle 6 = .ok (.ifCond .ne 7, 3) := by decide +kernel
theorem dX3_isIdle_9 : decode cX3_isIdle 9 = .ok (.iconst 1, 1) := by decide +kernel
theorem dX3_isIdle_10 : decode cX3_isIdle 10 = .ok (.goto 4, 3) := by decide +kernel
theorem dX3_isIdle_13 : decode cX3_isIdle 13 = .ok (.iconst 0, 1) := by decide +kernel
theorem dX3_isIdle_14 : decode cX3_isIdle 14 = .ok (.ireturn, 1) := by decide +kernel
def f_X3_isIdle (ln : Nat → Nat) (x1 : Int32) (s : dr_S) : Option (Int32 × dr_S) := dr_bnd (f_X3_get ln x1 0 s) (fun r2 s1 => (if r2 = 0 then some (1, s1) else some (0, s1)))
section
variable {p : Program} {l : Launch} {e : Env} {s0 : State} {m : MethodId} {args : Array Value} {below : List Frame} {meth : Method} {c : Code} {A : Nat → Prop} {D : va_G} {cI cZ : ClassId} {ad ln : Nat → Nat} {L : List Nat}
set_option maxHeartbeats 4000000 in
set_option maxRecDepth 20000 in
theorem c_X3_isIdle (hap : dr_ap ad L) (hN : ∀ x ∈ nd_3, x ∈ L) (x1 : Int32) (s : dr_S) : dr_Mi l D cI cZ ad ln L yX3_isIdle cX3_isIdle 2 (some .boolean) 2 [.ref (ad 3), .int x1] s (f_X3_isIdle ln x1 s) := by
  refine dr_meti (own := RX3) (by decide) rfl (Nat.le_of_ble_eq_true rfl) hap ?_
  intro p e s0 m args below meth c A E
  unfold f_X3_isIdle
  refine g_eqL (lv' := [(0, .ref (ad 3)), (1, .int x1)]) rfl ?_
  refine g_aload_n E dX3_isIdle_0 0 rfl ?_
  refine g_iload_n E dX3_isIdle_1 1 rfl ?_
  refine g_iconst E (v := 0) dX3_isIdle_2 (by decide) ?_
  refine g_cVi E [.int x1, .int 0] rfl (c_X3_get hap hN x1 0 s) (hN 3 (by decide)) (by decide) rfl rfl mi_X3_get msl_X3_get mw_X3_get rfl ml_3_37 ⟨Nat.le_of_ble_eq_true rfl, Nat.le_of_ble_eq_true rfl⟩ (Nat.le_of_ble_eq_true rfl) dX3_isIdle_3 (fun r2 s1 => ?_)
  refine g_if_ne E 13 dX3_isIdle_6 (by decide) ?_ ?_
  · refine g_iconst E (v := 0) dX3_isIdle_13 (by decide) ?_
    exact g_zret E dX3_isIdle_14 (Or.inl rfl)
  · refine g_iconst E (v := 1) dX3_isIdle_9 (by decide) ?_
    refine g_goto E 14 dX3_isIdle_10 (by decide) ?_
    exact g_zret E dX3_isIdle_14 (Or.inr rfl)
end

theorem dX3_atJobs_0 : decode cX3_atJobs 0 = .ok (.iconst 0, 1) := by decide +kernel
theorem dX3_atJobs_1 : decode cX3_atJobs 1 = .ok (.istore_n 1, 1) := by decide +kernel
theorem dX3_atJobs_2 : decode cX3_atJobs 2 = .ok (.iconst 0, 1) := by decide +kernel
theorem dX3_atJobs_3 : decode cX3_atJobs 3 = .ok (.istore_n 2, 1) := by decide +kernel
theorem dX3_atJobs_4 : decode cX3_atJobs 4 = .ok (.iload_n 2, 1) := by decide +kernel
theorem dX3_atJobs_5 : decode cX3_atJobs 5 = .ok (.iconst 4, 1) := by decide +kernel
theorem dX3_atJobs_6 : decode cX3_atJobs 6 = .ok (.if_icmp .ge 20, 3) := by decide +kernel
theorem dX3_atJobs_9 : decode cX3_atJobs 9 = .ok (.aload_n 0, 1) := by decide +kernel
theorem dX3_atJobs_10 : decode cX3_atJobs 10 = .ok (.iload_n 2, 1) := by decide +kernel
theorem dX3_atJobs_11 : decode cX3_atJobs 11 = .ok (.invokevirtual 40, 3) := by decide +kernel
theorem dX3_atJobs_14 : decode cX3_atJobs 14 = .ok (.ifCond .ne 6, 3) := by decide +kernel
theorem dX3_atJobs_17 : decode cX3_atJobs 17 = .ok (.iinc 1 1, 3) := by decide +kernel
theorem dX3_atJobs_20 : decode cX3_atJobs 20 = .ok (.iinc 2 1, 3) := by decide +kernel
theorem dX3_atJobs_23 : decode cX3_atJobs 23 = .ok (.goto (-19), 3) := by decide +kernel
theorem dX3_atJobs_26 : decode cX3_atJobs 26 = .ok (.iload_n 1, 1) := by decide +kernel
theorem dX3_atJobs_27 : decode cX3_atJobs 27 = .ok (.ireturn, 1) := by decide +kernel
def f_X3_atJobs_p20 (ln : Nat → Nat) (kb4 : Int32 → Int32 → dr_S → Option (Int32 × dr_S)) (x1 : Int32) (x2 : Int32) (s : dr_S) : Option (Int32 × dr_S) := dr_let (x2 + 1) (fun y4 => (kb4 x1 y4 s))
def f_X3_atJobs_p4 (ln : Nat → Nat) : Nat → Int32 → Int32 → dr_S → Option (Int32 × dr_S)
  | 0, _, _, _ => none
  | n + 1, x1, x2, s => (if ((4 : Int32) ≤ x2 : Prop) then some (x1, s) else dr_bnd (f_X3_isIdle ln x2 s) (fun r2 s1 => (if r2 = 0 then dr_let (x1 + 1) (fun y3 => (f_X3_atJobs_p20 ln (f_X3_atJobs_p4 ln n) y3 x2 s1)) else (f_X3_atJobs_p20 ln (f_X3_atJobs_p4 ln n) x1 x2 s1))))
def f_X3_atJobs (ln : Nat → Nat) (s : dr_S) : Option (Int32 × dr_S) := (f_X3_atJobs_p4 ln dr_N 0 0 s)
section
variable {p : Program} {l : Launch} {e : Env} {s0 : State} {m : MethodId} {args : Array Value} {below : List Frame} {meth : Method} {c : Code} {A : Nat → Prop} {D : va_G} {cI cZ : ClassId} {ad ln : Nat → Nat} {L : List Nat}
set_option maxHeartbeats 4000000 in
set_option maxRecDepth 20000 in
theorem w_X3_atJobs_p20 {kb4 : Int32 → Int32 → dr_S → Option (Int32 × dr_S)} (E : dr_E p (dr_rm 3) s0 m args meth c 0 0 A s0.heap D cI cZ ad L cX3_atJobs 3 RX3 (some .int)) (hap : dr_ap ad L) (hN : ∀ x ∈ nd_3, x ∈ L) (hkb4 : ∀ (x1 : Int32) (x2 : Int32) (s : dr_S), dr_G p l e (dr_rm 3) s0 m args below meth c 0 0 A s0.heap D cI cZ ad ln L 3 (dr_Zi D cI cZ ad ln L A below args s0 0 0) 4 [(0, .ref (ad 3)), (1, .int x1), (2, .int x2)] [] s (kb4 x1 x2 s)) : ∀ (x1 : Int32) (x2 : Int32) (s : dr_S), dr_G p l e (dr_rm 3) s0 m args below meth c 0 0 A s0.heap D cI cZ ad ln L 3 (dr_Zi D cI cZ ad ln L A below args s0 0 0) 20 [(0, .ref (ad 3)), (1, .int x1), (2, .int x2)] [] s (f_X3_atJobs_p20 ln kb4 x1 x2 s) := by
  intro x1 x2 s
  unfold f_X3_atJobs_p20
  refine g_iinc E (lv' := []) (lv'' := fun y4 => [(2, .int y4), (0, .ref (ad 3)), (1, .int x1)]) (v := 1) dX3_atJobs_20 2 rfl (by decide) (by decide) (fun _ => rfl) (fun y4 => ?_)
  refine g_goto E 4 dX3_atJobs_23 (by decide) ?_
  refine g_sub [1, 2, 0] rfl ?_
  exact hkb4 x1 y4 s
set_option maxHeartbeats 4000000 in
set_option maxRecDepth 20000 in
theorem w_X3_atJobs_p4 (E : dr_E p (dr_rm 3) s0 m args meth c 0 0 A s0.heap D cI cZ ad L cX3_atJobs 3 RX3 (some .int)) (hap : dr_ap ad L) (hN : ∀ x ∈ nd_3, x ∈ L) : ∀ (n : Nat) (x1 : Int32) (x2 : Int32) (s : dr_S), dr_G p l e (dr_rm 3) s0 m args below meth c 0 0 A s0.heap D cI cZ ad ln L 3 (dr_Zi D cI cZ ad ln L A below args s0 0 0) 4 [(0, .ref (ad 3)), (1, .int x1), (2, .int x2)] [] s (f_X3_atJobs_p4 ln n x1 x2 s) := by
  intro n
  induction n with
  | zero =>
    intro x1 x2 s
    rw [f_X3_atJobs_p4]
    exact g_none
  | succ n hkb4 =>
    intro x1 x2 s
    rw [f_X3_atJobs_p4]
    refine g_iload_n E dX3_atJobs_4 2 rfl ?_
    refine g_iconst E (v := 4) dX3_atJobs_5 (by decide) ?_
    refine g_icmp_ge E 26 dX3_atJobs_6 (by decide) ?_ ?_
    · refine g_iload_n E dX3_atJobs_26 1 rfl ?_
      exact g_iret E dX3_atJobs_27
    · refine g_aload_n E dX3_atJobs_9 0 rfl ?_
      refine g_iload_n E dX3_atJobs_10 2 rfl ?_
      refine g_cVi E [.int x2] rfl (c_X3_isIdle hap hN x2 s) (hN 3 (by decide)) (by decide) rfl rfl mi_X3_isIdle msl_X3_isIdle mw_X3_isIdle rfl ml_3_40 ⟨Nat.le_of_ble_eq_true rfl, Nat.le_of_ble_eq_true rfl⟩ (Nat.le_of_ble_eq_true rfl) dX3_atJobs_11 (fun r2 s1 => ?_)
      refine g_if_ne E 20 dX3_atJobs_14 (by decide) ?_ ?_
      · refine g_sub [0, 1, 2] rfl ?_
        exact w_X3_atJobs_p20 E hap hN hkb4 x1 x2 s1
      · refine g_iinc E (lv' := []) (lv'' := fun y3 => [(1, .int y3), (0, .ref (ad 3)), (2, .int x2)]) (v := 1) dX3_atJobs_17 1 rfl (by decide) (by decide) (fun _ => rfl) (fun y3 => ?_)
        refine g_sub [1, 0, 2] rfl ?_
        exact w_X3_atJobs_p20 E hap hN hkb4 y3 x2 s1
set_option maxHeartbeats 4000000 in
set_option maxRecDepth 20000 in
theorem c_X3_atJobs (hap : dr_ap ad L) (hN : ∀ x ∈ nd_3, x ∈ L) (s : dr_S) : dr_Mi l D cI cZ ad ln L yX3_atJobs cX3_atJobs 3 (some .int) 3 [.ref (ad 3)] s (f_X3_atJobs ln  s) := by
  refine dr_meti (own := RX3) (by decide) rfl (Nat.le_of_ble_eq_true rfl) hap ?_
  intro p e s0 m args below meth c A E
  unfold f_X3_atJobs
  refine g_eqL (lv' := [(0, .ref (ad 3))]) rfl ?_
  refine g_iconst E (v := 0) dX3_atJobs_0 (by decide) ?_
  refine g_istore_n E (lv' := [(1, .int 0), (0, .ref (ad 3))]) dX3_atJobs_1 (by decide) rfl ?_
  refine g_iconst E (v := 0) dX3_atJobs_2 (by decide) ?_
  refine g_istore_n E (lv' := [(2, .int 0), (1, .int 0), (0, .ref (ad 3))]) dX3_atJobs_3 (by decide) rfl ?_
  refine g_sub [2, 1, 0] rfl ?_
  exact w_X3_atJobs_p4 E hap hN dr_N 0 0 s
end

theorem dX3_startReading_0 : decode cX3_startReading 0 = .ok (.aload_n 0, 1) := by decide +kernel
theorem dX3_startReading_1 : decode cX3_startReading 1 = .ok (.getfield 11, 3) := by decide +kernel
theorem dX3_startReading_4 : decode cX3_startReading 4 = .ok (.aload_n 0, 1) := by decide +kernel
theorem dX3_startReading_5 : decode cX3_startReading 5 = .ok (.getfield 15, 3) := by decide +kernel
theorem dX3_startReading_8 : decode cX3_startReading 8 = .ok (.iload_n 1, 1) := by decide +kernel
theorem dX3_startReading_9 : decode cX3_startReading 9 = .ok (.sipush 128, 3) := by decide +kernel
theorem dX3_startReading_12 : decode cX3_startReading 12 = .ok (.imul, 1) := by decide +kernel
theorem dX3_startReading_13 : decode cX3_startReading 13 = .ok (.iadd, 1) := by decide +kernel
theorem dX3_startReading_14 : decode cX3_startReading 14 = .ok (.bipush 6, 2) := by decide +kernel
theorem dX3_startReading_16 : decode cX3_startReading 16 = .ok (.iadd, 1) := by decide +kernel
theorem dX3_startReading_17 : decode cX3_startReading 17 = .ok (.bipush 122, 2) := by decide +kernel
theorem dX3_startReading_19 : decode cX3_startReading 19 = .ok (.iconst (-1), 1) := by decide +kernel
theorem dX3_startReading_20 : decode cX3_startReading 20 = .ok (.invokevirtual 44, 3) := by decide +kernel
theorem dX3_startReading_23 : decode cX3_startReading 23 = .ok (.aload_n 0, 1) := by decide +kernel
theorem dX3_startReading_24 : decode cX3_startReading 24 = .ok (.iload_n 1, 1) := by decide +kernel
theorem dX3_startReading_25 : decode cX3_startReading 25 = .ok (.iconst 0, 1) := by decide +kernel
theorem dX3_startReading_26 : decode cX3_startReading 26 = .ok (.iconst 1, 1) := by decide +kernel
theorem dX3_startReading_27 : decode cX3_startReading 27 = .ok (.invokevirtual 19, 3) := by decide +kernel
theorem dX3_startReading_30 : decode cX3_startReading 30 = .ok (.aload_n 0, 1) := by decide +kernel
theorem dX3_startReading_31 : decode cX3_startReading 31 = .ok (.iload_n 1, 1) := by decide +kernel
theorem dX3_startReading_32 : decode cX3_startReading 32 = .ok (.iconst 1, 1) := by decide +kernel
theorem dX3_startReading_33 : decode cX3_startReading 33 = .ok (.iload_n 2, 1) := by decide +kernel
theorem dX3_startReading_34 : decode cX3_startReading 34 = .ok (.invokevirtual 19, 3) := by decide +kernel
theorem dX3_startReading_37 : decode cX3_startReading 37 = .ok (.return_, 1) := by decide +kernel
def f_X3_startReading (ln : Nat → Nat) (x1 : Int32) (x2 : Int32) (s : dr_S) : Option (Int32 × dr_S) := dr_bndv (f_X2_fill ln ((((s.2 301) + (x1 * 128)) + 6)) 122 ((-1)) s) (fun s1 => dr_bndv (f_X3_set ln x1 0 1 s1) (fun s2 => dr_bndv (f_X3_set ln x1 1 x2 s2) (fun s3 => some (0, s3))))
section
variable {p : Program} {l : Launch} {e : Env} {s0 : State} {m : MethodId} {args : Array Value} {below : List Frame} {meth : Method} {c : Code} {A : Nat → Prop} {D : va_G} {cI cZ : ClassId} {ad ln : Nat → Nat} {L : List Nat}
set_option maxHeartbeats 4000000 in
set_option maxRecDepth 20000 in
theorem c_X3_startReading (hap : dr_ap ad L) (hN : ∀ x ∈ nd_3, x ∈ L) (x1 : Int32) (x2 : Int32) (s : dr_S) : dr_Mv l D cI cZ ad ln L yX3_startReading cX3_startReading 3 2 [.ref (ad 3), .int x1, .int x2] s (f_X3_startReading ln x1 x2 s) := by
  refine dr_metv (own := RX3) (by decide) rfl (Nat.le_of_ble_eq_true rfl) hap ?_
  intro p e s0 m args below meth c A E
  unfold f_X3_startReading
  refine g_eqL (lv' := [(0, .ref (ad 3)), (1, .int x1), (2, .int x2)]) rfl ?_
  refine g_aload_n E dX3_startReading_0 0 rfl ?_
  refine gg_3_11 E (hN 3 (by decide)) dX3_startReading_1 ?_
  refine g_aload_n E dX3_startReading_4 0 rfl ?_
  refine gg_3_15 E (hN 3 (by decide)) dX3_startReading_5 ?_
  refine g_iload_n E dX3_startReading_8 1 rfl ?_
  refine g_sipush E (v := 128) dX3_startReading_9 (by decide) ?_
  refine g_imul E dX3_startReading_12 ?_
  refine g_iadd E dX3_startReading_13 ?_
  refine g_bipush E (v := 6) dX3_startReading_14 (by decide) ?_
  refine g_iadd E dX3_startReading_16 ?_
  refine g_bipush E (v := 122) dX3_startReading_17 (by decide) ?_
  refine g_iconst E (v := (-1)) dX3_startReading_19 (by decide) ?_
  refine g_cVv E [.int (((s.2 301) + (x1 * 128)) + 6), .int 122, .int (-1)] rfl (c_X2_fill hap (fun x h => hN x (ns_2_3 x h)) ((((s.2 301) + (x1 * 128)) + 6)) 122 ((-1)) s) (hN 2 (by decide)) (by decide) rfl rfl mi_X2_fill msl_X2_fill mw_X2_fill rfl ml_3_44 ⟨Nat.le_of_ble_eq_true rfl, Nat.le_of_ble_eq_true rfl⟩ (Nat.le_of_ble_eq_true rfl) dX3_startReading_20 (fun s1 => ?_)
  refine g_aload_n E dX3_startReading_23 0 rfl ?_
  refine g_iload_n E dX3_startReading_24 1 rfl ?_
  refine g_iconst E (v := 0) dX3_startReading_25 (by decide) ?_
  refine g_iconst E (v := 1) dX3_startReading_26 (by decide) ?_
  refine g_cVv E [.int x1, .int 0, .int 1] rfl (c_X3_set hap hN x1 0 1 s1) (hN 3 (by decide)) (by decide) rfl rfl mi_X3_set msl_X3_set mw_X3_set rfl ml_3_19 ⟨Nat.le_of_ble_eq_true rfl, Nat.le_of_ble_eq_true rfl⟩ (Nat.le_of_ble_eq_true rfl) dX3_startReading_27 (fun s2 => ?_)
  refine g_aload_n E dX3_startReading_30 0 rfl ?_
  refine g_iload_n E dX3_startReading_31 1 rfl ?_
  refine g_iconst E (v := 1) dX3_startReading_32 (by decide) ?_
  refine g_iload_n E dX3_startReading_33 2 rfl ?_
  refine g_cVv E [.int x1, .int 1, .int x2] rfl (c_X3_set hap hN x1 1 x2 s2) (hN 3 (by decide)) (by decide) rfl rfl mi_X3_set msl_X3_set mw_X3_set rfl ml_3_19 ⟨Nat.le_of_ble_eq_true rfl, Nat.le_of_ble_eq_true rfl⟩ (Nat.le_of_ble_eq_true rfl) dX3_startReading_34 (fun s3 => ?_)
  exact g_vret E dX3_startReading_37
end

theorem dX3_rest_0 : decode cX3_rest 0 = .ok (.aload_n 0, 1) := by decide +kernel
theorem dX3_rest_1 : decode cX3_rest 1 = .ok (.iload_n 1, 1) := by decide +kernel
theorem dX3_rest_2 : decode cX3_rest 2 = .ok (.iconst 0, 1) := by decide +kernel
theorem dX3_rest_3 : decode cX3_rest 3 = .ok (.iconst 0, 1) := by decide +kernel
theorem dX3_rest_4 : decode cX3_rest 4 = .ok (.invokevirtual 19, 3) := by decide +kernel
theorem dX3_rest_7 : decode cX3_rest 7 = .ok (.aload_n 0, 1) := by decide +kernel
theorem dX3_rest_8 : decode cX3_rest 8 = .ok (.iload_n 1, 1) := by decide +kernel
theorem dX3_rest_9 : decode cX3_rest 9 = .ok (.iconst 1, 1) := by decide +kernel
theorem dX3_rest_10 : decode cX3_rest 10 = .ok (.iconst (-1), 1) := by decide +kernel
theorem dX3_rest_11 : decode cX3_rest 11 = .ok (.invokevirtual 19, 3) := by decide +kernel
theorem dX3_rest_14 : decode cX3_rest 14 = .ok (.aload_n 0, 1) := by decide +kernel
theorem dX3_rest_15 : decode cX3_rest 15 = .ok (.iload_n 1, 1) := by decide +kernel
theorem dX3_rest_16 : decode cX3_rest 16 = .ok (.iconst 3, 1) := by decide +kernel
theorem dX3_rest_17 : decode cX3_rest 17 = .ok (.iconst (-1), 1) := by decide +kernel
theorem dX3_rest_18 : decode cX3_rest 18 = .ok (.invokevirtual 19, 3) := by decide +kernel
theorem dX3_rest_21 : decode cX3_rest 21 = .ok (.aload_n 0, 1) := by decide +kernel
theorem dX3_rest_22 : decode cX3_rest 22 = .ok (.iload_n 1, 1) := by decide +kernel
theorem dX3_rest_23 : decode cX3_rest 23 = .ok (.iconst 4, 1) := by decide +kernel
theorem dX3_rest_24 : decode cX3_rest 24 = .ok (.iconst (-1), 1) := by decide +kernel
theorem dX3_rest_25 : decode cX3_rest 25 = .ok (.invokevirtual 19, 3) := by decide +kernel
theorem dX3_rest_28 : decode cX3_rest 28 = .ok (.return_, 1) := by decide +kernel
def f_X3_rest (ln : Nat → Nat) (x1 : Int32) (s : dr_S) : Option (Int32 × dr_S) := dr_bndv (f_X3_set ln x1 0 0 s) (fun s1 => dr_bndv (f_X3_set ln x1 1 ((-1)) s1) (fun s2 => dr_bndv (f_X3_set ln x1 3 ((-1)) s2) (fun s3 => dr_bndv (f_X3_set ln x1 4 ((-1)) s3) (fun s4 => some (0, s4)))))
section
variable {p : Program} {l : Launch} {e : Env} {s0 : State} {m : MethodId} {args : Array Value} {below : List Frame} {meth : Method} {c : Code} {A : Nat → Prop} {D : va_G} {cI cZ : ClassId} {ad ln : Nat → Nat} {L : List Nat}
set_option maxHeartbeats 4000000 in
set_option maxRecDepth 20000 in
theorem c_X3_rest (hap : dr_ap ad L) (hN : ∀ x ∈ nd_3, x ∈ L) (x1 : Int32) (s : dr_S) : dr_Mv l D cI cZ ad ln L yX3_rest cX3_rest 2 2 [.ref (ad 3), .int x1] s (f_X3_rest ln x1 s) := by
  refine dr_metv (own := RX3) (by decide) rfl (Nat.le_of_ble_eq_true rfl) hap ?_
  intro p e s0 m args below meth c A E
  unfold f_X3_rest
  refine g_eqL (lv' := [(0, .ref (ad 3)), (1, .int x1)]) rfl ?_
  refine g_aload_n E dX3_rest_0 0 rfl ?_
  refine g_iload_n E dX3_rest_1 1 rfl ?_
  refine g_iconst E (v := 0) dX3_rest_2 (by decide) ?_
  refine g_iconst E (v := 0) dX3_rest_3 (by decide) ?_
  refine g_cVv E [.int x1, .int 0, .int 0] rfl (c_X3_set hap hN x1 0 0 s) (hN 3 (by decide)) (by decide) rfl rfl mi_X3_set msl_X3_set mw_X3_set rfl ml_3_19 ⟨Nat.le_of_ble_eq_true rfl, Nat.le_of_ble_eq_true rfl⟩ (Nat.le_of_ble_eq_true rfl) dX3_rest_4 (fun s1 => ?_)
  refine g_aload_n E dX3_rest_7 0 rfl ?_
  refine g_iload_n E dX3_rest_8 1 rfl ?_
  refine g_iconst E (v := 1) dX3_rest_9 (by decide) ?_
  refine g_iconst E (v := (-1)) dX3_rest_10 (by decide) ?_
  refine g_cVv E [.int x1, .int 1, .int (-1)] rfl (c_X3_set hap hN x1 1 ((-1)) s1) (hN 3 (by decide)) (by decide) rfl rfl mi_X3_set msl_X3_set mw_X3_set rfl ml_3_19 ⟨Nat.le_of_ble_eq_true rfl, Nat.le_of_ble_eq_true rfl⟩ (Nat.le_of_ble_eq_true rfl) dX3_rest_11 (fun s2 => ?_)
  refine g_aload_n E dX3_rest_14 0 rfl ?_
  refine g_iload_n E dX3_rest_15 1 rfl ?_
  refine g_iconst E (v := 3) dX3_rest_16 (by decide) ?_
  refine g_iconst E (v := (-1)) dX3_rest_17 (by decide) ?_
  refine g_cVv E [.int x1, .int 3, .int (-1)] rfl (c_X3_set hap hN x1 3 ((-1)) s2) (hN 3 (by decide)) (by decide) rfl rfl mi_X3_set msl_X3_set mw_X3_set rfl ml_3_19 ⟨Nat.le_of_ble_eq_true rfl, Nat.le_of_ble_eq_true rfl⟩ (Nat.le_of_ble_eq_true rfl) dX3_rest_18 (fun s3 => ?_)
  refine g_aload_n E dX3_rest_21 0 rfl ?_
  refine g_iload_n E dX3_rest_22 1 rfl ?_
  refine g_iconst E (v := 4) dX3_rest_23 (by decide) ?_
  refine g_iconst E (v := (-1)) dX3_rest_24 (by decide) ?_
  refine g_cVv E [.int x1, .int 4, .int (-1)] rfl (c_X3_set hap hN x1 4 ((-1)) s3) (hN 3 (by decide)) (by decide) rfl rfl mi_X3_set msl_X3_set mw_X3_set rfl ml_3_19 ⟨Nat.le_of_ble_eq_true rfl, Nat.le_of_ble_eq_true rfl⟩ (Nat.le_of_ble_eq_true rfl) dX3_rest_25 (fun s4 => ?_)
  exact g_vret E dX3_rest_28
end

theorem dX3_path_0 : decode cX3_path 0 = .ok (.iload_n 2, 1) := by decide +kernel
theorem dX3_path_1 : decode cX3_path 1 = .ok (.ifCond .lt 21, 3) := by decide +kernel
theorem dX3_path_4 : decode cX3_path 4 = .ok (.iload_n 2, 1) := by decide +kernel
theorem dX3_path_5 : decode cX3_path 5 = .ok (.bipush 122, 2) := by decide +kernel
theorem dX3_path_7 : decode cX3_path 7 = .ok (.if_icmp .ge 15, 3) := by decide +kernel
theorem dX3_path_10 : decode cX3_path 10 = .ok (.aload_n 0, 1) := by decide +kernel
theorem dX3_path_11 : decode cX3_path 11 = .ok (.iload_n 1, 1) := by decide +kernel
theorem dX3_path_12 : decode cX3_path 12 = .ok (.bipush 6, 2) := by decide +kernel
theorem dX3_path_14 : decode cX3_path 14 = .ok (.iload_n 2, 1) := by decide +kernel
theorem dX3_path_15 : decode cX3_path 15 = .ok (.iadd, 1) := by decide +kernel
theorem dX3_path_16 : decode cX3_path 16 = .ok (.invokevirtual 37, 3) := by decide +kernel
theorem dX3_path_19 : decode cX3_path 19 = .ok (.goto 4, 3) := by decide +kernel
theorem dX3_path_22 : decode cX3_path 22 = .ok (.iconst (-1), 1) := by decide +kernel
theorem dX3_path_23 : decode cX3_path 23 = .ok (.ireturn, 1) := by decide +kernel
def f_X3_path (ln : Nat → Nat) (x1 : Int32) (x2 : Int32) (s : dr_S) : Option (Int32 × dr_S) := (if x2 < 0 then some ((-1), s) else (if ((122 : Int32) ≤ x2 : Prop) then some ((-1), s) else dr_bnd (f_X3_get ln x1 ((6 + x2)) s) (fun r2 s1 => some (r2, s1))))
section
variable {p : Program} {l : Launch} {e : Env} {s0 : State} {m : MethodId} {args : Array Value} {below : List Frame} {meth : Method} {c : Code} {A : Nat → Prop} {D : va_G} {cI cZ : ClassId} {ad ln : Nat → Nat} {L : List Nat}
set_option maxHeartbeats 4000000 in
set_option maxRecDepth 20000 in
theorem c_X3_path (hap : dr_ap ad L) (hN : ∀ x ∈ nd_3, x ∈ L) (x1 : Int32) (x2 : Int32) (s : dr_S) : dr_Mi l D cI cZ ad ln L yX3_path cX3_path 3 (some .int) 2 [.ref (ad 3), .int x1, .int x2] s (f_X3_path ln x1 x2 s) := by
  refine dr_meti (own := RX3) (by decide) rfl (Nat.le_of_ble_eq_true rfl) hap ?_
  intro p e s0 m args below meth c A E
  unfold f_X3_path
  refine g_eqL (lv' := [(0, .ref (ad 3)), (1, .int x1), (2, .int x2)]) rfl ?_
  refine g_iload_n E dX3_path_0 2 rfl ?_
  refine g_if_lt E 22 dX3_path_1 (by decide) ?_ ?_
  · refine g_iconst E (v := (-1)) dX3_path_22 (by decide) ?_
    exact g_iret E dX3_path_23
  · refine g_iload_n E dX3_path_4 2 rfl ?_
    refine g_bipush E (v := 122) dX3_path_5 (by decide) ?_
    refine g_icmp_ge E 22 dX3_path_7 (by decide) ?_ ?_
    · refine g_iconst E (v := (-1)) dX3_path_22 (by decide) ?_
      exact g_iret E dX3_path_23
    · refine g_aload_n E dX3_path_10 0 rfl ?_
      refine g_iload_n E dX3_path_11 1 rfl ?_
      refine g_bipush E (v := 6) dX3_path_12 (by decide) ?_
      refine g_iload_n E dX3_path_14 2 rfl ?_
      refine g_iadd E dX3_path_15 ?_
      refine g_cVi E [.int x1, .int (6 + x2)] rfl (c_X3_get hap hN x1 ((6 + x2)) s) (hN 3 (by decide)) (by decide) rfl rfl mi_X3_get msl_X3_get mw_X3_get rfl ml_3_37 ⟨Nat.le_of_ble_eq_true rfl, Nat.le_of_ble_eq_true rfl⟩ (Nat.le_of_ble_eq_true rfl) dX3_path_16 (fun r2 s1 => ?_)
      refine g_goto E 23 dX3_path_19 (by decide) ?_
      exact g_iret E dX3_path_23
end

theorem dX3_keepPath_0 : decode cX3_keepPath 0 = .ok (.iload_n 2, 1) := by decide +kernel
theorem dX3_keepPath_1 : decode cX3_keepPath 1 = .ok (.ifCond .lt 19, 3) := by decide +kernel
theorem dX3_keepPath_4 : decode cX3_keepPath 4 = .ok (.iload_n 2, 1) := by decide +kernel
theorem dX3_keepPath_5 : decode cX3_keepPath 5 = .ok (.bipush 122, 2) := by decide +kernel
theorem dX3_keepPath_7 : decode cX3_keepPath 7 = .ok (.if_icmp .ge 13, 3) := by decide +kernel
theorem dX3_keepPath_10 : decode cX3_keepPath 10 = .ok (.aload_n 0, 1) := by decide +kernel
theorem dX3_keepPath_11 : decode cX3_keepPath 11 = .ok (.iload_n 1, 1) := by decide +kernel
theorem dX3_keepPath_12 : decode cX3_keepPath 12 = .ok (.bipush 6, 2) := by decide +kernel
theorem dX3_keepPath_14 : decode cX3_keepPath 14 = .ok (.iload_n 2, 1) := by decide +kernel
theorem dX3_keepPath_15 : decode cX3_keepPath 15 = .ok (.iadd, 1) := by decide +kernel
theorem dX3_keepPath_16 : decode cX3_keepPath 16 = .ok (.iload_n 3, 1) := by decide +kernel
theorem dX3_keepPath_17 : decode cX3_keepPath 17 = .ok (.invokevirtual 19, 3) := by decide +kernel
theorem dX3_keepPath_20 : decode cX3_keepPath 20 = .ok (.return_, 1) := by decide +kernel
def f_X3_keepPath (ln : Nat → Nat) (x1 : Int32) (x2 : Int32) (x3 : Int32) (s : dr_S) : Option (Int32 × dr_S) := (if x2 < 0 then some (0, s) else (if ((122 : Int32) ≤ x2 : Prop) then some (0, s) else dr_bndv (f_X3_set ln x1 ((6 + x2)) x3 s) (fun s1 => some (0, s1))))
section
variable {p : Program} {l : Launch} {e : Env} {s0 : State} {m : MethodId} {args : Array Value} {below : List Frame} {meth : Method} {c : Code} {A : Nat → Prop} {D : va_G} {cI cZ : ClassId} {ad ln : Nat → Nat} {L : List Nat}
set_option maxHeartbeats 4000000 in
set_option maxRecDepth 20000 in
theorem c_X3_keepPath (hap : dr_ap ad L) (hN : ∀ x ∈ nd_3, x ∈ L) (x1 : Int32) (x2 : Int32) (x3 : Int32) (s : dr_S) : dr_Mv l D cI cZ ad ln L yX3_keepPath cX3_keepPath 4 2 [.ref (ad 3), .int x1, .int x2, .int x3] s (f_X3_keepPath ln x1 x2 x3 s) := by
  refine dr_metv (own := RX3) (by decide) rfl (Nat.le_of_ble_eq_true rfl) hap ?_
  intro p e s0 m args below meth c A E
  unfold f_X3_keepPath
  refine g_eqL (lv' := [(0, .ref (ad 3)), (1, .int x1), (2, .int x2), (3, .int x3)]) rfl ?_
  refine g_iload_n E dX3_keepPath_0 2 rfl ?_
  refine g_if_lt E 20 dX3_keepPath_1 (by decide) ?_ ?_
  · exact g_vret E dX3_keepPath_20
  · refine g_iload_n E dX3_keepPath_4 2 rfl ?_
    refine g_bipush E (v := 122) dX3_keepPath_5 (by decide) ?_
    refine g_icmp_ge E 20 dX3_keepPath_7 (by decide) ?_ ?_
    · exact g_vret E dX3_keepPath_20
    · refine g_aload_n E dX3_keepPath_10 0 rfl ?_
      refine g_iload_n E dX3_keepPath_11 1 rfl ?_
      refine g_bipush E (v := 6) dX3_keepPath_12 (by decide) ?_
      refine g_iload_n E dX3_keepPath_14 2 rfl ?_
      refine g_iadd E dX3_keepPath_15 ?_
      refine g_iload_n E dX3_keepPath_16 3 rfl ?_
      refine g_cVv E [.int x1, .int (6 + x2), .int x3] rfl (c_X3_set hap hN x1 ((6 + x2)) x3 s) (hN 3 (by decide)) (by decide) rfl rfl mi_X3_set msl_X3_set mw_X3_set rfl ml_3_19 ⟨Nat.le_of_ble_eq_true rfl, Nat.le_of_ble_eq_true rfl⟩ (Nat.le_of_ble_eq_true rfl) dX3_keepPath_17 (fun s1 => ?_)
      exact g_vret E dX3_keepPath_20
end

theorem dX4_widthFor_0 : decode cX4_widthFor 0 = .ok (.iconst 5, 1) := by decide +kernel
theorem dX4_widthFor_1 : decode cX4_widthFor 1 = .ok (.iconst 2, 1) := by decide +kernel
theorem dX4_widthFor_2 : decode cX4_widthFor 2 = .ok (.iload_n 0, 1) := by decide +kernel
theorem dX4_widthFor_3 : decode cX4_widthFor 3 = .ok (.imul, 1) := by decide +kernel
theorem dX4_widthFor_4 : decode cX4_widthFor 4 = .ok (.iconst 1, 1) := by decide +kernel
theorem dX4_widthFor_5 : decode cX4_widthFor 5 = .ok (.iadd, 1) := by decide +kernel
theorem dX4_widthFor_6 : decode cX4_widthFor 6 = .ok (.iadd, 1) := by decide +kernel
theorem dX4_widthFor_7 : decode cX4_widthFor 7 = .ok (.iconst 2, 1) := by decide +kernel
theorem dX4_widthFor_8 : decode cX4_widthFor 8 = .ok (.iload_n 0, 1) := by decide +kernel
theorem dX4_widthFor_9 : decode cX4_widthFor 9 = .ok (.imul, 1) := by decide +kernel
theorem dX4_widthFor_10 : decode cX4_widthFor 10 = .ok (.iconst 2, 1) := by decide +kernel
theorem dX4_widthFor_11 : decode cX4_widthFor 11 = .ok (.iadd, 1) := by decide +kernel
theorem dX4_widthFor_12 : decode cX4_widthFor 12 = .ok (.iadd, 1) := by decide +kernel
theorem dX4_widthFor_13 : decode cX4_widthFor 13 = .ok (.ireturn, 1) := by decide +kernel
def f_X4_widthFor (ln : Nat → Nat) (x0 : Int32) (s : dr_S) : Option (Int32 × dr_S) := some (((5 + ((2 * x0) + 1)) + ((2 * x0) + 2)), s)
section
variable {p : Program} {l : Launch} {e : Env} {s0 : State} {m : MethodId} {args : Array Value} {below : List Frame} {meth : Method} {c : Code} {A : Nat → Prop} {D : va_G} {cI cZ : ClassId} {ad ln : Nat → Nat} {L : List Nat}
set_option maxHeartbeats 4000000 in
set_option maxRecDepth 20000 in
theorem c_X4_widthFor (hap : dr_ap ad L) (hN : ∀ x ∈ nd_4, x ∈ L) (x0 : Int32) (s : dr_S) : dr_Mi l D cI cZ ad ln L yX4_widthFor cX4_widthFor 1 (some .int) 0 [.int x0] s (f_X4_widthFor ln x0 s) := by
  refine dr_meti (own := RX4) (by decide) rfl (Nat.le_of_ble_eq_true rfl) hap ?_
  intro p e s0 m args below meth c A E
  unfold f_X4_widthFor
  refine g_eqL (lv' := [(0, .int x0)]) rfl ?_
  refine g_iconst E (v := 5) dX4_widthFor_0 (by decide) ?_
  refine g_iconst E (v := 2) dX4_widthFor_1 (by decide) ?_
  refine g_iload_n E dX4_widthFor_2 0 rfl ?_
  refine g_imul E dX4_widthFor_3 ?_
  refine g_iconst E (v := 1) dX4_widthFor_4 (by decide) ?_
  refine g_iadd E dX4_widthFor_5 ?_
  refine g_iadd E dX4_widthFor_6 ?_
  refine g_iconst E (v := 2) dX4_widthFor_7 (by decide) ?_
  refine g_iload_n E dX4_widthFor_8 0 rfl ?_
  refine g_imul E dX4_widthFor_9 ?_
  refine g_iconst E (v := 2) dX4_widthFor_10 (by decide) ?_
  refine g_iadd E dX4_widthFor_11 ?_
  refine g_iadd E dX4_widthFor_12 ?_
  exact g_iret E dX4_widthFor_13
end

theorem dX4_cellsFor_0 : decode cX4_cellsFor 0 = .ok (.sipush 260, 3) := by decide +kernel
theorem dX4_cellsFor_3 : decode cX4_cellsFor 3 = .ok (.iload_n 0, 1) := by decide +kernel
theorem dX4_cellsFor_4 : decode cX4_cellsFor 4 = .ok (.invokestatic 23, 3) := by decide +kernel
theorem dX4_cellsFor_7 : decode cX4_cellsFor 7 = .ok (.imul, 1) := by decide +kernel
theorem dX4_cellsFor_8 : decode cX4_cellsFor 8 = .ok (.iconst 2, 1) := by decide +kernel
theorem dX4_cellsFor_9 : decode cX4_cellsFor 9 = .ok (.iadd, 1) := by decide +kernel
theorem dX4_cellsFor_10 : decode cX4_cellsFor 10 = .ok (.ireturn, 1) := by decide +kernel
def f_X4_cellsFor (ln : Nat → Nat) (x0 : Int32) (s : dr_S) : Option (Int32 × dr_S) := dr_bnd (f_X4_widthFor ln x0 s) (fun r2 s1 => some (((260 * r2) + 2), s1))
section
variable {p : Program} {l : Launch} {e : Env} {s0 : State} {m : MethodId} {args : Array Value} {below : List Frame} {meth : Method} {c : Code} {A : Nat → Prop} {D : va_G} {cI cZ : ClassId} {ad ln : Nat → Nat} {L : List Nat}
set_option maxHeartbeats 4000000 in
set_option maxRecDepth 20000 in
theorem c_X4_cellsFor (hap : dr_ap ad L) (hN : ∀ x ∈ nd_4, x ∈ L) (x0 : Int32) (s : dr_S) : dr_Mi l D cI cZ ad ln L yX4_cellsFor cX4_cellsFor 1 (some .int) 1 [.int x0] s (f_X4_cellsFor ln x0 s) := by
  refine dr_meti (own := RX4) (by decide) rfl (Nat.le_of_ble_eq_true rfl) hap ?_
  intro p e s0 m args below meth c A E
  unfold f_X4_cellsFor
  refine g_eqL (lv' := [(0, .int x0)]) rfl ?_
  refine g_sipush E (v := 260) dX4_cellsFor_0 (by decide) ?_
  refine g_iload_n E dX4_cellsFor_3 0 rfl ?_
  refine g_cSi E [.int x0] rfl (c_X4_widthFor hap hN x0 s) ms_X4_widthFor mw_X4_widthFor rfl ml_4_23 ⟨Nat.le_of_ble_eq_true rfl, Nat.le_of_ble_eq_true rfl⟩ (Nat.le_of_ble_eq_true rfl) dX4_cellsFor_4 (fun r2 s1 => ?_)
  refine g_imul E dX4_cellsFor_7 ?_
  refine g_iconst E (v := 2) dX4_cellsFor_8 (by decide) ?_
  refine g_iadd E dX4_cellsFor_9 ?_
  exact g_iret E dX4_cellsFor_10
end

theorem dX4_copyOf_0 : decode cX4_copyOf 0 = .ok (.sipush 256, 3) := by decide +kernel
theorem dX4_copyOf_3 : decode cX4_copyOf 3 = .ok (.iload_n 0, 1) := by decide +kernel
theorem dX4_copyOf_4 : decode cX4_copyOf 4 = .ok (.iadd, 1) := by decide +kernel
theorem dX4_copyOf_5 : decode cX4_copyOf 5 = .ok (.ireturn, 1) := by decide +kernel
def f_X4_copyOf (ln : Nat → Nat) (x0 : Int32) (s : dr_S) : Option (Int32 × dr_S) := some ((256 + x0), s)
section
variable {p : Program} {l : Launch} {e : Env} {s0 : State} {m : MethodId} {args : Array Value} {below : List Frame} {meth : Method} {c : Code} {A : Nat → Prop} {D : va_G} {cI cZ : ClassId} {ad ln : Nat → Nat} {L : List Nat}
set_option maxHeartbeats 4000000 in
set_option maxRecDepth 20000 in
theorem c_X4_copyOf (hap : dr_ap ad L) (hN : ∀ x ∈ nd_4, x ∈ L) (x0 : Int32) (s : dr_S) : dr_Mi l D cI cZ ad ln L yX4_copyOf cX4_copyOf 1 (some .int) 0 [.int x0] s (f_X4_copyOf ln x0 s) := by
  refine dr_meti (own := RX4) (by decide) rfl (Nat.le_of_ble_eq_true rfl) hap ?_
  intro p e s0 m args below meth c A E
  unfold f_X4_copyOf
  refine g_eqL (lv' := [(0, .int x0)]) rfl ?_
  refine g_sipush E (v := 256) dX4_copyOf_0 (by decide) ?_
  refine g_iload_n E dX4_copyOf_3 0 rfl ?_
  refine g_iadd E dX4_copyOf_4 ?_
  exact g_iret E dX4_copyOf_5
end

theorem dX4_covers_0 : decode cX4_covers 0 = .ok (.aload_n 0, 1) := by decide +kernel
theorem dX4_covers_1 : decode cX4_covers 1 = .ok (.iload_n 1, 1) := by decide +kernel
theorem dX4_covers_2 : decode cX4_covers 2 = .ok (.iconst 2, 1) := by decide +kernel
theorem dX4_covers_3 : decode cX4_covers 3 = .ok (.invokevirtual 58, 3) := by decide +kernel
theorem dX4_covers_6 : decode cX4_covers 6 = .ok (.istore_n 3, 1) := by decide +kernel
theorem dX4_covers_7 : decode cX4_covers 7 = .ok (.iload_n 3, 1) := by decide +kernel
theorem dX4_covers_8 : decode cX4_covers 8 = .ok (.iconst (-1), 1) := by decide +kernel
theorem dX4_covers_9 : decode cX4_covers 9 = .ok (.if_icmp .eq 15, 3) := by decide +kernel
theorem dX4_covers_12 : decode cX4_covers 12 = .ok (.aload_n 0, 1) := by decide +kernel
theorem dX4_covers_13 : decode cX4_covers 13 = .ok (.getfield 15, 3) := by decide +kernel
theorem dX4_covers_16 : decode cX4_covers 16 = .ok (.iload_n 3, 1) := by decide +kernel
theorem dX4_covers_17 : decode cX4_covers 17 = .ok (.iload_n 2, 1) := by decide +kernel
theorem dX4_covers_18 : decode cX4_covers 18 = .ok (.invokevirtual 69, 3) := by decide +kernel
theorem dX4_covers_21 : decode cX4_covers 21 = .ok (.ifCond .ne 7, 3) := by decide +kernel
theorem dX4_covers_24 : decode cX4_covers 24 = .ok (.iconst 1, 1) := by decide +kernel
theorem dX4_covers_25 : decode cX4_covers 25 = .ok (.goto 4, 3) := by decide +kernel
theorem dX4_covers_28 : decode cX4_covers 28 = .ok (.iconst 0, 1) := by decide +kernel
theorem dX4_covers_29 : decode cX4_covers 29 = .ok (.ireturn, 1) := by decide +kernel
def f_X4_covers (ln : Nat → Nat) (x1 : Int32) (x2 : Int32) (s : dr_S) : Option (Int32 × dr_S) := dr_bnd (f_X4_get ln x1 2 s) (fun r2 s1 => (if r2 = (-1) then some (1, s1) else dr_bnd (f_X5_isAhead ln r2 x2 s1) (fun r4 s3 => (if r4 = 0 then some (1, s3) else some (0, s3)))))
section
variable {p : Program} {l : Launch} {e : Env} {s0 : State} {m : MethodId} {args : Array Value} {below : List Frame} {meth : Method} {c : Code} {A : Nat → Prop} {D : va_G} {cI cZ : ClassId} {ad ln : Nat → Nat} {L : List Nat}
set_option maxHeartbeats 4000000 in
set_option maxRecDepth 20000 in
theorem c_X4_covers (hap : dr_ap ad L) (hN : ∀ x ∈ nd_4, x ∈ L) (x1 : Int32) (x2 : Int32) (s : dr_S) : dr_Mi l D cI cZ ad ln L yX4_covers cX4_covers 4 (some .boolean) 2 [.ref (ad 4), .int x1, .int x2] s (f_X4_covers ln x1 x2 s) := by
  refine dr_meti (own := RX4) (by decide) rfl (Nat.le_of_ble_eq_true rfl) hap ?_
  intro p e s0 m args below meth c A E
  unfold f_X4_covers
  refine g_eqL (lv' := [(0, .ref (ad 4)), (1, .int x1), (2, .int x2)]) rfl ?_
  refine g_aload_n E dX4_covers_0 0 rfl ?_
  refine g_iload_n E dX4_covers_1 1 rfl ?_
  refine g_iconst E (v := 2) dX4_covers_2 (by decide) ?_
  refine g_cVi E [.int x1, .int 2] rfl (c_X4_get hap hN x1 2 s) (hN 4 (by decide)) (by decide) rfl rfl mi_X4_get msl_X4_get mw_X4_get rfl ml_4_58 ⟨Nat.le_of_ble_eq_true rfl, Nat.le_of_ble_eq_true rfl⟩ (Nat.le_of_ble_eq_true rfl) dX4_covers_3 (fun r2 s1 => ?_)
  refine g_istore_n E (lv' := [(3, .int r2), (0, .ref (ad 4)), (1, .int x1), (2, .int x2)]) dX4_covers_6 (by decide) rfl ?_
  refine g_iload_n E dX4_covers_7 0 rfl ?_
  refine g_iconst E (v := (-1)) dX4_covers_8 (by decide) ?_
  refine g_icmp_eq E 24 dX4_covers_9 (by decide) ?_ ?_
  · refine g_iconst E (v := 1) dX4_covers_24 (by decide) ?_
    refine g_goto E 29 dX4_covers_25 (by decide) ?_
    exact g_zret E dX4_covers_29 (Or.inr rfl)
  · refine g_aload_n E dX4_covers_12 1 rfl ?_
    refine gg_4_15 E (hN 4 (by decide)) dX4_covers_13 ?_
    refine g_iload_n E dX4_covers_16 0 rfl ?_
    refine g_iload_n E dX4_covers_17 3 rfl ?_
    refine g_cVi E [.int r2, .int x2] rfl (c_X5_isAhead hap (fun x h => hN x (ns_5_4 x h)) r2 x2 s1) (hN 5 (by decide)) (by decide) rfl rfl mi_X5_isAhead msl_X5_isAhead mw_X5_isAhead rfl ml_4_69 ⟨Nat.le_of_ble_eq_true rfl, Nat.le_of_ble_eq_true rfl⟩ (Nat.le_of_ble_eq_true rfl) dX4_covers_18 (fun r4 s3 => ?_)
    refine g_if_ne E 28 dX4_covers_21 (by decide) ?_ ?_
    · refine g_iconst E (v := 0) dX4_covers_28 (by decide) ?_
      exact g_zret E dX4_covers_29 (Or.inl rfl)
    · refine g_iconst E (v := 1) dX4_covers_24 (by decide) ?_
      refine g_goto E 29 dX4_covers_25 (by decide) ?_
      exact g_zret E dX4_covers_29 (Or.inr rfl)
end

theorem dX4_wayOf_0 : decode cX4_wayOf 0 = .ok (.aload_n 0, 1) := by decide +kernel
theorem dX4_wayOf_1 : decode cX4_wayOf 1 = .ok (.iload_n 1, 1) := by decide +kernel
theorem dX4_wayOf_2 : decode cX4_wayOf 2 = .ok (.iconst 1, 1) := by decide +kernel
theorem dX4_wayOf_3 : decode cX4_wayOf 3 = .ok (.invokevirtual 58, 3) := by decide +kernel
theorem dX4_wayOf_6 : decode cX4_wayOf 6 = .ok (.istore_n 3, 1) := by decide +kernel
theorem dX4_wayOf_7 : decode cX4_wayOf 7 = .ok (.iload_n 1, 1) := by decide +kernel
theorem dX4_wayOf_8 : decode cX4_wayOf 8 = .ok (.aload_n 0, 1) := by decide +kernel
theorem dX4_wayOf_9 : decode cX4_wayOf 9 = .ok (.getfield 27, 3) := by decide +kernel
theorem dX4_wayOf_12 : decode cX4_wayOf 12 = .ok (.imul, 1) := by decide +kernel
theorem dX4_wayOf_13 : decode cX4_wayOf 13 = .ok (.iconst 5, 1) := by decide +kernel
theorem dX4_wayOf_14 : decode cX4_wayOf 14 = .ok (.iadd, 1) := by decide +kernel
theorem dX4_wayOf_15 : decode cX4_wayOf 15 = .ok (.istore 4, 2) := by decide +kernel
theorem dX4_wayOf_17 : decode cX4_wayOf 17 = .ok (.iconst 0, 1) := by decide +kernel
theorem dX4_wayOf_18 : decode cX4_wayOf 18 = .ok (.istore 5, 2) := by decide +kernel
theorem dX4_wayOf_20 : decode cX4_wayOf 20 = .ok (.iload 5, 2) := by decide +kernel
theorem dX4_wayOf_22 : decode cX4_wayOf 22 = .ok (.iload_n 3, 1) := by decide +kernel
theorem dX4_wayOf_23 : decode cX4_wayOf 23 = .ok (.if_icmp .ge 35, 3) := by decide +kernel
theorem dX4_wayOf_26 : decode cX4_wayOf 26 = .ok (.aload_n 0, 1) := by decide +kernel
theorem dX4_wayOf_27 : decode cX4_wayOf 27 = .ok (.getfield 15, 3) := by decide +kernel
theorem dX4_wayOf_30 : decode cX4_wayOf 30 = .ok (.aload_n 0, 1) := by decide +kernel
theorem dX4_wayOf_31 : decode cX4_wayOf 31 = .ok (.getfield 9, 3) := by decide +kernel
theorem dX4_wayOf_34 : decode cX4_wayOf 34 = .ok (.iload 4, 2) := by decide +kernel
theorem dX4_wayOf_36 : decode cX4_wayOf 36 = .ok (.iload 5, 2) := by decide +kernel
theorem dX4_wayOf_38 : decode cX4_wayOf 38 = .ok (.iadd, 1) := by decide +kernel
theorem dX4_wayOf_39 : decode cX4_wayOf 39 = .ok (.invokevirtual 49, 3) := by decide +kernel
theorem dX4_wayOf_42 : decode cX4_wayOf 42 = .ok (.iload_n 2, 1) := by decide +kernel
theorem dX4_wayOf_43 : decode cX4_wayOf 43 = .ok (.invokevirtual 69, 3) := by decide +kernel
theorem dX4_wayOf_46 : decode cX4_wayOf 46 = .ok (.ifCond .ne 6, 3) := by decide +kernel
theorem dX4_wayOf_49 : decode cX4_wayOf 49 = .ok (.iload 5, 2) := by decide +kernel
theorem dX4_wayOf_51 : decode cX4_wayOf 51 = .ok (.ireturn, 1) := by decide +kernel
theorem dX4_wayOf_52 : decode cX4_wayOf 52 = .ok (.iinc 5 1, 3) := by decide +kernel
theorem dX4_wayOf_55 : decode cX4_wayOf 55 = .ok (.goto (-35), 3) := by decide +kernel
theorem dX4_wayOf_58 : decode cX4_wayOf 58 = .ok (.iload_n 3, 1) := by decide +kernel
theorem dX4_wayOf_59 : decode cX4_wayOf 59 = .ok (.ireturn, 1) := by decide +kernel
def f_X4_wayOf_p20 (ln : Nat → Nat) : Nat → Int32 → Int32 → Int32 → Int32 → dr_S → Option (Int32 × dr_S)
  | 0, _, _, _, _, _ => none
  | n + 1, x2, x3, x4, x5, s => (if x3 ≤ x5 then some (x3, s) else dr_bnd (f_X2_get ln ((x4 + x5)) s) (fun r5 s4 => dr_bnd (f_X5_isAhead ln r5 x2 s4) (fun r7 s6 => (if r7 = 0 then some (x5, s6) else dr_let (x5 + 1) (fun y8 => (f_X4_wayOf_p20 ln n x2 x3 x4 y8 s6))))))
def f_X4_wayOf (ln : Nat → Nat) (x1 : Int32) (x2 : Int32) (s : dr_S) : Option (Int32 × dr_S) := dr_bnd (f_X4_get ln x1 1 s) (fun r2 s1 => dr_let ((x1 * (s1.2 403)) + 5) (fun y3 => (f_X4_wayOf_p20 ln dr_N x2 r2 y3 0 s1)))
section
variable {p : Program} {l : Launch} {e : Env} {s0 : State} {m : MethodId} {args : Array Value} {below : List Frame} {meth : Method} {c : Code} {A : Nat → Prop} {D : va_G} {cI cZ : ClassId} {ad ln : Nat → Nat} {L : List Nat}
set_option maxHeartbeats 4000000 in
set_option maxRecDepth 20000 in
theorem w_X4_wayOf_p20 (E : dr_E p (dr_rm 2) s0 m args meth c 0 0 A s0.heap D cI cZ ad L cX4_wayOf 6 RX4 (some .int)) (hap : dr_ap ad L) (hN : ∀ x ∈ nd_4, x ∈ L) : ∀ (n : Nat) (x2 : Int32) (x3 : Int32) (x4 : Int32) (x5 : Int32) (s : dr_S), dr_G p l e (dr_rm 2) s0 m args below meth c 0 0 A s0.heap D cI cZ ad ln L 6 (dr_Zi D cI cZ ad ln L A below args s0 0 0) 20 [(0, .ref (ad 4)), (2, .int x2), (3, .int x3), (4, .int x4), (5, .int x5)] [] s (f_X4_wayOf_p20 ln n x2 x3 x4 x5 s) := by
  intro n
  induction n with
  | zero =>
    intro x2 x3 x4 x5 s
    rw [f_X4_wayOf_p20]
    exact g_none
  | succ n hkb20 =>
    intro x2 x3 x4 x5 s
    rw [f_X4_wayOf_p20]
    refine g_iload E dX4_wayOf_20 4 rfl ?_
    refine g_iload_n E dX4_wayOf_22 2 rfl ?_
    refine g_icmp_ge E 58 dX4_wayOf_23 (by decide) ?_ ?_
    · refine g_iload_n E dX4_wayOf_58 2 rfl ?_
      exact g_iret E dX4_wayOf_59
    · refine g_aload_n E dX4_wayOf_26 0 rfl ?_
      refine gg_4_15 E (hN 4 (by decide)) dX4_wayOf_27 ?_
      refine g_aload_n E dX4_wayOf_30 0 rfl ?_
      refine gg_4_9 E (hN 4 (by decide)) dX4_wayOf_31 ?_
      refine g_iload E dX4_wayOf_34 3 rfl ?_
      refine g_iload E dX4_wayOf_36 4 rfl ?_
      refine g_iadd E dX4_wayOf_38 ?_
      refine g_cVi E [.int (x4 + x5)] rfl (c_X2_get hap (fun x h => hN x (ns_2_4 x h)) ((x4 + x5)) s) (hN 2 (by decide)) (by decide) rfl rfl mi_X2_get msl_X2_get mw_X2_get rfl ml_4_49 ⟨Nat.le_of_ble_eq_true rfl, Nat.le_of_ble_eq_true rfl⟩ (Nat.le_of_ble_eq_true rfl) dX4_wayOf_39 (fun r5 s4 => ?_)
      refine g_iload_n E dX4_wayOf_42 1 rfl ?_
      refine g_cVi E [.int r5, .int x2] rfl (c_X5_isAhead hap (fun x h => hN x (ns_5_4 x h)) r5 x2 s4) (hN 5 (by decide)) (by decide) rfl rfl mi_X5_isAhead msl_X5_isAhead mw_X5_isAhead rfl ml_4_69 ⟨Nat.le_of_ble_eq_true rfl, Nat.le_of_ble_eq_true rfl⟩ (Nat.le_of_ble_eq_true rfl) dX4_wayOf_43 (fun r7 s6 => ?_)
      refine g_if_ne E 52 dX4_wayOf_46 (by decide) ?_ ?_
      · refine g_iinc E (lv' := []) (lv'' := fun y8 => [(5, .int y8), (0, .ref (ad 4)), (2, .int x2), (3, .int x3), (4, .int x4)]) (v := 1) dX4_wayOf_52 4 rfl (by decide) (by decide) (fun _ => rfl) (fun y8 => ?_)
        refine g_goto E 20 dX4_wayOf_55 (by decide) ?_
        refine g_sub [1, 2, 3, 4, 0] rfl ?_
        exact hkb20 x2 x3 x4 y8 s6
      · refine g_iload E dX4_wayOf_49 4 rfl ?_
        exact g_iret E dX4_wayOf_51
set_option maxHeartbeats 4000000 in
set_option maxRecDepth 20000 in
theorem c_X4_wayOf (hap : dr_ap ad L) (hN : ∀ x ∈ nd_4, x ∈ L) (x1 : Int32) (x2 : Int32) (s : dr_S) : dr_Mi l D cI cZ ad ln L yX4_wayOf cX4_wayOf 6 (some .int) 2 [.ref (ad 4), .int x1, .int x2] s (f_X4_wayOf ln x1 x2 s) := by
  refine dr_meti (own := RX4) (by decide) rfl (Nat.le_of_ble_eq_true rfl) hap ?_
  intro p e s0 m args below meth c A E
  unfold f_X4_wayOf
  refine g_eqL (lv' := [(0, .ref (ad 4)), (1, .int x1), (2, .int x2)]) rfl ?_
  refine g_aload_n E dX4_wayOf_0 0 rfl ?_
  refine g_iload_n E dX4_wayOf_1 1 rfl ?_
  refine g_iconst E (v := 1) dX4_wayOf_2 (by decide) ?_
  refine g_cVi E [.int x1, .int 1] rfl (c_X4_get hap hN x1 1 s) (hN 4 (by decide)) (by decide) rfl rfl mi_X4_get msl_X4_get mw_X4_get rfl ml_4_58 ⟨Nat.le_of_ble_eq_true rfl, Nat.le_of_ble_eq_true rfl⟩ (Nat.le_of_ble_eq_true rfl) dX4_wayOf_3 (fun r2 s1 => ?_)
  refine g_istore_n E (lv' := [(3, .int r2), (0, .ref (ad 4)), (1, .int x1), (2, .int x2)]) dX4_wayOf_6 (by decide) rfl ?_
  refine g_iload_n E dX4_wayOf_7 2 rfl ?_
  refine g_aload_n E dX4_wayOf_8 1 rfl ?_
  refine gg_4_27 E (hN 4 (by decide)) dX4_wayOf_9 ?_
  refine g_imul E dX4_wayOf_12 ?_
  refine g_iconst E (v := 5) dX4_wayOf_13 (by decide) ?_
  refine g_iadd E dX4_wayOf_14 ?_
  refine g_let (fun y3 => ?_)
  refine g_istore E (lv' := [(4, .int y3), (3, .int r2), (0, .ref (ad 4)), (1, .int x1), (2, .int x2)]) dX4_wayOf_15 (by decide) rfl ?_
  refine g_iconst E (v := 0) dX4_wayOf_17 (by decide) ?_
  refine g_istore E (lv' := [(5, .int 0), (4, .int y3), (3, .int r2), (0, .ref (ad 4)), (1, .int x1), (2, .int x2)]) dX4_wayOf_18 (by decide) rfl ?_
  refine g_sub [3, 5, 2, 1, 0] rfl ?_
  exact w_X4_wayOf_p20 E hap hN dr_N x2 r2 y3 0 s1
end

theorem dX4_placeOf_0 : decode cX4_placeOf 0 = .ok (.aload_n 0, 1) := by decide +kernel
theorem dX4_placeOf_1 : decode cX4_placeOf 1 = .ok (.iload_n 1, 1) := by decide +kernel
theorem dX4_placeOf_2 : decode cX4_placeOf 2 = .ok (.iconst 1, 1) := by decide +kernel
theorem dX4_placeOf_3 : decode cX4_placeOf 3 = .ok (.invokevirtual 58, 3) := by decide +kernel
theorem dX4_placeOf_6 : decode cX4_placeOf 6 = .ok (.istore_n 3, 1) := by decide +kernel
theorem dX4_placeOf_7 : decode cX4_placeOf 7 = .ok (.iload_n 1, 1) := by decide +kernel
theorem dX4_placeOf_8 : decode cX4_placeOf 8 = .ok (.aload_n 0, 1) := by decide +kernel
theorem dX4_placeOf_9 : decode cX4_placeOf 9 = .ok (.getfield 27, 3) := by decide +kernel
theorem dX4_placeOf_12 : decode cX4_placeOf 12 = .ok (.imul, 1) := by decide +kernel
theorem dX4_placeOf_13 : decode cX4_placeOf 13 = .ok (.iconst 5, 1) := by decide +kernel
theorem dX4_placeOf_14 : decode cX4_placeOf 14 = .ok (.iadd, 1) := by decide +kernel
theorem dX4_placeOf_15 : decode cX4_placeOf 15 = .ok (.istore 4, 2) := by decide +kernel
theorem dX4_placeOf_17 : decode cX4_placeOf 17 = .ok (.iconst 0, 1) := by decide +kernel
theorem dX4_placeOf_18 : decode cX4_placeOf 18 = .ok (.istore 5, 2) := by decide +kernel
theorem dX4_placeOf_20 : decode cX4_placeOf 20 = .ok (.iload 5, 2) := by decide +kernel
theorem dX4_placeOf_22 : decode cX4_placeOf 22 = .ok (.iload_n 3, 1) := by decide +kernel
theorem dX4_placeOf_23 : decode cX4_placeOf 23 = .ok (.if_icmp .ge 28, 3) := by decide +kernel
theorem dX4_placeOf_26 : decode cX4_placeOf 26 = .ok (.aload_n 0, 1) := by decide +kernel
theorem dX4_placeOf_27 : decode cX4_placeOf 27 = .ok (.getfield 9, 3) := by decide +kernel
theorem dX4_placeOf_30 : decode cX4_placeOf 30 = .ok (.iload 4, 2) := by decide +kernel
theorem dX4_placeOf_32 : decode cX4_placeOf 32 = .ok (.iload 5, 2) := by decide +kernel
theorem dX4_placeOf_34 : decode cX4_placeOf 34 = .ok (.iadd, 1) := by decide +kernel
theorem dX4_placeOf_35 : decode cX4_placeOf 35 = .ok (.invokevirtual 49, 3) := by decide +kernel
theorem dX4_placeOf_38 : decode cX4_placeOf 38 = .ok (.iload_n 2, 1) := by decide +kernel
theorem dX4_placeOf_39 : decode cX4_placeOf 39 = .ok (.if_icmp .ne 6, 3) := by decide +kernel
theorem dX4_placeOf_42 : decode cX4_placeOf 42 = .ok (.iload 5, 2) := by decide +kernel
theorem dX4_placeOf_44 : decode cX4_placeOf 44 = .ok (.ireturn, 1) := by decide +kernel
theorem dX4_placeOf_45 : decode cX4_placeOf 45 = .ok (.iinc 5 1, 3) := by decide +kernel
theorem dX4_placeOf_48 : decode cX4_placeOf 48 = .ok (.goto (-28), 3) := by decide +kernel
theorem dX4_placeOf_51 : decode cX4_placeOf 51 = .ok (.iconst (-1), 1) := by decide +kernel
theorem dX4_placeOf_52 : decode cX4_placeOf 52 = .ok (.ireturn, 1) := by decide +kernel
def f_X4_placeOf_p20 (ln : Nat → Nat) : Nat → Int32 → Int32 → Int32 → Int32 → dr_S → Option (Int32 × dr_S)
  | 0, _, _, _, _, _ => none
  | n + 1, x2, x3, x4, x5, s => (if x3 ≤ x5 then some ((-1), s) else dr_bnd (f_X2_get ln ((x4 + x5)) s) (fun r5 s4 => (if r5 = x2 then some (x5, s4) else dr_let (x5 + 1) (fun y6 => (f_X4_placeOf_p20 ln n x2 x3 x4 y6 s4)))))
def f_X4_placeOf (ln : Nat → Nat) (x1 : Int32) (x2 : Int32) (s : dr_S) : Option (Int32 × dr_S) := dr_bnd (f_X4_get ln x1 1 s) (fun r2 s1 => dr_let ((x1 * (s1.2 403)) + 5) (fun y3 => (f_X4_placeOf_p20 ln dr_N x2 r2 y3 0 s1)))
section
variable {p : Program} {l : Launch} {e : Env} {s0 : State} {m : MethodId} {args : Array Value} {below : List Frame} {meth : Method} {c : Code} {A : Nat → Prop} {D : va_G} {cI cZ : ClassId} {ad ln : Nat → Nat} {L : List Nat}
set_option maxHeartbeats 4000000 in
set_option maxRecDepth 20000 in
theorem w_X4_placeOf_p20 (E : dr_E p (dr_rm 2) s0 m args meth c 0 0 A s0.heap D cI cZ ad L cX4_placeOf 6 RX4 (some .int)) (hap : dr_ap ad L) (hN : ∀ x ∈ nd_4, x ∈ L) : ∀ (n : Nat) (x2 : Int32) (x3 : Int32) (x4 : Int32) (x5 : Int32) (s : dr_S), dr_G p l e (dr_rm 2) s0 m args below meth c 0 0 A s0.heap D cI cZ ad ln L 6 (dr_Zi D cI cZ ad ln L A below args s0 0 0) 20 [(0, .ref (ad 4)), (2, .int x2), (3, .int x3), (4, .int x4), (5, .int x5)] [] s (f_X4_placeOf_p20 ln n x2 x3 x4 x5 s) := by
  intro n
  induction n with
  | zero =>
    intro x2 x3 x4 x5 s
    rw [f_X4_placeOf_p20]
    exact g_none
  | succ n hkb20 =>
    intro x2 x3 x4 x5 s
    rw [f_X4_placeOf_p20]
    refine g_iload E dX4_placeOf_20 4 rfl ?_
    refine g_iload_n E dX4_placeOf_22 2 rfl ?_
    refine g_icmp_ge E 51 dX4_placeOf_23 (by decide) ?_ ?_
    · refine g_iconst E (v := (-1)) dX4_placeOf_51 (by decide) ?_
      exact g_iret E dX4_placeOf_52
    · refine g_aload_n E dX4_placeOf_26 0 rfl ?_
      refine gg_4_9 E (hN 4 (by decide)) dX4_placeOf_27 ?_
      refine g_iload E dX4_placeOf_30 3 rfl ?_
      refine g_iload E dX4_placeOf_32 4 rfl ?_
      refine g_iadd E dX4_placeOf_34 ?_
      refine g_cVi E [.int (x4 + x5)] rfl (c_X2_get hap (fun x h => hN x (ns_2_4 x h)) ((x4 + x5)) s) (hN 2 (by decide)) (by decide) rfl rfl mi_X2_get msl_X2_get mw_X2_get rfl ml_4_49 ⟨Nat.le_of_ble_eq_true rfl, Nat.le_of_ble_eq_true rfl⟩ (Nat.le_of_ble_eq_true rfl) dX4_placeOf_35 (fun r5 s4 => ?_)
      refine g_iload_n E dX4_placeOf_38 1 rfl ?_
      refine g_icmp_ne E 45 dX4_placeOf_39 (by decide) ?_ ?_
      · refine g_iinc E (lv' := []) (lv'' := fun y6 => [(5, .int y6), (0, .ref (ad 4)), (2, .int x2), (3, .int x3), (4, .int x4)]) (v := 1) dX4_placeOf_45 4 rfl (by decide) (by decide) (fun _ => rfl) (fun y6 => ?_)
        refine g_goto E 20 dX4_placeOf_48 (by decide) ?_
        refine g_sub [1, 2, 3, 4, 0] rfl ?_
        exact hkb20 x2 x3 x4 y6 s4
      · refine g_iload E dX4_placeOf_42 4 rfl ?_
        exact g_iret E dX4_placeOf_44
set_option maxHeartbeats 4000000 in
set_option maxRecDepth 20000 in
theorem c_X4_placeOf (hap : dr_ap ad L) (hN : ∀ x ∈ nd_4, x ∈ L) (x1 : Int32) (x2 : Int32) (s : dr_S) : dr_Mi l D cI cZ ad ln L yX4_placeOf cX4_placeOf 6 (some .int) 2 [.ref (ad 4), .int x1, .int x2] s (f_X4_placeOf ln x1 x2 s) := by
  refine dr_meti (own := RX4) (by decide) rfl (Nat.le_of_ble_eq_true rfl) hap ?_
  intro p e s0 m args below meth c A E
  unfold f_X4_placeOf
  refine g_eqL (lv' := [(0, .ref (ad 4)), (1, .int x1), (2, .int x2)]) rfl ?_
  refine g_aload_n E dX4_placeOf_0 0 rfl ?_
  refine g_iload_n E dX4_placeOf_1 1 rfl ?_
  refine g_iconst E (v := 1) dX4_placeOf_2 (by decide) ?_
  refine g_cVi E [.int x1, .int 1] rfl (c_X4_get hap hN x1 1 s) (hN 4 (by decide)) (by decide) rfl rfl mi_X4_get msl_X4_get mw_X4_get rfl ml_4_58 ⟨Nat.le_of_ble_eq_true rfl, Nat.le_of_ble_eq_true rfl⟩ (Nat.le_of_ble_eq_true rfl) dX4_placeOf_3 (fun r2 s1 => ?_)
  refine g_istore_n E (lv' := [(3, .int r2), (0, .ref (ad 4)), (1, .int x1), (2, .int x2)]) dX4_placeOf_6 (by decide) rfl ?_
  refine g_iload_n E dX4_placeOf_7 2 rfl ?_
  refine g_aload_n E dX4_placeOf_8 1 rfl ?_
  refine gg_4_27 E (hN 4 (by decide)) dX4_placeOf_9 ?_
  refine g_imul E dX4_placeOf_12 ?_
  refine g_iconst E (v := 5) dX4_placeOf_13 (by decide) ?_
  refine g_iadd E dX4_placeOf_14 ?_
  refine g_let (fun y3 => ?_)
  refine g_istore E (lv' := [(4, .int y3), (3, .int r2), (0, .ref (ad 4)), (1, .int x1), (2, .int x2)]) dX4_placeOf_15 (by decide) rfl ?_
  refine g_iconst E (v := 0) dX4_placeOf_17 (by decide) ?_
  refine g_istore E (lv' := [(5, .int 0), (4, .int y3), (3, .int r2), (0, .ref (ad 4)), (1, .int x1), (2, .int x2)]) dX4_placeOf_18 (by decide) rfl ?_
  refine g_sub [3, 5, 2, 1, 0] rfl ?_
  exact w_X4_placeOf_p20 E hap hN dr_N x2 r2 y3 0 s1
end

theorem dX4_bring_0 : decode cX4_bring 0 = .ok (.iload_n 1, 1) := by decide +kernel
theorem dX4_bring_1 : decode cX4_bring 1 = .ok (.aload_n 0, 1) := by decide +kernel
theorem dX4_bring_2 : decode cX4_bring 2 = .ok (.getfield 27, 3) := by decide +kernel
theorem dX4_bring_5 : decode cX4_bring 5 = .ok (.imul, 1) := by decide +kernel
theorem dX4_bring_6 : decode cX4_bring 6 = .ok (.istore_n 3, 1) := by decide +kernel
theorem dX4_bring_7 : decode cX4_bring 7 = .ok (.iload_n 2, 1) := by decide +kernel
theorem dX4_bring_8 : decode cX4_bring 8 = .ok (.aload_n 0, 1) := by decide +kernel
theorem dX4_bring_9 : decode cX4_bring 9 = .ok (.getfield 27, 3) := by decide +kernel
theorem dX4_bring_12 : decode cX4_bring 12 = .ok (.imul, 1) := by decide +kernel
theorem dX4_bring_13 : decode cX4_bring 13 = .ok (.istore 4, 2) := by decide +kernel
theorem dX4_bring_15 : decode cX4_bring 15 = .ok (.aload_n 0, 1) := by decide +kernel
theorem dX4_bring_16 : decode cX4_bring 16 = .ok (.iload_n 1, 1) := by decide +kernel
theorem dX4_bring_17 : decode cX4_bring 17 = .ok (.iconst 1, 1) := by decide +kernel
theorem dX4_bring_18 : decode cX4_bring 18 = .ok (.invokevirtual 58, 3) := by decide +kernel
theorem dX4_bring_21 : decode cX4_bring 21 = .ok (.istore 5, 2) := by decide +kernel
theorem dX4_bring_23 : decode cX4_bring 23 = .ok (.aload_n 0, 1) := by decide +kernel
theorem dX4_bring_24 : decode cX4_bring 24 = .ok (.getfield 9, 3) := by decide +kernel
theorem dX4_bring_27 : decode cX4_bring 27 = .ok (.iload_n 3, 1) := by decide +kernel
theorem dX4_bring_28 : decode cX4_bring 28 = .ok (.iconst 0, 1) := by decide +kernel
theorem dX4_bring_29 : decode cX4_bring 29 = .ok (.iadd, 1) := by decide +kernel
theorem dX4_bring_30 : decode cX4_bring 30 = .ok (.iload 4, 2) := by decide +kernel
theorem dX4_bring_32 : decode cX4_bring 32 = .ok (.iconst 0, 1) := by decide +kernel
theorem dX4_bring_33 : decode cX4_bring 33 = .ok (.iadd, 1) := by decide +kernel
theorem dX4_bring_34 : decode cX4_bring 34 = .ok (.iconst 4, 1) := by decide +kernel
theorem dX4_bring_35 : decode cX4_bring 35 = .ok (.invokevirtual 75, 3) := by decide +kernel
theorem dX4_bring_38 : decode cX4_bring 38 = .ok (.aload_n 0, 1) := by decide +kernel
theorem dX4_bring_39 : decode cX4_bring 39 = .ok (.getfield 9, 3) := by decide +kernel
theorem dX4_bring_42 : decode cX4_bring 42 = .ok (.iload_n 3, 1) := by decide +kernel
theorem dX4_bring_43 : decode cX4_bring 43 = .ok (.iconst 5, 1) := by decide +kernel
theorem dX4_bring_44 : decode cX4_bring 44 = .ok (.iadd, 1) := by decide +kernel
theorem dX4_bring_45 : decode cX4_bring 45 = .ok (.iload 4, 2) := by decide +kernel
theorem dX4_bring_47 : decode cX4_bring 47 = .ok (.iconst 5, 1) := by decide +kernel
theorem dX4_bring_48 : decode cX4_bring 48 = .ok (.iadd, 1) := by decide +kernel
theorem dX4_bring_49 : decode cX4_bring 49 = .ok (.iload 5, 2) := by decide +kernel
theorem dX4_bring_51 : decode cX4_bring 51 = .ok (.invokevirtual 75, 3) := by decide +kernel
theorem dX4_bring_54 : decode cX4_bring 54 = .ok (.aload_n 0, 1) := by decide +kernel
theorem dX4_bring_55 : decode cX4_bring 55 = .ok (.iload_n 1, 1) := by decide +kernel
theorem dX4_bring_56 : decode cX4_bring 56 = .ok (.iconst 0, 1) := by decide +kernel
theorem dX4_bring_57 : decode cX4_bring 57 = .ok (.invokevirtual 58, 3) := by decide +kernel
theorem dX4_bring_60 : decode cX4_bring 60 = .ok (.ifCond .le 27, 3) := by decide +kernel
theorem dX4_bring_63 : decode cX4_bring 63 = .ok (.aload_n 0, 1) := by decide +kernel
theorem dX4_bring_64 : decode cX4_bring 64 = .ok (.getfield 9, 3) := by decide +kernel
theorem dX4_bring_67 : decode cX4_bring 67 = .ok (.iload_n 3, 1) := by decide +kernel
theorem dX4_bring_68 : decode cX4_bring 68 = .ok (.aload_n 0, 1) := by decide +kernel
theorem dX4_bring_69 : decode cX4_bring 69 = .ok (.getfield 30, 3) := by decide +kernel
theorem dX4_bring_72 : decode cX4_bring 72 = .ok (.iadd, 1) := by decide +kernel
theorem dX4_bring_73 : decode cX4_bring 73 = .ok (.iload 4, 2) := by decide +kernel
theorem dX4_bring_75 : decode cX4_bring 75 = .ok (.aload_n 0, 1) := by decide +kernel
theorem dX4_bring_76 : decode cX4_bring 76 = .ok (.getfield 30, 3) := by decide +kernel
theorem dX4_bring_79 : decode cX4_bring 79 = .ok (.iadd, 1) := by decide +kernel
theorem dX4_bring_80 : decode cX4_bring 80 = .ok (.iload 5, 2) := by decide +kernel
theorem dX4_bring_82 : decode cX4_bring 82 = .ok (.iconst 1, 1) := by decide +kernel
theorem dX4_bring_83 : decode cX4_bring 83 = .ok (.iadd, 1) := by decide +kernel
theorem dX4_bring_84 : decode cX4_bring 84 = .ok (.invokevirtual 75, 3) := by decide +kernel
theorem dX4_bring_87 : decode cX4_bring 87 = .ok (.return_, 1) := by decide +kernel
def f_X4_bring (ln : Nat → Nat) (x1 : Int32) (x2 : Int32) (s : dr_S) : Option (Int32 × dr_S) := dr_let (x1 * (s.2 403)) (fun y1 => dr_let (x2 * (s.2 403)) (fun y2 => dr_bnd (f_X4_get ln x1 1 s) (fun r4 s3 => dr_bndv (f_X2_copy ln ((y1 + 0)) ((y2 + 0)) 4 s3) (fun s5 => dr_bndv (f_X2_copy ln ((y1 + 5)) ((y2 + 5)) r4 s5) (fun s6 => dr_bnd (f_X4_get ln x1 0 s6) (fun r8 s7 => (if r8 ≤ 0 then some (0, s7) else dr_bndv (f_X2_copy ln ((y1 + (s7.2 404))) ((y2 + (s7.2 404))) ((r4 + 1)) s7) (fun s9 => some (0, s9)))))))))
section
variable {p : Program} {l : Launch} {e : Env} {s0 : State} {m : MethodId} {args : Array Value} {below : List Frame} {meth : Method} {c : Code} {A : Nat → Prop} {D : va_G} {cI cZ : ClassId} {ad ln : Nat → Nat} {L : List Nat}
set_option maxHeartbeats 4000000 in
set_option maxRecDepth 20000 in
theorem c_X4_bring (hap : dr_ap ad L) (hN : ∀ x ∈ nd_4, x ∈ L) (x1 : Int32) (x2 : Int32) (s : dr_S) : dr_Mv l D cI cZ ad ln L yX4_bring cX4_bring 6 2 [.ref (ad 4), .int x1, .int x2] s (f_X4_bring ln x1 x2 s) := by
  refine dr_metv (own := RX4) (by decide) rfl (Nat.le_of_ble_eq_true rfl) hap ?_
  intro p e s0 m args below meth c A E
  unfold f_X4_bring
  refine g_eqL (lv' := [(0, .ref (ad 4)), (1, .int x1), (2, .int x2)]) rfl ?_
  refine g_iload_n E dX4_bring_0 1 rfl ?_
  refine g_aload_n E dX4_bring_1 0 rfl ?_
  refine gg_4_27 E (hN 4 (by decide)) dX4_bring_2 ?_
  refine g_imul E dX4_bring_5 ?_
  refine g_let (fun y1 => ?_)
  refine g_istore_n E (lv' := [(3, .int y1), (0, .ref (ad 4)), (1, .int x1), (2, .int x2)]) dX4_bring_6 (by decide) rfl ?_
  refine g_iload_n E dX4_bring_7 3 rfl ?_
  refine g_aload_n E dX4_bring_8 1 rfl ?_
  refine gg_4_27 E (hN 4 (by decide)) dX4_bring_9 ?_
  refine g_imul E dX4_bring_12 ?_
  refine g_let (fun y2 => ?_)
  refine g_istore E (lv' := [(4, .int y2), (3, .int y1), (0, .ref (ad 4)), (1, .int x1), (2, .int x2)]) dX4_bring_13 (by decide) rfl ?_
  refine g_aload_n E dX4_bring_15 2 rfl ?_
  refine g_iload_n E dX4_bring_16 3 rfl ?_
  refine g_iconst E (v := 1) dX4_bring_17 (by decide) ?_
  refine g_cVi E [.int x1, .int 1] rfl (c_X4_get hap hN x1 1 s) (hN 4 (by decide)) (by decide) rfl rfl mi_X4_get msl_X4_get mw_X4_get rfl ml_4_58 ⟨Nat.le_of_ble_eq_true rfl, Nat.le_of_ble_eq_true rfl⟩ (Nat.le_of_ble_eq_true rfl) dX4_bring_18 (fun r4 s3 => ?_)
  refine g_istore E (lv' := [(5, .int r4), (4, .int y2), (3, .int y1), (0, .ref (ad 4)), (1, .int x1), (2, .int x2)]) dX4_bring_21 (by decide) rfl ?_
  refine g_aload_n E dX4_bring_23 3 rfl ?_
  refine gg_4_9 E (hN 4 (by decide)) dX4_bring_24 ?_
  refine g_iload_n E dX4_bring_27 2 rfl ?_
  refine g_iconst E (v := 0) dX4_bring_28 (by decide) ?_
  refine g_iadd E dX4_bring_29 ?_
  refine g_iload E dX4_bring_30 1 rfl ?_
  refine g_iconst E (v := 0) dX4_bring_32 (by decide) ?_
  refine g_iadd E dX4_bring_33 ?_
  refine g_iconst E (v := 4) dX4_bring_34 (by decide) ?_
  refine g_cVv E [.int (y1 + 0), .int (y2 + 0), .int 4] rfl (c_X2_copy hap (fun x h => hN x (ns_2_4 x h)) ((y1 + 0)) ((y2 + 0)) 4 s3) (hN 2 (by decide)) (by decide) rfl rfl mi_X2_copy msl_X2_copy mw_X2_copy rfl ml_4_75 ⟨Nat.le_of_ble_eq_true rfl, Nat.le_of_ble_eq_true rfl⟩ (Nat.le_of_ble_eq_true rfl) dX4_bring_35 (fun s5 => ?_)
  refine g_aload_n E dX4_bring_38 3 rfl ?_
  refine gg_4_9 E (hN 4 (by decide)) dX4_bring_39 ?_
  refine g_iload_n E dX4_bring_42 2 rfl ?_
  refine g_iconst E (v := 5) dX4_bring_43 (by decide) ?_
  refine g_iadd E dX4_bring_44 ?_
  refine g_iload E dX4_bring_45 1 rfl ?_
  refine g_iconst E (v := 5) dX4_bring_47 (by decide) ?_
  refine g_iadd E dX4_bring_48 ?_
  refine g_iload E dX4_bring_49 0 rfl ?_
  refine g_cVv E [.int (y1 + 5), .int (y2 + 5), .int r4] rfl (c_X2_copy hap (fun x h => hN x (ns_2_4 x h)) ((y1 + 5)) ((y2 + 5)) r4 s5) (hN 2 (by decide)) (by decide) rfl rfl mi_X2_copy msl_X2_copy mw_X2_copy rfl ml_4_75 ⟨Nat.le_of_ble_eq_true rfl, Nat.le_of_ble_eq_true rfl⟩ (Nat.le_of_ble_eq_true rfl) dX4_bring_51 (fun s6 => ?_)
  refine g_aload_n E dX4_bring_54 3 rfl ?_
  refine g_iload_n E dX4_bring_55 4 rfl ?_
  refine g_iconst E (v := 0) dX4_bring_56 (by decide) ?_
  refine g_cVi E [.int x1, .int 0] rfl (c_X4_get hap hN x1 0 s6) (hN 4 (by decide)) (by decide) rfl rfl mi_X4_get msl_X4_get mw_X4_get rfl ml_4_58 ⟨Nat.le_of_ble_eq_true rfl, Nat.le_of_ble_eq_true rfl⟩ (Nat.le_of_ble_eq_true rfl) dX4_bring_57 (fun r8 s7 => ?_)
  refine g_if_le E 87 dX4_bring_60 (by decide) ?_ ?_
  · exact g_vret E dX4_bring_87
  · refine g_aload_n E dX4_bring_63 3 rfl ?_
    refine gg_4_9 E (hN 4 (by decide)) dX4_bring_64 ?_
    refine g_iload_n E dX4_bring_67 2 rfl ?_
    refine g_aload_n E dX4_bring_68 3 rfl ?_
    refine gg_4_30 E (hN 4 (by decide)) dX4_bring_69 ?_
    refine g_iadd E dX4_bring_72 ?_
    refine g_iload E dX4_bring_73 1 rfl ?_
    refine g_aload_n E dX4_bring_75 3 rfl ?_
    refine gg_4_30 E (hN 4 (by decide)) dX4_bring_76 ?_
    refine g_iadd E dX4_bring_79 ?_
    refine g_iload E dX4_bring_80 0 rfl ?_
    refine g_iconst E (v := 1) dX4_bring_82 (by decide) ?_
    refine g_iadd E dX4_bring_83 ?_
    refine g_cVv E [.int (y1 + (s7.2 404)), .int (y2 + (s7.2 404)), .int (r4 + 1)] rfl (c_X2_copy hap (fun x h => hN x (ns_2_4 x h)) ((y1 + (s7.2 404))) ((y2 + (s7.2 404))) ((r4 + 1)) s7) (hN 2 (by decide)) (by decide) rfl rfl mi_X2_copy msl_X2_copy mw_X2_copy rfl ml_4_75 ⟨Nat.le_of_ble_eq_true rfl, Nat.le_of_ble_eq_true rfl⟩ (Nat.le_of_ble_eq_true rfl) dX4_bring_84 (fun s9 => ?_)
    exact g_vret E dX4_bring_87
end

theorem dX4_insert_0 : decode cX4_insert 0 = .ok (.aload_n 0, 1) := by decide +kernel
theorem dX4_insert_1 : decode cX4_insert 1 = .ok (.iload_n 1, 1) := by decide +kernel
theorem dX4_insert_2 : decode cX4_insert 2 = .ok (.iconst 1, 1) := by decide +kernel
theorem dX4_insert_3 : decode cX4_insert 3 = .ok (.invokevirtual 58, 3) := by decide +kernel
theorem dX4_insert_6 : decode cX4_insert 6 = .ok (.istore 5, 2) := by decide +kernel
theorem dX4_insert_8 : decode cX4_insert 8 = .ok (.iload_n 2, 1) := by decide +kernel
theorem dX4_insert_9 : decode cX4_insert 9 = .ok (.ifCond .lt 20, 3) := by decide +kernel
theorem dX4_insert_12 : decode cX4_insert 12 = .ok (.iload_n 2, 1) := by decide +kernel
theorem dX4_insert_13 : decode cX4_insert 13 = .ok (.iload 5, 2) := by decide +kernel
theorem dX4_insert_15 : decode cX4_insert 15 = .ok (.if_icmp .gt 14, 3) := by decide +kernel
theorem dX4_insert_18 : decode cX4_insert 18 = .ok (.iload 5, 2) := by decide +kernel
theorem dX4_insert_20 : decode cX4_insert 20 = .ok (.iconst 2, 1) := by decide +kernel
theorem dX4_insert_21 : decode cX4_insert 21 = .ok (.aload_n 0, 1) := by decide +kernel
theorem dX4_insert_22 : decode cX4_insert 22 = .ok (.getfield 19, 3) := by decide +kernel
theorem dX4_insert_25 : decode cX4_insert 25 = .ok (.imul, 1) := by decide +kernel
theorem dX4_insert_26 : decode cX4_insert 26 = .ok (.if_icmp .le 4, 3) := by decide +kernel
theorem dX4_insert_29 : decode cX4_insert 29 = .ok (.return_, 1) := by decide +kernel
theorem dX4_insert_30 : decode cX4_insert 30 = .ok (.iload_n 1, 1) := by decide +kernel
theorem dX4_insert_31 : decode cX4_insert 31 = .ok (.aload_n 0, 1) := by decide +kernel
theorem dX4_insert_32 : decode cX4_insert 32 = .ok (.getfield 27, 3) := by decide +kernel
theorem dX4_insert_35 : decode cX4_insert 35 = .ok (.imul, 1) := by decide +kernel
theorem dX4_insert_36 : decode cX4_insert 36 = .ok (.iconst 5, 1) := by decide +kernel
theorem dX4_insert_37 : decode cX4_insert 37 = .ok (.iadd, 1) := by decide +kernel
theorem dX4_insert_38 : decode cX4_insert 38 = .ok (.istore 6, 2) := by decide +kernel
theorem dX4_insert_40 : decode cX4_insert 40 = .ok (.iload 5, 2) := by decide +kernel
theorem dX4_insert_42 : decode cX4_insert 42 = .ok (.istore 7, 2) := by decide +kernel
theorem dX4_insert_44 : decode cX4_insert 44 = .ok (.iload 7, 2) := by decide +kernel
theorem dX4_insert_46 : decode cX4_insert 46 = .ok (.iload_n 2, 1) := by decide +kernel
theorem dX4_insert_47 : decode cX4_insert 47 = .ok (.if_icmp .le 35, 3) := by decide +kernel
theorem dX4_insert_50 : decode cX4_insert 50 = .ok (.aload_n 0, 1) := by decide +kernel
theorem dX4_insert_51 : decode cX4_insert 51 = .ok (.getfield 9, 3) := by decide +kernel
theorem dX4_insert_54 : decode cX4_insert 54 = .ok (.iload 6, 2) := by decide +kernel
theorem dX4_insert_56 : decode cX4_insert 56 = .ok (.iload 7, 2) := by decide +kernel
theorem dX4_insert_58 : decode cX4_insert 58 = .ok (.iadd, 1) := by decide +kernel
theorem dX4_insert_59 : decode cX4_insert 59 = .ok (.aload_n 0, 1) := by decide +kernel
theorem dX4_insert_60 : decode cX4_insert 60 = .ok (.getfield 9, 3) := by decide +kernel
theorem dX4_insert_63 : decode cX4_insert 63 = .ok (.iload 6, 2) := by decide +kernel
theorem dX4_insert_65 : decode cX4_insert 65 = .ok (.iload 7, 2) := by decide +kernel
theorem dX4_insert_67 : decode cX4_insert 67 = .ok (.iadd, 1) := by decide +kernel
theorem dX4_insert_68 : decode cX4_insert 68 = .ok (.iconst 1, 1) := by decide +kernel
theorem dX4_insert_69 : decode cX4_insert 69 = .ok (.isub, 1) := by decide +kernel
theorem dX4_insert_70 : decode cX4_insert 70 = .ok (.invokevirtual 49, 3) := by decide +kernel
theorem dX4_insert_73 : decode cX4_insert 73 = .ok (.invokevirtual 54, 3) := by decide +kernel
theorem dX4_insert_76 : decode cX4_insert 76 = .ok (.iinc 7 (-1), 3) := by decide +kernel
theorem dX4_insert_79 : decode cX4_insert 79 = .ok (.goto (-35), 3) := by decide +kernel
theorem dX4_insert_82 : decode cX4_insert 82 = .ok (.aload_n 0, 1) := by decide +kernel
theorem dX4_insert_83 : decode cX4_insert 83 = .ok (.getfield 9, 3) := by decide +kernel
theorem dX4_insert_86 : decode cX4_insert 86 = .ok (.iload 6, 2) := by decide +kernel
theorem dX4_insert_88 : decode cX4_insert 88 = .ok (.iload_n 2, 1) := by decide +kernel
theorem dX4_insert_89 : decode cX4_insert 89 = .ok (.iadd, 1) := by decide +kernel
theorem dX4_insert_90 : decode cX4_insert 90 = .ok (.iload_n 3, 1) := by decide +kernel
theorem dX4_insert_91 : decode cX4_insert 91 = .ok (.invokevirtual 54, 3) := by decide +kernel
theorem dX4_insert_94 : decode cX4_insert 94 = .ok (.aload_n 0, 1) := by decide +kernel
theorem dX4_insert_95 : decode cX4_insert 95 = .ok (.iload_n 1, 1) := by decide +kernel
theorem dX4_insert_96 : decode cX4_insert 96 = .ok (.iconst 1, 1) := by decide +kernel
theorem dX4_insert_97 : decode cX4_insert 97 = .ok (.iload 5, 2) := by decide +kernel
theorem dX4_insert_99 : decode cX4_insert 99 = .ok (.iconst 1, 1) := by decide +kernel
theorem dX4_insert_100 : decode cX4_insert 100 = .ok (.iadd, 1) := by decide +kernel
theorem dX4_insert_101 : decode cX4_insert 101 = .ok (.invokevirtual 65, 3) := by decide +kernel
theorem dX4_insert_104 : decode cX4_insert 104 = .ok (.aload_n 0, 1) := by decide +kernel
theorem dX4_insert_105 : decode cX4_insert 105 = .ok (.iload_n 1, 1) := by decide +kernel
theorem dX4_insert_106 : decode cX4_insert 106 = .ok (.iconst 0, 1) := by decide +kernel
theorem dX4_insert_107 : decode cX4_insert 107 = .ok (.invokevirtual 58, 3) := by decide +kernel
theorem dX4_insert_110 : decode cX4_insert 110 = .ok (.ifCond .le 77, 3) := by decide +kernel
theorem dX4_insert_113 : decode cX4_insert 113 = .ok (.iload_n 1, 1) := by decide +kernel
theorem dX4_insert_114 : decode cX4_insert 114 = .ok (.aload_n 0, 1) := by decide +kernel
theorem dX4_insert_115 : decode cX4_insert 115 = .ok (.getfield 27, 3) := by decide +kernel
theorem dX4_insert_118 : decode cX4_insert 118 = .ok (.imul, 1) := by decide +kernel
theorem dX4_insert_119 : decode cX4_insert 119 = .ok (.aload_n 0, 1) := by decide +kernel
theorem dX4_insert_120 : decode cX4_insert 120 = .ok (.getfield 30, 3) := by decide +kernel
theorem dX4_insert_123 : decode cX4_insert 123 = .ok (.iadd, 1) := by decide +kernel
theorem dX4_insert_124 : decode cX4_insert 124 = .ok (.istore 7, 2) := by decide +kernel
theorem dX4_insert_126 : decode cX4_insert 126 = .ok (.iload 5, 2) := by decide +kernel
theorem dX4_insert_128 : decode cX4_insert 128 = .ok (.iconst 1, 1) := by decide +kernel
theorem dX4_insert_129 : decode cX4_insert 129 = .ok (.iadd, 1) := by decide +kernel
theorem dX4_insert_130 : decode cX4_insert 130 = .ok (.istore 8, 2) := by decide +kernel
theorem dX4_insert_132 : decode cX4_insert 132 = .ok (.iload 8, 2) := by decide +kernel
theorem dX4_insert_134 : decode cX4_insert 134 = .ok (.iload_n 2, 1) := by decide +kernel
theorem dX4_insert_135 : decode cX4_insert 135 = .ok (.iconst 1, 1) := by decide +kernel
theorem dX4_insert_136 : decode cX4_insert 136 = .ok (.iadd, 1) := by decide +kernel
theorem dX4_insert_137 : decode cX4_insert 137 = .ok (.if_icmp .le 35, 3) := by decide +kernel
theorem dX4_insert_140 : decode cX4_insert 140 = .ok (.aload_n 0, 1) := by decide +kernel
theorem dX4_insert_141 : decode cX4_insert 141 = .ok (.getfield 9, 3) := by decide +kernel
theorem dX4_insert_144 : decode cX4_insert 144 = .ok (.iload 7, 2) := by decide +kernel
theorem dX4_insert_146 : decode cX4_insert 146 = .ok (.iload 8, 2) := by decide +kernel
theorem dX4_insert_148 : decode cX4_insert 148 = .ok (.iadd, 1) := by decide +kernel
theorem dX4_insert_149 : decode cX4_insert 149 = .ok (.aload_n 0, 1) := by decide +kernel
theorem dX4_insert_150 : decode cX4_insert 150 = .ok (.getfield 9, 3) := by decide +kernel
theorem dX4_insert_153 : decode cX4_insert 153 = .ok (.iload 7, 2) := by decide +kernel
theorem dX4_insert_155 : decode cX4_insert 155 = .ok (.iload 8, 2) := by decide +kernel
theorem dX4_insert_157 : decode cX4_insert 157 = .ok (.iadd, 1) := by decide +kernel
theorem dX4_insert_158 : decode cX4_insert 158 = .ok (.iconst 1, 1) := by decide +kernel
theorem dX4_insert_159 : decode cX4_insert 159 = .ok (.isub, 1) := by decide +kernel
theorem dX4_insert_160 : decode cX4_insert 160 = .ok (.invokevirtual 49, 3) := by decide +kernel
theorem dX4_insert_163 : decode cX4_insert 163 = .ok (.invokevirtual 54, 3) := by decide +kernel
theorem dX4_insert_166 : decode cX4_insert 166 = .ok (.iinc 8 (-1), 3) := by decide +kernel
theorem dX4_insert_169 : decode cX4_insert 169 = .ok (.goto (-37), 3) := by decide +kernel
theorem dX4_insert_172 : decode cX4_insert 172 = .ok (.aload_n 0, 1) := by decide +kernel
theorem dX4_insert_173 : decode cX4_insert 173 = .ok (.getfield 9, 3) := by decide +kernel
theorem dX4_insert_176 : decode cX4_insert 176 = .ok (.iload 7, 2) := by decide +kernel
theorem dX4_insert_178 : decode cX4_insert 178 = .ok (.iload_n 2, 1) := by decide +kernel
theorem dX4_insert_179 : decode cX4_insert 179 = .ok (.iadd, 1) := by decide +kernel
theorem dX4_insert_180 : decode cX4_insert 180 = .ok (.iconst 1, 1) := by decide +kernel
theorem dX4_insert_181 : decode cX4_insert 181 = .ok (.iadd, 1) := by decide +kernel
theorem dX4_insert_182 : decode cX4_insert 182 = .ok (.iload 4, 2) := by decide +kernel
theorem dX4_insert_184 : decode cX4_insert 184 = .ok (.invokevirtual 54, 3) := by decide +kernel
theorem dX4_insert_187 : decode cX4_insert 187 = .ok (.return_, 1) := by decide +kernel
def f_X4_insert_p132 (ln : Nat → Nat) : Nat → Int32 → Int32 → Int32 → Int32 → dr_S → Option (Int32 × dr_S)
  | 0, _, _, _, _, _ => none
  | n + 1, x2, x4, x7, x8, s => (if x8 ≤ (x2 + 1) then dr_bndv (f_X2_put ln (((x7 + x2) + 1)) x4 s) (fun s14 => some (0, s14)) else dr_bnd (f_X2_get ln (((x7 + x8) - 1)) s) (fun r16 s15 => dr_bndv (f_X2_put ln ((x7 + x8)) r16 s15) (fun s17 => dr_let (x8 + (-1)) (fun y18 => (f_X4_insert_p132 ln n x2 x4 x7 y18 s17)))))
def f_X4_insert_p44 (ln : Nat → Nat) : Nat → Int32 → Int32 → Int32 → Int32 → Int32 → Int32 → Int32 → dr_S → Option (Int32 × dr_S)
  | 0, _, _, _, _, _, _, _, _ => none
  | n + 1, x1, x2, x3, x4, x5, x6, x7, s => (if x7 ≤ x2 then dr_bndv (f_X2_put ln ((x6 + x2)) x3 s) (fun s4 => dr_bndv (f_X4_set ln x1 1 ((x5 + 1)) s4) (fun s5 => dr_bnd (f_X4_get ln x1 0 s5) (fun r7 s6 => (if r7 ≤ 0 then some (0, s6) else dr_let ((x1 * (s6.2 403)) + (s6.2 404)) (fun y8 => dr_let (x5 + 1) (fun y9 => (f_X4_insert_p132 ln dr_N x2 x4 y8 y9 s6))))))) else dr_bnd (f_X2_get ln (((x6 + x7) - 1)) s) (fun r11 s10 => dr_bndv (f_X2_put ln ((x6 + x7)) r11 s10) (fun s12 => dr_let (x7 + (-1)) (fun y13 => (f_X4_insert_p44 ln n x1 x2 x3 x4 x5 x6 y13 s12)))))
def f_X4_insert (ln : Nat → Nat) (x1 : Int32) (x2 : Int32) (x3 : Int32) (x4 : Int32) (s : dr_S) : Option (Int32 × dr_S) := dr_bnd (f_X4_get ln x1 1 s) (fun r2 s1 => (if x2 < 0 then some (0, s1) else (if r2 < x2 then some (0, s1) else (if r2 ≤ (2 * (s1.2 402)) then dr_let ((x1 * (s1.2 403)) + 5) (fun y3 => (f_X4_insert_p44 ln dr_N x1 x2 x3 x4 r2 y3 r2 s1)) else some (0, s1)))))
section
variable {p : Program} {l : Launch} {e : Env} {s0 : State} {m : MethodId} {args : Array Value} {below : List Frame} {meth : Method} {c : Code} {A : Nat → Prop} {D : va_G} {cI cZ : ClassId} {ad ln : Nat → Nat} {L : List Nat}
set_option maxHeartbeats 4000000 in
set_option maxRecDepth 20000 in
theorem w_X4_insert_p132 (E : dr_E p (dr_rm 2) s0 m args meth c 0 0 A s0.heap D cI cZ ad L cX4_insert 9 RX4 none) (hap : dr_ap ad L) (hN : ∀ x ∈ nd_4, x ∈ L) : ∀ (n : Nat) (x2 : Int32) (x4 : Int32) (x7 : Int32) (x8 : Int32) (s : dr_S), dr_G p l e (dr_rm 2) s0 m args below meth c 0 0 A s0.heap D cI cZ ad ln L 9 (dr_Zv D cI cZ ad ln L A below args s0 0 0) 132 [(0, .ref (ad 4)), (2, .int x2), (4, .int x4), (7, .int x7), (8, .int x8)] [] s (f_X4_insert_p132 ln n x2 x4 x7 x8 s) := by
  intro n
  induction n with
  | zero =>
    intro x2 x4 x7 x8 s
    rw [f_X4_insert_p132]
    exact g_none
  | succ n hkb132 =>
    intro x2 x4 x7 x8 s
    rw [f_X4_insert_p132]
    refine g_iload E dX4_insert_132 4 rfl ?_
    refine g_iload_n E dX4_insert_134 1 rfl ?_
    refine g_iconst E (v := 1) dX4_insert_135 (by decide) ?_
    refine g_iadd E dX4_insert_136 ?_
    refine g_icmp_le E 172 dX4_insert_137 (by decide) ?_ ?_
    · refine g_aload_n E dX4_insert_172 0 rfl ?_
      refine gg_4_9 E (hN 4 (by decide)) dX4_insert_173 ?_
      refine g_iload E dX4_insert_176 3 rfl ?_
      refine g_iload_n E dX4_insert_178 1 rfl ?_
      refine g_iadd E dX4_insert_179 ?_
      refine g_iconst E (v := 1) dX4_insert_180 (by decide) ?_
      refine g_iadd E dX4_insert_181 ?_
      refine g_iload E dX4_insert_182 2 rfl ?_
      refine g_cVv E [.int ((x7 + x2) + 1), .int x4] rfl (c_X2_put hap (fun x h => hN x (ns_2_4 x h)) (((x7 + x2) + 1)) x4 s) (hN 2 (by decide)) (by decide) rfl rfl mi_X2_put msl_X2_put mw_X2_put rfl ml_4_54 ⟨Nat.le_of_ble_eq_true rfl, Nat.le_of_ble_eq_true rfl⟩ (Nat.le_of_ble_eq_true rfl) dX4_insert_184 (fun s14 => ?_)
      exact g_vret E dX4_insert_187
    · refine g_aload_n E dX4_insert_140 0 rfl ?_
      refine gg_4_9 E (hN 4 (by decide)) dX4_insert_141 ?_
      refine g_iload E dX4_insert_144 3 rfl ?_
      refine g_iload E dX4_insert_146 4 rfl ?_
      refine g_iadd E dX4_insert_148 ?_
      refine g_aload_n E dX4_insert_149 0 rfl ?_
      refine gg_4_9 E (hN 4 (by decide)) dX4_insert_150 ?_
      refine g_iload E dX4_insert_153 3 rfl ?_
      refine g_iload E dX4_insert_155 4 rfl ?_
      refine g_iadd E dX4_insert_157 ?_
      refine g_iconst E (v := 1) dX4_insert_158 (by decide) ?_
      refine g_isub E dX4_insert_159 ?_
      refine g_cVi E [.int ((x7 + x8) - 1)] rfl (c_X2_get hap (fun x h => hN x (ns_2_4 x h)) (((x7 + x8) - 1)) s) (hN 2 (by decide)) (by decide) rfl rfl mi_X2_get msl_X2_get mw_X2_get rfl ml_4_49 ⟨Nat.le_of_ble_eq_true rfl, Nat.le_of_ble_eq_true rfl⟩ (Nat.le_of_ble_eq_true rfl) dX4_insert_160 (fun r16 s15 => ?_)
      refine g_cVv E [.int (x7 + x8), .int r16] rfl (c_X2_put hap (fun x h => hN x (ns_2_4 x h)) ((x7 + x8)) r16 s15) (hN 2 (by decide)) (by decide) rfl rfl mi_X2_put msl_X2_put mw_X2_put rfl ml_4_54 ⟨Nat.le_of_ble_eq_true rfl, Nat.le_of_ble_eq_true rfl⟩ (Nat.le_of_ble_eq_true rfl) dX4_insert_163 (fun s17 => ?_)
      refine g_iinc E (lv' := []) (lv'' := fun y18 => [(8, .int y18), (0, .ref (ad 4)), (2, .int x2), (4, .int x4), (7, .int x7)]) (v := (-1)) dX4_insert_166 4 rfl (by decide) (by decide) (fun _ => rfl) (fun y18 => ?_)
      refine g_goto E 132 dX4_insert_169 (by decide) ?_
      refine g_sub [1, 2, 3, 4, 0] rfl ?_
      exact hkb132 x2 x4 x7 y18 s17
set_option maxHeartbeats 4000000 in
set_option maxRecDepth 20000 in
theorem w_X4_insert_p44 (E : dr_E p (dr_rm 2) s0 m args meth c 0 0 A s0.heap D cI cZ ad L cX4_insert 9 RX4 none) (hap : dr_ap ad L) (hN : ∀ x ∈ nd_4, x ∈ L) : ∀ (n : Nat) (x1 : Int32) (x2 : Int32) (x3 : Int32) (x4 : Int32) (x5 : Int32) (x6 : Int32) (x7 : Int32) (s : dr_S), dr_G p l e (dr_rm 2) s0 m args below meth c 0 0 A s0.heap D cI cZ ad ln L 9 (dr_Zv D cI cZ ad ln L A below args s0 0 0) 44 [(0, .ref (ad 4)), (1, .int x1), (2, .int x2), (3, .int x3), (4, .int x4), (5, .int x5), (6, .int x6), (7, .int x7)] [] s (f_X4_insert_p44 ln n x1 x2 x3 x4 x5 x6 x7 s) := by
  intro n
  induction n with
  | zero =>
    intro x1 x2 x3 x4 x5 x6 x7 s
    rw [f_X4_insert_p44]
    exact g_none
  | succ n hkb44 =>
    intro x1 x2 x3 x4 x5 x6 x7 s
    rw [f_X4_insert_p44]
    refine g_iload E dX4_insert_44 7 rfl ?_
    refine g_iload_n E dX4_insert_46 2 rfl ?_
    refine g_icmp_le E 82 dX4_insert_47 (by decide) ?_ ?_
    · refine g_aload_n E dX4_insert_82 0 rfl ?_
      refine gg_4_9 E (hN 4 (by decide)) dX4_insert_83 ?_
      refine g_iload E dX4_insert_86 6 rfl ?_
      refine g_iload_n E dX4_insert_88 2 rfl ?_
      refine g_iadd E dX4_insert_89 ?_
      refine g_iload_n E dX4_insert_90 3 rfl ?_
      refine g_cVv E [.int (x6 + x2), .int x3] rfl (c_X2_put hap (fun x h => hN x (ns_2_4 x h)) ((x6 + x2)) x3 s) (hN 2 (by decide)) (by decide) rfl rfl mi_X2_put msl_X2_put mw_X2_put rfl ml_4_54 ⟨Nat.le_of_ble_eq_true rfl, Nat.le_of_ble_eq_true rfl⟩ (Nat.le_of_ble_eq_true rfl) dX4_insert_91 (fun s4 => ?_)
      refine g_aload_n E dX4_insert_94 0 rfl ?_
      refine g_iload_n E dX4_insert_95 1 rfl ?_
      refine g_iconst E (v := 1) dX4_insert_96 (by decide) ?_
      refine g_iload E dX4_insert_97 5 rfl ?_
      refine g_iconst E (v := 1) dX4_insert_99 (by decide) ?_
      refine g_iadd E dX4_insert_100 ?_
      refine g_cVv E [.int x1, .int 1, .int (x5 + 1)] rfl (c_X4_set hap hN x1 1 ((x5 + 1)) s4) (hN 4 (by decide)) (by decide) rfl rfl mi_X4_set msl_X4_set mw_X4_set rfl ml_4_65 ⟨Nat.le_of_ble_eq_true rfl, Nat.le_of_ble_eq_true rfl⟩ (Nat.le_of_ble_eq_true rfl) dX4_insert_101 (fun s5 => ?_)
      refine g_aload_n E dX4_insert_104 0 rfl ?_
      refine g_iload_n E dX4_insert_105 1 rfl ?_
      refine g_iconst E (v := 0) dX4_insert_106 (by decide) ?_
      refine g_cVi E [.int x1, .int 0] rfl (c_X4_get hap hN x1 0 s5) (hN 4 (by decide)) (by decide) rfl rfl mi_X4_get msl_X4_get mw_X4_get rfl ml_4_58 ⟨Nat.le_of_ble_eq_true rfl, Nat.le_of_ble_eq_true rfl⟩ (Nat.le_of_ble_eq_true rfl) dX4_insert_107 (fun r7 s6 => ?_)
      refine g_if_le E 187 dX4_insert_110 (by decide) ?_ ?_
      · exact g_vret E dX4_insert_187
      · refine g_iload_n E dX4_insert_113 1 rfl ?_
        refine g_aload_n E dX4_insert_114 0 rfl ?_
        refine gg_4_27 E (hN 4 (by decide)) dX4_insert_115 ?_
        refine g_imul E dX4_insert_118 ?_
        refine g_aload_n E dX4_insert_119 0 rfl ?_
        refine gg_4_30 E (hN 4 (by decide)) dX4_insert_120 ?_
        refine g_iadd E dX4_insert_123 ?_
        refine g_let (fun y8 => ?_)
        refine g_istore E (lv' := [(7, .int y8), (0, .ref (ad 4)), (1, .int x1), (2, .int x2), (3, .int x3), (4, .int x4), (5, .int x5), (6, .int x6)]) dX4_insert_124 (by decide) rfl ?_
        refine g_iload E dX4_insert_126 6 rfl ?_
        refine g_iconst E (v := 1) dX4_insert_128 (by decide) ?_
        refine g_iadd E dX4_insert_129 ?_
        refine g_let (fun y9 => ?_)
        refine g_istore E (lv' := [(8, .int y9), (7, .int y8), (0, .ref (ad 4)), (1, .int x1), (2, .int x2), (3, .int x3), (4, .int x4), (5, .int x5), (6, .int x6)]) dX4_insert_130 (by decide) rfl ?_
        refine g_sub [2, 4, 6, 1, 0] rfl ?_
        exact w_X4_insert_p132 E hap hN dr_N x2 x4 y8 y9 s6
    · refine g_aload_n E dX4_insert_50 0 rfl ?_
      refine gg_4_9 E (hN 4 (by decide)) dX4_insert_51 ?_
      refine g_iload E dX4_insert_54 6 rfl ?_
      refine g_iload E dX4_insert_56 7 rfl ?_
      refine g_iadd E dX4_insert_58 ?_
      refine g_aload_n E dX4_insert_59 0 rfl ?_
      refine gg_4_9 E (hN 4 (by decide)) dX4_insert_60 ?_
      refine g_iload E dX4_insert_63 6 rfl ?_
      refine g_iload E dX4_insert_65 7 rfl ?_
      refine g_iadd E dX4_insert_67 ?_
      refine g_iconst E (v := 1) dX4_insert_68 (by decide) ?_
      refine g_isub E dX4_insert_69 ?_
      refine g_cVi E [.int ((x6 + x7) - 1)] rfl (c_X2_get hap (fun x h => hN x (ns_2_4 x h)) (((x6 + x7) - 1)) s) (hN 2 (by decide)) (by decide) rfl rfl mi_X2_get msl_X2_get mw_X2_get rfl ml_4_49 ⟨Nat.le_of_ble_eq_true rfl, Nat.le_of_ble_eq_true rfl⟩ (Nat.le_of_ble_eq_true rfl) dX4_insert_70 (fun r11 s10 => ?_)
      refine g_cVv E [.int (x6 + x7), .int r11] rfl (c_X2_put hap (fun x h => hN x (ns_2_4 x h)) ((x6 + x7)) r11 s10) (hN 2 (by decide)) (by decide) rfl rfl mi_X2_put msl_X2_put mw_X2_put rfl ml_4_54 ⟨Nat.le_of_ble_eq_true rfl, Nat.le_of_ble_eq_true rfl⟩ (Nat.le_of_ble_eq_true rfl) dX4_insert_73 (fun s12 => ?_)
      refine g_iinc E (lv' := []) (lv'' := fun y13 => [(7, .int y13), (0, .ref (ad 4)), (1, .int x1), (2, .int x2), (3, .int x3), (4, .int x4), (5, .int x5), (6, .int x6)]) (v := (-1)) dX4_insert_76 7 rfl (by decide) (by decide) (fun _ => rfl) (fun y13 => ?_)
      refine g_goto E 44 dX4_insert_79 (by decide) ?_
      refine g_sub [1, 2, 3, 4, 5, 6, 7, 0] rfl ?_
      exact hkb44 x1 x2 x3 x4 x5 x6 y13 s12
set_option maxHeartbeats 4000000 in
set_option maxRecDepth 20000 in
theorem c_X4_insert (hap : dr_ap ad L) (hN : ∀ x ∈ nd_4, x ∈ L) (x1 : Int32) (x2 : Int32) (x3 : Int32) (x4 : Int32) (s : dr_S) : dr_Mv l D cI cZ ad ln L yX4_insert cX4_insert 9 2 [.ref (ad 4), .int x1, .int x2, .int x3, .int x4] s (f_X4_insert ln x1 x2 x3 x4 s) := by
  refine dr_metv (own := RX4) (by decide) rfl (Nat.le_of_ble_eq_true rfl) hap ?_
  intro p e s0 m args below meth c A E
  unfold f_X4_insert
  refine g_eqL (lv' := [(0, .ref (ad 4)), (1, .int x1), (2, .int x2), (3, .int x3), (4, .int x4)]) rfl ?_
  refine g_aload_n E dX4_insert_0 0 rfl ?_
  refine g_iload_n E dX4_insert_1 1 rfl ?_
  refine g_iconst E (v := 1) dX4_insert_2 (by decide) ?_
  refine g_cVi E [.int x1, .int 1] rfl (c_X4_get hap hN x1 1 s) (hN 4 (by decide)) (by decide) rfl rfl mi_X4_get msl_X4_get mw_X4_get rfl ml_4_58 ⟨Nat.le_of_ble_eq_true rfl, Nat.le_of_ble_eq_true rfl⟩ (Nat.le_of_ble_eq_true rfl) dX4_insert_3 (fun r2 s1 => ?_)
  refine g_istore E (lv' := [(5, .int r2), (0, .ref (ad 4)), (1, .int x1), (2, .int x2), (3, .int x3), (4, .int x4)]) dX4_insert_6 (by decide) rfl ?_
  refine g_iload_n E dX4_insert_8 3 rfl ?_
  refine g_if_lt E 29 dX4_insert_9 (by decide) ?_ ?_
  · exact g_vret E dX4_insert_29
  · refine g_iload_n E dX4_insert_12 3 rfl ?_
    refine g_iload E dX4_insert_13 0 rfl ?_
    refine g_icmp_gt E 29 dX4_insert_15 (by decide) ?_ ?_
    · exact g_vret E dX4_insert_29
    · refine g_iload E dX4_insert_18 0 rfl ?_
      refine g_iconst E (v := 2) dX4_insert_20 (by decide) ?_
      refine g_aload_n E dX4_insert_21 1 rfl ?_
      refine gg_4_19 E (hN 4 (by decide)) dX4_insert_22 ?_
      refine g_imul E dX4_insert_25 ?_
      refine g_icmp_le E 30 dX4_insert_26 (by decide) ?_ ?_
      · refine g_iload_n E dX4_insert_30 2 rfl ?_
        refine g_aload_n E dX4_insert_31 1 rfl ?_
        refine gg_4_27 E (hN 4 (by decide)) dX4_insert_32 ?_
        refine g_imul E dX4_insert_35 ?_
        refine g_iconst E (v := 5) dX4_insert_36 (by decide) ?_
        refine g_iadd E dX4_insert_37 ?_
        refine g_let (fun y3 => ?_)
        refine g_istore E (lv' := [(6, .int y3), (5, .int r2), (0, .ref (ad 4)), (1, .int x1), (2, .int x2), (3, .int x3), (4, .int x4)]) dX4_insert_38 (by decide) rfl ?_
        refine g_iload E dX4_insert_40 1 rfl ?_
        refine g_istore E (lv' := [(7, .int r2), (6, .int y3), (5, .int r2), (0, .ref (ad 4)), (1, .int x1), (2, .int x2), (3, .int x3), (4, .int x4)]) dX4_insert_42 (by decide) rfl ?_
        refine g_sub [3, 4, 5, 6, 7, 2, 1, 0] rfl ?_
        exact w_X4_insert_p44 E hap hN dr_N x1 x2 x3 x4 r2 y3 r2 s1
      · exact g_vret E dX4_insert_29
end

theorem dX3_init_0 : decode cX3_init 0 = .ok (.aload_n 0, 1) := by decide +kernel
theorem dX3_init_1 : decode cX3_init 1 = .ok (.invokespecial 5, 3) := by decide +kernel
theorem dX3_init_4 : decode cX3_init 4 = .ok (.aload_n 0, 1) := by decide +kernel
theorem dX3_init_5 : decode cX3_init 5 = .ok (.aload_n 1, 1) := by decide +kernel
theorem dX3_init_6 : decode cX3_init 6 = .ok (.putfield 11, 3) := by decide +kernel
theorem dX3_init_9 : decode cX3_init 9 = .ok (.aload_n 0, 1) := by decide +kernel
theorem dX3_init_10 : decode cX3_init 10 = .ok (.iload_n 2, 1) := by decide +kernel
theorem dX3_init_11 : decode cX3_init 11 = .ok (.putfield 15, 3) := by decide +kernel
theorem dX3_init_14 : decode cX3_init 14 = .ok (.iconst 0, 1) := by decide +kernel
theorem dX3_init_15 : decode cX3_init 15 = .ok (.istore_n 3, 1) := by decide +kernel
theorem dX3_init_16 : decode cX3_init 16 = .ok (.iload_n 3, 1) := by decide +kernel
theorem dX3_init_17 : decode cX3_init 17 = .ok (.iconst 4, 1) := by decide +kernel
theorem dX3_init_18 : decode cX3_init 18 = .ok (.if_icmp .ge 21, 3) := by decide +kernel
theorem dX3_init_21 : decode cX3_init 21 = .ok (.aload_n 0, 1) := by decide +kernel
theorem dX3_init_22 : decode cX3_init 22 = .ok (.iload_n 3, 1) := by decide +kernel
theorem dX3_init_23 : decode cX3_init 23 = .ok (.iconst 2, 1) := by decide +kernel
theorem dX3_init_24 : decode cX3_init 24 = .ok (.iconst (-1), 1) := by decide +kernel
theorem dX3_init_25 : decode cX3_init 25 = .ok (.invokevirtual 19, 3) := by decide +kernel
theorem dX3_init_28 : decode cX3_init 28 = .ok (.aload_n 0, 1) := by decide +kernel
theorem dX3_init_29 : decode cX3_init 29 = .ok (.iload_n 3, 1) := by decide +kernel
theorem dX3_init_30 : decode cX3_init 30 = .ok (.invokevirtual 23, 3) := by decide +kernel
theorem dX3_init_33 : decode cX3_init 33 = .ok (.iinc 3 1, 3) := by decide +kernel
theorem dX3_init_36 : decode cX3_init 36 = .ok (.goto (-20), 3) := by decide +kernel
theorem dX3_init_39 : decode cX3_init 39 = .ok (.return_, 1) := by decide +kernel
def f_X3_init_p16 (ln : Nat → Nat) : Nat → Int32 → dr_S → Option (Int32 × dr_S)
  | 0, _, _ => none
  | n + 1, x3, s => (if ((4 : Int32) ≤ x3 : Prop) then some (0, s) else dr_bndv (f_X3_set ln x3 2 ((-1)) s) (fun s1 => dr_bndv (f_X3_rest ln x3 s1) (fun s2 => dr_let (x3 + 1) (fun y3 => (f_X3_init_p16 ln n y3 s2)))))
def f_X3_init (ln : Nat → Nat) (s : dr_S) : Option (Int32 × dr_S) := (f_X3_init_p16 ln dr_N 0 s)
section
variable {p : Program} {l : Launch} {e : Env} {s0 : State} {m : MethodId} {args : Array Value} {below : List Frame} {meth : Method} {c : Code} {A : Nat → Prop} {D : va_G} {cI cZ : ClassId} {ad ln : Nat → Nat} {L : List Nat}
set_option maxHeartbeats 1000000 in
set_option maxRecDepth 20000 in
theorem w_X3_init_p16 (E : dr_E p (dr_rm 3) s0 m args meth c 0 0 A s0.heap D cI cZ ad L cX3_init 4 RX3 none) (hap : dr_ap ad L) (hN : ∀ x ∈ nd_3, x ∈ L) : ∀ (n : Nat) (x3 : Int32) (s : dr_S), dr_G p l e (dr_rm 3) s0 m args below meth c 0 0 A s0.heap D cI cZ ad ln L 4 (dr_Zv D cI cZ ad ln L A below args s0 0 0) 16 [(0, .ref (ad 3)), (3, .int x3)] [] s (f_X3_init_p16 ln n x3 s) := by
  intro n
  induction n with
  | zero =>
    intro x3 s
    rw [f_X3_init_p16]
    exact g_none
  | succ n hkb16 =>
    intro x3 s
    rw [f_X3_init_p16]
    refine g_iload_n E dX3_init_16 1 rfl ?_
    refine g_iconst E (v := 4) dX3_init_17 (by decide) ?_
    refine g_icmp_ge E 39 dX3_init_18 (by decide) ?_ ?_
    · exact g_vret E dX3_init_39
    · refine g_aload_n E dX3_init_21 0 rfl ?_
      refine g_iload_n E dX3_init_22 1 rfl ?_
      refine g_iconst E (v := 2) dX3_init_23 (by decide) ?_
      refine g_iconst E (v := (-1)) dX3_init_24 (by decide) ?_
      refine g_cVv E [.int x3, .int 2, .int (-1)] rfl (c_X3_set hap hN x3 2 ((-1)) s) (hN 3 (by decide)) (by decide) rfl rfl mi_X3_set msl_X3_set mw_X3_set rfl ml_3_19 ⟨Nat.le_of_ble_eq_true rfl, Nat.le_of_ble_eq_true rfl⟩ (Nat.le_of_ble_eq_true rfl) dX3_init_25 (fun s1 => ?_)
      refine g_aload_n E dX3_init_28 0 rfl ?_
      refine g_iload_n E dX3_init_29 1 rfl ?_
      refine g_cVv E [.int x3] rfl (c_X3_rest hap hN x3 s1) (hN 3 (by decide)) (by decide) rfl rfl mi_X3_rest msl_X3_rest mw_X3_rest rfl ml_3_23 ⟨Nat.le_of_ble_eq_true rfl, Nat.le_of_ble_eq_true rfl⟩ (Nat.le_of_ble_eq_true rfl) dX3_init_30 (fun s2 => ?_)
      refine g_iinc E (lv' := []) (lv'' := fun y3 => [(3, .int y3), (0, .ref (ad 3))]) (v := 1) dX3_init_33 1 rfl (by decide) (by decide) (fun _ => rfl) (fun y3 => ?_)
      refine g_goto E 16 dX3_init_36 (by decide) ?_
      refine g_sub [1, 0] rfl ?_
      exact hkb16 y3 s2
set_option maxHeartbeats 1000000 in
set_option maxRecDepth 20000 in
theorem w_X3_init_m (E : dr_E p (dr_rm 3) s0 m args meth c 0 0 A s0.heap D cI cZ ad L cX3_init 4 RX3 none) (hap : dr_ap ad L) (hN : ∀ x ∈ nd_3, x ∈ L) : ∀ (x2 : Int32) (s : dr_S), dr_G p l e (dr_rm 3) s0 m args below meth c 0 0 A s0.heap D cI cZ ad ln L 4 (dr_Zv D cI cZ ad ln L A below args s0 0 0) 14 [(0, .ref (ad 3)), (1, .ref (ad 2)), (2, .int x2)] [] s (f_X3_init ln s) := by
  intro x2 s
  unfold f_X3_init
  refine g_iconst E (v := 0) dX3_init_14 (by decide) ?_
  refine g_istore_n E (lv' := [(3, .int 0), (0, .ref (ad 3)), (1, .ref (ad 2)), (2, .int x2)]) dX3_init_15 (by decide) rfl ?_
  refine g_sub [1, 0] rfl ?_
  exact w_X3_init_p16 E hap hN dr_N 0 s
def s_X3_init (s : dr_S) (x2 : Int32) : dr_S := (dr_pf s 301 x2)
set_option maxHeartbeats 1000000 in
set_option maxRecDepth 20000 in
theorem k_X3_init (hap : dr_ap ad [3, 4, 2, 14, 15, 16, 5, 17, 18, 19]) (x2 : Int32) (s s2 : dr_S) (hF : f_X3_init ln (s_X3_init s x2) = some (0, s2)) : dr_K l D cI cZ yX3_init cX3_init 4 (dr_rm 3) [.ref (ad 3), .ref (ad 2), .int x2] ((ad 3, .inr (3, [.null, .int 0])) :: dr_w cI cZ ad ln [4, 2, 14, 15, 16, 5, 17, 18, 19] s) (fun u : dr_S => u = s2) (fun u => dr_w cI cZ ad ln [3, 4, 2, 14, 15, 16, 5, 17, 18, 19] u) := by
  refine k_start (own := RX3) (by decide) rfl (Nat.le_of_ble_eq_true rfl) rfl ?_
  intro p e s0 m args below meth c A hA hmn E
  refine k_lv (lv' := [(0, .ref (ad 3)), (1, .ref (ad 2)), (2, .int x2)]) rfl ?_
  refine k_aload_n E dX3_init_0 0 rfl ?_
  refine k_obj E mo_3 dX3_init_1 ⟨Nat.le_of_ble_eq_true rfl, Nat.le_of_ble_eq_true rfl⟩ ?_
  refine k_aload_n E dX3_init_4 0 rfl ?_
  refine k_aload_n E dX3_init_5 1 rfl ?_
  refine k_putF E (q0 := 0) (k := 0) rfl rfl wu_3 tyX3 tyX3_ok nmX3 (by decide) wf_3_11 rfl hmn rfl (ty := (.object "DrawerRoom$Cells")) (by decide +kernel) rfl rfl (Nat.le_of_ble_eq_true rfl) dX3_init_6 ?_
  refine k_ws (ws' := ((ad 3, .inr (3, [.ref (ad 2), .int 0])) :: dr_w cI cZ ad ln [4, 2, 14, 15, 16, 5, 17, 18, 19] s)) rfl ?_
  refine k_aload_n E dX3_init_9 0 rfl ?_
  refine k_iload_n E dX3_init_10 2 rfl ?_
  refine k_putF E (q0 := 0) (k := 1) rfl rfl wu_3 tyX3 tyX3_ok nmX3 (by decide) wf_3_15 rfl hmn rfl (ty := .int) (by decide +kernel) rfl rfl (Nat.le_of_ble_eq_true rfl) dX3_init_11 ?_
  refine k_ws (ws' := ((ad 3, .inr (3, [.ref (ad 2), .int x2])) :: dr_w cI cZ ad ln [4, 2, 14, 15, 16, 5, 17, 18, 19] s)) rfl ?_
  refine k_toG E hap (fun id h => ?_) (s1 := s_X3_init s x2) rfl hF ⟨rfl, rfl⟩ ⟨rfl, rfl⟩ (fun E => ?_)
  · rw [hA]
    simp only [List.mem_cons, List.not_mem_nil, or_false] at h
    rcases h with rfl | rfl | rfl | rfl | rfl | rfl | rfl | rfl | rfl | rfl
    · exact Or.inl ⟨0, _, rfl⟩
    · exact Or.inl ⟨1, _, rfl⟩
    · exact Or.inl ⟨2, _, rfl⟩
    · exact Or.inl ⟨3, _, rfl⟩
    · exact Or.inl ⟨4, _, rfl⟩
    · exact Or.inl ⟨5, _, rfl⟩
    · exact Or.inl ⟨6, _, rfl⟩
    · exact Or.inl ⟨7, _, rfl⟩
    · exact Or.inl ⟨8, _, rfl⟩
    · exact Or.inl ⟨9, _, rfl⟩
  · have hN : ∀ x ∈ nd_3, x ∈ ([3, 4, 2, 14, 15, 16, 5, 17, 18, 19] : List Nat) := by decide
    exact w_X3_init_m E hap hN x2 _
end
theorem dX4_init_0 : decode cX4_init 0 = .ok (.aload_n 0, 1) := by decide +kernel
theorem dX4_init_1 : decode cX4_init 1 = .ok (.invokespecial 3, 3) := by decide +kernel
theorem dX4_init_4 : decode cX4_init 4 = .ok (.aload_n 0, 1) := by decide +kernel
theorem dX4_init_5 : decode cX4_init 5 = .ok (.aload_n 1, 1) := by decide +kernel
theorem dX4_init_6 : decode cX4_init 6 = .ok (.putfield 9, 3) := by decide +kernel
theorem dX4_init_9 : decode cX4_init 9 = .ok (.aload_n 0, 1) := by decide +kernel
theorem dX4_init_10 : decode cX4_init 10 = .ok (.aload_n 2, 1) := by decide +kernel
theorem dX4_init_11 : decode cX4_init 11 = .ok (.putfield 15, 3) := by decide +kernel
theorem dX4_init_14 : decode cX4_init 14 = .ok (.aload_n 0, 1) := by decide +kernel
theorem dX4_init_15 : decode cX4_init 15 = .ok (.iload_n 3, 1) := by decide +kernel
theorem dX4_init_16 : decode cX4_init 16 = .ok (.putfield 19, 3) := by decide +kernel
theorem dX4_init_19 : decode cX4_init 19 = .ok (.aload_n 0, 1) := by decide +kernel
theorem dX4_init_20 : decode cX4_init 20 = .ok (.iload_n 3, 1) := by decide +kernel
theorem dX4_init_21 : decode cX4_init 21 = .ok (.invokestatic 23, 3) := by decide +kernel
theorem dX4_init_24 : decode cX4_init 24 = .ok (.putfield 27, 3) := by decide +kernel
theorem dX4_init_27 : decode cX4_init 27 = .ok (.aload_n 0, 1) := by decide +kernel
theorem dX4_init_28 : decode cX4_init 28 = .ok (.iconst 5, 1) := by decide +kernel
theorem dX4_init_29 : decode cX4_init 29 = .ok (.iconst 2, 1) := by decide +kernel
theorem dX4_init_30 : decode cX4_init 30 = .ok (.iload_n 3, 1) := by decide +kernel
theorem dX4_init_31 : decode cX4_init 31 = .ok (.imul, 1) := by decide +kernel
theorem dX4_init_32 : decode cX4_init 32 = .ok (.iadd, 1) := by decide +kernel
theorem dX4_init_33 : decode cX4_init 33 = .ok (.iconst 1, 1) := by decide +kernel
theorem dX4_init_34 : decode cX4_init 34 = .ok (.iadd, 1) := by decide +kernel
theorem dX4_init_35 : decode cX4_init 35 = .ok (.putfield 30, 3) := by decide +kernel
theorem dX4_init_38 : decode cX4_init 38 = .ok (.aload_n 0, 1) := by decide +kernel
theorem dX4_init_39 : decode cX4_init 39 = .ok (.sipush 260, 3) := by decide +kernel
theorem dX4_init_42 : decode cX4_init 42 = .ok (.aload_n 0, 1) := by decide +kernel
theorem dX4_init_43 : decode cX4_init 43 = .ok (.getfield 27, 3) := by decide +kernel
theorem dX4_init_46 : decode cX4_init 46 = .ok (.imul, 1) := by decide +kernel
theorem dX4_init_47 : decode cX4_init 47 = .ok (.putfield 33, 3) := by decide +kernel
theorem dX4_init_50 : decode cX4_init 50 = .ok (.aload_n 0, 1) := by decide +kernel
theorem dX4_init_51 : decode cX4_init 51 = .ok (.aload_n 0, 1) := by decide +kernel
theorem dX4_init_52 : decode cX4_init 52 = .ok (.getfield 33, 3) := by decide +kernel
theorem dX4_init_55 : decode cX4_init 55 = .ok (.iconst 1, 1) := by decide +kernel
theorem dX4_init_56 : decode cX4_init 56 = .ok (.iadd, 1) := by decide +kernel
theorem dX4_init_57 : decode cX4_init 57 = .ok (.putfield 36, 3) := by decide +kernel
theorem dX4_init_60 : decode cX4_init 60 = .ok (.aload_n 0, 1) := by decide +kernel
theorem dX4_init_61 : decode cX4_init 61 = .ok (.invokevirtual 39, 3) := by decide +kernel
theorem dX4_init_64 : decode cX4_init 64 = .ok (.aload_n 0, 1) := by decide +kernel
theorem dX4_init_65 : decode cX4_init 65 = .ok (.aload_n 0, 1) := by decide +kernel
theorem dX4_init_66 : decode cX4_init 66 = .ok (.iconst 0, 1) := by decide +kernel
theorem dX4_init_67 : decode cX4_init 67 = .ok (.invokevirtual 42, 3) := by decide +kernel
theorem dX4_init_70 : decode cX4_init 70 = .ok (.invokevirtual 45, 3) := by decide +kernel
theorem dX4_init_73 : decode cX4_init 73 = .ok (.return_, 1) := by decide +kernel
def f_X4_init (ln : Nat → Nat) (s : dr_S) : Option (Int32 × dr_S) := dr_bndv (f_X4_clear ln  s) (fun s1 => dr_bnd (f_X4_open ln 0 s1) (fun r3 s2 => dr_bndv (f_X4_setTop ln r3 s2) (fun s4 => some (0, s4))))
section
variable {p : Program} {l : Launch} {e : Env} {s0 : State} {m : MethodId} {args : Array Value} {below : List Frame} {meth : Method} {c : Code} {A : Nat → Prop} {D : va_G} {cI cZ : ClassId} {ad ln : Nat → Nat} {L : List Nat}
set_option maxHeartbeats 1000000 in
set_option maxRecDepth 20000 in
theorem w_X4_init_m (E : dr_E p (dr_rm 3) s0 m args meth c 0 0 A s0.heap D cI cZ ad L cX4_init 4 RX4 none) (hap : dr_ap ad L) (hN : ∀ x ∈ nd_4, x ∈ L) : ∀ (x3 : Int32) (s : dr_S), dr_G p l e (dr_rm 3) s0 m args below meth c 0 0 A s0.heap D cI cZ ad ln L 4 (dr_Zv D cI cZ ad ln L A below args s0 0 0) 60 [(0, .ref (ad 4)), (1, .ref (ad 2)), (2, .ref (ad 5)), (3, .int x3)] [] s (f_X4_init ln s) := by
  intro x3 s
  unfold f_X4_init
  refine g_aload_n E dX4_init_60 0 rfl ?_
  refine g_cVv E [] rfl (c_X4_clear hap hN  s) (hN 4 (by decide)) (by decide) rfl rfl mi_X4_clear msl_X4_clear mw_X4_clear rfl ml_4_39 ⟨Nat.le_of_ble_eq_true rfl, Nat.le_of_ble_eq_true rfl⟩ (Nat.le_of_ble_eq_true rfl) dX4_init_61 (fun s1 => ?_)
  refine g_aload_n E dX4_init_64 0 rfl ?_
  refine g_aload_n E dX4_init_65 0 rfl ?_
  refine g_iconst E (v := 0) dX4_init_66 (by decide) ?_
  refine g_cVi E [.int 0] rfl (c_X4_open hap hN 0 s1) (hN 4 (by decide)) (by decide) rfl rfl mi_X4_open msl_X4_open mw_X4_open rfl ml_4_42 ⟨Nat.le_of_ble_eq_true rfl, Nat.le_of_ble_eq_true rfl⟩ (Nat.le_of_ble_eq_true rfl) dX4_init_67 (fun r3 s2 => ?_)
  refine g_cVv E [.int r3] rfl (c_X4_setTop hap hN r3 s2) (hN 4 (by decide)) (by decide) rfl rfl mi_X4_setTop msl_X4_setTop mw_X4_setTop rfl ml_4_45 ⟨Nat.le_of_ble_eq_true rfl, Nat.le_of_ble_eq_true rfl⟩ (Nat.le_of_ble_eq_true rfl) dX4_init_70 (fun s4 => ?_)
  exact g_vret E dX4_init_73
def s_X4_init (s : dr_S) (x3 : Int32) : dr_S := (dr_pf (dr_pf (dr_pf (dr_pf (dr_pf s 402 x3) 403 ((5 + ((2 * x3) + 1)) + ((2 * x3) + 2))) 404 ((5 + (2 * x3)) + 1)) 405 (260 * ((5 + ((2 * x3) + 1)) + ((2 * x3) + 2)))) 406 ((260 * ((5 + ((2 * x3) + 1)) + ((2 * x3) + 2))) + 1))
set_option maxHeartbeats 1000000 in
set_option maxRecDepth 20000 in
theorem k_X4_init (hap : dr_ap ad [4, 2, 14, 15, 16, 5, 17, 18, 19]) (x3 : Int32) (s s2 : dr_S) (hF : f_X4_init ln (s_X4_init s x3) = some (0, s2)) : dr_K l D cI cZ yX4_init cX4_init 4 (dr_rm 3) [.ref (ad 4), .ref (ad 2), .ref (ad 5), .int x3] ((ad 4, .inr (4, [.null, .null, .int 0, .int 0, .int 0, .int 0, .int 0])) :: dr_w cI cZ ad ln [2, 14, 15, 16, 5, 17, 18, 19] s) (fun u : dr_S => u = s2) (fun u => dr_w cI cZ ad ln [4, 2, 14, 15, 16, 5, 17, 18, 19] u) := by
  refine k_start (own := RX4) (by decide) rfl (Nat.le_of_ble_eq_true rfl) rfl ?_
  intro p e s0 m args below meth c A hA hmn E
  refine k_lv (lv' := [(0, .ref (ad 4)), (1, .ref (ad 2)), (2, .ref (ad 5)), (3, .int x3)]) rfl ?_
  refine k_aload_n E dX4_init_0 0 rfl ?_
  refine k_obj E mo_4 dX4_init_1 ⟨Nat.le_of_ble_eq_true rfl, Nat.le_of_ble_eq_true rfl⟩ ?_
  refine k_aload_n E dX4_init_4 0 rfl ?_
  refine k_aload_n E dX4_init_5 1 rfl ?_
  refine k_putF E (q0 := 0) (k := 0) rfl rfl wu_4 tyX4 tyX4_ok nmX4 (by decide) wf_4_9 rfl hmn rfl (ty := (.object "DrawerRoom$Cells")) (by decide +kernel) rfl rfl (Nat.le_of_ble_eq_true rfl) dX4_init_6 ?_
  refine k_ws (ws' := ((ad 4, .inr (4, [.ref (ad 2), .null, .int 0, .int 0, .int 0, .int 0, .int 0])) :: dr_w cI cZ ad ln [2, 14, 15, 16, 5, 17, 18, 19] s)) rfl ?_
  refine k_aload_n E dX4_init_9 0 rfl ?_
  refine k_aload_n E dX4_init_10 2 rfl ?_
  refine k_putF E (q0 := 0) (k := 1) rfl rfl wu_4 tyX4 tyX4_ok nmX4 (by decide) wf_4_15 rfl hmn rfl (ty := (.object "DrawerRoom$Filing")) (by decide +kernel) rfl rfl (Nat.le_of_ble_eq_true rfl) dX4_init_11 ?_
  refine k_ws (ws' := ((ad 4, .inr (4, [.ref (ad 2), .ref (ad 5), .int 0, .int 0, .int 0, .int 0, .int 0])) :: dr_w cI cZ ad ln [2, 14, 15, 16, 5, 17, 18, 19] s)) rfl ?_
  refine k_aload_n E dX4_init_14 0 rfl ?_
  refine k_iload_n E dX4_init_15 3 rfl ?_
  refine k_putF E (q0 := 0) (k := 2) rfl rfl wu_4 tyX4 tyX4_ok nmX4 (by decide) wf_4_19 rfl hmn rfl (ty := .int) (by decide +kernel) rfl rfl (Nat.le_of_ble_eq_true rfl) dX4_init_16 ?_
  refine k_ws (ws' := ((ad 4, .inr (4, [.ref (ad 2), .ref (ad 5), .int x3, .int 0, .int 0, .int 0, .int 0])) :: dr_w cI cZ ad ln [2, 14, 15, 16, 5, 17, 18, 19] s)) rfl ?_
  refine k_aload_n E dX4_init_19 0 rfl ?_
  refine k_iload_n E dX4_init_20 3 rfl ?_
  refine k_cSi E (ln := ln) (s := s) (s1 := s) (r1 := ((5 + ((2 * x3) + 1)) + ((2 * x3) + 2))) [.int x3] rfl (c0_X4_widthFor ⟨List.nodup_nil, fun i h => (by cases h)⟩ x3 s) ms_X4_widthFor mw_X4_widthFor rfl ml_4_23 ⟨Nat.le_of_ble_eq_true rfl, Nat.le_of_ble_eq_true rfl⟩ (Nat.le_of_ble_eq_true rfl) ⟨Nat.le_of_ble_eq_true rfl, Nat.le_of_ble_eq_true rfl⟩ dX4_init_21 ?_
  refine k_putF E (q0 := 0) (k := 3) rfl rfl wu_4 tyX4 tyX4_ok nmX4 (by decide) wf_4_27 rfl hmn rfl (ty := .int) (by decide +kernel) rfl rfl (Nat.le_of_ble_eq_true rfl) dX4_init_24 ?_
  refine k_ws (ws' := ((ad 4, .inr (4, [.ref (ad 2), .ref (ad 5), .int x3, .int ((5 + ((2 * x3) + 1)) + ((2 * x3) + 2)), .int 0, .int 0, .int 0])) :: dr_w cI cZ ad ln [2, 14, 15, 16, 5, 17, 18, 19] s)) rfl ?_
  refine k_aload_n E dX4_init_27 0 rfl ?_
  refine k_iconst E (v := 5) dX4_init_28 (by decide) ?_
  refine k_iconst E (v := 2) dX4_init_29 (by decide) ?_
  refine k_iload_n E dX4_init_30 3 rfl ?_
  refine k_imul E dX4_init_31 ?_
  refine k_iadd E dX4_init_32 ?_
  refine k_iconst E (v := 1) dX4_init_33 (by decide) ?_
  refine k_iadd E dX4_init_34 ?_
  refine k_putF E (q0 := 0) (k := 4) rfl rfl wu_4 tyX4 tyX4_ok nmX4 (by decide) wf_4_30 rfl hmn rfl (ty := .int) (by decide +kernel) rfl rfl (Nat.le_of_ble_eq_true rfl) dX4_init_35 ?_
  refine k_ws (ws' := ((ad 4, .inr (4, [.ref (ad 2), .ref (ad 5), .int x3, .int ((5 + ((2 * x3) + 1)) + ((2 * x3) + 2)), .int ((5 + (2 * x3)) + 1), .int 0, .int 0])) :: dr_w cI cZ ad ln [2, 14, 15, 16, 5, 17, 18, 19] s)) rfl ?_
  refine k_aload_n E dX4_init_38 0 rfl ?_
  refine k_sipush E (v := 260) dX4_init_39 (by decide) ?_
  refine k_aload_n E dX4_init_42 0 rfl ?_
  refine k_get E (q0 := 0) (k := 3) rfl rfl wu_4 (by decide) wf_4_27 rfl dX4_init_43 ?_
  refine k_imul E dX4_init_46 ?_
  refine k_putF E (q0 := 0) (k := 5) rfl rfl wu_4 tyX4 tyX4_ok nmX4 (by decide) wf_4_33 rfl hmn rfl (ty := .int) (by decide +kernel) rfl rfl (Nat.le_of_ble_eq_true rfl) dX4_init_47 ?_
  refine k_ws (ws' := ((ad 4, .inr (4, [.ref (ad 2), .ref (ad 5), .int x3, .int ((5 + ((2 * x3) + 1)) + ((2 * x3) + 2)), .int ((5 + (2 * x3)) + 1), .int (260 * ((5 + ((2 * x3) + 1)) + ((2 * x3) + 2))), .int 0])) :: dr_w cI cZ ad ln [2, 14, 15, 16, 5, 17, 18, 19] s)) rfl ?_
  refine k_aload_n E dX4_init_50 0 rfl ?_
  refine k_aload_n E dX4_init_51 0 rfl ?_
  refine k_get E (q0 := 0) (k := 5) rfl rfl wu_4 (by decide) wf_4_33 rfl dX4_init_52 ?_
  refine k_iconst E (v := 1) dX4_init_55 (by decide) ?_
  refine k_iadd E dX4_init_56 ?_
  refine k_putF E (q0 := 0) (k := 6) rfl rfl wu_4 tyX4 tyX4_ok nmX4 (by decide) wf_4_36 rfl hmn rfl (ty := .int) (by decide +kernel) rfl rfl (Nat.le_of_ble_eq_true rfl) dX4_init_57 ?_
  refine k_ws (ws' := ((ad 4, .inr (4, [.ref (ad 2), .ref (ad 5), .int x3, .int ((5 + ((2 * x3) + 1)) + ((2 * x3) + 2)), .int ((5 + (2 * x3)) + 1), .int (260 * ((5 + ((2 * x3) + 1)) + ((2 * x3) + 2))), .int ((260 * ((5 + ((2 * x3) + 1)) + ((2 * x3) + 2))) + 1)])) :: dr_w cI cZ ad ln [2, 14, 15, 16, 5, 17, 18, 19] s)) rfl ?_
  refine k_toG E hap (fun id h => ?_) (s1 := s_X4_init s x3) rfl hF ⟨rfl, rfl⟩ ⟨rfl, rfl⟩ (fun E => ?_)
  · rw [hA]
    simp only [List.mem_cons, List.not_mem_nil, or_false] at h
    rcases h with rfl | rfl | rfl | rfl | rfl | rfl | rfl | rfl | rfl
    · exact Or.inl ⟨0, _, rfl⟩
    · exact Or.inl ⟨1, _, rfl⟩
    · exact Or.inl ⟨2, _, rfl⟩
    · exact Or.inl ⟨3, _, rfl⟩
    · exact Or.inl ⟨4, _, rfl⟩
    · exact Or.inl ⟨5, _, rfl⟩
    · exact Or.inl ⟨6, _, rfl⟩
    · exact Or.inl ⟨7, _, rfl⟩
    · exact Or.inl ⟨8, _, rfl⟩
  · have hN : ∀ x ∈ nd_4, x ∈ ([4, 2, 14, 15, 16, 5, 17, 18, 19] : List Nat) := by decide
    exact w_X4_init_m E hap hN x3 _
end

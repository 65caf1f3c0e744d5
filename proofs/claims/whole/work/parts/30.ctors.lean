theorem dX0_init_0 : decode cX0_init 0 = .ok (.aload_n 0, 1) := by decide +kernel
theorem dX0_init_1 : decode cX0_init 1 = .ok (.invokespecial 3, 3) := by decide +kernel
theorem dX0_init_4 : decode cX0_init 4 = .ok (.aload_n 0, 1) := by decide +kernel
theorem dX0_init_5 : decode cX0_init 5 = .ok (.aload_n 1, 1) := by decide +kernel
theorem dX0_init_6 : decode cX0_init 6 = .ok (.putfield 9, 3) := by decide +kernel
theorem dX0_init_9 : decode cX0_init 9 = .ok (.aload_n 0, 1) := by decide +kernel
theorem dX0_init_10 : decode cX0_init 10 = .ok (.aload_n 2, 1) := by decide +kernel
theorem dX0_init_11 : decode cX0_init 11 = .ok (.putfield 15, 3) := by decide +kernel
theorem dX0_init_14 : decode cX0_init 14 = .ok (.return_, 1) := by decide +kernel
set_option maxHeartbeats 4000000 in
set_option maxRecDepth 20000 in
theorem k_X0_init {l : Launch} {D : va_G} {cI cZ : ClassId} (a : Nat) (x1 : Nat) (x2 : Nat) : dr_K l D cI cZ yX0_init cX0_init 3 ({ frames := 1, cells := 0, slots := 0, locals := 64 } : Room) [.ref a, .ref x1, .ref x2] [(a, .inr (0, [.null, .null]))] (fun _ : Nat → Nat => True) (fun u => [(a, .inr (0, [.ref x1, .ref x2]))]) := by
  refine k_start (own := RX0) (by decide) rfl (Nat.le_of_ble_eq_true rfl) rfl ?_
  intro p e s0 m args below meth c A hA hmn E
  refine k_lv (lv' := [(0, .ref a), (1, .ref x1), (2, .ref x2)]) rfl ?_
  refine k_aload_n E dX0_init_0 0 rfl ?_
  refine k_obj E mo_0 dX0_init_1 ⟨Nat.le_of_ble_eq_true rfl, Nat.le_of_ble_eq_true rfl⟩ ?_
  refine k_aload_n E dX0_init_4 0 rfl ?_
  refine k_aload_n E dX0_init_5 1 rfl ?_
  refine k_putF E (q0 := 0) (k := 0) rfl rfl wu_0 tyX0 tyX0_ok nmX0 (by decide) wf_0_9 rfl hmn rfl (ty := (.object "DrawerRoom$Drawers")) (by decide +kernel) rfl rfl (Nat.le_of_ble_eq_true rfl) dX0_init_6 ?_
  refine k_ws (ws' := [(a, .inr (0, [.ref x1, .null]))]) rfl ?_
  refine k_aload_n E dX0_init_9 0 rfl ?_
  refine k_aload_n E dX0_init_10 2 rfl ?_
  refine k_putF E (q0 := 0) (k := 1) rfl rfl wu_0 tyX0 tyX0_ok nmX0 (by decide) wf_0_15 rfl hmn rfl (ty := (.object "DrawerRoom$Cards")) (by decide +kernel) rfl rfl (Nat.le_of_ble_eq_true rfl) dX0_init_11 ?_
  refine k_ws (ws' := [(a, .inr (0, [.ref x1, .ref x2]))]) rfl ?_
  exact k_ret E (fun i => 0) trivial rfl ⟨by first | (dsimp only; omega) | (dsimp only; done), by first | (dsimp only; omega) | (dsimp only; done)⟩ dX0_init_14
theorem dX1_init_0 : decode cX1_init 0 = .ok (.aload_n 0, 1) := by decide +kernel
theorem dX1_init_1 : decode cX1_init 1 = .ok (.invokespecial 3, 3) := by decide +kernel
theorem dX1_init_4 : decode cX1_init 4 = .ok (.aload_n 0, 1) := by decide +kernel
theorem dX1_init_5 : decode cX1_init 5 = .ok (.bipush 120, 2) := by decide +kernel
theorem dX1_init_7 : decode cX1_init 7 = .ok (.newarray .int, 2) := by decide +kernel
theorem dX1_init_9 : decode cX1_init 9 = .ok (.putfield 9, 3) := by decide +kernel
theorem dX1_init_12 : decode cX1_init 12 = .ok (.aload_n 0, 1) := by decide +kernel
theorem dX1_init_13 : decode cX1_init 13 = .ok (.iconst 0, 1) := by decide +kernel
theorem dX1_init_14 : decode cX1_init 14 = .ok (.putfield 15, 3) := by decide +kernel
theorem dX1_init_17 : decode cX1_init 17 = .ok (.aload_n 0, 1) := by decide +kernel
theorem dX1_init_18 : decode cX1_init 18 = .ok (.aload_n 1, 1) := by decide +kernel
theorem dX1_init_19 : decode cX1_init 19 = .ok (.putfield 19, 3) := by decide +kernel
theorem dX1_init_22 : decode cX1_init 22 = .ok (.aload_n 0, 1) := by decide +kernel
theorem dX1_init_23 : decode cX1_init 23 = .ok (.aload_n 2, 1) := by decide +kernel
theorem dX1_init_24 : decode cX1_init 24 = .ok (.putfield 23, 3) := by decide +kernel
theorem dX1_init_27 : decode cX1_init 27 = .ok (.return_, 1) := by decide +kernel
set_option maxHeartbeats 4000000 in
set_option maxRecDepth 20000 in
theorem k_X1_init {l : Launch} {D : va_G} {cI cZ : ClassId} (a : Nat) (x1 : Nat) (x2 : Nat) : dr_K l D cI cZ yX1_init cX1_init 3 ({ frames := 1, cells := 1, slots := 120, locals := 64 } : Room) [.ref a, .ref x1, .ref x2] [(a, .inr (1, [.null, .null, .null, .int 0]))] (fun _ : Nat → Nat => True) (fun u => [(a, .inr (1, [.ref x1, .ref x2, .ref (u 13), .int 0])), (u 13, .inl (cI, 120, .inl (fun _ => 0)))]) := by
  refine k_start (own := RX1) (by decide) rfl (Nat.le_of_ble_eq_true rfl) rfl ?_
  intro p e s0 m args below meth c A hA hmn E
  refine k_lv (lv' := [(0, .ref a), (1, .ref x1), (2, .ref x2)]) rfl ?_
  refine k_aload_n E dX1_init_0 0 rfl ?_
  refine k_obj E mo_1 dX1_init_1 ⟨Nat.le_of_ble_eq_true rfl, Nat.le_of_ble_eq_true rfl⟩ ?_
  refine k_aload_n E dX1_init_4 0 rfl ?_
  refine k_bipush E (v := 120) dX1_init_5 (by decide) ?_
  refine k_newI E (N := 120) (by decide) (by decide) (by decide) (by first | (dsimp only; omega) | (dsimp only; done)) (by first | (dsimp only; omega) | (dsimp only; done)) dX1_init_7 (fun q13 => ?_)
  refine k_putF E (q0 := 0) (k := 2) rfl rfl wu_1 tyX1 tyX1_ok nmX1 (by decide) wf_1_9 rfl hmn rfl (ty := (.array .int)) (by decide +kernel) rfl rfl (Nat.le_of_ble_eq_true rfl) dX1_init_9 ?_
  refine k_ws (ws' := [(a, .inr (1, [.null, .null, .ref q13, .int 0])), (q13, .inl (cI, 120, .inl (fun _ => 0)))]) rfl ?_
  refine k_aload_n E dX1_init_12 0 rfl ?_
  refine k_iconst E (v := 0) dX1_init_13 (by decide) ?_
  refine k_put E (q0 := 0) (k := 3) rfl rfl wu_1 tyX1 tyX1_ok nmX1 (by decide) wf_1_15 rfl (ty := .int) (by decide +kernel) rfl rfl (Nat.le_of_ble_eq_true rfl) dX1_init_14 ?_
  refine k_ws (ws' := [(a, .inr (1, [.null, .null, .ref q13, .int 0])), (q13, .inl (cI, 120, .inl (fun _ => 0)))]) rfl ?_
  refine k_aload_n E dX1_init_17 0 rfl ?_
  refine k_aload_n E dX1_init_18 1 rfl ?_
  refine k_putF E (q0 := 0) (k := 0) rfl rfl wu_1 tyX1 tyX1_ok nmX1 (by decide) wf_1_19 rfl hmn rfl (ty := (.object "DrawerRoom$Drawers")) (by decide +kernel) rfl rfl (Nat.le_of_ble_eq_true rfl) dX1_init_19 ?_
  refine k_ws (ws' := [(a, .inr (1, [.ref x1, .null, .ref q13, .int 0])), (q13, .inl (cI, 120, .inl (fun _ => 0)))]) rfl ?_
  refine k_aload_n E dX1_init_22 0 rfl ?_
  refine k_aload_n E dX1_init_23 2 rfl ?_
  refine k_putF E (q0 := 0) (k := 1) rfl rfl wu_1 tyX1 tyX1_ok nmX1 (by decide) wf_1_23 rfl hmn rfl (ty := (.object "DrawerRoom$Filing")) (by decide +kernel) rfl rfl (Nat.le_of_ble_eq_true rfl) dX1_init_24 ?_
  refine k_ws (ws' := [(a, .inr (1, [.ref x1, .ref x2, .ref q13, .int 0])), (q13, .inl (cI, 120, .inl (fun _ => 0)))]) rfl ?_
  exact k_ret E (fun i => if i = 13 then q13 else 0) trivial rfl ⟨by first | (dsimp only; omega) | (dsimp only; done), by first | (dsimp only; omega) | (dsimp only; done)⟩ dX1_init_27
theorem dX2_init_0 : decode cX2_init 0 = .ok (.aload_n 0, 1) := by decide +kernel
theorem dX2_init_1 : decode cX2_init 1 = .ok (.invokespecial 3, 3) := by decide +kernel
theorem dX2_init_4 : decode cX2_init 4 = .ok (.aload_n 0, 1) := by decide +kernel
theorem dX2_init_5 : decode cX2_init 5 = .ok (.sipush 1024, 3) := by decide +kernel
theorem dX2_init_8 : decode cX2_init 8 = .ok (.newarray .int, 2) := by decide +kernel
theorem dX2_init_10 : decode cX2_init 10 = .ok (.putfield 11, 3) := by decide +kernel
theorem dX2_init_13 : decode cX2_init 13 = .ok (.aload_n 0, 1) := by decide +kernel
theorem dX2_init_14 : decode cX2_init 14 = .ok (.sipush 1024, 3) := by decide +kernel
theorem dX2_init_17 : decode cX2_init 17 = .ok (.newarray .int, 2) := by decide +kernel
theorem dX2_init_19 : decode cX2_init 19 = .ok (.putfield 15, 3) := by decide +kernel
theorem dX2_init_22 : decode cX2_init 22 = .ok (.aload_n 0, 1) := by decide +kernel
theorem dX2_init_23 : decode cX2_init 23 = .ok (.iconst 0, 1) := by decide +kernel
theorem dX2_init_24 : decode cX2_init 24 = .ok (.putfield 18, 3) := by decide +kernel
theorem dX2_init_27 : decode cX2_init 27 = .ok (.aload_n 0, 1) := by decide +kernel
theorem dX2_init_28 : decode cX2_init 28 = .ok (.iconst 0, 1) := by decide +kernel
theorem dX2_init_29 : decode cX2_init 29 = .ok (.putfield 22, 3) := by decide +kernel
theorem dX2_init_32 : decode cX2_init 32 = .ok (.aload_n 0, 1) := by decide +kernel
theorem dX2_init_33 : decode cX2_init 33 = .ok (.iconst 0, 1) := by decide +kernel
theorem dX2_init_34 : decode cX2_init 34 = .ok (.iload_n 1, 1) := by decide +kernel
theorem dX2_init_35 : decode cX2_init 35 = .ok (.invokestatic 26, 3) := by decide +kernel
theorem dX2_init_38 : decode cX2_init 38 = .ok (.newarray .int, 2) := by decide +kernel
theorem dX2_init_40 : decode cX2_init 40 = .ok (.putfield 32, 3) := by decide +kernel
theorem dX2_init_43 : decode cX2_init 43 = .ok (.return_, 1) := by decide +kernel
set_option maxHeartbeats 4000000 in
set_option maxRecDepth 20000 in
theorem k_X2_init {l : Launch} {D : va_G} {cI cZ : ClassId} (a : Nat) (x1 : Int32) (N : Nat) (hz0 : ¬ dr_max 0 x1 < 0) (hz : (dr_max 0 x1).toNatClampNeg = N) (hN : N ≤ 100000) : dr_K l D cI cZ yX2_init cX2_init 2 ({ frames := 1, cells := 3, slots := 2048 + N, locals := 64 } : Room) [.ref a, .int x1] [(a, .inr (2, [.null, .null, .null, .int 0, .int 0]))] (fun _ : Nat → Nat => True) (fun u => [(a, .inr (2, [.ref (u 14), .ref (u 15), .ref (u 16), .int 0, .int 0])), (u 15, .inl (cI, 1024, .inl (fun _ => 0))), (u 16, .inl (cI, 1024, .inl (fun _ => 0))), (u 14, .inl (cI, N, .inl (fun _ => 0)))]) := by
  refine k_start (own := RX2) (by decide) rfl (Nat.le_of_ble_eq_true rfl) rfl ?_
  intro p e s0 m args below meth c A hA hmn E
  refine k_lv (lv' := [(0, .ref a), (1, .int x1)]) rfl ?_
  refine k_aload_n E dX2_init_0 0 rfl ?_
  refine k_obj E mo_2 dX2_init_1 ⟨Nat.le_of_ble_eq_true rfl, Nat.le_of_ble_eq_true rfl⟩ ?_
  refine k_aload_n E dX2_init_4 0 rfl ?_
  refine k_sipush E (v := 1024) dX2_init_5 (by decide) ?_
  refine k_newI E (N := 1024) (by decide) (by decide) (by decide) (by first | (dsimp only; omega) | (dsimp only; done)) (by first | (dsimp only; omega) | (dsimp only; done)) dX2_init_8 (fun q15 => ?_)
  refine k_putF E (q0 := 0) (k := 1) rfl rfl wu_2 tyX2 tyX2_ok nmX2 (by decide) wf_2_11 rfl hmn rfl (ty := (.array .int)) (by decide +kernel) rfl rfl (Nat.le_of_ble_eq_true rfl) dX2_init_10 ?_
  refine k_ws (ws' := [(a, .inr (2, [.null, .ref q15, .null, .int 0, .int 0])), (q15, .inl (cI, 1024, .inl (fun _ => 0)))]) rfl ?_
  refine k_aload_n E dX2_init_13 0 rfl ?_
  refine k_sipush E (v := 1024) dX2_init_14 (by decide) ?_
  refine k_newI E (N := 1024) (by decide) (by decide) (by decide) (by first | (dsimp only; omega) | (dsimp only; done)) (by first | (dsimp only; omega) | (dsimp only; done)) dX2_init_17 (fun q16 => ?_)
  refine k_putF E (q0 := 0) (k := 2) rfl rfl wu_2 tyX2 tyX2_ok nmX2 (by decide) wf_2_15 rfl hmn rfl (ty := (.array .int)) (by decide +kernel) rfl rfl (Nat.le_of_ble_eq_true rfl) dX2_init_19 ?_
  refine k_ws (ws' := [(a, .inr (2, [.null, .ref q15, .ref q16, .int 0, .int 0])), (q15, .inl (cI, 1024, .inl (fun _ => 0))), (q16, .inl (cI, 1024, .inl (fun _ => 0)))]) rfl ?_
  refine k_aload_n E dX2_init_22 0 rfl ?_
  refine k_iconst E (v := 0) dX2_init_23 (by decide) ?_
  refine k_put E (q0 := 0) (k := 3) rfl rfl wu_2 tyX2 tyX2_ok nmX2 (by decide) wf_2_18 rfl (ty := .int) (by decide +kernel) rfl rfl (Nat.le_of_ble_eq_true rfl) dX2_init_24 ?_
  refine k_ws (ws' := [(a, .inr (2, [.null, .ref q15, .ref q16, .int 0, .int 0])), (q15, .inl (cI, 1024, .inl (fun _ => 0))), (q16, .inl (cI, 1024, .inl (fun _ => 0)))]) rfl ?_
  refine k_aload_n E dX2_init_27 0 rfl ?_
  refine k_iconst E (v := 0) dX2_init_28 (by decide) ?_
  refine k_put E (q0 := 0) (k := 4) rfl rfl wu_2 tyX2 tyX2_ok nmX2 (by decide) wf_2_22 rfl (ty := .boolean) (by decide +kernel) rfl rfl (Nat.le_of_ble_eq_true rfl) dX2_init_29 ?_
  refine k_ws (ws' := [(a, .inr (2, [.null, .ref q15, .ref q16, .int 0, .int 0])), (q15, .inl (cI, 1024, .inl (fun _ => 0))), (q16, .inl (cI, 1024, .inl (fun _ => 0)))]) rfl ?_
  refine k_aload_n E dX2_init_32 0 rfl ?_
  refine k_iconst E (v := 0) dX2_init_33 (by decide) ?_
  refine k_iload_n E dX2_init_34 1 rfl ?_
  refine k_mmax E ml_2_26 ⟨Nat.le_of_ble_eq_true rfl, Nat.le_of_ble_eq_true rfl⟩ ⟨by first | (dsimp only; omega) | (dsimp only; done), by first | (dsimp only; omega) | (dsimp only; done)⟩ dX2_init_35 ?_
  refine k_newI E (N := N) hz0 hz (by show N * 4 ≤ 536870912; omega) (by first | (dsimp only; omega) | (dsimp only; done)) (by first | (dsimp only; omega) | (dsimp only; done)) dX2_init_38 (fun q14 => ?_)
  refine k_putF E (q0 := 0) (k := 0) rfl rfl wu_2 tyX2 tyX2_ok nmX2 (by decide) wf_2_32 rfl hmn rfl (ty := (.array .int)) (by decide +kernel) rfl rfl (Nat.le_of_ble_eq_true rfl) dX2_init_40 ?_
  refine k_ws (ws' := [(a, .inr (2, [.ref q14, .ref q15, .ref q16, .int 0, .int 0])), (q15, .inl (cI, 1024, .inl (fun _ => 0))), (q16, .inl (cI, 1024, .inl (fun _ => 0))), (q14, .inl (cI, N, .inl (fun _ => 0)))]) rfl ?_
  exact k_ret E (fun i => if i = 15 then q15 else if i = 16 then q16 else if i = 14 then q14 else 0) trivial rfl ⟨by first | (dsimp only; omega) | (dsimp only; done), by first | (dsimp only; omega) | (dsimp only; done)⟩ dX2_init_43
theorem dX5_init_0 : decode cX5_init 0 = .ok (.aload_n 0, 1) := by decide +kernel
theorem dX5_init_1 : decode cX5_init 1 = .ok (.invokespecial 3, 3) := by decide +kernel
theorem dX5_init_4 : decode cX5_init 4 = .ok (.aload_n 0, 1) := by decide +kernel
theorem dX5_init_5 : decode cX5_init 5 = .ok (.iconst 5, 1) := by decide +kernel
theorem dX5_init_6 : decode cX5_init 6 = .ok (.newarray .int, 2) := by decide +kernel
theorem dX5_init_8 : decode cX5_init 8 = .ok (.putfield 11, 3) := by decide +kernel
theorem dX5_init_11 : decode cX5_init 11 = .ok (.aload_n 0, 1) := by decide +kernel
theorem dX5_init_12 : decode cX5_init 12 = .ok (.iconst 4, 1) := by decide +kernel
theorem dX5_init_13 : decode cX5_init 13 = .ok (.newarray .int, 2) := by decide +kernel
theorem dX5_init_15 : decode cX5_init 15 = .ok (.putfield 15, 3) := by decide +kernel
theorem dX5_init_18 : decode cX5_init 18 = .ok (.aload_n 0, 1) := by decide +kernel
theorem dX5_init_19 : decode cX5_init 19 = .ok (.iconst 4, 1) := by decide +kernel
theorem dX5_init_20 : decode cX5_init 20 = .ok (.newarray .int, 2) := by decide +kernel
theorem dX5_init_22 : decode cX5_init 22 = .ok (.putfield 18, 3) := by decide +kernel
theorem dX5_init_25 : decode cX5_init 25 = .ok (.aload_n 0, 1) := by decide +kernel
theorem dX5_init_26 : decode cX5_init 26 = .ok (.iconst 0, 1) := by decide +kernel
theorem dX5_init_27 : decode cX5_init 27 = .ok (.putfield 21, 3) := by decide +kernel
theorem dX5_init_30 : decode cX5_init 30 = .ok (.aload_n 0, 1) := by decide +kernel
theorem dX5_init_31 : decode cX5_init 31 = .ok (.iconst 0, 1) := by decide +kernel
theorem dX5_init_32 : decode cX5_init 32 = .ok (.putfield 25, 3) := by decide +kernel
theorem dX5_init_35 : decode cX5_init 35 = .ok (.return_, 1) := by decide +kernel
set_option maxHeartbeats 4000000 in
set_option maxRecDepth 20000 in
theorem k_X5_init {l : Launch} {D : va_G} {cI cZ : ClassId} (a : Nat) : dr_K l D cI cZ yX5_init cX5_init 1 ({ frames := 1, cells := 3, slots := 13, locals := 64 } : Room) [.ref a] [(a, .inr (5, [.null, .null, .null, .int 0, .int 0]))] (fun _ : Nat → Nat => True) (fun u => [(a, .inr (5, [.ref (u 17), .ref (u 18), .ref (u 19), .int 0, .int 0])), (u 17, .inl (cI, 5, .inl (fun _ => 0))), (u 18, .inl (cI, 4, .inl (fun _ => 0))), (u 19, .inl (cI, 4, .inl (fun _ => 0)))]) := by
  refine k_start (own := RX5) (by decide) rfl (Nat.le_of_ble_eq_true rfl) rfl ?_
  intro p e s0 m args below meth c A hA hmn E
  refine k_lv (lv' := [(0, .ref a)]) rfl ?_
  refine k_aload_n E dX5_init_0 0 rfl ?_
  refine k_obj E mo_5 dX5_init_1 ⟨Nat.le_of_ble_eq_true rfl, Nat.le_of_ble_eq_true rfl⟩ ?_
  refine k_aload_n E dX5_init_4 0 rfl ?_
  refine k_iconst E (v := 5) dX5_init_5 (by decide) ?_
  refine k_newI E (N := 5) (by decide) (by decide) (by decide) (by first | (dsimp only; omega) | (dsimp only; done)) (by first | (dsimp only; omega) | (dsimp only; done)) dX5_init_6 (fun q17 => ?_)
  refine k_putF E (q0 := 0) (k := 0) rfl rfl wu_5 tyX5 tyX5_ok nmX5 (by decide) wf_5_11 rfl hmn rfl (ty := (.array .int)) (by decide +kernel) rfl rfl (Nat.le_of_ble_eq_true rfl) dX5_init_8 ?_
  refine k_ws (ws' := [(a, .inr (5, [.ref q17, .null, .null, .int 0, .int 0])), (q17, .inl (cI, 5, .inl (fun _ => 0)))]) rfl ?_
  refine k_aload_n E dX5_init_11 0 rfl ?_
  refine k_iconst E (v := 4) dX5_init_12 (by decide) ?_
  refine k_newI E (N := 4) (by decide) (by decide) (by decide) (by first | (dsimp only; omega) | (dsimp only; done)) (by first | (dsimp only; omega) | (dsimp only; done)) dX5_init_13 (fun q18 => ?_)
  refine k_putF E (q0 := 0) (k := 1) rfl rfl wu_5 tyX5 tyX5_ok nmX5 (by decide) wf_5_15 rfl hmn rfl (ty := (.array .int)) (by decide +kernel) rfl rfl (Nat.le_of_ble_eq_true rfl) dX5_init_15 ?_
  refine k_ws (ws' := [(a, .inr (5, [.ref q17, .ref q18, .null, .int 0, .int 0])), (q17, .inl (cI, 5, .inl (fun _ => 0))), (q18, .inl (cI, 4, .inl (fun _ => 0)))]) rfl ?_
  refine k_aload_n E dX5_init_18 0 rfl ?_
  refine k_iconst E (v := 4) dX5_init_19 (by decide) ?_
  refine k_newI E (N := 4) (by decide) (by decide) (by decide) (by first | (dsimp only; omega) | (dsimp only; done)) (by first | (dsimp only; omega) | (dsimp only; done)) dX5_init_20 (fun q19 => ?_)
  refine k_putF E (q0 := 0) (k := 2) rfl rfl wu_5 tyX5 tyX5_ok nmX5 (by decide) wf_5_18 rfl hmn rfl (ty := (.array .int)) (by decide +kernel) rfl rfl (Nat.le_of_ble_eq_true rfl) dX5_init_22 ?_
  refine k_ws (ws' := [(a, .inr (5, [.ref q17, .ref q18, .ref q19, .int 0, .int 0])), (q17, .inl (cI, 5, .inl (fun _ => 0))), (q18, .inl (cI, 4, .inl (fun _ => 0))), (q19, .inl (cI, 4, .inl (fun _ => 0)))]) rfl ?_
  refine k_aload_n E dX5_init_25 0 rfl ?_
  refine k_iconst E (v := 0) dX5_init_26 (by decide) ?_
  refine k_put E (q0 := 0) (k := 3) rfl rfl wu_5 tyX5 tyX5_ok nmX5 (by decide) wf_5_21 rfl (ty := .int) (by decide +kernel) rfl rfl (Nat.le_of_ble_eq_true rfl) dX5_init_27 ?_
  refine k_ws (ws' := [(a, .inr (5, [.ref q17, .ref q18, .ref q19, .int 0, .int 0])), (q17, .inl (cI, 5, .inl (fun _ => 0))), (q18, .inl (cI, 4, .inl (fun _ => 0))), (q19, .inl (cI, 4, .inl (fun _ => 0)))]) rfl ?_
  refine k_aload_n E dX5_init_30 0 rfl ?_
  refine k_iconst E (v := 0) dX5_init_31 (by decide) ?_
  refine k_put E (q0 := 0) (k := 4) rfl rfl wu_5 tyX5 tyX5_ok nmX5 (by decide) wf_5_25 rfl (ty := .int) (by decide +kernel) rfl rfl (Nat.le_of_ble_eq_true rfl) dX5_init_32 ?_
  refine k_ws (ws' := [(a, .inr (5, [.ref q17, .ref q18, .ref q19, .int 0, .int 0])), (q17, .inl (cI, 5, .inl (fun _ => 0))), (q18, .inl (cI, 4, .inl (fun _ => 0))), (q19, .inl (cI, 4, .inl (fun _ => 0)))]) rfl ?_
  exact k_ret E (fun i => if i = 17 then q17 else if i = 18 then q18 else if i = 19 then q19 else 0) trivial rfl ⟨by first | (dsimp only; omega) | (dsimp only; done), by first | (dsimp only; omega) | (dsimp only; done)⟩ dX5_init_35
theorem dX6_init_0 : decode cX6_init 0 = .ok (.aload_n 0, 1) := by decide +kernel
theorem dX6_init_1 : decode cX6_init 1 = .ok (.invokespecial 5, 3) := by decide +kernel
theorem dX6_init_4 : decode cX6_init 4 = .ok (.aload_n 0, 1) := by decide +kernel
theorem dX6_init_5 : decode cX6_init 5 = .ok (.aload_n 1, 1) := by decide +kernel
theorem dX6_init_6 : decode cX6_init 6 = .ok (.putfield 11, 3) := by decide +kernel
theorem dX6_init_9 : decode cX6_init 9 = .ok (.aload_n 0, 1) := by decide +kernel
theorem dX6_init_10 : decode cX6_init 10 = .ok (.iload_n 2, 1) := by decide +kernel
theorem dX6_init_11 : decode cX6_init 11 = .ok (.putfield 15, 3) := by decide +kernel
theorem dX6_init_14 : decode cX6_init 14 = .ok (.aload_n 0, 1) := by decide +kernel
theorem dX6_init_15 : decode cX6_init 15 = .ok (.iload_n 2, 1) := by decide +kernel
theorem dX6_init_16 : decode cX6_init 16 = .ok (.sipush 960, 3) := by decide +kernel
theorem dX6_init_19 : decode cX6_init 19 = .ok (.iadd, 1) := by decide +kernel
theorem dX6_init_20 : decode cX6_init 20 = .ok (.putfield 19, 3) := by decide +kernel
theorem dX6_init_23 : decode cX6_init 23 = .ok (.aload_n 0, 1) := by decide +kernel
theorem dX6_init_24 : decode cX6_init 24 = .ok (.aload_n 0, 1) := by decide +kernel
theorem dX6_init_25 : decode cX6_init 25 = .ok (.getfield 19, 3) := by decide +kernel
theorem dX6_init_28 : decode cX6_init 28 = .ok (.iconst 1, 1) := by decide +kernel
theorem dX6_init_29 : decode cX6_init 29 = .ok (.iadd, 1) := by decide +kernel
theorem dX6_init_30 : decode cX6_init 30 = .ok (.putfield 22, 3) := by decide +kernel
theorem dX6_init_33 : decode cX6_init 33 = .ok (.return_, 1) := by decide +kernel
set_option maxHeartbeats 4000000 in
set_option maxRecDepth 20000 in
theorem k_X6_init {l : Launch} {D : va_G} {cI cZ : ClassId} (a : Nat) (x1 : Nat) (x2 : Int32) : dr_K l D cI cZ yX6_init cX6_init 3 ({ frames := 1, cells := 0, slots := 0, locals := 64 } : Room) [.ref a, .ref x1, .int x2] [(a, .inr (6, [.null, .int 0, .int 0, .int 0]))] (fun _ : Nat → Nat => True) (fun u => [(a, .inr (6, [.ref x1, .int x2, .int (x2 + 960), .int ((x2 + 960) + 1)]))]) := by
  refine k_start (own := RX6) (by decide) rfl (Nat.le_of_ble_eq_true rfl) rfl ?_
  intro p e s0 m args below meth c A hA hmn E
  refine k_lv (lv' := [(0, .ref a), (1, .ref x1), (2, .int x2)]) rfl ?_
  refine k_aload_n E dX6_init_0 0 rfl ?_
  refine k_obj E mo_6 dX6_init_1 ⟨Nat.le_of_ble_eq_true rfl, Nat.le_of_ble_eq_true rfl⟩ ?_
  refine k_aload_n E dX6_init_4 0 rfl ?_
  refine k_aload_n E dX6_init_5 1 rfl ?_
  refine k_putF E (q0 := 0) (k := 0) rfl rfl wu_6 tyX6 tyX6_ok nmX6 (by decide) wf_6_11 rfl hmn rfl (ty := (.object "DrawerRoom$Cells")) (by decide +kernel) rfl rfl (Nat.le_of_ble_eq_true rfl) dX6_init_6 ?_
  refine k_ws (ws' := [(a, .inr (6, [.ref x1, .int 0, .int 0, .int 0]))]) rfl ?_
  refine k_aload_n E dX6_init_9 0 rfl ?_
  refine k_iload_n E dX6_init_10 2 rfl ?_
  refine k_putF E (q0 := 0) (k := 1) rfl rfl wu_6 tyX6 tyX6_ok nmX6 (by decide) wf_6_15 rfl hmn rfl (ty := .int) (by decide +kernel) rfl rfl (Nat.le_of_ble_eq_true rfl) dX6_init_11 ?_
  refine k_ws (ws' := [(a, .inr (6, [.ref x1, .int x2, .int 0, .int 0]))]) rfl ?_
  refine k_aload_n E dX6_init_14 0 rfl ?_
  refine k_iload_n E dX6_init_15 2 rfl ?_
  refine k_sipush E (v := 960) dX6_init_16 (by decide) ?_
  refine k_iadd E dX6_init_19 ?_
  refine k_putF E (q0 := 0) (k := 2) rfl rfl wu_6 tyX6 tyX6_ok nmX6 (by decide) wf_6_19 rfl hmn rfl (ty := .int) (by decide +kernel) rfl rfl (Nat.le_of_ble_eq_true rfl) dX6_init_20 ?_
  refine k_ws (ws' := [(a, .inr (6, [.ref x1, .int x2, .int (x2 + 960), .int 0]))]) rfl ?_
  refine k_aload_n E dX6_init_23 0 rfl ?_
  refine k_aload_n E dX6_init_24 0 rfl ?_
  refine k_get E (q0 := 0) (k := 2) rfl rfl wu_6 (by decide) wf_6_19 rfl dX6_init_25 ?_
  refine k_iconst E (v := 1) dX6_init_28 (by decide) ?_
  refine k_iadd E dX6_init_29 ?_
  refine k_putF E (q0 := 0) (k := 3) rfl rfl wu_6 tyX6 tyX6_ok nmX6 (by decide) wf_6_22 rfl hmn rfl (ty := .int) (by decide +kernel) rfl rfl (Nat.le_of_ble_eq_true rfl) dX6_init_30 ?_
  refine k_ws (ws' := [(a, .inr (6, [.ref x1, .int x2, .int (x2 + 960), .int ((x2 + 960) + 1)]))]) rfl ?_
  exact k_ret E (fun i => 0) trivial rfl ⟨by first | (dsimp only; omega) | (dsimp only; done), by first | (dsimp only; omega) | (dsimp only; done)⟩ dX6_init_33
theorem dX7_init_0 : decode cX7_init 0 = .ok (.aload_n 0, 1) := by decide +kernel
theorem dX7_init_1 : decode cX7_init 1 = .ok (.invokespecial 5, 3) := by decide +kernel
theorem dX7_init_4 : decode cX7_init 4 = .ok (.aload_n 0, 1) := by decide +kernel
theorem dX7_init_5 : decode cX7_init 5 = .ok (.bipush 9, 2) := by decide +kernel
theorem dX7_init_7 : decode cX7_init 7 = .ok (.newarray .int, 2) := by decide +kernel
theorem dX7_init_9 : decode cX7_init 9 = .ok (.putfield 11, 3) := by decide +kernel
theorem dX7_init_12 : decode cX7_init 12 = .ok (.aload_n 0, 1) := by decide +kernel
theorem dX7_init_13 : decode cX7_init 13 = .ok (.bipush 9, 2) := by decide +kernel
theorem dX7_init_15 : decode cX7_init 15 = .ok (.newarray .int, 2) := by decide +kernel
theorem dX7_init_17 : decode cX7_init 17 = .ok (.putfield 15, 3) := by decide +kernel
theorem dX7_init_20 : decode cX7_init 20 = .ok (.aload_n 0, 1) := by decide +kernel
theorem dX7_init_21 : decode cX7_init 21 = .ok (.bipush 9, 2) := by decide +kernel
theorem dX7_init_23 : decode cX7_init 23 = .ok (.newarray .int, 2) := by decide +kernel
theorem dX7_init_25 : decode cX7_init 25 = .ok (.putfield 18, 3) := by decide +kernel
theorem dX7_init_28 : decode cX7_init 28 = .ok (.aload_n 0, 1) := by decide +kernel
theorem dX7_init_29 : decode cX7_init 29 = .ok (.bipush 9, 2) := by decide +kernel
theorem dX7_init_31 : decode cX7_init 31 = .ok (.newarray .int, 2) := by decide +kernel
theorem dX7_init_33 : decode cX7_init 33 = .ok (.putfield 21, 3) := by decide +kernel
theorem dX7_init_36 : decode cX7_init 36 = .ok (.aload_n 0, 1) := by decide +kernel
theorem dX7_init_37 : decode cX7_init 37 = .ok (.bipush 9, 2) := by decide +kernel
theorem dX7_init_39 : decode cX7_init 39 = .ok (.newarray .int, 2) := by decide +kernel
theorem dX7_init_41 : decode cX7_init 41 = .ok (.putfield 24, 3) := by decide +kernel
theorem dX7_init_44 : decode cX7_init 44 = .ok (.aload_n 0, 1) := by decide +kernel
theorem dX7_init_45 : decode cX7_init 45 = .ok (.bipush 9, 2) := by decide +kernel
theorem dX7_init_47 : decode cX7_init 47 = .ok (.newarray .int, 2) := by decide +kernel
theorem dX7_init_49 : decode cX7_init 49 = .ok (.putfield 27, 3) := by decide +kernel
theorem dX7_init_52 : decode cX7_init 52 = .ok (.aload_n 0, 1) := by decide +kernel
theorem dX7_init_53 : decode cX7_init 53 = .ok (.bipush 16, 2) := by decide +kernel
theorem dX7_init_55 : decode cX7_init 55 = .ok (.newarray .int, 2) := by decide +kernel
theorem dX7_init_57 : decode cX7_init 57 = .ok (.putfield 30, 3) := by decide +kernel
theorem dX7_init_60 : decode cX7_init 60 = .ok (.aload_n 0, 1) := by decide +kernel
theorem dX7_init_61 : decode cX7_init 61 = .ok (.iconst 0, 1) := by decide +kernel
theorem dX7_init_62 : decode cX7_init 62 = .ok (.putfield 33, 3) := by decide +kernel
theorem dX7_init_65 : decode cX7_init 65 = .ok (.aload_n 0, 1) := by decide +kernel
theorem dX7_init_66 : decode cX7_init 66 = .ok (.aload_n 1, 1) := by decide +kernel
theorem dX7_init_67 : decode cX7_init 67 = .ok (.putfield 37, 3) := by decide +kernel
theorem dX7_init_70 : decode cX7_init 70 = .ok (.return_, 1) := by decide +kernel
set_option maxHeartbeats 4000000 in
set_option maxRecDepth 20000 in
theorem k_X7_init {l : Launch} {D : va_G} {cI cZ : ClassId} (a : Nat) (x1 : Nat) : dr_K l D cI cZ yX7_init cX7_init 2 ({ frames := 1, cells := 7, slots := 70, locals := 64 } : Room) [.ref a, .ref x1] [(a, .inr (7, [.null, .null, .null, .null, .null, .null, .null, .null, .int 0]))] (fun _ : Nat → Nat => True) (fun u => [(a, .inr (7, [.ref x1, .ref (u 20), .ref (u 21), .ref (u 22), .ref (u 23), .ref (u 24), .ref (u 25), .ref (u 26), .int 0])), (u 20, .inl (cI, 9, .inl (fun _ => 0))), (u 21, .inl (cI, 9, .inl (fun _ => 0))), (u 22, .inl (cI, 9, .inl (fun _ => 0))), (u 23, .inl (cI, 9, .inl (fun _ => 0))), (u 24, .inl (cI, 9, .inl (fun _ => 0))), (u 25, .inl (cI, 9, .inl (fun _ => 0))), (u 26, .inl (cI, 16, .inl (fun _ => 0)))]) := by
  refine k_start (own := RX7) (by decide) rfl (Nat.le_of_ble_eq_true rfl) rfl ?_
  intro p e s0 m args below meth c A hA hmn E
  refine k_lv (lv' := [(0, .ref a), (1, .ref x1)]) rfl ?_
  refine k_aload_n E dX7_init_0 0 rfl ?_
  refine k_obj E mo_7 dX7_init_1 ⟨Nat.le_of_ble_eq_true rfl, Nat.le_of_ble_eq_true rfl⟩ ?_
  refine k_aload_n E dX7_init_4 0 rfl ?_
  refine k_bipush E (v := 9) dX7_init_5 (by decide) ?_
  refine k_newI E (N := 9) (by decide) (by decide) (by decide) (by first | (dsimp only; omega) | (dsimp only; done)) (by first | (dsimp only; omega) | (dsimp only; done)) dX7_init_7 (fun q20 => ?_)
  refine k_putF E (q0 := 0) (k := 1) rfl rfl wu_7 tyX7 tyX7_ok nmX7 (by decide) wf_7_11 rfl hmn rfl (ty := (.array .int)) (by decide +kernel) rfl rfl (Nat.le_of_ble_eq_true rfl) dX7_init_9 ?_
  refine k_ws (ws' := [(a, .inr (7, [.null, .ref q20, .null, .null, .null, .null, .null, .null, .int 0])), (q20, .inl (cI, 9, .inl (fun _ => 0)))]) rfl ?_
  refine k_aload_n E dX7_init_12 0 rfl ?_
  refine k_bipush E (v := 9) dX7_init_13 (by decide) ?_
  refine k_newI E (N := 9) (by decide) (by decide) (by decide) (by first | (dsimp only; omega) | (dsimp only; done)) (by first | (dsimp only; omega) | (dsimp only; done)) dX7_init_15 (fun q21 => ?_)
  refine k_putF E (q0 := 0) (k := 2) rfl rfl wu_7 tyX7 tyX7_ok nmX7 (by decide) wf_7_15 rfl hmn rfl (ty := (.array .int)) (by decide +kernel) rfl rfl (Nat.le_of_ble_eq_true rfl) dX7_init_17 ?_
  refine k_ws (ws' := [(a, .inr (7, [.null, .ref q20, .ref q21, .null, .null, .null, .null, .null, .int 0])), (q20, .inl (cI, 9, .inl (fun _ => 0))), (q21, .inl (cI, 9, .inl (fun _ => 0)))]) rfl ?_
  refine k_aload_n E dX7_init_20 0 rfl ?_
  refine k_bipush E (v := 9) dX7_init_21 (by decide) ?_
  refine k_newI E (N := 9) (by decide) (by decide) (by decide) (by first | (dsimp only; omega) | (dsimp only; done)) (by first | (dsimp only; omega) | (dsimp only; done)) dX7_init_23 (fun q22 => ?_)
  refine k_putF E (q0 := 0) (k := 3) rfl rfl wu_7 tyX7 tyX7_ok nmX7 (by decide) wf_7_18 rfl hmn rfl (ty := (.array .int)) (by decide +kernel) rfl rfl (Nat.le_of_ble_eq_true rfl) dX7_init_25 ?_
  refine k_ws (ws' := [(a, .inr (7, [.null, .ref q20, .ref q21, .ref q22, .null, .null, .null, .null, .int 0])), (q20, .inl (cI, 9, .inl (fun _ => 0))), (q21, .inl (cI, 9, .inl (fun _ => 0))), (q22, .inl (cI, 9, .inl (fun _ => 0)))]) rfl ?_
  refine k_aload_n E dX7_init_28 0 rfl ?_
  refine k_bipush E (v := 9) dX7_init_29 (by decide) ?_
  refine k_newI E (N := 9) (by decide) (by decide) (by decide) (by first | (dsimp only; omega) | (dsimp only; done)) (by first | (dsimp only; omega) | (dsimp only; done)) dX7_init_31 (fun q23 => ?_)
  refine k_putF E (q0 := 0) (k := 4) rfl rfl wu_7 tyX7 tyX7_ok nmX7 (by decide) wf_7_21 rfl hmn rfl (ty := (.array .int)) (by decide +kernel) rfl rfl (Nat.le_of_ble_eq_true rfl) dX7_init_33 ?_
  refine k_ws (ws' := [(a, .inr (7, [.null, .ref q20, .ref q21, .ref q22, .ref q23, .null, .null, .null, .int 0])), (q20, .inl (cI, 9, .inl (fun _ => 0))), (q21, .inl (cI, 9, .inl (fun _ => 0))), (q22, .inl (cI, 9, .inl (fun _ => 0))), (q23, .inl (cI, 9, .inl (fun _ => 0)))]) rfl ?_
  refine k_aload_n E dX7_init_36 0 rfl ?_
  refine k_bipush E (v := 9) dX7_init_37 (by decide) ?_
  refine k_newI E (N := 9) (by decide) (by decide) (by decide) (by first | (dsimp only; omega) | (dsimp only; done)) (by first | (dsimp only; omega) | (dsimp only; done)) dX7_init_39 (fun q24 => ?_)
  refine k_putF E (q0 := 0) (k := 5) rfl rfl wu_7 tyX7 tyX7_ok nmX7 (by decide) wf_7_24 rfl hmn rfl (ty := (.array .int)) (by decide +kernel) rfl rfl (Nat.le_of_ble_eq_true rfl) dX7_init_41 ?_
  refine k_ws (ws' := [(a, .inr (7, [.null, .ref q20, .ref q21, .ref q22, .ref q23, .ref q24, .null, .null, .int 0])), (q20, .inl (cI, 9, .inl (fun _ => 0))), (q21, .inl (cI, 9, .inl (fun _ => 0))), (q22, .inl (cI, 9, .inl (fun _ => 0))), (q23, .inl (cI, 9, .inl (fun _ => 0))), (q24, .inl (cI, 9, .inl (fun _ => 0)))]) rfl ?_
  refine k_aload_n E dX7_init_44 0 rfl ?_
  refine k_bipush E (v := 9) dX7_init_45 (by decide) ?_
  refine k_newI E (N := 9) (by decide) (by decide) (by decide) (by first | (dsimp only; omega) | (dsimp only; done)) (by first | (dsimp only; omega) | (dsimp only; done)) dX7_init_47 (fun q25 => ?_)
  refine k_putF E (q0 := 0) (k := 6) rfl rfl wu_7 tyX7 tyX7_ok nmX7 (by decide) wf_7_27 rfl hmn rfl (ty := (.array .int)) (by decide +kernel) rfl rfl (Nat.le_of_ble_eq_true rfl) dX7_init_49 ?_
  refine k_ws (ws' := [(a, .inr (7, [.null, .ref q20, .ref q21, .ref q22, .ref q23, .ref q24, .ref q25, .null, .int 0])), (q20, .inl (cI, 9, .inl (fun _ => 0))), (q21, .inl (cI, 9, .inl (fun _ => 0))), (q22, .inl (cI, 9, .inl (fun _ => 0))), (q23, .inl (cI, 9, .inl (fun _ => 0))), (q24, .inl (cI, 9, .inl (fun _ => 0))), (q25, .inl (cI, 9, .inl (fun _ => 0)))]) rfl ?_
  refine k_aload_n E dX7_init_52 0 rfl ?_
  refine k_bipush E (v := 16) dX7_init_53 (by decide) ?_
  refine k_newI E (N := 16) (by decide) (by decide) (by decide) (by first | (dsimp only; omega) | (dsimp only; done)) (by first | (dsimp only; omega) | (dsimp only; done)) dX7_init_55 (fun q26 => ?_)
  refine k_putF E (q0 := 0) (k := 7) rfl rfl wu_7 tyX7 tyX7_ok nmX7 (by decide) wf_7_30 rfl hmn rfl (ty := (.array .int)) (by decide +kernel) rfl rfl (Nat.le_of_ble_eq_true rfl) dX7_init_57 ?_
  refine k_ws (ws' := [(a, .inr (7, [.null, .ref q20, .ref q21, .ref q22, .ref q23, .ref q24, .ref q25, .ref q26, .int 0])), (q20, .inl (cI, 9, .inl (fun _ => 0))), (q21, .inl (cI, 9, .inl (fun _ => 0))), (q22, .inl (cI, 9, .inl (fun _ => 0))), (q23, .inl (cI, 9, .inl (fun _ => 0))), (q24, .inl (cI, 9, .inl (fun _ => 0))), (q25, .inl (cI, 9, .inl (fun _ => 0))), (q26, .inl (cI, 16, .inl (fun _ => 0)))]) rfl ?_
  refine k_aload_n E dX7_init_60 0 rfl ?_
  refine k_iconst E (v := 0) dX7_init_61 (by decide) ?_
  refine k_put E (q0 := 0) (k := 8) rfl rfl wu_7 tyX7 tyX7_ok nmX7 (by decide) wf_7_33 rfl (ty := .int) (by decide +kernel) rfl rfl (Nat.le_of_ble_eq_true rfl) dX7_init_62 ?_
  refine k_ws (ws' := [(a, .inr (7, [.null, .ref q20, .ref q21, .ref q22, .ref q23, .ref q24, .ref q25, .ref q26, .int 0])), (q20, .inl (cI, 9, .inl (fun _ => 0))), (q21, .inl (cI, 9, .inl (fun _ => 0))), (q22, .inl (cI, 9, .inl (fun _ => 0))), (q23, .inl (cI, 9, .inl (fun _ => 0))), (q24, .inl (cI, 9, .inl (fun _ => 0))), (q25, .inl (cI, 9, .inl (fun _ => 0))), (q26, .inl (cI, 16, .inl (fun _ => 0)))]) rfl ?_
  refine k_aload_n E dX7_init_65 0 rfl ?_
  refine k_aload_n E dX7_init_66 1 rfl ?_
  refine k_putF E (q0 := 0) (k := 0) rfl rfl wu_7 tyX7 tyX7_ok nmX7 (by decide) wf_7_37 rfl hmn rfl (ty := (.object "DrawerRoom$Jobs")) (by decide +kernel) rfl rfl (Nat.le_of_ble_eq_true rfl) dX7_init_67 ?_
  refine k_ws (ws' := [(a, .inr (7, [.ref x1, .ref q20, .ref q21, .ref q22, .ref q23, .ref q24, .ref q25, .ref q26, .int 0])), (q20, .inl (cI, 9, .inl (fun _ => 0))), (q21, .inl (cI, 9, .inl (fun _ => 0))), (q22, .inl (cI, 9, .inl (fun _ => 0))), (q23, .inl (cI, 9, .inl (fun _ => 0))), (q24, .inl (cI, 9, .inl (fun _ => 0))), (q25, .inl (cI, 9, .inl (fun _ => 0))), (q26, .inl (cI, 16, .inl (fun _ => 0)))]) rfl ?_
  exact k_ret E (fun i => if i = 20 then q20 else if i = 21 then q21 else if i = 22 then q22 else if i = 23 then q23 else if i = 24 then q24 else if i = 25 then q25 else if i = 26 then q26 else 0) trivial rfl ⟨by first | (dsimp only; omega) | (dsimp only; done), by first | (dsimp only; omega) | (dsimp only; done)⟩ dX7_init_70
theorem dX8_init_0 : decode cX8_init 0 = .ok (.aload_n 0, 1) := by decide +kernel
theorem dX8_init_1 : decode cX8_init 1 = .ok (.invokespecial 3, 3) := by decide +kernel
theorem dX8_init_4 : decode cX8_init 4 = .ok (.aload_n 0, 1) := by decide +kernel
theorem dX8_init_5 : decode cX8_init 5 = .ok (.bipush 8, 2) := by decide +kernel
theorem dX8_init_7 : decode cX8_init 7 = .ok (.newarray .int, 2) := by decide +kernel
theorem dX8_init_9 : decode cX8_init 9 = .ok (.putfield 9, 3) := by decide +kernel
theorem dX8_init_12 : decode cX8_init 12 = .ok (.aload_n 0, 1) := by decide +kernel
theorem dX8_init_13 : decode cX8_init 13 = .ok (.iconst (-1), 1) := by decide +kernel
theorem dX8_init_14 : decode cX8_init 14 = .ok (.putfield 15, 3) := by decide +kernel
theorem dX8_init_17 : decode cX8_init 17 = .ok (.aload_n 0, 1) := by decide +kernel
theorem dX8_init_18 : decode cX8_init 18 = .ok (.iconst (-1), 1) := by decide +kernel
theorem dX8_init_19 : decode cX8_init 19 = .ok (.putfield 19, 3) := by decide +kernel
theorem dX8_init_22 : decode cX8_init 22 = .ok (.aload_n 0, 1) := by decide +kernel
theorem dX8_init_23 : decode cX8_init 23 = .ok (.aload_n 1, 1) := by decide +kernel
theorem dX8_init_24 : decode cX8_init 24 = .ok (.putfield 22, 3) := by decide +kernel
theorem dX8_init_27 : decode cX8_init 27 = .ok (.aload_n 0, 1) := by decide +kernel
theorem dX8_init_28 : decode cX8_init 28 = .ok (.aload_n 2, 1) := by decide +kernel
theorem dX8_init_29 : decode cX8_init 29 = .ok (.putfield 26, 3) := by decide +kernel
theorem dX8_init_32 : decode cX8_init 32 = .ok (.aload_n 0, 1) := by decide +kernel
theorem dX8_init_33 : decode cX8_init 33 = .ok (.aload_n 3, 1) := by decide +kernel
theorem dX8_init_34 : decode cX8_init 34 = .ok (.putfield 30, 3) := by decide +kernel
theorem dX8_init_37 : decode cX8_init 37 = .ok (.aload_n 0, 1) := by decide +kernel
theorem dX8_init_38 : decode cX8_init 38 = .ok (.aload 4, 2) := by decide +kernel
theorem dX8_init_40 : decode cX8_init 40 = .ok (.putfield 34, 3) := by decide +kernel
theorem dX8_init_43 : decode cX8_init 43 = .ok (.aload_n 0, 1) := by decide +kernel
theorem dX8_init_44 : decode cX8_init 44 = .ok (.aload 5, 2) := by decide +kernel
theorem dX8_init_46 : decode cX8_init 46 = .ok (.putfield 38, 3) := by decide +kernel
theorem dX8_init_49 : decode cX8_init 49 = .ok (.aload_n 0, 1) := by decide +kernel
theorem dX8_init_50 : decode cX8_init 50 = .ok (.aload 6, 2) := by decide +kernel
theorem dX8_init_52 : decode cX8_init 52 = .ok (.putfield 42, 3) := by decide +kernel
theorem dX8_init_55 : decode cX8_init 55 = .ok (.return_, 1) := by decide +kernel
set_option maxHeartbeats 4000000 in
set_option maxRecDepth 20000 in
theorem k_X8_init {l : Launch} {D : va_G} {cI cZ : ClassId} (a : Nat) (x1 : Nat) (x2 : Nat) (x3 : Nat) (x4 : Nat) (x5 : Nat) (x6 : Nat) : dr_K l D cI cZ yX8_init cX8_init 7 ({ frames := 1, cells := 1, slots := 8, locals := 64 } : Room) [.ref a, .ref x1, .ref x2, .ref x3, .ref x4, .ref x5, .ref x6] [(a, .inr (8, [.null, .null, .null, .null, .null, .null, .null, .int 0, .int 0]))] (fun _ : Nat → Nat => True) (fun u => [(a, .inr (8, [.ref x1, .ref x2, .ref x3, .ref x4, .ref x5, .ref x6, .ref (u 27), .int (-1), .int (-1)])), (u 27, .inl (cI, 8, .inl (fun _ => 0)))]) := by
  refine k_start (own := RX8) (by decide) rfl (Nat.le_of_ble_eq_true rfl) rfl ?_
  intro p e s0 m args below meth c A hA hmn E
  refine k_lv (lv' := [(0, .ref a), (1, .ref x1), (2, .ref x2), (3, .ref x3), (4, .ref x4), (5, .ref x5), (6, .ref x6)]) rfl ?_
  refine k_aload_n E dX8_init_0 0 rfl ?_
  refine k_obj E mo_8 dX8_init_1 ⟨Nat.le_of_ble_eq_true rfl, Nat.le_of_ble_eq_true rfl⟩ ?_
  refine k_aload_n E dX8_init_4 0 rfl ?_
  refine k_bipush E (v := 8) dX8_init_5 (by decide) ?_
  refine k_newI E (N := 8) (by decide) (by decide) (by decide) (by first | (dsimp only; omega) | (dsimp only; done)) (by first | (dsimp only; omega) | (dsimp only; done)) dX8_init_7 (fun q27 => ?_)
  refine k_putF E (q0 := 0) (k := 6) rfl rfl wu_8 tyX8 tyX8_ok nmX8 (by decide) wf_8_9 rfl hmn rfl (ty := (.array .int)) (by decide +kernel) rfl rfl (Nat.le_of_ble_eq_true rfl) dX8_init_9 ?_
  refine k_ws (ws' := [(a, .inr (8, [.null, .null, .null, .null, .null, .null, .ref q27, .int 0, .int 0])), (q27, .inl (cI, 8, .inl (fun _ => 0)))]) rfl ?_
  refine k_aload_n E dX8_init_12 0 rfl ?_
  refine k_iconst E (v := (-1)) dX8_init_13 (by decide) ?_
  refine k_put E (q0 := 0) (k := 7) rfl rfl wu_8 tyX8 tyX8_ok nmX8 (by decide) wf_8_15 rfl (ty := .int) (by decide +kernel) rfl rfl (Nat.le_of_ble_eq_true rfl) dX8_init_14 ?_
  refine k_ws (ws' := [(a, .inr (8, [.null, .null, .null, .null, .null, .null, .ref q27, .int (-1), .int 0])), (q27, .inl (cI, 8, .inl (fun _ => 0)))]) rfl ?_
  refine k_aload_n E dX8_init_17 0 rfl ?_
  refine k_iconst E (v := (-1)) dX8_init_18 (by decide) ?_
  refine k_put E (q0 := 0) (k := 8) rfl rfl wu_8 tyX8 tyX8_ok nmX8 (by decide) wf_8_19 rfl (ty := .int) (by decide +kernel) rfl rfl (Nat.le_of_ble_eq_true rfl) dX8_init_19 ?_
  refine k_ws (ws' := [(a, .inr (8, [.null, .null, .null, .null, .null, .null, .ref q27, .int (-1), .int (-1)])), (q27, .inl (cI, 8, .inl (fun _ => 0)))]) rfl ?_
  refine k_aload_n E dX8_init_22 0 rfl ?_
  refine k_aload_n E dX8_init_23 1 rfl ?_
  refine k_putF E (q0 := 0) (k := 0) rfl rfl wu_8 tyX8 tyX8_ok nmX8 (by decide) wf_8_22 rfl hmn rfl (ty := (.object "DrawerRoom$Cells")) (by decide +kernel) rfl rfl (Nat.le_of_ble_eq_true rfl) dX8_init_24 ?_
  refine k_ws (ws' := [(a, .inr (8, [.ref x1, .null, .null, .null, .null, .null, .ref q27, .int (-1), .int (-1)])), (q27, .inl (cI, 8, .inl (fun _ => 0)))]) rfl ?_
  refine k_aload_n E dX8_init_27 0 rfl ?_
  refine k_aload_n E dX8_init_28 2 rfl ?_
  refine k_putF E (q0 := 0) (k := 1) rfl rfl wu_8 tyX8 tyX8_ok nmX8 (by decide) wf_8_26 rfl hmn rfl (ty := (.object "DrawerRoom$Clerks")) (by decide +kernel) rfl rfl (Nat.le_of_ble_eq_true rfl) dX8_init_29 ?_
  refine k_ws (ws' := [(a, .inr (8, [.ref x1, .ref x2, .null, .null, .null, .null, .ref q27, .int (-1), .int (-1)])), (q27, .inl (cI, 8, .inl (fun _ => 0)))]) rfl ?_
  refine k_aload_n E dX8_init_32 0 rfl ?_
  refine k_aload_n E dX8_init_33 3 rfl ?_
  refine k_putF E (q0 := 0) (k := 2) rfl rfl wu_8 tyX8 tyX8_ok nmX8 (by decide) wf_8_30 rfl hmn rfl (ty := (.object "DrawerRoom$Jobs")) (by decide +kernel) rfl rfl (Nat.le_of_ble_eq_true rfl) dX8_init_34 ?_
  refine k_ws (ws' := [(a, .inr (8, [.ref x1, .ref x2, .ref x3, .null, .null, .null, .ref q27, .int (-1), .int (-1)])), (q27, .inl (cI, 8, .inl (fun _ => 0)))]) rfl ?_
  refine k_aload_n E dX8_init_37 0 rfl ?_
  refine k_aload E dX8_init_38 4 rfl ?_
  refine k_putF E (q0 := 0) (k := 3) rfl rfl wu_8 tyX8 tyX8_ok nmX8 (by decide) wf_8_34 rfl hmn rfl (ty := (.object "DrawerRoom$Steps")) (by decide +kernel) rfl rfl (Nat.le_of_ble_eq_true rfl) dX8_init_40 ?_
  refine k_ws (ws' := [(a, .inr (8, [.ref x1, .ref x2, .ref x3, .ref x4, .null, .null, .ref q27, .int (-1), .int (-1)])), (q27, .inl (cI, 8, .inl (fun _ => 0)))]) rfl ?_
  refine k_aload_n E dX8_init_43 0 rfl ?_
  refine k_aload E dX8_init_44 5 rfl ?_
  refine k_putF E (q0 := 0) (k := 4) rfl rfl wu_8 tyX8 tyX8_ok nmX8 (by decide) wf_8_38 rfl hmn rfl (ty := (.object "DrawerRoom$Line")) (by decide +kernel) rfl rfl (Nat.le_of_ble_eq_true rfl) dX8_init_46 ?_
  refine k_ws (ws' := [(a, .inr (8, [.ref x1, .ref x2, .ref x3, .ref x4, .ref x5, .null, .ref q27, .int (-1), .int (-1)])), (q27, .inl (cI, 8, .inl (fun _ => 0)))]) rfl ?_
  refine k_aload_n E dX8_init_49 0 rfl ?_
  refine k_aload E dX8_init_50 6 rfl ?_
  refine k_putF E (q0 := 0) (k := 5) rfl rfl wu_8 tyX8 tyX8_ok nmX8 (by decide) wf_8_42 rfl hmn rfl (ty := (.object "DrawerRoom$Shape")) (by decide +kernel) rfl rfl (Nat.le_of_ble_eq_true rfl) dX8_init_52 ?_
  refine k_ws (ws' := [(a, .inr (8, [.ref x1, .ref x2, .ref x3, .ref x4, .ref x5, .ref x6, .ref q27, .int (-1), .int (-1)])), (q27, .inl (cI, 8, .inl (fun _ => 0)))]) rfl ?_
  exact k_ret E (fun i => if i = 27 then q27 else 0) trivial rfl ⟨by first | (dsimp only; omega) | (dsimp only; done), by first | (dsimp only; omega) | (dsimp only; done)⟩ dX8_init_55
theorem dX9_init_0 : decode cX9_init 0 = .ok (.aload_n 0, 1) := by decide +kernel
theorem dX9_init_1 : decode cX9_init 1 = .ok (.invokespecial 3, 3) := by decide +kernel
theorem dX9_init_4 : decode cX9_init 4 = .ok (.aload_n 0, 1) := by decide +kernel
theorem dX9_init_5 : decode cX9_init 5 = .ok (.aload_n 1, 1) := by decide +kernel
theorem dX9_init_6 : decode cX9_init 6 = .ok (.putfield 9, 3) := by decide +kernel
theorem dX9_init_9 : decode cX9_init 9 = .ok (.aload_n 0, 1) := by decide +kernel
theorem dX9_init_10 : decode cX9_init 10 = .ok (.aload_n 2, 1) := by decide +kernel
theorem dX9_init_11 : decode cX9_init 11 = .ok (.putfield 15, 3) := by decide +kernel
theorem dX9_init_14 : decode cX9_init 14 = .ok (.return_, 1) := by decide +kernel
set_option maxHeartbeats 4000000 in
set_option maxRecDepth 20000 in
theorem k_X9_init {l : Launch} {D : va_G} {cI cZ : ClassId} (a : Nat) (x1 : Nat) (x2 : Nat) : dr_K l D cI cZ yX9_init cX9_init 3 ({ frames := 1, cells := 0, slots := 0, locals := 64 } : Room) [.ref a, .ref x1, .ref x2] [(a, .inr (9, [.null, .null]))] (fun _ : Nat → Nat => True) (fun u => [(a, .inr (9, [.ref x1, .ref x2]))]) := by
  refine k_start (own := RX9) (by decide) rfl (Nat.le_of_ble_eq_true rfl) rfl ?_
  intro p e s0 m args below meth c A hA hmn E
  refine k_lv (lv' := [(0, .ref a), (1, .ref x1), (2, .ref x2)]) rfl ?_
  refine k_aload_n E dX9_init_0 0 rfl ?_
  refine k_obj E mo_9 dX9_init_1 ⟨Nat.le_of_ble_eq_true rfl, Nat.le_of_ble_eq_true rfl⟩ ?_
  refine k_aload_n E dX9_init_4 0 rfl ?_
  refine k_aload_n E dX9_init_5 1 rfl ?_
  refine k_putF E (q0 := 0) (k := 0) rfl rfl wu_9 tyX9 tyX9_ok nmX9 (by decide) wf_9_9 rfl hmn rfl (ty := (.object "DrawerRoom$Drawers")) (by decide +kernel) rfl rfl (Nat.le_of_ble_eq_true rfl) dX9_init_6 ?_
  refine k_ws (ws' := [(a, .inr (9, [.ref x1, .null]))]) rfl ?_
  refine k_aload_n E dX9_init_9 0 rfl ?_
  refine k_aload_n E dX9_init_10 2 rfl ?_
  refine k_putF E (q0 := 0) (k := 1) rfl rfl wu_9 tyX9 tyX9_ok nmX9 (by decide) wf_9_15 rfl hmn rfl (ty := (.object "DrawerRoom$Filing")) (by decide +kernel) rfl rfl (Nat.le_of_ble_eq_true rfl) dX9_init_11 ?_
  refine k_ws (ws' := [(a, .inr (9, [.ref x1, .ref x2]))]) rfl ?_
  exact k_ret E (fun i => 0) trivial rfl ⟨by first | (dsimp only; omega) | (dsimp only; done), by first | (dsimp only; omega) | (dsimp only; done)⟩ dX9_init_14
theorem dX10_init_0 : decode cX10_init 0 = .ok (.aload_n 0, 1) := by decide +kernel
theorem dX10_init_1 : decode cX10_init 1 = .ok (.invokespecial 3, 3) := by decide +kernel
theorem dX10_init_4 : decode cX10_init 4 = .ok (.aload_n 0, 1) := by decide +kernel
theorem dX10_init_5 : decode cX10_init 5 = .ok (.aload_n 1, 1) := by decide +kernel
theorem dX10_init_6 : decode cX10_init 6 = .ok (.putfield 9, 3) := by decide +kernel
theorem dX10_init_9 : decode cX10_init 9 = .ok (.aload_n 0, 1) := by decide +kernel
theorem dX10_init_10 : decode cX10_init 10 = .ok (.aload_n 2, 1) := by decide +kernel
theorem dX10_init_11 : decode cX10_init 11 = .ok (.putfield 15, 3) := by decide +kernel
theorem dX10_init_14 : decode cX10_init 14 = .ok (.aload_n 0, 1) := by decide +kernel
theorem dX10_init_15 : decode cX10_init 15 = .ok (.aload_n 3, 1) := by decide +kernel
theorem dX10_init_16 : decode cX10_init 16 = .ok (.putfield 19, 3) := by decide +kernel
theorem dX10_init_19 : decode cX10_init 19 = .ok (.return_, 1) := by decide +kernel
set_option maxHeartbeats 4000000 in
set_option maxRecDepth 20000 in
theorem k_X10_init {l : Launch} {D : va_G} {cI cZ : ClassId} (a : Nat) (x1 : Nat) (x2 : Nat) (x3 : Nat) : dr_K l D cI cZ yX10_init cX10_init 4 ({ frames := 1, cells := 0, slots := 0, locals := 64 } : Room) [.ref a, .ref x1, .ref x2, .ref x3] [(a, .inr (10, [.null, .null, .null]))] (fun _ : Nat → Nat => True) (fun u => [(a, .inr (10, [.ref x1, .ref x2, .ref x3]))]) := by
  refine k_start (own := RX10) (by decide) rfl (Nat.le_of_ble_eq_true rfl) rfl ?_
  intro p e s0 m args below meth c A hA hmn E
  refine k_lv (lv' := [(0, .ref a), (1, .ref x1), (2, .ref x2), (3, .ref x3)]) rfl ?_
  refine k_aload_n E dX10_init_0 0 rfl ?_
  refine k_obj E mo_10 dX10_init_1 ⟨Nat.le_of_ble_eq_true rfl, Nat.le_of_ble_eq_true rfl⟩ ?_
  refine k_aload_n E dX10_init_4 0 rfl ?_
  refine k_aload_n E dX10_init_5 1 rfl ?_
  refine k_putF E (q0 := 0) (k := 0) rfl rfl wu_10 tyX10 tyX10_ok nmX10 (by decide) wf_10_9 rfl hmn rfl (ty := (.object "DrawerRoom$Drawers")) (by decide +kernel) rfl rfl (Nat.le_of_ble_eq_true rfl) dX10_init_6 ?_
  refine k_ws (ws' := [(a, .inr (10, [.ref x1, .null, .null]))]) rfl ?_
  refine k_aload_n E dX10_init_9 0 rfl ?_
  refine k_aload_n E dX10_init_10 2 rfl ?_
  refine k_putF E (q0 := 0) (k := 1) rfl rfl wu_10 tyX10 tyX10_ok nmX10 (by decide) wf_10_15 rfl hmn rfl (ty := (.object "DrawerRoom$Clerks")) (by decide +kernel) rfl rfl (Nat.le_of_ble_eq_true rfl) dX10_init_11 ?_
  refine k_ws (ws' := [(a, .inr (10, [.ref x1, .ref x2, .null]))]) rfl ?_
  refine k_aload_n E dX10_init_14 0 rfl ?_
  refine k_aload_n E dX10_init_15 3 rfl ?_
  refine k_putF E (q0 := 0) (k := 2) rfl rfl wu_10 tyX10 tyX10_ok nmX10 (by decide) wf_10_19 rfl hmn rfl (ty := (.object "DrawerRoom$Jobs")) (by decide +kernel) rfl rfl (Nat.le_of_ble_eq_true rfl) dX10_init_16 ?_
  refine k_ws (ws' := [(a, .inr (10, [.ref x1, .ref x2, .ref x3]))]) rfl ?_
  exact k_ret E (fun i => 0) trivial rfl ⟨by first | (dsimp only; omega) | (dsimp only; done), by first | (dsimp only; omega) | (dsimp only; done)⟩ dX10_init_19

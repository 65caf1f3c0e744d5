theorem dX5_keepWhatWasRead_0 : decode cX5_keepWhatWasRead 0 = .ok (.aload_n 0, 1) := by decide +kernel
theorem dX5_keepWhatWasRead_1 : decode cX5_keepWhatWasRead 1 = .ok (.getfield 18, 3) := by decide +kernel
theorem dX5_keepWhatWasRead_4 : decode cX5_keepWhatWasRead 4 = .ok (.iconst 0, 1) := by decide +kernel
theorem dX5_keepWhatWasRead_5 : decode cX5_keepWhatWasRead 5 = .ok (.aload_n 0, 1) := by decide +kernel
theorem dX5_keepWhatWasRead_6 : decode cX5_keepWhatWasRead 6 = .ok (.getfield 15, 3) := by decide +kernel
theorem dX5_keepWhatWasRead_9 : decode cX5_keepWhatWasRead 9 = .ok (.iconst 0, 1) := by decide +kernel
theorem dX5_keepWhatWasRead_10 : decode cX5_keepWhatWasRead 10 = .ok (.iconst 4, 1) := by decide +kernel
theorem dX5_keepWhatWasRead_11 : decode cX5_keepWhatWasRead 11 = .ok (.invokestatic 39, 3) := by decide +kernel
theorem dX5_keepWhatWasRead_14 : decode cX5_keepWhatWasRead 14 = .ok (.aload_n 0, 1) := by decide +kernel
theorem dX5_keepWhatWasRead_15 : decode cX5_keepWhatWasRead 15 = .ok (.aload_n 0, 1) := by decide +kernel
theorem dX5_keepWhatWasRead_16 : decode cX5_keepWhatWasRead 16 = .ok (.getfield 25, 3) := by decide +kernel
theorem dX5_keepWhatWasRead_19 : decode cX5_keepWhatWasRead 19 = .ok (.putfield 21, 3) := by decide +kernel
theorem dX5_keepWhatWasRead_22 : decode cX5_keepWhatWasRead 22 = .ok (.return_, 1) := by decide +kernel
def f_X5_keepWhatWasRead (ln : Nat → Nat) (s : dr_S) : Option (Int32 × dr_S) := (dr_cp ln s 19 18 0 0 4).bind (fun s1 => dr_letS (dr_pf s1 503 (s1.2 504)) (fun s2 => some (0, s2)))
section
variable {p : Program} {l : Launch} {e : Env} {s0 : State} {m : MethodId} {args : Array Value} {below : List Frame} {meth : Method} {c : Code} {A : Nat → Prop} {D : va_G} {cI cZ : ClassId} {ad ln : Nat → Nat} {L : List Nat}
set_option maxHeartbeats 4000000 in
set_option maxRecDepth 20000 in
theorem c_X5_keepWhatWasRead (hap : dr_ap ad L) (hN : ∀ x ∈ nd_5, x ∈ L) (s : dr_S) : dr_Mv l D cI cZ ad ln L yX5_keepWhatWasRead cX5_keepWhatWasRead 1 1 [.ref (ad 5)] s (f_X5_keepWhatWasRead ln  s) := by
  refine dr_metv (own := RX5) (by decide) rfl (Nat.le_of_ble_eq_true rfl) hap ?_
  intro p e s0 m args below meth c A E
  unfold f_X5_keepWhatWasRead
  refine g_eqL (lv' := [(0, .ref (ad 5))]) rfl ?_
  refine g_aload_n E dX5_keepWhatWasRead_0 0 rfl ?_
  refine gg_5_18 E (hN 5 (by decide)) dX5_keepWhatWasRead_1 ?_
  refine g_iconst E (v := 0) dX5_keepWhatWasRead_4 (by decide) ?_
  refine g_aload_n E dX5_keepWhatWasRead_5 0 rfl ?_
  refine gg_5_15 E (hN 5 (by decide)) dX5_keepWhatWasRead_6 ?_
  refine g_iconst E (v := 0) dX5_keepWhatWasRead_9 (by decide) ?_
  refine g_iconst E (v := 4) dX5_keepWhatWasRead_10 (by decide) ?_
  refine g_copy E (hN 19 (by decide)) (hN 18 (by decide)) (by decide) (by decide) rfl rfl ml_5_copy ⟨Nat.le_of_ble_eq_true rfl, by decide +kernel⟩ dX5_keepWhatWasRead_11 (fun s1 => ?_)
  refine g_aload_n E dX5_keepWhatWasRead_14 0 rfl ?_
  refine g_aload_n E dX5_keepWhatWasRead_15 0 rfl ?_
  refine gg_5_25 E (hN 5 (by decide)) dX5_keepWhatWasRead_16 ?_
  refine gp_5_21 E (hN 5 (by decide)) dX5_keepWhatWasRead_19 (fun s2 => ?_)
  exact g_vret E dX5_keepWhatWasRead_22
end

theorem dX6_get_0 : decode cX6_get 0 = .ok (.aload_n 0, 1) := by decide +kernel
theorem dX6_get_1 : decode cX6_get 1 = .ok (.getfield 11, 3) := by decide +kernel
theorem dX6_get_4 : decode cX6_get 4 = .ok (.aload_n 0, 1) := by decide +kernel
theorem dX6_get_5 : decode cX6_get 5 = .ok (.getfield 15, 3) := by decide +kernel
theorem dX6_get_8 : decode cX6_get 8 = .ok (.iload_n 1, 1) := by decide +kernel
theorem dX6_get_9 : decode cX6_get 9 = .ok (.bipush 8, 2) := by decide +kernel
theorem dX6_get_11 : decode cX6_get 11 = .ok (.imul, 1) := by decide +kernel
theorem dX6_get_12 : decode cX6_get 12 = .ok (.iadd, 1) := by decide +kernel
theorem dX6_get_13 : decode cX6_get 13 = .ok (.iload_n 2, 1) := by decide +kernel
theorem dX6_get_14 : decode cX6_get 14 = .ok (.iadd, 1) := by decide +kernel
theorem dX6_get_15 : decode cX6_get 15 = .ok (.invokevirtual 25, 3) := by decide +kernel
theorem dX6_get_18 : decode cX6_get 18 = .ok (.ireturn, 1) := by decide +kernel
def f_X6_get (ln : Nat → Nat) (x1 : Int32) (x2 : Int32) (s : dr_S) : Option (Int32 × dr_S) := dr_bnd (f_X2_get ln ((((s.2 601) + (x1 * 8)) + x2)) s) (fun r2 s1 => some (r2, s1))
section
variable {p : Program} {l : Launch} {e : Env} {s0 : State} {m : MethodId} {args : Array Value} {below : List Frame} {meth : Method} {c : Code} {A : Nat → Prop} {D : va_G} {cI cZ : ClassId} {ad ln : Nat → Nat} {L : List Nat}
set_option maxHeartbeats 4000000 in
set_option maxRecDepth 20000 in
theorem c_X6_get (hap : dr_ap ad L) (hN : ∀ x ∈ nd_6, x ∈ L) (x1 : Int32) (x2 : Int32) (s : dr_S) : dr_Mi l D cI cZ ad ln L yX6_get cX6_get 3 (some .int) 1 [.ref (ad 6), .int x1, .int x2] s (f_X6_get ln x1 x2 s) := by
  refine dr_meti (own := RX6) (by decide) rfl (Nat.le_of_ble_eq_true rfl) hap ?_
  intro p e s0 m args below meth c A E
  unfold f_X6_get
  refine g_eqL (lv' := [(0, .ref (ad 6)), (1, .int x1), (2, .int x2)]) rfl ?_
  refine g_aload_n E dX6_get_0 0 rfl ?_
  refine gg_6_11 E (hN 6 (by decide)) dX6_get_1 ?_
  refine g_aload_n E dX6_get_4 0 rfl ?_
  refine gg_6_15 E (hN 6 (by decide)) dX6_get_5 ?_
  refine g_iload_n E dX6_get_8 1 rfl ?_
  refine g_bipush E (v := 8) dX6_get_9 (by decide) ?_
  refine g_imul E dX6_get_11 ?_
  refine g_iadd E dX6_get_12 ?_
  refine g_iload_n E dX6_get_13 2 rfl ?_
  refine g_iadd E dX6_get_14 ?_
  refine g_cVi E [.int (((s.2 601) + (x1 * 8)) + x2)] rfl (c_X2_get hap (fun x h => hN x (ns_2_6 x h)) ((((s.2 601) + (x1 * 8)) + x2)) s) (hN 2 (by decide)) (by decide) rfl rfl mi_X2_get msl_X2_get mw_X2_get rfl ml_6_25 ⟨Nat.le_of_ble_eq_true rfl, Nat.le_of_ble_eq_true rfl⟩ (Nat.le_of_ble_eq_true rfl) dX6_get_15 (fun r2 s1 => ?_)
  exact g_iret E dX6_get_18
end

theorem dX6_set_0 : decode cX6_set 0 = .ok (.aload_n 0, 1) := by decide +kernel
theorem dX6_set_1 : decode cX6_set 1 = .ok (.getfield 11, 3) := by decide +kernel
theorem dX6_set_4 : decode cX6_set 4 = .ok (.aload_n 0, 1) := by decide +kernel
theorem dX6_set_5 : decode cX6_set 5 = .ok (.getfield 15, 3) := by decide +kernel
theorem dX6_set_8 : decode cX6_set 8 = .ok (.iload_n 1, 1) := by decide +kernel
theorem dX6_set_9 : decode cX6_set 9 = .ok (.bipush 8, 2) := by decide +kernel
theorem dX6_set_11 : decode cX6_set 11 = .ok (.imul, 1) := by decide +kernel
theorem dX6_set_12 : decode cX6_set 12 = .ok (.iadd, 1) := by decide +kernel
theorem dX6_set_13 : decode cX6_set 13 = .ok (.iload_n 2, 1) := by decide +kernel
theorem dX6_set_14 : decode cX6_set 14 = .ok (.iadd, 1) := by decide +kernel
theorem dX6_set_15 : decode cX6_set 15 = .ok (.iload_n 3, 1) := by decide +kernel
theorem dX6_set_16 : decode cX6_set 16 = .ok (.invokevirtual 31, 3) := by decide +kernel
theorem dX6_set_19 : decode cX6_set 19 = .ok (.return_, 1) := by decide +kernel
def f_X6_set (ln : Nat → Nat) (x1 : Int32) (x2 : Int32) (x3 : Int32) (s : dr_S) : Option (Int32 × dr_S) := dr_bndv (f_X2_put ln ((((s.2 601) + (x1 * 8)) + x2)) x3 s) (fun s1 => some (0, s1))
section
variable {p : Program} {l : Launch} {e : Env} {s0 : State} {m : MethodId} {args : Array Value} {below : List Frame} {meth : Method} {c : Code} {A : Nat → Prop} {D : va_G} {cI cZ : ClassId} {ad ln : Nat → Nat} {L : List Nat}
set_option maxHeartbeats 4000000 in
set_option maxRecDepth 20000 in
theorem c_X6_set (hap : dr_ap ad L) (hN : ∀ x ∈ nd_6, x ∈ L) (x1 : Int32) (x2 : Int32) (x3 : Int32) (s : dr_S) : dr_Mv l D cI cZ ad ln L yX6_set cX6_set 4 1 [.ref (ad 6), .int x1, .int x2, .int x3] s (f_X6_set ln x1 x2 x3 s) := by
  refine dr_metv (own := RX6) (by decide) rfl (Nat.le_of_ble_eq_true rfl) hap ?_
  intro p e s0 m args below meth c A E
  unfold f_X6_set
  refine g_eqL (lv' := [(0, .ref (ad 6)), (1, .int x1), (2, .int x2), (3, .int x3)]) rfl ?_
  refine g_aload_n E dX6_set_0 0 rfl ?_
  refine gg_6_11 E (hN 6 (by decide)) dX6_set_1 ?_
  refine g_aload_n E dX6_set_4 0 rfl ?_
  refine gg_6_15 E (hN 6 (by decide)) dX6_set_5 ?_
  refine g_iload_n E dX6_set_8 1 rfl ?_
  refine g_bipush E (v := 8) dX6_set_9 (by decide) ?_
  refine g_imul E dX6_set_11 ?_
  refine g_iadd E dX6_set_12 ?_
  refine g_iload_n E dX6_set_13 2 rfl ?_
  refine g_iadd E dX6_set_14 ?_
  refine g_iload_n E dX6_set_15 3 rfl ?_
  refine g_cVv E [.int (((s.2 601) + (x1 * 8)) + x2), .int x3] rfl (c_X2_put hap (fun x h => hN x (ns_2_6 x h)) ((((s.2 601) + (x1 * 8)) + x2)) x3 s) (hN 2 (by decide)) (by decide) rfl rfl mi_X2_put msl_X2_put mw_X2_put rfl ml_6_31 ⟨Nat.le_of_ble_eq_true rfl, Nat.le_of_ble_eq_true rfl⟩ (Nat.le_of_ble_eq_true rfl) dX6_set_16 (fun s1 => ?_)
  exact g_vret E dX6_set_19
end

theorem dX6_time_0 : decode cX6_time 0 = .ok (.aload_n 0, 1) := by decide +kernel
theorem dX6_time_1 : decode cX6_time 1 = .ok (.getfield 11, 3) := by decide +kernel
theorem dX6_time_4 : decode cX6_time 4 = .ok (.aload_n 0, 1) := by decide +kernel
theorem dX6_time_5 : decode cX6_time 5 = .ok (.getfield 19, 3) := by decide +kernel
theorem dX6_time_8 : decode cX6_time 8 = .ok (.invokevirtual 25, 3) := by decide +kernel
theorem dX6_time_11 : decode cX6_time 11 = .ok (.ireturn, 1) := by decide +kernel
def f_X6_time (ln : Nat → Nat) (s : dr_S) : Option (Int32 × dr_S) := dr_bnd (f_X2_get ln ((s.2 602)) s) (fun r2 s1 => some (r2, s1))
section
variable {p : Program} {l : Launch} {e : Env} {s0 : State} {m : MethodId} {args : Array Value} {below : List Frame} {meth : Method} {c : Code} {A : Nat → Prop} {D : va_G} {cI cZ : ClassId} {ad ln : Nat → Nat} {L : List Nat}
set_option maxHeartbeats 4000000 in
set_option maxRecDepth 20000 in
theorem c_X6_time (hap : dr_ap ad L) (hN : ∀ x ∈ nd_6, x ∈ L) (s : dr_S) : dr_Mi l D cI cZ ad ln L yX6_time cX6_time 1 (some .int) 1 [.ref (ad 6)] s (f_X6_time ln  s) := by
  refine dr_meti (own := RX6) (by decide) rfl (Nat.le_of_ble_eq_true rfl) hap ?_
  intro p e s0 m args below meth c A E
  unfold f_X6_time
  refine g_eqL (lv' := [(0, .ref (ad 6))]) rfl ?_
  refine g_aload_n E dX6_time_0 0 rfl ?_
  refine gg_6_11 E (hN 6 (by decide)) dX6_time_1 ?_
  refine g_aload_n E dX6_time_4 0 rfl ?_
  refine gg_6_19 E (hN 6 (by decide)) dX6_time_5 ?_
  refine g_cVi E [.int (s.2 602)] rfl (c_X2_get hap (fun x h => hN x (ns_2_6 x h)) ((s.2 602)) s) (hN 2 (by decide)) (by decide) rfl rfl mi_X2_get msl_X2_get mw_X2_get rfl ml_6_25 ⟨Nat.le_of_ble_eq_true rfl, Nat.le_of_ble_eq_true rfl⟩ (Nat.le_of_ble_eq_true rfl) dX6_time_8 (fun r2 s1 => ?_)
  exact g_iret E dX6_time_11
end

theorem dX6_begun_0 : decode cX6_begun 0 = .ok (.aload_n 0, 1) := by decide +kernel
theorem dX6_begun_1 : decode cX6_begun 1 = .ok (.getfield 11, 3) := by decide +kernel
theorem dX6_begun_4 : decode cX6_begun 4 = .ok (.aload_n 0, 1) := by decide +kernel
theorem dX6_begun_5 : decode cX6_begun 5 = .ok (.getfield 22, 3) := by decide +kernel
theorem dX6_begun_8 : decode cX6_begun 8 = .ok (.invokevirtual 25, 3) := by decide +kernel
theorem dX6_begun_11 : decode cX6_begun 11 = .ok (.ireturn, 1) := by decide +kernel
def f_X6_begun (ln : Nat → Nat) (s : dr_S) : Option (Int32 × dr_S) := dr_bnd (f_X2_get ln ((s.2 603)) s) (fun r2 s1 => some (r2, s1))
section
variable {p : Program} {l : Launch} {e : Env} {s0 : State} {m : MethodId} {args : Array Value} {below : List Frame} {meth : Method} {c : Code} {A : Nat → Prop} {D : va_G} {cI cZ : ClassId} {ad ln : Nat → Nat} {L : List Nat}
set_option maxHeartbeats 4000000 in
set_option maxRecDepth 20000 in
theorem c_X6_begun (hap : dr_ap ad L) (hN : ∀ x ∈ nd_6, x ∈ L) (s : dr_S) : dr_Mi l D cI cZ ad ln L yX6_begun cX6_begun 1 (some .int) 1 [.ref (ad 6)] s (f_X6_begun ln  s) := by
  refine dr_meti (own := RX6) (by decide) rfl (Nat.le_of_ble_eq_true rfl) hap ?_
  intro p e s0 m args below meth c A E
  unfold f_X6_begun
  refine g_eqL (lv' := [(0, .ref (ad 6))]) rfl ?_
  refine g_aload_n E dX6_begun_0 0 rfl ?_
  refine gg_6_11 E (hN 6 (by decide)) dX6_begun_1 ?_
  refine g_aload_n E dX6_begun_4 0 rfl ?_
  refine gg_6_22 E (hN 6 (by decide)) dX6_begun_5 ?_
  refine g_cVi E [.int (s.2 603)] rfl (c_X2_get hap (fun x h => hN x (ns_2_6 x h)) ((s.2 603)) s) (hN 2 (by decide)) (by decide) rfl rfl mi_X2_get msl_X2_get mw_X2_get rfl ml_6_25 ⟨Nat.le_of_ble_eq_true rfl, Nat.le_of_ble_eq_true rfl⟩ (Nat.le_of_ble_eq_true rfl) dX6_begun_8 (fun r2 s1 => ?_)
  exact g_iret E dX6_begun_11
end

theorem dX6_open_0 : decode cX6_open 0 = .ok (.aload_n 0, 1) := by decide +kernel
theorem dX6_open_1 : decode cX6_open 1 = .ok (.invokevirtual 35, 3) := by decide +kernel
theorem dX6_open_4 : decode cX6_open 4 = .ok (.istore_n 3, 1) := by decide +kernel
theorem dX6_open_5 : decode cX6_open 5 = .ok (.aload_n 0, 1) := by decide +kernel
theorem dX6_open_6 : decode cX6_open 6 = .ok (.getfield 11, 3) := by decide +kernel
theorem dX6_open_9 : decode cX6_open 9 = .ok (.aload_n 0, 1) := by decide +kernel
theorem dX6_open_10 : decode cX6_open 10 = .ok (.getfield 22, 3) := by decide +kernel
theorem dX6_open_13 : decode cX6_open 13 = .ok (.iload_n 3, 1) := by decide +kernel
theorem dX6_open_14 : decode cX6_open 14 = .ok (.iconst 1, 1) := by decide +kernel
theorem dX6_open_15 : decode cX6_open 15 = .ok (.iadd, 1) := by decide +kernel
theorem dX6_open_16 : decode cX6_open 16 = .ok (.invokevirtual 31, 3) := by decide +kernel
theorem dX6_open_19 : decode cX6_open 19 = .ok (.aload_n 0, 1) := by decide +kernel
theorem dX6_open_20 : decode cX6_open 20 = .ok (.iload_n 3, 1) := by decide +kernel
theorem dX6_open_21 : decode cX6_open 21 = .ok (.iconst 0, 1) := by decide +kernel
theorem dX6_open_22 : decode cX6_open 22 = .ok (.iload_n 1, 1) := by decide +kernel
theorem dX6_open_23 : decode cX6_open 23 = .ok (.invokevirtual 39, 3) := by decide +kernel
theorem dX6_open_26 : decode cX6_open 26 = .ok (.aload_n 0, 1) := by decide +kernel
theorem dX6_open_27 : decode cX6_open 27 = .ok (.iload_n 3, 1) := by decide +kernel
theorem dX6_open_28 : decode cX6_open 28 = .ok (.iconst 1, 1) := by decide +kernel
theorem dX6_open_29 : decode cX6_open 29 = .ok (.iload_n 2, 1) := by decide +kernel
theorem dX6_open_30 : decode cX6_open 30 = .ok (.invokevirtual 39, 3) := by decide +kernel
theorem dX6_open_33 : decode cX6_open 33 = .ok (.aload_n 0, 1) := by decide +kernel
theorem dX6_open_34 : decode cX6_open 34 = .ok (.iload_n 3, 1) := by decide +kernel
theorem dX6_open_35 : decode cX6_open 35 = .ok (.iconst 2, 1) := by decide +kernel
theorem dX6_open_36 : decode cX6_open 36 = .ok (.iconst (-1), 1) := by decide +kernel
theorem dX6_open_37 : decode cX6_open 37 = .ok (.invokevirtual 39, 3) := by decide +kernel
theorem dX6_open_40 : decode cX6_open 40 = .ok (.aload_n 0, 1) := by decide +kernel
theorem dX6_open_41 : decode cX6_open 41 = .ok (.iload_n 3, 1) := by decide +kernel
theorem dX6_open_42 : decode cX6_open 42 = .ok (.iconst 3, 1) := by decide +kernel
theorem dX6_open_43 : decode cX6_open 43 = .ok (.aload_n 0, 1) := by decide +kernel
theorem dX6_open_44 : decode cX6_open 44 = .ok (.invokevirtual 43, 3) := by decide +kernel
theorem dX6_open_47 : decode cX6_open 47 = .ok (.invokevirtual 39, 3) := by decide +kernel
theorem dX6_open_50 : decode cX6_open 50 = .ok (.aload_n 0, 1) := by decide +kernel
theorem dX6_open_51 : decode cX6_open 51 = .ok (.iload_n 3, 1) := by decide +kernel
theorem dX6_open_52 : decode cX6_open 52 = .ok (.iconst 4, 1) := by decide +kernel
theorem dX6_open_53 : decode cX6_open 53 = .ok (.iconst (-1), 1) := by decide +kernel
theorem dX6_open_54 : decode cX6_open 54 = .ok (.invokevirtual 39, 3) := by decide +kernel
theorem dX6_open_57 : decode cX6_open 57 = .ok (.aload_n 0, 1) := by decide +kernel
theorem dX6_open_58 : decode cX6_open 58 = .ok (.iload_n 3, 1) := by decide +kernel
theorem dX6_open_59 : decode cX6_open 59 = .ok (.iconst 5, 1) := by decide +kernel
theorem dX6_open_60 : decode cX6_open 60 = .ok (.iconst 0, 1) := by decide +kernel
theorem dX6_open_61 : decode cX6_open 61 = .ok (.invokevirtual 39, 3) := by decide +kernel
theorem dX6_open_64 : decode cX6_open 64 = .ok (.aload_n 0, 1) := by decide +kernel
theorem dX6_open_65 : decode cX6_open 65 = .ok (.iload_n 3, 1) := by decide +kernel
theorem dX6_open_66 : decode cX6_open 66 = .ok (.bipush 6, 2) := by decide +kernel
theorem dX6_open_68 : decode cX6_open 68 = .ok (.iconst 0, 1) := by decide +kernel
theorem dX6_open_69 : decode cX6_open 69 = .ok (.invokevirtual 39, 3) := by decide +kernel
theorem dX6_open_72 : decode cX6_open 72 = .ok (.aload_n 0, 1) := by decide +kernel
theorem dX6_open_73 : decode cX6_open 73 = .ok (.iload_n 3, 1) := by decide +kernel
theorem dX6_open_74 : decode cX6_open 74 = .ok (.bipush 7, 2) := by decide +kernel
theorem dX6_open_76 : decode cX6_open 76 = .ok (.iconst (-1), 1) := by decide +kernel
theorem dX6_open_77 : decode cX6_open 77 = .ok (.invokevirtual 39, 3) := by decide +kernel
theorem dX6_open_80 : decode cX6_open 80 = .ok (.iload_n 3, 1) := by decide +kernel
theorem dX6_open_81 : decode cX6_open 81 = .ok (.ireturn, 1) := by decide +kernel
def f_X6_open (ln : Nat → Nat) (x1 : Int32) (x2 : Int32) (s : dr_S) : Option (Int32 × dr_S) := dr_bnd (f_X6_begun ln  s) (fun r2 s1 => dr_bndv (f_X2_put ln ((s1.2 603)) ((r2 + 1)) s1) (fun s3 => dr_bndv (f_X6_set ln r2 0 x1 s3) (fun s4 => dr_bndv (f_X6_set ln r2 1 x2 s4) (fun s5 => dr_bndv (f_X6_set ln r2 2 ((-1)) s5) (fun s6 => dr_bnd (f_X6_time ln  s6) (fun r8 s7 => dr_bndv (f_X6_set ln r2 3 r8 s7) (fun s9 => dr_bndv (f_X6_set ln r2 4 ((-1)) s9) (fun s10 => dr_bndv (f_X6_set ln r2 5 0 s10) (fun s11 => dr_bndv (f_X6_set ln r2 6 0 s11) (fun s12 => dr_bndv (f_X6_set ln r2 7 ((-1)) s12) (fun s13 => some (r2, s13))))))))))))
section
variable {p : Program} {l : Launch} {e : Env} {s0 : State} {m : MethodId} {args : Array Value} {below : List Frame} {meth : Method} {c : Code} {A : Nat → Prop} {D : va_G} {cI cZ : ClassId} {ad ln : Nat → Nat} {L : List Nat}
set_option maxHeartbeats 4000000 in
set_option maxRecDepth 20000 in
theorem c_X6_open (hap : dr_ap ad L) (hN : ∀ x ∈ nd_6, x ∈ L) (x1 : Int32) (x2 : Int32) (s : dr_S) : dr_Mi l D cI cZ ad ln L yX6_open cX6_open 4 (some .int) 2 [.ref (ad 6), .int x1, .int x2] s (f_X6_open ln x1 x2 s) := by
  refine dr_meti (own := RX6) (by decide) rfl (Nat.le_of_ble_eq_true rfl) hap ?_
  intro p e s0 m args below meth c A E
  unfold f_X6_open
  refine g_eqL (lv' := [(0, .ref (ad 6)), (1, .int x1), (2, .int x2)]) rfl ?_
  refine g_aload_n E dX6_open_0 0 rfl ?_
  refine g_cVi E [] rfl (c_X6_begun hap hN  s) (hN 6 (by decide)) (by decide) rfl rfl mi_X6_begun msl_X6_begun mw_X6_begun rfl ml_6_35 ⟨Nat.le_of_ble_eq_true rfl, Nat.le_of_ble_eq_true rfl⟩ (Nat.le_of_ble_eq_true rfl) dX6_open_1 (fun r2 s1 => ?_)
  refine g_istore_n E (lv' := [(3, .int r2), (0, .ref (ad 6)), (1, .int x1), (2, .int x2)]) dX6_open_4 (by decide) rfl ?_
  refine g_aload_n E dX6_open_5 1 rfl ?_
  refine gg_6_11 E (hN 6 (by decide)) dX6_open_6 ?_
  refine g_aload_n E dX6_open_9 1 rfl ?_
  refine gg_6_22 E (hN 6 (by decide)) dX6_open_10 ?_
  refine g_iload_n E dX6_open_13 0 rfl ?_
  refine g_iconst E (v := 1) dX6_open_14 (by decide) ?_
  refine g_iadd E dX6_open_15 ?_
  refine g_cVv E [.int (s1.2 603), .int (r2 + 1)] rfl (c_X2_put hap (fun x h => hN x (ns_2_6 x h)) ((s1.2 603)) ((r2 + 1)) s1) (hN 2 (by decide)) (by decide) rfl rfl mi_X2_put msl_X2_put mw_X2_put rfl ml_6_31 ⟨Nat.le_of_ble_eq_true rfl, Nat.le_of_ble_eq_true rfl⟩ (Nat.le_of_ble_eq_true rfl) dX6_open_16 (fun s3 => ?_)
  refine g_aload_n E dX6_open_19 1 rfl ?_
  refine g_iload_n E dX6_open_20 0 rfl ?_
  refine g_iconst E (v := 0) dX6_open_21 (by decide) ?_
  refine g_iload_n E dX6_open_22 2 rfl ?_
  refine g_cVv E [.int r2, .int 0, .int x1] rfl (c_X6_set hap hN r2 0 x1 s3) (hN 6 (by decide)) (by decide) rfl rfl mi_X6_set msl_X6_set mw_X6_set rfl ml_6_39 ⟨Nat.le_of_ble_eq_true rfl, Nat.le_of_ble_eq_true rfl⟩ (Nat.le_of_ble_eq_true rfl) dX6_open_23 (fun s4 => ?_)
  refine g_aload_n E dX6_open_26 1 rfl ?_
  refine g_iload_n E dX6_open_27 0 rfl ?_
  refine g_iconst E (v := 1) dX6_open_28 (by decide) ?_
  refine g_iload_n E dX6_open_29 3 rfl ?_
  refine g_cVv E [.int r2, .int 1, .int x2] rfl (c_X6_set hap hN r2 1 x2 s4) (hN 6 (by decide)) (by decide) rfl rfl mi_X6_set msl_X6_set mw_X6_set rfl ml_6_39 ⟨Nat.le_of_ble_eq_true rfl, Nat.le_of_ble_eq_true rfl⟩ (Nat.le_of_ble_eq_true rfl) dX6_open_30 (fun s5 => ?_)
  refine g_aload_n E dX6_open_33 1 rfl ?_
  refine g_iload_n E dX6_open_34 0 rfl ?_
  refine g_iconst E (v := 2) dX6_open_35 (by decide) ?_
  refine g_iconst E (v := (-1)) dX6_open_36 (by decide) ?_
  refine g_cVv E [.int r2, .int 2, .int (-1)] rfl (c_X6_set hap hN r2 2 ((-1)) s5) (hN 6 (by decide)) (by decide) rfl rfl mi_X6_set msl_X6_set mw_X6_set rfl ml_6_39 ⟨Nat.le_of_ble_eq_true rfl, Nat.le_of_ble_eq_true rfl⟩ (Nat.le_of_ble_eq_true rfl) dX6_open_37 (fun s6 => ?_)
  refine g_aload_n E dX6_open_40 1 rfl ?_
  refine g_iload_n E dX6_open_41 0 rfl ?_
  refine g_iconst E (v := 3) dX6_open_42 (by decide) ?_
  refine g_aload_n E dX6_open_43 1 rfl ?_
  refine g_cVi E [] rfl (c_X6_time hap hN  s6) (hN 6 (by decide)) (by decide) rfl rfl mi_X6_time msl_X6_time mw_X6_time rfl ml_6_43 ⟨Nat.le_of_ble_eq_true rfl, Nat.le_of_ble_eq_true rfl⟩ (Nat.le_of_ble_eq_true rfl) dX6_open_44 (fun r8 s7 => ?_)
  refine g_cVv E [.int r2, .int 3, .int r8] rfl (c_X6_set hap hN r2 3 r8 s7) (hN 6 (by decide)) (by decide) rfl rfl mi_X6_set msl_X6_set mw_X6_set rfl ml_6_39 ⟨Nat.le_of_ble_eq_true rfl, Nat.le_of_ble_eq_true rfl⟩ (Nat.le_of_ble_eq_true rfl) dX6_open_47 (fun s9 => ?_)
  refine g_aload_n E dX6_open_50 1 rfl ?_
  refine g_iload_n E dX6_open_51 0 rfl ?_
  refine g_iconst E (v := 4) dX6_open_52 (by decide) ?_
  refine g_iconst E (v := (-1)) dX6_open_53 (by decide) ?_
  refine g_cVv E [.int r2, .int 4, .int (-1)] rfl (c_X6_set hap hN r2 4 ((-1)) s9) (hN 6 (by decide)) (by decide) rfl rfl mi_X6_set msl_X6_set mw_X6_set rfl ml_6_39 ⟨Nat.le_of_ble_eq_true rfl, Nat.le_of_ble_eq_true rfl⟩ (Nat.le_of_ble_eq_true rfl) dX6_open_54 (fun s10 => ?_)
  refine g_aload_n E dX6_open_57 1 rfl ?_
  refine g_iload_n E dX6_open_58 0 rfl ?_
  refine g_iconst E (v := 5) dX6_open_59 (by decide) ?_
  refine g_iconst E (v := 0) dX6_open_60 (by decide) ?_
  refine g_cVv E [.int r2, .int 5, .int 0] rfl (c_X6_set hap hN r2 5 0 s10) (hN 6 (by decide)) (by decide) rfl rfl mi_X6_set msl_X6_set mw_X6_set rfl ml_6_39 ⟨Nat.le_of_ble_eq_true rfl, Nat.le_of_ble_eq_true rfl⟩ (Nat.le_of_ble_eq_true rfl) dX6_open_61 (fun s11 => ?_)
  refine g_aload_n E dX6_open_64 1 rfl ?_
  refine g_iload_n E dX6_open_65 0 rfl ?_
  refine g_bipush E (v := 6) dX6_open_66 (by decide) ?_
  refine g_iconst E (v := 0) dX6_open_68 (by decide) ?_
  refine g_cVv E [.int r2, .int 6, .int 0] rfl (c_X6_set hap hN r2 6 0 s11) (hN 6 (by decide)) (by decide) rfl rfl mi_X6_set msl_X6_set mw_X6_set rfl ml_6_39 ⟨Nat.le_of_ble_eq_true rfl, Nat.le_of_ble_eq_true rfl⟩ (Nat.le_of_ble_eq_true rfl) dX6_open_69 (fun s12 => ?_)
  refine g_aload_n E dX6_open_72 1 rfl ?_
  refine g_iload_n E dX6_open_73 0 rfl ?_
  refine g_bipush E (v := 7) dX6_open_74 (by decide) ?_
  refine g_iconst E (v := (-1)) dX6_open_76 (by decide) ?_
  refine g_cVv E [.int r2, .int 7, .int (-1)] rfl (c_X6_set hap hN r2 7 ((-1)) s12) (hN 6 (by decide)) (by decide) rfl rfl mi_X6_set msl_X6_set mw_X6_set rfl ml_6_39 ⟨Nat.le_of_ble_eq_true rfl, Nat.le_of_ble_eq_true rfl⟩ (Nat.le_of_ble_eq_true rfl) dX6_open_77 (fun s13 => ?_)
  refine g_iload_n E dX6_open_80 0 rfl ?_
  exact g_iret E dX6_open_81
end

theorem dX6_passStep_0 : decode cX6_passStep 0 = .ok (.aload_n 0, 1) := by decide +kernel
theorem dX6_passStep_1 : decode cX6_passStep 1 = .ok (.getfield 11, 3) := by decide +kernel
theorem dX6_passStep_4 : decode cX6_passStep 4 = .ok (.aload_n 0, 1) := by decide +kernel
theorem dX6_passStep_5 : decode cX6_passStep 5 = .ok (.getfield 19, 3) := by decide +kernel
theorem dX6_passStep_8 : decode cX6_passStep 8 = .ok (.aload_n 0, 1) := by decide +kernel
theorem dX6_passStep_9 : decode cX6_passStep 9 = .ok (.invokevirtual 43, 3) := by decide +kernel
theorem dX6_passStep_12 : decode cX6_passStep 12 = .ok (.iconst 1, 1) := by decide +kernel
theorem dX6_passStep_13 : decode cX6_passStep 13 = .ok (.iadd, 1) := by decide +kernel
theorem dX6_passStep_14 : decode cX6_passStep 14 = .ok (.invokevirtual 31, 3) := by decide +kernel
theorem dX6_passStep_17 : decode cX6_passStep 17 = .ok (.aload_n 0, 1) := by decide +kernel
theorem dX6_passStep_18 : decode cX6_passStep 18 = .ok (.iload_n 1, 1) := by decide +kernel
theorem dX6_passStep_19 : decode cX6_passStep 19 = .ok (.iconst 5, 1) := by decide +kernel
theorem dX6_passStep_20 : decode cX6_passStep 20 = .ok (.aload_n 0, 1) := by decide +kernel
theorem dX6_passStep_21 : decode cX6_passStep 21 = .ok (.iload_n 1, 1) := by decide +kernel
theorem dX6_passStep_22 : decode cX6_passStep 22 = .ok (.iconst 5, 1) := by decide +kernel
theorem dX6_passStep_23 : decode cX6_passStep 23 = .ok (.invokevirtual 46, 3) := by decide +kernel
theorem dX6_passStep_26 : decode cX6_passStep 26 = .ok (.iconst 1, 1) := by decide +kernel
theorem dX6_passStep_27 : decode cX6_passStep 27 = .ok (.iadd, 1) := by decide +kernel
theorem dX6_passStep_28 : decode cX6_passStep 28 = .ok (.invokevirtual 39, 3) := by decide +kernel
theorem dX6_passStep_31 : decode cX6_passStep 31 = .ok (.return_, 1) := by decide +kernel
def f_X6_passStep (ln : Nat → Nat) (x1 : Int32) (s : dr_S) : Option (Int32 × dr_S) := dr_bnd (f_X6_time ln  s) (fun r2 s1 => dr_bndv (f_X2_put ln ((s.2 602)) ((r2 + 1)) s1) (fun s3 => dr_bnd (f_X6_get ln x1 5 s3) (fun r5 s4 => dr_bndv (f_X6_set ln x1 5 ((r5 + 1)) s4) (fun s6 => some (0, s6)))))
section
variable {p : Program} {l : Launch} {e : Env} {s0 : State} {m : MethodId} {args : Array Value} {below : List Frame} {meth : Method} {c : Code} {A : Nat → Prop} {D : va_G} {cI cZ : ClassId} {ad ln : Nat → Nat} {L : List Nat}
set_option maxHeartbeats 4000000 in
set_option maxRecDepth 20000 in
theorem c_X6_passStep (hap : dr_ap ad L) (hN : ∀ x ∈ nd_6, x ∈ L) (x1 : Int32) (s : dr_S) : dr_Mv l D cI cZ ad ln L yX6_passStep cX6_passStep 2 2 [.ref (ad 6), .int x1] s (f_X6_passStep ln x1 s) := by
  refine dr_metv (own := RX6) (by decide) rfl (Nat.le_of_ble_eq_true rfl) hap ?_
  intro p e s0 m args below meth c A E
  unfold f_X6_passStep
  refine g_eqL (lv' := [(0, .ref (ad 6)), (1, .int x1)]) rfl ?_
  refine g_aload_n E dX6_passStep_0 0 rfl ?_
  refine gg_6_11 E (hN 6 (by decide)) dX6_passStep_1 ?_
  refine g_aload_n E dX6_passStep_4 0 rfl ?_
  refine gg_6_19 E (hN 6 (by decide)) dX6_passStep_5 ?_
  refine g_aload_n E dX6_passStep_8 0 rfl ?_
  refine g_cVi E [] rfl (c_X6_time hap hN  s) (hN 6 (by decide)) (by decide) rfl rfl mi_X6_time msl_X6_time mw_X6_time rfl ml_6_43 ⟨Nat.le_of_ble_eq_true rfl, Nat.le_of_ble_eq_true rfl⟩ (Nat.le_of_ble_eq_true rfl) dX6_passStep_9 (fun r2 s1 => ?_)
  refine g_iconst E (v := 1) dX6_passStep_12 (by decide) ?_
  refine g_iadd E dX6_passStep_13 ?_
  refine g_cVv E [.int (s.2 602), .int (r2 + 1)] rfl (c_X2_put hap (fun x h => hN x (ns_2_6 x h)) ((s.2 602)) ((r2 + 1)) s1) (hN 2 (by decide)) (by decide) rfl rfl mi_X2_put msl_X2_put mw_X2_put rfl ml_6_31 ⟨Nat.le_of_ble_eq_true rfl, Nat.le_of_ble_eq_true rfl⟩ (Nat.le_of_ble_eq_true rfl) dX6_passStep_14 (fun s3 => ?_)
  refine g_aload_n E dX6_passStep_17 0 rfl ?_
  refine g_iload_n E dX6_passStep_18 1 rfl ?_
  refine g_iconst E (v := 5) dX6_passStep_19 (by decide) ?_
  refine g_aload_n E dX6_passStep_20 0 rfl ?_
  refine g_iload_n E dX6_passStep_21 1 rfl ?_
  refine g_iconst E (v := 5) dX6_passStep_22 (by decide) ?_
  refine g_cVi E [.int x1, .int 5] rfl (c_X6_get hap hN x1 5 s3) (hN 6 (by decide)) (by decide) rfl rfl mi_X6_get msl_X6_get mw_X6_get rfl ml_6_46 ⟨Nat.le_of_ble_eq_true rfl, Nat.le_of_ble_eq_true rfl⟩ (Nat.le_of_ble_eq_true rfl) dX6_passStep_23 (fun r5 s4 => ?_)
  refine g_iconst E (v := 1) dX6_passStep_26 (by decide) ?_
  refine g_iadd E dX6_passStep_27 ?_
  refine g_cVv E [.int x1, .int 5, .int (r5 + 1)] rfl (c_X6_set hap hN x1 5 ((r5 + 1)) s4) (hN 6 (by decide)) (by decide) rfl rfl mi_X6_set msl_X6_set mw_X6_set rfl ml_6_39 ⟨Nat.le_of_ble_eq_true rfl, Nat.le_of_ble_eq_true rfl⟩ (Nat.le_of_ble_eq_true rfl) dX6_passStep_28 (fun s6 => ?_)
  exact g_vret E dX6_passStep_31
end

theorem dX6_changeCards_0 : decode cX6_changeCards 0 = .ok (.aload_n 0, 1) := by decide +kernel
theorem dX6_changeCards_1 : decode cX6_changeCards 1 = .ok (.iload_n 1, 1) := by decide +kernel
theorem dX6_changeCards_2 : decode cX6_changeCards 2 = .ok (.bipush 7, 2) := by decide +kernel
theorem dX6_changeCards_4 : decode cX6_changeCards 4 = .ok (.aload_n 0, 1) := by decide +kernel
theorem dX6_changeCards_5 : decode cX6_changeCards 5 = .ok (.invokevirtual 43, 3) := by decide +kernel
theorem dX6_changeCards_8 : decode cX6_changeCards 8 = .ok (.invokevirtual 39, 3) := by decide +kernel
theorem dX6_changeCards_11 : decode cX6_changeCards 11 = .ok (.return_, 1) := by decide +kernel
def f_X6_changeCards (ln : Nat → Nat) (x1 : Int32) (s : dr_S) : Option (Int32 × dr_S) := dr_bnd (f_X6_time ln  s) (fun r2 s1 => dr_bndv (f_X6_set ln x1 7 r2 s1) (fun s3 => some (0, s3)))
section
variable {p : Program} {l : Launch} {e : Env} {s0 : State} {m : MethodId} {args : Array Value} {below : List Frame} {meth : Method} {c : Code} {A : Nat → Prop} {D : va_G} {cI cZ : ClassId} {ad ln : Nat → Nat} {L : List Nat}
set_option maxHeartbeats 4000000 in
set_option maxRecDepth 20000 in
theorem c_X6_changeCards (hap : dr_ap ad L) (hN : ∀ x ∈ nd_6, x ∈ L) (x1 : Int32) (s : dr_S) : dr_Mv l D cI cZ ad ln L yX6_changeCards cX6_changeCards 2 2 [.ref (ad 6), .int x1] s (f_X6_changeCards ln x1 s) := by
  refine dr_metv (own := RX6) (by decide) rfl (Nat.le_of_ble_eq_true rfl) hap ?_
  intro p e s0 m args below meth c A E
  unfold f_X6_changeCards
  refine g_eqL (lv' := [(0, .ref (ad 6)), (1, .int x1)]) rfl ?_
  refine g_aload_n E dX6_changeCards_0 0 rfl ?_
  refine g_iload_n E dX6_changeCards_1 1 rfl ?_
  refine g_bipush E (v := 7) dX6_changeCards_2 (by decide) ?_
  refine g_aload_n E dX6_changeCards_4 0 rfl ?_
  refine g_cVi E [] rfl (c_X6_time hap hN  s) (hN 6 (by decide)) (by decide) rfl rfl mi_X6_time msl_X6_time mw_X6_time rfl ml_6_43 ⟨Nat.le_of_ble_eq_true rfl, Nat.le_of_ble_eq_true rfl⟩ (Nat.le_of_ble_eq_true rfl) dX6_changeCards_5 (fun r2 s1 => ?_)
  refine g_cVv E [.int x1, .int 7, .int r2] rfl (c_X6_set hap hN x1 7 r2 s1) (hN 6 (by decide)) (by decide) rfl rfl mi_X6_set msl_X6_set mw_X6_set rfl ml_6_39 ⟨Nat.le_of_ble_eq_true rfl, Nat.le_of_ble_eq_true rfl⟩ (Nat.le_of_ble_eq_true rfl) dX6_changeCards_8 (fun s3 => ?_)
  exact g_vret E dX6_changeCards_11
end

theorem dX6_end_0 : decode cX6_end 0 = .ok (.aload_n 0, 1) := by decide +kernel
theorem dX6_end_1 : decode cX6_end 1 = .ok (.iload_n 1, 1) := by decide +kernel
theorem dX6_end_2 : decode cX6_end 2 = .ok (.iconst 2, 1) := by decide +kernel
theorem dX6_end_3 : decode cX6_end 3 = .ok (.iload_n 2, 1) := by decide +kernel
theorem dX6_end_4 : decode cX6_end 4 = .ok (.invokevirtual 39, 3) := by decide +kernel
theorem dX6_end_7 : decode cX6_end 7 = .ok (.aload_n 0, 1) := by decide +kernel
theorem dX6_end_8 : decode cX6_end 8 = .ok (.iload_n 1, 1) := by decide +kernel
theorem dX6_end_9 : decode cX6_end 9 = .ok (.iconst 4, 1) := by decide +kernel
theorem dX6_end_10 : decode cX6_end 10 = .ok (.aload_n 0, 1) := by decide +kernel
theorem dX6_end_11 : decode cX6_end 11 = .ok (.invokevirtual 43, 3) := by decide +kernel
theorem dX6_end_14 : decode cX6_end 14 = .ok (.invokevirtual 39, 3) := by decide +kernel
theorem dX6_end_17 : decode cX6_end 17 = .ok (.return_, 1) := by decide +kernel
def f_X6_end (ln : Nat → Nat) (x1 : Int32) (x2 : Int32) (s : dr_S) : Option (Int32 × dr_S) := dr_bndv (f_X6_set ln x1 2 x2 s) (fun s1 => dr_bnd (f_X6_time ln  s1) (fun r3 s2 => dr_bndv (f_X6_set ln x1 4 r3 s2) (fun s4 => some (0, s4))))
section
variable {p : Program} {l : Launch} {e : Env} {s0 : State} {m : MethodId} {args : Array Value} {below : List Frame} {meth : Method} {c : Code} {A : Nat → Prop} {D : va_G} {cI cZ : ClassId} {ad ln : Nat → Nat} {L : List Nat}
set_option maxHeartbeats 4000000 in
set_option maxRecDepth 20000 in
theorem c_X6_end (hap : dr_ap ad L) (hN : ∀ x ∈ nd_6, x ∈ L) (x1 : Int32) (x2 : Int32) (s : dr_S) : dr_Mv l D cI cZ ad ln L yX6_end cX6_end 3 2 [.ref (ad 6), .int x1, .int x2] s (f_X6_end ln x1 x2 s) := by
  refine dr_metv (own := RX6) (by decide) rfl (Nat.le_of_ble_eq_true rfl) hap ?_
  intro p e s0 m args below meth c A E
  unfold f_X6_end
  refine g_eqL (lv' := [(0, .ref (ad 6)), (1, .int x1), (2, .int x2)]) rfl ?_
  refine g_aload_n E dX6_end_0 0 rfl ?_
  refine g_iload_n E dX6_end_1 1 rfl ?_
  refine g_iconst E (v := 2) dX6_end_2 (by decide) ?_
  refine g_iload_n E dX6_end_3 2 rfl ?_
  refine g_cVv E [.int x1, .int 2, .int x2] rfl (c_X6_set hap hN x1 2 x2 s) (hN 6 (by decide)) (by decide) rfl rfl mi_X6_set msl_X6_set mw_X6_set rfl ml_6_39 ⟨Nat.le_of_ble_eq_true rfl, Nat.le_of_ble_eq_true rfl⟩ (Nat.le_of_ble_eq_true rfl) dX6_end_4 (fun s1 => ?_)
  refine g_aload_n E dX6_end_7 0 rfl ?_
  refine g_iload_n E dX6_end_8 1 rfl ?_
  refine g_iconst E (v := 4) dX6_end_9 (by decide) ?_
  refine g_aload_n E dX6_end_10 0 rfl ?_
  refine g_cVi E [] rfl (c_X6_time hap hN  s1) (hN 6 (by decide)) (by decide) rfl rfl mi_X6_time msl_X6_time mw_X6_time rfl ml_6_43 ⟨Nat.le_of_ble_eq_true rfl, Nat.le_of_ble_eq_true rfl⟩ (Nat.le_of_ble_eq_true rfl) dX6_end_11 (fun r3 s2 => ?_)
  refine g_cVv E [.int x1, .int 4, .int r3] rfl (c_X6_set hap hN x1 4 r3 s2) (hN 6 (by decide)) (by decide) rfl rfl mi_X6_set msl_X6_set mw_X6_set rfl ml_6_39 ⟨Nat.le_of_ble_eq_true rfl, Nat.le_of_ble_eq_true rfl⟩ (Nat.le_of_ble_eq_true rfl) dX6_end_14 (fun s4 => ?_)
  exact g_vret E dX6_end_17
end

theorem dX6_isLastChange_0 : decode cX6_isLastChange 0 = .ok (.aload_n 0, 1) := by decide +kernel
theorem dX6_isLastChange_1 : decode cX6_isLastChange 1 = .ok (.iload_n 1, 1) := by decide +kernel
theorem dX6_isLastChange_2 : decode cX6_isLastChange 2 = .ok (.bipush 7, 2) := by decide +kernel
theorem dX6_isLastChange_4 : decode cX6_isLastChange 4 = .ok (.invokevirtual 46, 3) := by decide +kernel
theorem dX6_isLastChange_7 : decode cX6_isLastChange 7 = .ok (.istore_n 3, 1) := by decide +kernel
theorem dX6_isLastChange_8 : decode cX6_isLastChange 8 = .ok (.iload_n 3, 1) := by decide +kernel
theorem dX6_isLastChange_9 : decode cX6_isLastChange 9 = .ok (.iconst (-1), 1) := by decide +kernel
theorem dX6_isLastChange_10 : decode cX6_isLastChange 10 = .ok (.if_icmp .eq 8, 3) := by decide +kernel
theorem dX6_isLastChange_13 : decode cX6_isLastChange 13 = .ok (.iload_n 3, 1) := by decide +kernel
theorem dX6_isLastChange_14 : decode cX6_isLastChange 14 = .ok (.iload_n 2, 1) := by decide +kernel
theorem dX6_isLastChange_15 : decode cX6_isLastChange 15 = .ok (.if_icmp .le 5, 3) := by decide +kernel
theorem dX6_isLastChange_18 : decode cX6_isLastChange 18 = .ok (.iconst 0, 1) := by decide +kernel
theorem dX6_isLastChange_19 : decode cX6_isLastChange 19 = .ok (.ireturn, 1) := by decide +kernel
theorem dX6_isLastChange_20 : decode cX6_isLastChange 20 = .ok (.iconst 0, 1) := by decide +kernel
theorem dX6_isLastChange_21 : decode cX6_isLastChange 21 = .ok (.istore 4, 2) := by decide +kernel
theorem dX6_isLastChange_23 : decode cX6_isLastChange 23 = .ok (.iload 4, 2) := by decide +kernel
theorem dX6_isLastChange_25 : decode cX6_isLastChange 25 = .ok (.aload_n 0, 1) := by decide +kernel
theorem dX6_isLastChange_26 : decode cX6_isLastChange 26 = .ok (.invokevirtual 35, 3) := by decide +kernel
theorem dX6_isLastChange_29 : decode cX6_isLastChange 29 = .ok (.if_icmp .ge 49, 3) := by decide +kernel
theorem dX6_isLastChange_32 : decode cX6_isLastChange 32 = .ok (.aload_n 0, 1) := by decide +kernel
theorem dX6_isLastChange_33 : decode cX6_isLastChange 33 = .ok (.iload 4, 2) := by decide +kernel
theorem dX6_isLastChange_35 : decode cX6_isLastChange 35 = .ok (.bipush 7, 2) := by decide +kernel
theorem dX6_isLastChange_37 : decode cX6_isLastChange 37 = .ok (.invokevirtual 46, 3) := by decide +kernel
theorem dX6_isLastChange_40 : decode cX6_isLastChange 40 = .ok (.istore 5, 2) := by decide +kernel
theorem dX6_isLastChange_42 : decode cX6_isLastChange 42 = .ok (.aload_n 0, 1) := by decide +kernel
theorem dX6_isLastChange_43 : decode cX6_isLastChange 43 = .ok (.iload 4, 2) := by decide +kernel
theorem dX6_isLastChange_45 : decode cX6_isLastChange 45 = .ok (.iconst 1, 1) := by decide +kernel
theorem dX6_isLastChange_46 : decode cX6_isLastChange 46 = .ok (.invokevirtual 46, 3) := by decide +kernel
theorem dX6_isLastChange_49 : decode cX6_isLastChange 49 = .ok (.aload_n 0, 1) := by decide +kernel
theorem dX6_isLastChange_50 : decode cX6_isLastChange 50 = .ok (.iload_n 1, 1) := by decide +kernel
theorem dX6_isLastChange_51 : decode cX6_isLastChange 51 = .ok (.iconst 1, 1) := by decide +kernel
theorem dX6_isLastChange_52 : decode cX6_isLastChange 52 = .ok (.invokevirtual 46, 3) := by decide +kernel
theorem dX6_isLastChange_55 : decode cX6_isLastChange 55 = .ok (.if_icmp .ne 17, 3) := by decide +kernel
theorem dX6_isLastChange_58 : decode cX6_isLastChange 58 = .ok (.iload 5, 2) := by decide +kernel
theorem dX6_isLastChange_60 : decode cX6_isLastChange 60 = .ok (.iload_n 3, 1) := by decide +kernel
theorem dX6_isLastChange_61 : decode cX6_isLastChange 61 = .ok (.if_icmp .le 11, 3) := by decide +kernel
theorem dX6_isLastChange_64 : decode cX6_isLastChange 64 = .ok (.iload 5, 2) := by decide +kernel
theorem dX6_isLastChange_66 : decode cX6_isLastChange 66 = .ok (.iload_n 2, 1) := by decide +kernel
theorem dX6_isLastChange_67 : decode cX6_isLastChange 67 = .ok (.if_icmp .gt 5, 3) := by decide +kernel
theorem dX6_isLastChange_70 : decode cX6_isLastChange 70 = .ok (.iconst 0, 1) := by decide +kernel
theorem dX6_isLastChange_71 : decode cX6_isLastChange 71 = .ok (.ireturn, 1) := by decide +kernel
theorem dX6_isLastChange_72 : decode cX6_isLastChange 72 = .ok (.iinc 4 1, 3) := by decide +kernel
theorem dX6_isLastChange_75 : decode cX6_isLastChange 75 = .ok (.goto (-52), 3) := by decide +kernel
theorem dX6_isLastChange_78 : decode cX6_isLastChange 78 = .ok (.iconst 1, 1) := by decide +kernel
theorem dX6_isLastChange_79 : decode cX6_isLastChange 79 = .ok (.ireturn, 1) := by decide +kernel
def f_X6_isLastChange_p72 (ln : Nat → Nat) (kb23 : Int32 → Int32 → Int32 → Int32 → dr_S → Option (Int32 × dr_S)) (x1 : Int32) (x2 : Int32) (x3 : Int32) (x4 : Int32) (s : dr_S) : Option (Int32 × dr_S) := dr_let (x4 + 1) (fun y11 => (kb23 x1 x2 x3 y11 s))
def f_X6_isLastChange_p23 (ln : Nat → Nat) : Nat → Int32 → Int32 → Int32 → Int32 → dr_S → Option (Int32 × dr_S)
  | 0, _, _, _, _, _ => none
  | n + 1, x1, x2, x3, x4, s => dr_bnd (f_X6_begun ln  s) (fun r4 s3 => (if r4 ≤ x4 then some (1, s3) else dr_bnd (f_X6_get ln x4 7 s3) (fun r6 s5 => dr_bnd (f_X6_get ln x4 1 s5) (fun r8 s7 => dr_bnd (f_X6_get ln x1 1 s7) (fun r10 s9 => (if r8 = r10 then (if r6 ≤ x3 then (f_X6_isLastChange_p72 ln (f_X6_isLastChange_p23 ln n) x1 x2 x3 x4 s9) else (if x2 < r6 then (f_X6_isLastChange_p72 ln (f_X6_isLastChange_p23 ln n) x1 x2 x3 x4 s9) else some (0, s9))) else (f_X6_isLastChange_p72 ln (f_X6_isLastChange_p23 ln n) x1 x2 x3 x4 s9)))))))
def f_X6_isLastChange (ln : Nat → Nat) (x1 : Int32) (x2 : Int32) (s : dr_S) : Option (Int32 × dr_S) := dr_bnd (f_X6_get ln x1 7 s) (fun r2 s1 => (if r2 = (-1) then some (0, s1) else (if r2 ≤ x2 then (f_X6_isLastChange_p23 ln dr_N x1 x2 r2 0 s1) else some (0, s1))))
section
variable {p : Program} {l : Launch} {e : Env} {s0 : State} {m : MethodId} {args : Array Value} {below : List Frame} {meth : Method} {c : Code} {A : Nat → Prop} {D : va_G} {cI cZ : ClassId} {ad ln : Nat → Nat} {L : List Nat}
set_option maxHeartbeats 4000000 in
set_option maxRecDepth 20000 in
theorem w_X6_isLastChange_p72 {kb23 : Int32 → Int32 → Int32 → Int32 → dr_S → Option (Int32 × dr_S)} (E : dr_E p (dr_rm 2) s0 m args meth c 0 0 A s0.heap D cI cZ ad L cX6_isLastChange 6 RX6 (some .boolean)) (hap : dr_ap ad L) (hN : ∀ x ∈ nd_6, x ∈ L) (hkb23 : ∀ (x1 : Int32) (x2 : Int32) (x3 : Int32) (x4 : Int32) (s : dr_S), dr_G p l e (dr_rm 2) s0 m args below meth c 0 0 A s0.heap D cI cZ ad ln L 6 (dr_Zi D cI cZ ad ln L A below args s0 0 0) 23 [(0, .ref (ad 6)), (1, .int x1), (2, .int x2), (3, .int x3), (4, .int x4)] [] s (kb23 x1 x2 x3 x4 s)) : ∀ (x1 : Int32) (x2 : Int32) (x3 : Int32) (x4 : Int32) (s : dr_S), dr_G p l e (dr_rm 2) s0 m args below meth c 0 0 A s0.heap D cI cZ ad ln L 6 (dr_Zi D cI cZ ad ln L A below args s0 0 0) 72 [(0, .ref (ad 6)), (1, .int x1), (2, .int x2), (3, .int x3), (4, .int x4)] [] s (f_X6_isLastChange_p72 ln kb23 x1 x2 x3 x4 s) := by
  intro x1 x2 x3 x4 s
  unfold f_X6_isLastChange_p72
  refine g_iinc E (lv' := []) (lv'' := fun y11 => [(4, .int y11), (0, .ref (ad 6)), (1, .int x1), (2, .int x2), (3, .int x3)]) (v := 1) dX6_isLastChange_72 4 rfl (by decide) (by decide) (fun _ => rfl) (fun y11 => ?_)
  refine g_goto E 23 dX6_isLastChange_75 (by decide) ?_
  refine g_sub [1, 2, 3, 4, 0] rfl ?_
  exact hkb23 x1 x2 x3 y11 s
set_option maxHeartbeats 4000000 in
set_option maxRecDepth 20000 in
theorem w_X6_isLastChange_p23 (E : dr_E p (dr_rm 2) s0 m args meth c 0 0 A s0.heap D cI cZ ad L cX6_isLastChange 6 RX6 (some .boolean)) (hap : dr_ap ad L) (hN : ∀ x ∈ nd_6, x ∈ L) : ∀ (n : Nat) (x1 : Int32) (x2 : Int32) (x3 : Int32) (x4 : Int32) (s : dr_S), dr_G p l e (dr_rm 2) s0 m args below meth c 0 0 A s0.heap D cI cZ ad ln L 6 (dr_Zi D cI cZ ad ln L A below args s0 0 0) 23 [(0, .ref (ad 6)), (1, .int x1), (2, .int x2), (3, .int x3), (4, .int x4)] [] s (f_X6_isLastChange_p23 ln n x1 x2 x3 x4 s) := by
  intro n
  induction n with
  | zero =>
    intro x1 x2 x3 x4 s
    rw [f_X6_isLastChange_p23]
    exact g_none
  | succ n hkb23 =>
    intro x1 x2 x3 x4 s
    rw [f_X6_isLastChange_p23]
    refine g_iload E dX6_isLastChange_23 4 rfl ?_
    refine g_aload_n E dX6_isLastChange_25 0 rfl ?_
    refine g_cVi E [] rfl (c_X6_begun hap hN  s) (hN 6 (by decide)) (by decide) rfl rfl mi_X6_begun msl_X6_begun mw_X6_begun rfl ml_6_35 ⟨Nat.le_of_ble_eq_true rfl, Nat.le_of_ble_eq_true rfl⟩ (Nat.le_of_ble_eq_true rfl) dX6_isLastChange_26 (fun r4 s3 => ?_)
    refine g_icmp_ge E 78 dX6_isLastChange_29 (by decide) ?_ ?_
    · refine g_iconst E (v := 1) dX6_isLastChange_78 (by decide) ?_
      exact g_zret E dX6_isLastChange_79 (Or.inr rfl)
    · refine g_aload_n E dX6_isLastChange_32 0 rfl ?_
      refine g_iload E dX6_isLastChange_33 4 rfl ?_
      refine g_bipush E (v := 7) dX6_isLastChange_35 (by decide) ?_
      refine g_cVi E [.int x4, .int 7] rfl (c_X6_get hap hN x4 7 s3) (hN 6 (by decide)) (by decide) rfl rfl mi_X6_get msl_X6_get mw_X6_get rfl ml_6_46 ⟨Nat.le_of_ble_eq_true rfl, Nat.le_of_ble_eq_true rfl⟩ (Nat.le_of_ble_eq_true rfl) dX6_isLastChange_37 (fun r6 s5 => ?_)
      refine g_istore E (lv' := [(5, .int r6), (0, .ref (ad 6)), (1, .int x1), (2, .int x2), (3, .int x3), (4, .int x4)]) dX6_isLastChange_40 (by decide) rfl ?_
      refine g_aload_n E dX6_isLastChange_42 1 rfl ?_
      refine g_iload E dX6_isLastChange_43 5 rfl ?_
      refine g_iconst E (v := 1) dX6_isLastChange_45 (by decide) ?_
      refine g_cVi E [.int x4, .int 1] rfl (c_X6_get hap hN x4 1 s5) (hN 6 (by decide)) (by decide) rfl rfl mi_X6_get msl_X6_get mw_X6_get rfl ml_6_46 ⟨Nat.le_of_ble_eq_true rfl, Nat.le_of_ble_eq_true rfl⟩ (Nat.le_of_ble_eq_true rfl) dX6_isLastChange_46 (fun r8 s7 => ?_)
      refine g_aload_n E dX6_isLastChange_49 1 rfl ?_
      refine g_iload_n E dX6_isLastChange_50 2 rfl ?_
      refine g_iconst E (v := 1) dX6_isLastChange_51 (by decide) ?_
      refine g_cVi E [.int x1, .int 1] rfl (c_X6_get hap hN x1 1 s7) (hN 6 (by decide)) (by decide) rfl rfl mi_X6_get msl_X6_get mw_X6_get rfl ml_6_46 ⟨Nat.le_of_ble_eq_true rfl, Nat.le_of_ble_eq_true rfl⟩ (Nat.le_of_ble_eq_true rfl) dX6_isLastChange_52 (fun r10 s9 => ?_)
      refine g_icmp_ne E 72 dX6_isLastChange_55 (by decide) ?_ ?_
      · refine g_sub [1, 2, 3, 4, 5] rfl ?_
        exact w_X6_isLastChange_p72 E hap hN hkb23 x1 x2 x3 x4 s9
      · refine g_iload E dX6_isLastChange_58 0 rfl ?_
        refine g_iload_n E dX6_isLastChange_60 4 rfl ?_
        refine g_icmp_le E 72 dX6_isLastChange_61 (by decide) ?_ ?_
        · refine g_sub [1, 2, 3, 4, 5] rfl ?_
          exact w_X6_isLastChange_p72 E hap hN hkb23 x1 x2 x3 x4 s9
        · refine g_iload E dX6_isLastChange_64 0 rfl ?_
          refine g_iload_n E dX6_isLastChange_66 3 rfl ?_
          refine g_icmp_gt E 72 dX6_isLastChange_67 (by decide) ?_ ?_
          · refine g_sub [1, 2, 3, 4, 5] rfl ?_
            exact w_X6_isLastChange_p72 E hap hN hkb23 x1 x2 x3 x4 s9
          · refine g_iconst E (v := 0) dX6_isLastChange_70 (by decide) ?_
            exact g_zret E dX6_isLastChange_71 (Or.inl rfl)
set_option maxHeartbeats 4000000 in
set_option maxRecDepth 20000 in
theorem c_X6_isLastChange (hap : dr_ap ad L) (hN : ∀ x ∈ nd_6, x ∈ L) (x1 : Int32) (x2 : Int32) (s : dr_S) : dr_Mi l D cI cZ ad ln L yX6_isLastChange cX6_isLastChange 6 (some .boolean) 2 [.ref (ad 6), .int x1, .int x2] s (f_X6_isLastChange ln x1 x2 s) := by
  refine dr_meti (own := RX6) (by decide) rfl (Nat.le_of_ble_eq_true rfl) hap ?_
  intro p e s0 m args below meth c A E
  unfold f_X6_isLastChange
  refine g_eqL (lv' := [(0, .ref (ad 6)), (1, .int x1), (2, .int x2)]) rfl ?_
  refine g_aload_n E dX6_isLastChange_0 0 rfl ?_
  refine g_iload_n E dX6_isLastChange_1 1 rfl ?_
  refine g_bipush E (v := 7) dX6_isLastChange_2 (by decide) ?_
  refine g_cVi E [.int x1, .int 7] rfl (c_X6_get hap hN x1 7 s) (hN 6 (by decide)) (by decide) rfl rfl mi_X6_get msl_X6_get mw_X6_get rfl ml_6_46 ⟨Nat.le_of_ble_eq_true rfl, Nat.le_of_ble_eq_true rfl⟩ (Nat.le_of_ble_eq_true rfl) dX6_isLastChange_4 (fun r2 s1 => ?_)
  refine g_istore_n E (lv' := [(3, .int r2), (0, .ref (ad 6)), (1, .int x1), (2, .int x2)]) dX6_isLastChange_7 (by decide) rfl ?_
  refine g_iload_n E dX6_isLastChange_8 0 rfl ?_
  refine g_iconst E (v := (-1)) dX6_isLastChange_9 (by decide) ?_
  refine g_icmp_eq E 18 dX6_isLastChange_10 (by decide) ?_ ?_
  · refine g_iconst E (v := 0) dX6_isLastChange_18 (by decide) ?_
    exact g_zret E dX6_isLastChange_19 (Or.inl rfl)
  · refine g_iload_n E dX6_isLastChange_13 0 rfl ?_
    refine g_iload_n E dX6_isLastChange_14 3 rfl ?_
    refine g_icmp_le E 20 dX6_isLastChange_15 (by decide) ?_ ?_
    · refine g_iconst E (v := 0) dX6_isLastChange_20 (by decide) ?_
      refine g_istore E (lv' := [(4, .int 0), (3, .int r2), (0, .ref (ad 6)), (1, .int x1), (2, .int x2)]) dX6_isLastChange_21 (by decide) rfl ?_
      refine g_sub [2, 3, 4, 1, 0] rfl ?_
      exact w_X6_isLastChange_p23 E hap hN dr_N x1 x2 r2 0 s1
    · refine g_iconst E (v := 0) dX6_isLastChange_18 (by decide) ?_
      exact g_zret E dX6_isLastChange_19 (Or.inl rfl)
end

theorem dX7_canBeAsked_0 : decode cX7_canBeAsked 0 = .ok (.aload_n 0, 1) := by decide +kernel
theorem dX7_canBeAsked_1 : decode cX7_canBeAsked 1 = .ok (.iconst 0, 1) := by decide +kernel
theorem dX7_canBeAsked_2 : decode cX7_canBeAsked 2 = .ok (.putfield 33, 3) := by decide +kernel
theorem dX7_canBeAsked_5 : decode cX7_canBeAsked 5 = .ok (.iconst 0, 1) := by decide +kernel
theorem dX7_canBeAsked_6 : decode cX7_canBeAsked 6 = .ok (.istore_n 2, 1) := by decide +kernel
theorem dX7_canBeAsked_7 : decode cX7_canBeAsked 7 = .ok (.iload_n 2, 1) := by decide +kernel
theorem dX7_canBeAsked_8 : decode cX7_canBeAsked 8 = .ok (.aload_n 0, 1) := by decide +kernel
theorem dX7_canBeAsked_9 : decode cX7_canBeAsked 9 = .ok (.getfield 37, 3) := by decide +kernel
theorem dX7_canBeAsked_12 : decode cX7_canBeAsked 12 = .ok (.invokevirtual 55, 3) := by decide +kernel
theorem dX7_canBeAsked_15 : decode cX7_canBeAsked 15 = .ok (.if_icmp .ge 148, 3) := by decide +kernel
theorem dX7_canBeAsked_18 : decode cX7_canBeAsked 18 = .ok (.aload_n 0, 1) := by decide +kernel
theorem dX7_canBeAsked_19 : decode cX7_canBeAsked 19 = .ok (.getfield 37, 3) := by decide +kernel
theorem dX7_canBeAsked_22 : decode cX7_canBeAsked 22 = .ok (.iload_n 2, 1) := by decide +kernel
theorem dX7_canBeAsked_23 : decode cX7_canBeAsked 23 = .ok (.iconst 1, 1) := by decide +kernel
theorem dX7_canBeAsked_24 : decode cX7_canBeAsked 24 = .ok (.invokevirtual 61, 3) := by decide +kernel
theorem dX7_canBeAsked_27 : decode cX7_canBeAsked 27 = .ok (.iload_n 1, 1) := by decide +kernel
theorem dX7_canBeAsked_28 : decode cX7_canBeAsked 28 = .ok (.if_icmp .eq 6, 3) := by decide +kernel
theorem dX7_canBeAsked_31 : decode cX7_canBeAsked 31 = .ok (.goto 126, 3) := by decide +kernel
theorem dX7_canBeAsked_34 : decode cX7_canBeAsked 34 = .ok (.aload_n 0, 1) := by decide +kernel
theorem dX7_canBeAsked_35 : decode cX7_canBeAsked 35 = .ok (.getfield 37, 3) := by decide +kernel
theorem dX7_canBeAsked_38 : decode cX7_canBeAsked 38 = .ok (.iload_n 2, 1) := by decide +kernel
theorem dX7_canBeAsked_39 : decode cX7_canBeAsked 39 = .ok (.iconst 4, 1) := by decide +kernel
theorem dX7_canBeAsked_40 : decode cX7_canBeAsked 40 = .ok (.invokevirtual 61, 3) := by decide +kernel
theorem dX7_canBeAsked_43 : decode cX7_canBeAsked 43 = .ok (.iconst (-1), 1) := by decide +kernel
theorem dX7_canBeAsked_44 : decode cX7_canBeAsked 44 = .ok (.if_icmp .eq 19, 3) := by decide +kernel
theorem dX7_canBeAsked_47 : decode cX7_canBeAsked 47 = .ok (.aload_n 0, 1) := by decide +kernel
theorem dX7_canBeAsked_48 : decode cX7_canBeAsked 48 = .ok (.getfield 33, 3) := by decide +kernel
theorem dX7_canBeAsked_51 : decode cX7_canBeAsked 51 = .ok (.ifCond .lt 12, 3) := by decide +kernel
theorem dX7_canBeAsked_54 : decode cX7_canBeAsked 54 = .ok (.aload_n 0, 1) := by decide +kernel
theorem dX7_canBeAsked_55 : decode cX7_canBeAsked 55 = .ok (.getfield 33, 3) := by decide +kernel
theorem dX7_canBeAsked_58 : decode cX7_canBeAsked 58 = .ok (.bipush 9, 2) := by decide +kernel
theorem dX7_canBeAsked_60 : decode cX7_canBeAsked 60 = .ok (.if_icmp .lt 5, 3) := by decide +kernel
theorem dX7_canBeAsked_63 : decode cX7_canBeAsked 63 = .ok (.iconst 0, 1) := by decide +kernel
theorem dX7_canBeAsked_64 : decode cX7_canBeAsked 64 = .ok (.ireturn, 1) := by decide +kernel
theorem dX7_canBeAsked_65 : decode cX7_canBeAsked 65 = .ok (.aload_n 0, 1) := by decide +kernel
theorem dX7_canBeAsked_66 : decode cX7_canBeAsked 66 = .ok (.getfield 11, 3) := by decide +kernel
theorem dX7_canBeAsked_69 : decode cX7_canBeAsked 69 = .ok (.aload_n 0, 1) := by decide +kernel
theorem dX7_canBeAsked_70 : decode cX7_canBeAsked 70 = .ok (.getfield 33, 3) := by decide +kernel
theorem dX7_canBeAsked_73 : decode cX7_canBeAsked 73 = .ok (.iload_n 2, 1) := by decide +kernel
theorem dX7_canBeAsked_74 : decode cX7_canBeAsked 74 = .ok (.iastore, 1) := by decide +kernel
theorem dX7_canBeAsked_75 : decode cX7_canBeAsked 75 = .ok (.aload_n 0, 1) := by decide +kernel
theorem dX7_canBeAsked_76 : decode cX7_canBeAsked 76 = .ok (.getfield 15, 3) := by decide +kernel
theorem dX7_canBeAsked_79 : decode cX7_canBeAsked 79 = .ok (.aload_n 0, 1) := by decide +kernel
theorem dX7_canBeAsked_80 : decode cX7_canBeAsked 80 = .ok (.getfield 33, 3) := by decide +kernel
theorem dX7_canBeAsked_83 : decode cX7_canBeAsked 83 = .ok (.aload_n 0, 1) := by decide +kernel
theorem dX7_canBeAsked_84 : decode cX7_canBeAsked 84 = .ok (.getfield 37, 3) := by decide +kernel
theorem dX7_canBeAsked_87 : decode cX7_canBeAsked 87 = .ok (.iload_n 2, 1) := by decide +kernel
theorem dX7_canBeAsked_88 : decode cX7_canBeAsked 88 = .ok (.iconst 0, 1) := by decide +kernel
theorem dX7_canBeAsked_89 : decode cX7_canBeAsked 89 = .ok (.invokevirtual 61, 3) := by decide +kernel
theorem dX7_canBeAsked_92 : decode cX7_canBeAsked 92 = .ok (.iastore, 1) := by decide +kernel
theorem dX7_canBeAsked_93 : decode cX7_canBeAsked 93 = .ok (.aload_n 0, 1) := by decide +kernel
theorem dX7_canBeAsked_94 : decode cX7_canBeAsked 94 = .ok (.getfield 18, 3) := by decide +kernel
theorem dX7_canBeAsked_97 : decode cX7_canBeAsked 97 = .ok (.aload_n 0, 1) := by decide +kernel
theorem dX7_canBeAsked_98 : decode cX7_canBeAsked 98 = .ok (.getfield 33, 3) := by decide +kernel
theorem dX7_canBeAsked_101 : decode cX7_canBeAsked 101 = .ok (.aload_n 0, 1) := by decide +kernel
theorem dX7_canBeAsked_102 : decode cX7_canBeAsked 102 = .ok (.getfield 37, 3) := by decide +kernel
theorem dX7_canBeAsked_105 : decode cX7_canBeAsked 105 = .ok (.iload_n 2, 1) := by decide +kernel
theorem dX7_canBeAsked_106 : decode cX7_canBeAsked 106 = .ok (.iconst 2, 1) := by decide +kernel
theorem dX7_canBeAsked_107 : decode cX7_canBeAsked 107 = .ok (.invokevirtual 61, 3) := by decide +kernel
theorem dX7_canBeAsked_110 : decode cX7_canBeAsked 110 = .ok (.iastore, 1) := by decide +kernel
theorem dX7_canBeAsked_111 : decode cX7_canBeAsked 111 = .ok (.aload_n 0, 1) := by decide +kernel
theorem dX7_canBeAsked_112 : decode cX7_canBeAsked 112 = .ok (.getfield 21, 3) := by decide +kernel
theorem dX7_canBeAsked_115 : decode cX7_canBeAsked 115 = .ok (.aload_n 0, 1) := by decide +kernel
theorem dX7_canBeAsked_116 : decode cX7_canBeAsked 116 = .ok (.getfield 33, 3) := by decide +kernel
theorem dX7_canBeAsked_119 : decode cX7_canBeAsked 119 = .ok (.aload_n 0, 1) := by decide +kernel
theorem dX7_canBeAsked_120 : decode cX7_canBeAsked 120 = .ok (.getfield 37, 3) := by decide +kernel
theorem dX7_canBeAsked_123 : decode cX7_canBeAsked 123 = .ok (.iload_n 2, 1) := by decide +kernel
theorem dX7_canBeAsked_124 : decode cX7_canBeAsked 124 = .ok (.iconst 3, 1) := by decide +kernel
theorem dX7_canBeAsked_125 : decode cX7_canBeAsked 125 = .ok (.invokevirtual 61, 3) := by decide +kernel
theorem dX7_canBeAsked_128 : decode cX7_canBeAsked 128 = .ok (.iastore, 1) := by decide +kernel
theorem dX7_canBeAsked_129 : decode cX7_canBeAsked 129 = .ok (.aload_n 0, 1) := by decide +kernel
theorem dX7_canBeAsked_130 : decode cX7_canBeAsked 130 = .ok (.getfield 24, 3) := by decide +kernel
theorem dX7_canBeAsked_133 : decode cX7_canBeAsked 133 = .ok (.aload_n 0, 1) := by decide +kernel
theorem dX7_canBeAsked_134 : decode cX7_canBeAsked 134 = .ok (.getfield 33, 3) := by decide +kernel
theorem dX7_canBeAsked_137 : decode cX7_canBeAsked 137 = .ok (.aload_n 0, 1) := by decide +kernel
theorem dX7_canBeAsked_138 : decode cX7_canBeAsked 138 = .ok (.getfield 37, 3) := by decide +kernel
theorem dX7_canBeAsked_141 : decode cX7_canBeAsked 141 = .ok (.iload_n 2, 1) := by decide +kernel
theorem dX7_canBeAsked_142 : decode cX7_canBeAsked 142 = .ok (.iconst 4, 1) := by decide +kernel
theorem dX7_canBeAsked_143 : decode cX7_canBeAsked 143 = .ok (.invokevirtual 61, 3) := by decide +kernel
theorem dX7_canBeAsked_146 : decode cX7_canBeAsked 146 = .ok (.iastore, 1) := by decide +kernel
theorem dX7_canBeAsked_147 : decode cX7_canBeAsked 147 = .ok (.aload_n 0, 1) := by decide +kernel
theorem dX7_canBeAsked_148 : decode cX7_canBeAsked 148 = .ok (.dup, 1) := by decide +kernel
theorem dX7_canBeAsked_149 : decode cX7_canBeAsked 149 = .ok (.getfield 33, 3) := by decide +kernel
theorem dX7_canBeAsked_152 : decode cX7_canBeAsked 152 = .ok (.iconst 1, 1) := by decide +kernel
theorem dX7_canBeAsked_153 : decode cX7_canBeAsked 153 = .ok (.iadd, 1) := by decide +kernel
theorem dX7_canBeAsked_154 : decode cX7_canBeAsked 154 = .ok (.putfield 33, 3) := by decide +kernel
theorem dX7_canBeAsked_157 : decode cX7_canBeAsked 157 = .ok (.iinc 2 1, 3) := by decide +kernel
theorem dX7_canBeAsked_160 : decode cX7_canBeAsked 160 = .ok (.goto (-153), 3) := by decide +kernel
theorem dX7_canBeAsked_163 : decode cX7_canBeAsked 163 = .ok (.iconst 1, 1) := by decide +kernel
theorem dX7_canBeAsked_164 : decode cX7_canBeAsked 164 = .ok (.ireturn, 1) := by decide +kernel
def f_X7_canBeAsked_p157 (ln : Nat → Nat) (kb7 : Int32 → Int32 → dr_S → Option (Int32 × dr_S)) (x1 : Int32) (x2 : Int32) (s : dr_S) : Option (Int32 × dr_S) := dr_let (x2 + 1) (fun y22 => (kb7 x1 y22 s))
def f_X7_canBeAsked_p7 (ln : Nat → Nat) : Nat → Int32 → Int32 → dr_S → Option (Int32 × dr_S)
  | 0, _, _, _ => none
  | n + 1, x1, x2, s => dr_bnd (f_X6_begun ln  s) (fun r3 s2 => (if r3 ≤ x2 then some (1, s2) else dr_bnd (f_X6_get ln x2 1 s2) (fun r5 s4 => (if r5 = x1 then dr_bnd (f_X6_get ln x2 4 s4) (fun r7 s6 => (if r7 = (-1) then some (0, s6) else (if (s6.2 708) < 0 then some (0, s6) else (if (s6.2 708) < 9 then (dr_wr ln s6 20 (s6.2 708) x2).bind (fun s8 => dr_bnd (f_X6_get ln x2 0 s8) (fun r10 s9 => (dr_wr ln s9 21 (s8.2 708) r10).bind (fun s11 => dr_bnd (f_X6_get ln x2 2 s11) (fun r13 s12 => (dr_wr ln s12 22 (s11.2 708) r13).bind (fun s14 => dr_bnd (f_X6_get ln x2 3 s14) (fun r16 s15 => (dr_wr ln s15 23 (s14.2 708) r16).bind (fun s17 => dr_bnd (f_X6_get ln x2 4 s17) (fun r19 s18 => (dr_wr ln s18 24 (s17.2 708) r19).bind (fun s20 => dr_letS (dr_pf s20 708 ((s20.2 708) + 1)) (fun s21 => (f_X7_canBeAsked_p157 ln (f_X7_canBeAsked_p7 ln n) x1 x2 s21))))))))))) else some (0, s6))))) else (f_X7_canBeAsked_p157 ln (f_X7_canBeAsked_p7 ln n) x1 x2 s4)))))
def f_X7_canBeAsked (ln : Nat → Nat) (x1 : Int32) (s : dr_S) : Option (Int32 × dr_S) := dr_letS (dr_pf s 708 0) (fun s1 => (f_X7_canBeAsked_p7 ln dr_N x1 0 s1))
section
variable {p : Program} {l : Launch} {e : Env} {s0 : State} {m : MethodId} {args : Array Value} {below : List Frame} {meth : Method} {c : Code} {A : Nat → Prop} {D : va_G} {cI cZ : ClassId} {ad ln : Nat → Nat} {L : List Nat}
set_option maxHeartbeats 4000000 in
set_option maxRecDepth 20000 in
theorem w_X7_canBeAsked_p157 {kb7 : Int32 → Int32 → dr_S → Option (Int32 × dr_S)} (E : dr_E p (dr_rm 2) s0 m args meth c 0 0 A s0.heap D cI cZ ad L cX7_canBeAsked 3 RX7 (some .boolean)) (hap : dr_ap ad L) (hN : ∀ x ∈ nd_7, x ∈ L) (hkb7 : ∀ (x1 : Int32) (x2 : Int32) (s : dr_S), dr_G p l e (dr_rm 2) s0 m args below meth c 0 0 A s0.heap D cI cZ ad ln L 3 (dr_Zi D cI cZ ad ln L A below args s0 0 0) 7 [(0, .ref (ad 7)), (1, .int x1), (2, .int x2)] [] s (kb7 x1 x2 s)) : ∀ (x1 : Int32) (x2 : Int32) (s : dr_S), dr_G p l e (dr_rm 2) s0 m args below meth c 0 0 A s0.heap D cI cZ ad ln L 3 (dr_Zi D cI cZ ad ln L A below args s0 0 0) 157 [(0, .ref (ad 7)), (1, .int x1), (2, .int x2)] [] s (f_X7_canBeAsked_p157 ln kb7 x1 x2 s) := by
  intro x1 x2 s
  unfold f_X7_canBeAsked_p157
  refine g_iinc E (lv' := []) (lv'' := fun y22 => [(2, .int y22), (0, .ref (ad 7)), (1, .int x1)]) (v := 1) dX7_canBeAsked_157 2 rfl (by decide) (by decide) (fun _ => rfl) (fun y22 => ?_)
  refine g_goto E 7 dX7_canBeAsked_160 (by decide) ?_
  refine g_sub [1, 2, 0] rfl ?_
  exact hkb7 x1 y22 s
set_option maxHeartbeats 4000000 in
set_option maxRecDepth 20000 in
theorem w_X7_canBeAsked_p7 (E : dr_E p (dr_rm 2) s0 m args meth c 0 0 A s0.heap D cI cZ ad L cX7_canBeAsked 3 RX7 (some .boolean)) (hap : dr_ap ad L) (hN : ∀ x ∈ nd_7, x ∈ L) : ∀ (n : Nat) (x1 : Int32) (x2 : Int32) (s : dr_S), dr_G p l e (dr_rm 2) s0 m args below meth c 0 0 A s0.heap D cI cZ ad ln L 3 (dr_Zi D cI cZ ad ln L A below args s0 0 0) 7 [(0, .ref (ad 7)), (1, .int x1), (2, .int x2)] [] s (f_X7_canBeAsked_p7 ln n x1 x2 s) := by
  intro n
  induction n with
  | zero =>
    intro x1 x2 s
    rw [f_X7_canBeAsked_p7]
    exact g_none
  | succ n hkb7 =>
    intro x1 x2 s
    rw [f_X7_canBeAsked_p7]
    refine g_iload_n E dX7_canBeAsked_7 2 rfl ?_
    refine g_aload_n E dX7_canBeAsked_8 0 rfl ?_
    refine gg_7_37 E (hN 7 (by decide)) dX7_canBeAsked_9 ?_
    refine g_cVi E [] rfl (c_X6_begun hap (fun x h => hN x (ns_6_7 x h))  s) (hN 6 (by decide)) (by decide) rfl rfl mi_X6_begun msl_X6_begun mw_X6_begun rfl ml_7_55 ⟨Nat.le_of_ble_eq_true rfl, Nat.le_of_ble_eq_true rfl⟩ (Nat.le_of_ble_eq_true rfl) dX7_canBeAsked_12 (fun r3 s2 => ?_)
    refine g_icmp_ge E 163 dX7_canBeAsked_15 (by decide) ?_ ?_
    · refine g_iconst E (v := 1) dX7_canBeAsked_163 (by decide) ?_
      exact g_zret E dX7_canBeAsked_164 (Or.inr rfl)
    · refine g_aload_n E dX7_canBeAsked_18 0 rfl ?_
      refine gg_7_37 E (hN 7 (by decide)) dX7_canBeAsked_19 ?_
      refine g_iload_n E dX7_canBeAsked_22 2 rfl ?_
      refine g_iconst E (v := 1) dX7_canBeAsked_23 (by decide) ?_
      refine g_cVi E [.int x2, .int 1] rfl (c_X6_get hap (fun x h => hN x (ns_6_7 x h)) x2 1 s2) (hN 6 (by decide)) (by decide) rfl rfl mi_X6_get msl_X6_get mw_X6_get rfl ml_7_61 ⟨Nat.le_of_ble_eq_true rfl, Nat.le_of_ble_eq_true rfl⟩ (Nat.le_of_ble_eq_true rfl) dX7_canBeAsked_24 (fun r5 s4 => ?_)
      refine g_iload_n E dX7_canBeAsked_27 1 rfl ?_
      refine g_icmp_eq E 34 dX7_canBeAsked_28 (by decide) ?_ ?_
      · refine g_aload_n E dX7_canBeAsked_34 0 rfl ?_
        refine gg_7_37 E (hN 7 (by decide)) dX7_canBeAsked_35 ?_
        refine g_iload_n E dX7_canBeAsked_38 2 rfl ?_
        refine g_iconst E (v := 4) dX7_canBeAsked_39 (by decide) ?_
        refine g_cVi E [.int x2, .int 4] rfl (c_X6_get hap (fun x h => hN x (ns_6_7 x h)) x2 4 s4) (hN 6 (by decide)) (by decide) rfl rfl mi_X6_get msl_X6_get mw_X6_get rfl ml_7_61 ⟨Nat.le_of_ble_eq_true rfl, Nat.le_of_ble_eq_true rfl⟩ (Nat.le_of_ble_eq_true rfl) dX7_canBeAsked_40 (fun r7 s6 => ?_)
        refine g_iconst E (v := (-1)) dX7_canBeAsked_43 (by decide) ?_
        refine g_icmp_eq E 63 dX7_canBeAsked_44 (by decide) ?_ ?_
        · refine g_iconst E (v := 0) dX7_canBeAsked_63 (by decide) ?_
          exact g_zret E dX7_canBeAsked_64 (Or.inl rfl)
        · refine g_aload_n E dX7_canBeAsked_47 0 rfl ?_
          refine gg_7_33 E (hN 7 (by decide)) dX7_canBeAsked_48 ?_
          refine g_if_lt E 63 dX7_canBeAsked_51 (by decide) ?_ ?_
          · refine g_iconst E (v := 0) dX7_canBeAsked_63 (by decide) ?_
            exact g_zret E dX7_canBeAsked_64 (Or.inl rfl)
          · refine g_aload_n E dX7_canBeAsked_54 0 rfl ?_
            refine gg_7_33 E (hN 7 (by decide)) dX7_canBeAsked_55 ?_
            refine g_bipush E (v := 9) dX7_canBeAsked_58 (by decide) ?_
            refine g_icmp_lt E 65 dX7_canBeAsked_60 (by decide) ?_ ?_
            · refine g_aload_n E dX7_canBeAsked_65 0 rfl ?_
              refine gg_7_11 E (hN 7 (by decide)) dX7_canBeAsked_66 ?_
              refine g_aload_n E dX7_canBeAsked_69 0 rfl ?_
              refine gg_7_33 E (hN 7 (by decide)) dX7_canBeAsked_70 ?_
              refine g_iload_n E dX7_canBeAsked_73 2 rfl ?_
              refine g_iastore E (hN 20 (by decide)) (by decide) rfl dX7_canBeAsked_74 (fun s8 => ?_)
              refine g_aload_n E dX7_canBeAsked_75 0 rfl ?_
              refine gg_7_15 E (hN 7 (by decide)) dX7_canBeAsked_76 ?_
              refine g_aload_n E dX7_canBeAsked_79 0 rfl ?_
              refine gg_7_33 E (hN 7 (by decide)) dX7_canBeAsked_80 ?_
              refine g_aload_n E dX7_canBeAsked_83 0 rfl ?_
              refine gg_7_37 E (hN 7 (by decide)) dX7_canBeAsked_84 ?_
              refine g_iload_n E dX7_canBeAsked_87 2 rfl ?_
              refine g_iconst E (v := 0) dX7_canBeAsked_88 (by decide) ?_
              refine g_cVi E [.int x2, .int 0] rfl (c_X6_get hap (fun x h => hN x (ns_6_7 x h)) x2 0 s8) (hN 6 (by decide)) (by decide) rfl rfl mi_X6_get msl_X6_get mw_X6_get rfl ml_7_61 ⟨Nat.le_of_ble_eq_true rfl, Nat.le_of_ble_eq_true rfl⟩ (Nat.le_of_ble_eq_true rfl) dX7_canBeAsked_89 (fun r10 s9 => ?_)
              refine g_iastore E (hN 21 (by decide)) (by decide) rfl dX7_canBeAsked_92 (fun s11 => ?_)
              refine g_aload_n E dX7_canBeAsked_93 0 rfl ?_
              refine gg_7_18 E (hN 7 (by decide)) dX7_canBeAsked_94 ?_
              refine g_aload_n E dX7_canBeAsked_97 0 rfl ?_
              refine gg_7_33 E (hN 7 (by decide)) dX7_canBeAsked_98 ?_
              refine g_aload_n E dX7_canBeAsked_101 0 rfl ?_
              refine gg_7_37 E (hN 7 (by decide)) dX7_canBeAsked_102 ?_
              refine g_iload_n E dX7_canBeAsked_105 2 rfl ?_
              refine g_iconst E (v := 2) dX7_canBeAsked_106 (by decide) ?_
              refine g_cVi E [.int x2, .int 2] rfl (c_X6_get hap (fun x h => hN x (ns_6_7 x h)) x2 2 s11) (hN 6 (by decide)) (by decide) rfl rfl mi_X6_get msl_X6_get mw_X6_get rfl ml_7_61 ⟨Nat.le_of_ble_eq_true rfl, Nat.le_of_ble_eq_true rfl⟩ (Nat.le_of_ble_eq_true rfl) dX7_canBeAsked_107 (fun r13 s12 => ?_)
              refine g_iastore E (hN 22 (by decide)) (by decide) rfl dX7_canBeAsked_110 (fun s14 => ?_)
              refine g_aload_n E dX7_canBeAsked_111 0 rfl ?_
              refine gg_7_21 E (hN 7 (by decide)) dX7_canBeAsked_112 ?_
              refine g_aload_n E dX7_canBeAsked_115 0 rfl ?_
              refine gg_7_33 E (hN 7 (by decide)) dX7_canBeAsked_116 ?_
              refine g_aload_n E dX7_canBeAsked_119 0 rfl ?_
              refine gg_7_37 E (hN 7 (by decide)) dX7_canBeAsked_120 ?_
              refine g_iload_n E dX7_canBeAsked_123 2 rfl ?_
              refine g_iconst E (v := 3) dX7_canBeAsked_124 (by decide) ?_
              refine g_cVi E [.int x2, .int 3] rfl (c_X6_get hap (fun x h => hN x (ns_6_7 x h)) x2 3 s14) (hN 6 (by decide)) (by decide) rfl rfl mi_X6_get msl_X6_get mw_X6_get rfl ml_7_61 ⟨Nat.le_of_ble_eq_true rfl, Nat.le_of_ble_eq_true rfl⟩ (Nat.le_of_ble_eq_true rfl) dX7_canBeAsked_125 (fun r16 s15 => ?_)
              refine g_iastore E (hN 23 (by decide)) (by decide) rfl dX7_canBeAsked_128 (fun s17 => ?_)
              refine g_aload_n E dX7_canBeAsked_129 0 rfl ?_
              refine gg_7_24 E (hN 7 (by decide)) dX7_canBeAsked_130 ?_
              refine g_aload_n E dX7_canBeAsked_133 0 rfl ?_
              refine gg_7_33 E (hN 7 (by decide)) dX7_canBeAsked_134 ?_
              refine g_aload_n E dX7_canBeAsked_137 0 rfl ?_
              refine gg_7_37 E (hN 7 (by decide)) dX7_canBeAsked_138 ?_
              refine g_iload_n E dX7_canBeAsked_141 2 rfl ?_
              refine g_iconst E (v := 4) dX7_canBeAsked_142 (by decide) ?_
              refine g_cVi E [.int x2, .int 4] rfl (c_X6_get hap (fun x h => hN x (ns_6_7 x h)) x2 4 s17) (hN 6 (by decide)) (by decide) rfl rfl mi_X6_get msl_X6_get mw_X6_get rfl ml_7_61 ⟨Nat.le_of_ble_eq_true rfl, Nat.le_of_ble_eq_true rfl⟩ (Nat.le_of_ble_eq_true rfl) dX7_canBeAsked_143 (fun r19 s18 => ?_)
              refine g_iastore E (hN 24 (by decide)) (by decide) rfl dX7_canBeAsked_146 (fun s20 => ?_)
              refine g_aload_n E dX7_canBeAsked_147 0 rfl ?_
              refine g_dup E dX7_canBeAsked_148 rfl ?_
              refine gg_7_33 E (hN 7 (by decide)) dX7_canBeAsked_149 ?_
              refine g_iconst E (v := 1) dX7_canBeAsked_152 (by decide) ?_
              refine g_iadd E dX7_canBeAsked_153 ?_
              refine gp_7_33 E (hN 7 (by decide)) dX7_canBeAsked_154 (fun s21 => ?_)
              refine g_sub [0, 1, 2] rfl ?_
              exact w_X7_canBeAsked_p157 E hap hN hkb7 x1 x2 s21
            · refine g_iconst E (v := 0) dX7_canBeAsked_63 (by decide) ?_
              exact g_zret E dX7_canBeAsked_64 (Or.inl rfl)
      · refine g_goto E 157 dX7_canBeAsked_31 (by decide) ?_
        refine g_sub [0, 1, 2] rfl ?_
        exact w_X7_canBeAsked_p157 E hap hN hkb7 x1 x2 s4
set_option maxHeartbeats 4000000 in
set_option maxRecDepth 20000 in
theorem c_X7_canBeAsked (hap : dr_ap ad L) (hN : ∀ x ∈ nd_7, x ∈ L) (x1 : Int32) (s : dr_S) : dr_Mi l D cI cZ ad ln L yX7_canBeAsked cX7_canBeAsked 3 (some .boolean) 2 [.ref (ad 7), .int x1] s (f_X7_canBeAsked ln x1 s) := by
  refine dr_meti (own := RX7) (by decide) rfl (Nat.le_of_ble_eq_true rfl) hap ?_
  intro p e s0 m args below meth c A E
  unfold f_X7_canBeAsked
  refine g_eqL (lv' := [(0, .ref (ad 7)), (1, .int x1)]) rfl ?_
  refine g_aload_n E dX7_canBeAsked_0 0 rfl ?_
  refine g_iconst E (v := 0) dX7_canBeAsked_1 (by decide) ?_
  refine gp_7_33 E (hN 7 (by decide)) dX7_canBeAsked_2 (fun s1 => ?_)
  refine g_iconst E (v := 0) dX7_canBeAsked_5 (by decide) ?_
  refine g_istore_n E (lv' := [(2, .int 0), (0, .ref (ad 7)), (1, .int x1)]) dX7_canBeAsked_6 (by decide) rfl ?_
  refine g_sub [1, 2, 0] rfl ?_
  exact w_X7_canBeAsked_p7 E hap hN dr_N x1 0 s1
end

theorem dJ7_fill_53178_0 : decode cJ7_fill_53178 0 = .ok (.iconst 0, 1) := by decide +kernel
theorem dJ7_fill_53178_1 : decode cJ7_fill_53178 1 = .ok (.istore_n 2, 1) := by decide +kernel
theorem dJ7_fill_53178_2 : decode cJ7_fill_53178 2 = .ok (.aload_n 0, 1) := by decide +kernel
theorem dJ7_fill_53178_3 : decode cJ7_fill_53178 3 = .ok (.arraylength, 1) := by decide +kernel
theorem dJ7_fill_53178_4 : decode cJ7_fill_53178 4 = .ok (.istore_n 3, 1) := by decide +kernel
theorem dJ7_fill_53178_5 : decode cJ7_fill_53178 5 = .ok (.iload_n 2, 1) := by decide +kernel
theorem dJ7_fill_53178_6 : decode cJ7_fill_53178 6 = .ok (.iload_n 3, 1) := by decide +kernel
theorem dJ7_fill_53178_7 : decode cJ7_fill_53178 7 = .ok (.if_icmp .ge 13, 3) := by decide +kernel
theorem dJ7_fill_53178_10 : decode cJ7_fill_53178 10 = .ok (.aload_n 0, 1) := by decide +kernel
theorem dJ7_fill_53178_11 : decode cJ7_fill_53178 11 = .ok (.iload_n 2, 1) := by decide +kernel
theorem dJ7_fill_53178_12 : decode cJ7_fill_53178 12 = .ok (.iload_n 1, 1) := by decide +kernel
theorem dJ7_fill_53178_13 : decode cJ7_fill_53178 13 = .ok (.iastore, 1) := by decide +kernel
theorem dJ7_fill_53178_14 : decode cJ7_fill_53178 14 = .ok (.iinc 2 1, 3) := by decide +kernel
theorem dJ7_fill_53178_17 : decode cJ7_fill_53178 17 = .ok (.goto (-12), 3) := by decide +kernel
theorem dJ7_fill_53178_20 : decode cJ7_fill_53178 20 = .ok (.return_, 1) := by decide +kernel
def f_J7_fill_53178_p5 (ln : Nat → Nat) : Nat → Int32 → Int32 → Int32 → dr_S → Option (Int32 × dr_S)
  | 0, _, _, _, _ => none
  | n + 1, x1, x2, x3, s => (if x3 ≤ x2 then some (0, s) else (dr_wr ln s 26 x2 x1).bind (fun s2 => dr_let (x2 + 1) (fun y3 => (f_J7_fill_53178_p5 ln n x1 y3 x3 s2))))
def f_J7_fill_53178 (ln : Nat → Nat) (x1 : Int32) (s : dr_S) : Option (Int32 × dr_S) := dr_let (Int32.ofNat (ln 26)) (fun y1 => (f_J7_fill_53178_p5 ln dr_N x1 0 y1 s))
section
variable {p : Program} {l : Launch} {e : Env} {s0 : State} {m : MethodId} {args : Array Value} {below : List Frame} {meth : Method} {c : Code} {A : Nat → Prop} {D : va_G} {cI cZ : ClassId} {ad ln : Nat → Nat} {L : List Nat}
set_option maxHeartbeats 4000000 in
set_option maxRecDepth 20000 in
theorem w_J7_fill_53178_p5 (E : dr_E p (dr_rm 0) s0 m args meth c 0 0 A s0.heap D cI cZ ad L cJ7_fill_53178 4 RJ7 none) (hap : dr_ap ad L) (hN : ∀ x ∈ nd_J7, x ∈ L) : ∀ (n : Nat) (x1 : Int32) (x2 : Int32) (x3 : Int32) (s : dr_S), dr_G p l e (dr_rm 0) s0 m args below meth c 0 0 A s0.heap D cI cZ ad ln L 4 (dr_Zv D cI cZ ad ln L A below args s0 0 0) 5 [(0, .ref (ad 26)), (1, .int x1), (2, .int x2), (3, .int x3)] [] s (f_J7_fill_53178_p5 ln n x1 x2 x3 s) := by
  intro n
  induction n with
  | zero =>
    intro x1 x2 x3 s
    rw [f_J7_fill_53178_p5]
    exact g_none
  | succ n hkb5 =>
    intro x1 x2 x3 s
    rw [f_J7_fill_53178_p5]
    refine g_iload_n E dJ7_fill_53178_5 2 rfl ?_
    refine g_iload_n E dJ7_fill_53178_6 3 rfl ?_
    refine g_icmp_ge E 20 dJ7_fill_53178_7 (by decide) ?_ ?_
    · exact g_vret E dJ7_fill_53178_20
    · refine g_aload_n E dJ7_fill_53178_10 0 rfl ?_
      refine g_iload_n E dJ7_fill_53178_11 2 rfl ?_
      refine g_iload_n E dJ7_fill_53178_12 1 rfl ?_
      refine g_iastore E (hN 26 (by decide)) (by decide) rfl dJ7_fill_53178_13 (fun s2 => ?_)
      refine g_iinc E (lv' := []) (lv'' := fun y3 => [(2, .int y3), (0, .ref (ad 26)), (1, .int x1), (3, .int x3)]) (v := 1) dJ7_fill_53178_14 2 rfl (by decide) (by decide) (fun _ => rfl) (fun y3 => ?_)
      refine g_goto E 5 dJ7_fill_53178_17 (by decide) ?_
      refine g_sub [1, 2, 0, 3] rfl ?_
      exact hkb5 x1 y3 x3 s2
set_option maxHeartbeats 4000000 in
set_option maxRecDepth 20000 in
theorem c_J7_fill_53178 (hap : dr_ap ad L) (hN : ∀ x ∈ nd_J7, x ∈ L) (x1 : Int32) (s : dr_S) : dr_Mv l D cI cZ ad ln L yJ7_fill_53178 cJ7_fill_53178 4 0 [.ref (ad 26), .int x1] s (f_J7_fill_53178 ln x1 s) := by
  refine dr_metv (own := RJ7) (by decide) rfl (Nat.le_of_ble_eq_true rfl) hap ?_
  intro p e s0 m args below meth c A E
  unfold f_J7_fill_53178
  refine g_eqL (lv' := [(0, .ref (ad 26)), (1, .int x1)]) rfl ?_
  refine g_iconst E (v := 0) dJ7_fill_53178_0 (by decide) ?_
  refine g_istore_n E (lv' := [(2, .int 0), (0, .ref (ad 26)), (1, .int x1)]) dJ7_fill_53178_1 (by decide) rfl ?_
  refine g_aload_n E dJ7_fill_53178_2 1 rfl ?_
  refine g_alen E (hN 26 (by decide)) (by decide) rfl dJ7_fill_53178_3 ?_
  refine g_let (fun y1 => ?_)
  refine g_istore_n E (lv' := [(3, .int y1), (2, .int 0), (0, .ref (ad 26)), (1, .int x1)]) dJ7_fill_53178_4 (by decide) rfl ?_
  refine g_sub [2, 3, 1, 0] rfl ?_
  exact w_J7_fill_53178_p5 E hap hN dr_N x1 0 y1 s
end

theorem dX7_nothingComesFirst_0 : decode cX7_nothingComesFirst 0 = .ok (.iconst 0, 1) := by decide +kernel
theorem dX7_nothingComesFirst_1 : decode cX7_nothingComesFirst 1 = .ok (.istore_n 3, 1) := by decide +kernel
theorem dX7_nothingComesFirst_2 : decode cX7_nothingComesFirst 2 = .ok (.iload_n 3, 1) := by decide +kernel
theorem dX7_nothingComesFirst_3 : decode cX7_nothingComesFirst 3 = .ok (.aload_n 0, 1) := by decide +kernel
theorem dX7_nothingComesFirst_4 : decode cX7_nothingComesFirst 4 = .ok (.getfield 33, 3) := by decide +kernel
theorem dX7_nothingComesFirst_7 : decode cX7_nothingComesFirst 7 = .ok (.if_icmp .ge 40, 3) := by decide +kernel
theorem dX7_nothingComesFirst_10 : decode cX7_nothingComesFirst 10 = .ok (.iload_n 3, 1) := by decide +kernel
theorem dX7_nothingComesFirst_11 : decode cX7_nothingComesFirst 11 = .ok (.bipush 9, 2) := by decide +kernel
theorem dX7_nothingComesFirst_13 : decode cX7_nothingComesFirst 13 = .ok (.if_icmp .ge 34, 3) := by decide +kernel
theorem dX7_nothingComesFirst_16 : decode cX7_nothingComesFirst 16 = .ok (.iload_n 2, 1) := by decide +kernel
theorem dX7_nothingComesFirst_17 : decode cX7_nothingComesFirst 17 = .ok (.iconst 1, 1) := by decide +kernel
theorem dX7_nothingComesFirst_18 : decode cX7_nothingComesFirst 18 = .ok (.iload_n 3, 1) := by decide +kernel
theorem dX7_nothingComesFirst_19 : decode cX7_nothingComesFirst 19 = .ok (.ishl, 1) := by decide +kernel
theorem dX7_nothingComesFirst_20 : decode cX7_nothingComesFirst 20 = .ok (.iand, 1) := by decide +kernel
theorem dX7_nothingComesFirst_21 : decode cX7_nothingComesFirst 21 = .ok (.ifCond .ne 20, 3) := by decide +kernel
theorem dX7_nothingComesFirst_24 : decode cX7_nothingComesFirst 24 = .ok (.aload_n 0, 1) := by decide +kernel
theorem dX7_nothingComesFirst_25 : decode cX7_nothingComesFirst 25 = .ok (.getfield 24, 3) := by decide +kernel
theorem dX7_nothingComesFirst_28 : decode cX7_nothingComesFirst 28 = .ok (.iload_n 3, 1) := by decide +kernel
theorem dX7_nothingComesFirst_29 : decode cX7_nothingComesFirst 29 = .ok (.iaload, 1) := by decide +kernel
theorem dX7_nothingComesFirst_30 : decode cX7_nothingComesFirst 30 = .ok (.aload_n 0, 1) := by decide +kernel
theorem dX7_nothingComesFirst_31 : decode cX7_nothingComesFirst 31 = .ok (.getfield 21, 3) := by decide +kernel
theorem dX7_nothingComesFirst_34 : decode cX7_nothingComesFirst 34 = .ok (.iload_n 1, 1) := by decide +kernel
theorem dX7_nothingComesFirst_35 : decode cX7_nothingComesFirst 35 = .ok (.iaload, 1) := by decide +kernel
theorem dX7_nothingComesFirst_36 : decode cX7_nothingComesFirst 36 = .ok (.if_icmp .gt 5, 3) := by decide +kernel
theorem dX7_nothingComesFirst_39 : decode cX7_nothingComesFirst 39 = .ok (.iconst 0, 1) := by decide +kernel
theorem dX7_nothingComesFirst_40 : decode cX7_nothingComesFirst 40 = .ok (.ireturn, 1) := by decide +kernel
theorem dX7_nothingComesFirst_41 : decode cX7_nothingComesFirst 41 = .ok (.iinc 3 1, 3) := by decide +kernel
theorem dX7_nothingComesFirst_44 : decode cX7_nothingComesFirst 44 = .ok (.goto (-42), 3) := by decide +kernel
theorem dX7_nothingComesFirst_47 : decode cX7_nothingComesFirst 47 = .ok (.iconst 1, 1) := by decide +kernel
theorem dX7_nothingComesFirst_48 : decode cX7_nothingComesFirst 48 = .ok (.ireturn, 1) := by decide +kernel
def f_X7_nothingComesFirst_p41 (ln : Nat → Nat) (kb2 : Int32 → Int32 → Int32 → dr_S → Option (Int32 × dr_S)) (x1 : Int32) (x2 : Int32) (x3 : Int32) (s : dr_S) : Option (Int32 × dr_S) := dr_let (x3 + 1) (fun y3 => (kb2 x1 x2 y3 s))
def f_X7_nothingComesFirst_p2 (ln : Nat → Nat) : Nat → Int32 → Int32 → Int32 → dr_S → Option (Int32 × dr_S)
  | 0, _, _, _, _ => none
  | n + 1, x1, x2, x3, s => (if (s.2 708) ≤ x3 then some (1, s) else (if ((9 : Int32) ≤ x3 : Prop) then some (1, s) else (if (x2 &&& (1 <<< (x3 &&& 31))) = 0 then (dr_rd ln s 24 x3).bind (fun v1 => (dr_rd ln s 23 x1).bind (fun v2 => (if v2 < v1 then (f_X7_nothingComesFirst_p41 ln (f_X7_nothingComesFirst_p2 ln n) x1 x2 x3 s) else some (0, s)))) else (f_X7_nothingComesFirst_p41 ln (f_X7_nothingComesFirst_p2 ln n) x1 x2 x3 s))))
def f_X7_nothingComesFirst (ln : Nat → Nat) (x1 : Int32) (x2 : Int32) (s : dr_S) : Option (Int32 × dr_S) := (f_X7_nothingComesFirst_p2 ln dr_N x1 x2 0 s)
section
variable {p : Program} {l : Launch} {e : Env} {s0 : State} {m : MethodId} {args : Array Value} {below : List Frame} {meth : Method} {c : Code} {A : Nat → Prop} {D : va_G} {cI cZ : ClassId} {ad ln : Nat → Nat} {L : List Nat}
set_option maxHeartbeats 4000000 in
set_option maxRecDepth 20000 in
theorem w_X7_nothingComesFirst_p41 {kb2 : Int32 → Int32 → Int32 → dr_S → Option (Int32 × dr_S)} (E : dr_E p (dr_rm 0) s0 m args meth c 0 0 A s0.heap D cI cZ ad L cX7_nothingComesFirst 4 RX7 (some .boolean)) (hap : dr_ap ad L) (hN : ∀ x ∈ nd_7, x ∈ L) (hkb2 : ∀ (x1 : Int32) (x2 : Int32) (x3 : Int32) (s : dr_S), dr_G p l e (dr_rm 0) s0 m args below meth c 0 0 A s0.heap D cI cZ ad ln L 4 (dr_Zi D cI cZ ad ln L A below args s0 0 0) 2 [(0, .ref (ad 7)), (1, .int x1), (2, .int x2), (3, .int x3)] [] s (kb2 x1 x2 x3 s)) : ∀ (x1 : Int32) (x2 : Int32) (x3 : Int32) (s : dr_S), dr_G p l e (dr_rm 0) s0 m args below meth c 0 0 A s0.heap D cI cZ ad ln L 4 (dr_Zi D cI cZ ad ln L A below args s0 0 0) 41 [(0, .ref (ad 7)), (1, .int x1), (2, .int x2), (3, .int x3)] [] s (f_X7_nothingComesFirst_p41 ln kb2 x1 x2 x3 s) := by
  intro x1 x2 x3 s
  unfold f_X7_nothingComesFirst_p41
  refine g_iinc E (lv' := []) (lv'' := fun y3 => [(3, .int y3), (0, .ref (ad 7)), (1, .int x1), (2, .int x2)]) (v := 1) dX7_nothingComesFirst_41 3 rfl (by decide) (by decide) (fun _ => rfl) (fun y3 => ?_)
  refine g_goto E 2 dX7_nothingComesFirst_44 (by decide) ?_
  refine g_sub [1, 2, 3, 0] rfl ?_
  exact hkb2 x1 x2 y3 s
set_option maxHeartbeats 4000000 in
set_option maxRecDepth 20000 in
theorem w_X7_nothingComesFirst_p2 (E : dr_E p (dr_rm 0) s0 m args meth c 0 0 A s0.heap D cI cZ ad L cX7_nothingComesFirst 4 RX7 (some .boolean)) (hap : dr_ap ad L) (hN : ∀ x ∈ nd_7, x ∈ L) : ∀ (n : Nat) (x1 : Int32) (x2 : Int32) (x3 : Int32) (s : dr_S), dr_G p l e (dr_rm 0) s0 m args below meth c 0 0 A s0.heap D cI cZ ad ln L 4 (dr_Zi D cI cZ ad ln L A below args s0 0 0) 2 [(0, .ref (ad 7)), (1, .int x1), (2, .int x2), (3, .int x3)] [] s (f_X7_nothingComesFirst_p2 ln n x1 x2 x3 s) := by
  intro n
  induction n with
  | zero =>
    intro x1 x2 x3 s
    rw [f_X7_nothingComesFirst_p2]
    exact g_none
  | succ n hkb2 =>
    intro x1 x2 x3 s
    rw [f_X7_nothingComesFirst_p2]
    refine g_iload_n E dX7_nothingComesFirst_2 3 rfl ?_
    refine g_aload_n E dX7_nothingComesFirst_3 0 rfl ?_
    refine gg_7_33 E (hN 7 (by decide)) dX7_nothingComesFirst_4 ?_
    refine g_icmp_ge E 47 dX7_nothingComesFirst_7 (by decide) ?_ ?_
    · refine g_iconst E (v := 1) dX7_nothingComesFirst_47 (by decide) ?_
      exact g_zret E dX7_nothingComesFirst_48 (Or.inr rfl)
    · refine g_iload_n E dX7_nothingComesFirst_10 3 rfl ?_
      refine g_bipush E (v := 9) dX7_nothingComesFirst_11 (by decide) ?_
      refine g_icmp_ge E 47 dX7_nothingComesFirst_13 (by decide) ?_ ?_
      · refine g_iconst E (v := 1) dX7_nothingComesFirst_47 (by decide) ?_
        exact g_zret E dX7_nothingComesFirst_48 (Or.inr rfl)
      · refine g_iload_n E dX7_nothingComesFirst_16 2 rfl ?_
        refine g_iconst E (v := 1) dX7_nothingComesFirst_17 (by decide) ?_
        refine g_iload_n E dX7_nothingComesFirst_18 3 rfl ?_
        refine g_ishl E dX7_nothingComesFirst_19 ?_
        refine g_iand E dX7_nothingComesFirst_20 ?_
        refine g_if_ne E 41 dX7_nothingComesFirst_21 (by decide) ?_ ?_
        · refine g_sub [0, 1, 2, 3] rfl ?_
          exact w_X7_nothingComesFirst_p41 E hap hN hkb2 x1 x2 x3 s
        · refine g_aload_n E dX7_nothingComesFirst_24 0 rfl ?_
          refine gg_7_24 E (hN 7 (by decide)) dX7_nothingComesFirst_25 ?_
          refine g_iload_n E dX7_nothingComesFirst_28 3 rfl ?_
          refine g_iaload E (hN 24 (by decide)) (by decide) rfl dX7_nothingComesFirst_29 (fun v1 => ?_)
          refine g_aload_n E dX7_nothingComesFirst_30 0 rfl ?_
          refine gg_7_21 E (hN 7 (by decide)) dX7_nothingComesFirst_31 ?_
          refine g_iload_n E dX7_nothingComesFirst_34 1 rfl ?_
          refine g_iaload E (hN 23 (by decide)) (by decide) rfl dX7_nothingComesFirst_35 (fun v2 => ?_)
          refine g_icmp_gt E 41 dX7_nothingComesFirst_36 (by decide) ?_ ?_
          · refine g_sub [0, 1, 2, 3] rfl ?_
            exact w_X7_nothingComesFirst_p41 E hap hN hkb2 x1 x2 x3 s
          · refine g_iconst E (v := 0) dX7_nothingComesFirst_39 (by decide) ?_
            exact g_zret E dX7_nothingComesFirst_40 (Or.inl rfl)
set_option maxHeartbeats 4000000 in
set_option maxRecDepth 20000 in
theorem c_X7_nothingComesFirst (hap : dr_ap ad L) (hN : ∀ x ∈ nd_7, x ∈ L) (x1 : Int32) (x2 : Int32) (s : dr_S) : dr_Mi l D cI cZ ad ln L yX7_nothingComesFirst cX7_nothingComesFirst 4 (some .boolean) 0 [.ref (ad 7), .int x1, .int x2] s (f_X7_nothingComesFirst ln x1 x2 s) := by
  refine dr_meti (own := RX7) (by decide) rfl (Nat.le_of_ble_eq_true rfl) hap ?_
  intro p e s0 m args below meth c A E
  unfold f_X7_nothingComesFirst
  refine g_eqL (lv' := [(0, .ref (ad 7)), (1, .int x1), (2, .int x2)]) rfl ?_
  refine g_iconst E (v := 0) dX7_nothingComesFirst_0 (by decide) ?_
  refine g_istore_n E (lv' := [(3, .int 0), (0, .ref (ad 7)), (1, .int x1), (2, .int x2)]) dX7_nothingComesFirst_1 (by decide) rfl ?_
  refine g_sub [1, 2, 3, 0] rfl ?_
  exact w_X7_nothingComesFirst_p2 E hap hN dr_N x1 x2 0 s
end

theorem dX7_isRight_0 : decode cX7_isRight 0 = .ok (.aload_n 0, 1) := by decide +kernel
theorem dX7_isRight_1 : decode cX7_isRight 1 = .ok (.getfield 18, 3) := by decide +kernel
theorem dX7_isRight_4 : decode cX7_isRight 4 = .ok (.iload_n 1, 1) := by decide +kernel
theorem dX7_isRight_5 : decode cX7_isRight 5 = .ok (.iaload, 1) := by decide +kernel
theorem dX7_isRight_6 : decode cX7_isRight 6 = .ok (.iconst 1, 1) := by decide +kernel
theorem dX7_isRight_7 : decode cX7_isRight 7 = .ok (.if_icmp .ne 7, 3) := by decide +kernel
theorem dX7_isRight_10 : decode cX7_isRight 10 = .ok (.iconst 1, 1) := by decide +kernel
theorem dX7_isRight_11 : decode cX7_isRight 11 = .ok (.goto 4, 3) := by decide +kernel
theorem dX7_isRight_14 : decode cX7_isRight 14 = .ok (.iconst 0, 1) := by decide +kernel
theorem dX7_isRight_15 : decode cX7_isRight 15 = .ok (.istore_n 3, 1) := by decide +kernel
theorem dX7_isRight_16 : decode cX7_isRight 16 = .ok (.iload_n 3, 1) := by decide +kernel
theorem dX7_isRight_17 : decode cX7_isRight 17 = .ok (.iload_n 2, 1) := by decide +kernel
theorem dX7_isRight_18 : decode cX7_isRight 18 = .ok (.aload_n 0, 1) := by decide +kernel
theorem dX7_isRight_19 : decode cX7_isRight 19 = .ok (.getfield 15, 3) := by decide +kernel
theorem dX7_isRight_22 : decode cX7_isRight 22 = .ok (.iload_n 1, 1) := by decide +kernel
theorem dX7_isRight_23 : decode cX7_isRight 23 = .ok (.iaload, 1) := by decide +kernel
theorem dX7_isRight_24 : decode cX7_isRight 24 = .ok (.iconst 1, 1) := by decide +kernel
theorem dX7_isRight_25 : decode cX7_isRight 25 = .ok (.if_icmp .ne 7, 3) := by decide +kernel
theorem dX7_isRight_28 : decode cX7_isRight 28 = .ok (.iconst 1, 1) := by decide +kernel
theorem dX7_isRight_29 : decode cX7_isRight 29 = .ok (.goto 4, 3) := by decide +kernel
theorem dX7_isRight_32 : decode cX7_isRight 32 = .ok (.iconst 0, 1) := by decide +kernel
theorem dX7_isRight_33 : decode cX7_isRight 33 = .ok (.if_icmp .eq 7, 3) := by decide +kernel
theorem dX7_isRight_36 : decode cX7_isRight 36 = .ok (.iconst 1, 1) := by decide +kernel
theorem dX7_isRight_37 : decode cX7_isRight 37 = .ok (.goto 4, 3) := by decide +kernel
theorem dX7_isRight_40 : decode cX7_isRight 40 = .ok (.iconst 0, 1) := by decide +kernel
theorem dX7_isRight_41 : decode cX7_isRight 41 = .ok (.if_icmp .ne 7, 3) := by decide +kernel
theorem dX7_isRight_44 : decode cX7_isRight 44 = .ok (.iconst 1, 1) := by decide +kernel
theorem dX7_isRight_45 : decode cX7_isRight 45 = .ok (.goto 4, 3) := by decide +kernel
theorem dX7_isRight_48 : decode cX7_isRight 48 = .ok (.iconst 0, 1) := by decide +kernel
theorem dX7_isRight_49 : decode cX7_isRight 49 = .ok (.ireturn, 1) := by decide +kernel
def f_X7_isRight_p41 (ln : Nat → Nat) (z0 : Int32) (z1 : Int32) (s : dr_S) : Option (Int32 × dr_S) := (if z1 = z0 then some (1, s) else some (0, s))
def f_X7_isRight_p33 (ln : Nat → Nat) (z0 : Int32) (z1 : Int32) (z2 : Int32) (s : dr_S) : Option (Int32 × dr_S) := (if z1 = z0 then (f_X7_isRight_p41 ln 0 z2 s) else (f_X7_isRight_p41 ln 1 z2 s))
def f_X7_isRight_p15 (ln : Nat → Nat) (x1 : Int32) (x2 : Int32) (z0 : Int32) (s : dr_S) : Option (Int32 × dr_S) := (dr_rd ln s 21 x1).bind (fun v2 => (if v2 = 1 then (f_X7_isRight_p33 ln 1 x2 z0 s) else (f_X7_isRight_p33 ln 0 x2 z0 s)))
def f_X7_isRight (ln : Nat → Nat) (x1 : Int32) (x2 : Int32) (s : dr_S) : Option (Int32 × dr_S) := (dr_rd ln s 22 x1).bind (fun v1 => (if v1 = 1 then (f_X7_isRight_p15 ln x1 x2 1 s) else (f_X7_isRight_p15 ln x1 x2 0 s)))
section
variable {p : Program} {l : Launch} {e : Env} {s0 : State} {m : MethodId} {args : Array Value} {below : List Frame} {meth : Method} {c : Code} {A : Nat → Prop} {D : va_G} {cI cZ : ClassId} {ad ln : Nat → Nat} {L : List Nat}
set_option maxHeartbeats 4000000 in
set_option maxRecDepth 20000 in
theorem w_X7_isRight_p41 (E : dr_E p (dr_rm 0) s0 m args meth c 0 0 A s0.heap D cI cZ ad L cX7_isRight 4 RX7 (some .boolean)) (hap : dr_ap ad L) (hN : ∀ x ∈ nd_7, x ∈ L) : ∀ (z0 : Int32) (z1 : Int32) (s : dr_S), dr_G p l e (dr_rm 0) s0 m args below meth c 0 0 A s0.heap D cI cZ ad ln L 4 (dr_Zi D cI cZ ad ln L A below args s0 0 0) 41 [] [.int z0, .int z1] s (f_X7_isRight_p41 ln z0 z1 s) := by
  intro z0 z1 s
  unfold f_X7_isRight_p41
  refine g_icmp_ne E 48 dX7_isRight_41 (by decide) ?_ ?_
  · refine g_iconst E (v := 0) dX7_isRight_48 (by decide) ?_
    exact g_zret E dX7_isRight_49 (Or.inl rfl)
  · refine g_iconst E (v := 1) dX7_isRight_44 (by decide) ?_
    refine g_goto E 49 dX7_isRight_45 (by decide) ?_
    exact g_zret E dX7_isRight_49 (Or.inr rfl)
set_option maxHeartbeats 4000000 in
set_option maxRecDepth 20000 in
theorem w_X7_isRight_p33 (E : dr_E p (dr_rm 0) s0 m args meth c 0 0 A s0.heap D cI cZ ad L cX7_isRight 4 RX7 (some .boolean)) (hap : dr_ap ad L) (hN : ∀ x ∈ nd_7, x ∈ L) : ∀ (z0 : Int32) (z1 : Int32) (z2 : Int32) (s : dr_S), dr_G p l e (dr_rm 0) s0 m args below meth c 0 0 A s0.heap D cI cZ ad ln L 4 (dr_Zi D cI cZ ad ln L A below args s0 0 0) 33 [] [.int z0, .int z1, .int z2] s (f_X7_isRight_p33 ln z0 z1 z2 s) := by
  intro z0 z1 z2 s
  unfold f_X7_isRight_p33
  refine g_icmp_eq E 40 dX7_isRight_33 (by decide) ?_ ?_
  · refine g_iconst E (v := 0) dX7_isRight_40 (by decide) ?_
    refine g_sub [] rfl ?_
    exact w_X7_isRight_p41 E hap hN 0 z2 s
  · refine g_iconst E (v := 1) dX7_isRight_36 (by decide) ?_
    refine g_goto E 41 dX7_isRight_37 (by decide) ?_
    refine g_sub [] rfl ?_
    exact w_X7_isRight_p41 E hap hN 1 z2 s
set_option maxHeartbeats 4000000 in
set_option maxRecDepth 20000 in
theorem w_X7_isRight_p15 (E : dr_E p (dr_rm 0) s0 m args meth c 0 0 A s0.heap D cI cZ ad L cX7_isRight 4 RX7 (some .boolean)) (hap : dr_ap ad L) (hN : ∀ x ∈ nd_7, x ∈ L) : ∀ (x1 : Int32) (x2 : Int32) (z0 : Int32) (s : dr_S), dr_G p l e (dr_rm 0) s0 m args below meth c 0 0 A s0.heap D cI cZ ad ln L 4 (dr_Zi D cI cZ ad ln L A below args s0 0 0) 15 [(0, .ref (ad 7)), (1, .int x1), (2, .int x2)] [.int z0] s (f_X7_isRight_p15 ln x1 x2 z0 s) := by
  intro x1 x2 z0 s
  unfold f_X7_isRight_p15
  refine g_istore_n E (lv' := [(3, .int z0), (0, .ref (ad 7)), (1, .int x1), (2, .int x2)]) dX7_isRight_15 (by decide) rfl ?_
  refine g_iload_n E dX7_isRight_16 0 rfl ?_
  refine g_iload_n E dX7_isRight_17 3 rfl ?_
  refine g_aload_n E dX7_isRight_18 1 rfl ?_
  refine gg_7_15 E (hN 7 (by decide)) dX7_isRight_19 ?_
  refine g_iload_n E dX7_isRight_22 2 rfl ?_
  refine g_iaload E (hN 21 (by decide)) (by decide) rfl dX7_isRight_23 (fun v2 => ?_)
  refine g_iconst E (v := 1) dX7_isRight_24 (by decide) ?_
  refine g_icmp_ne E 32 dX7_isRight_25 (by decide) ?_ ?_
  · refine g_iconst E (v := 0) dX7_isRight_32 (by decide) ?_
    refine g_sub [] rfl ?_
    exact w_X7_isRight_p33 E hap hN 0 x2 z0 s
  · refine g_iconst E (v := 1) dX7_isRight_28 (by decide) ?_
    refine g_goto E 33 dX7_isRight_29 (by decide) ?_
    refine g_sub [] rfl ?_
    exact w_X7_isRight_p33 E hap hN 1 x2 z0 s
set_option maxHeartbeats 4000000 in
set_option maxRecDepth 20000 in
theorem c_X7_isRight (hap : dr_ap ad L) (hN : ∀ x ∈ nd_7, x ∈ L) (x1 : Int32) (x2 : Int32) (s : dr_S) : dr_Mi l D cI cZ ad ln L yX7_isRight cX7_isRight 4 (some .boolean) 0 [.ref (ad 7), .int x1, .int x2] s (f_X7_isRight ln x1 x2 s) := by
  refine dr_meti (own := RX7) (by decide) rfl (Nat.le_of_ble_eq_true rfl) hap ?_
  intro p e s0 m args below meth c A E
  unfold f_X7_isRight
  refine g_eqL (lv' := [(0, .ref (ad 7)), (1, .int x1), (2, .int x2)]) rfl ?_
  refine g_aload_n E dX7_isRight_0 0 rfl ?_
  refine gg_7_18 E (hN 7 (by decide)) dX7_isRight_1 ?_
  refine g_iload_n E dX7_isRight_4 1 rfl ?_
  refine g_iaload E (hN 22 (by decide)) (by decide) rfl dX7_isRight_5 (fun v1 => ?_)
  refine g_iconst E (v := 1) dX7_isRight_6 (by decide) ?_
  refine g_icmp_ne E 14 dX7_isRight_7 (by decide) ?_ ?_
  · refine g_iconst E (v := 0) dX7_isRight_14 (by decide) ?_
    refine g_sub [0, 1, 2] rfl ?_
    exact w_X7_isRight_p15 E hap hN x1 x2 0 s
  · refine g_iconst E (v := 1) dX7_isRight_10 (by decide) ?_
    refine g_goto E 15 dX7_isRight_11 (by decide) ?_
    refine g_sub [0, 1, 2] rfl ?_
    exact w_X7_isRight_p15 E hap hN x1 x2 1 s
end

theorem dX7_goesOn_0 : decode cX7_goesOn 0 = .ok (.iload_n 1, 1) := by decide +kernel
theorem dX7_goesOn_1 : decode cX7_goesOn 1 = .ok (.aload_n 0, 1) := by decide +kernel
theorem dX7_goesOn_2 : decode cX7_goesOn 2 = .ok (.getfield 33, 3) := by decide +kernel
theorem dX7_goesOn_5 : decode cX7_goesOn 5 = .ok (.if_icmp .ge 9, 3) := by decide +kernel
theorem dX7_goesOn_8 : decode cX7_goesOn 8 = .ok (.iload_n 1, 1) := by decide +kernel
theorem dX7_goesOn_9 : decode cX7_goesOn 9 = .ok (.bipush 9, 2) := by decide +kernel
theorem dX7_goesOn_11 : decode cX7_goesOn 11 = .ok (.if_icmp .lt 5, 3) := by decide +kernel
theorem dX7_goesOn_14 : decode cX7_goesOn 14 = .ok (.iconst 1, 1) := by decide +kernel
theorem dX7_goesOn_15 : decode cX7_goesOn 15 = .ok (.ireturn, 1) := by decide +kernel
theorem dX7_goesOn_16 : decode cX7_goesOn 16 = .ok (.iload_n 1, 1) := by decide +kernel
theorem dX7_goesOn_17 : decode cX7_goesOn 17 = .ok (.ifCond .lt 32, 3) := by decide +kernel
theorem dX7_goesOn_20 : decode cX7_goesOn 20 = .ok (.iload_n 2, 1) := by decide +kernel
theorem dX7_goesOn_21 : decode cX7_goesOn 21 = .ok (.ifCond .lt 28, 3) := by decide +kernel
theorem dX7_goesOn_24 : decode cX7_goesOn 24 = .ok (.iload_n 2, 1) := by decide +kernel
theorem dX7_goesOn_25 : decode cX7_goesOn 25 = .ok (.sipush 512, 3) := by decide +kernel
theorem dX7_goesOn_28 : decode cX7_goesOn 28 = .ok (.if_icmp .ge 21, 3) := by decide +kernel
theorem dX7_goesOn_31 : decode cX7_goesOn 31 = .ok (.aload_n 0, 1) := by decide +kernel
theorem dX7_goesOn_32 : decode cX7_goesOn 32 = .ok (.getfield 30, 3) := by decide +kernel
theorem dX7_goesOn_35 : decode cX7_goesOn 35 = .ok (.iload_n 2, 1) := by decide +kernel
theorem dX7_goesOn_36 : decode cX7_goesOn 36 = .ok (.iconst 5, 1) := by decide +kernel
theorem dX7_goesOn_37 : decode cX7_goesOn 37 = .ok (.ishr, 1) := by decide +kernel
theorem dX7_goesOn_38 : decode cX7_goesOn 38 = .ok (.iaload, 1) := by decide +kernel
theorem dX7_goesOn_39 : decode cX7_goesOn 39 = .ok (.iconst 1, 1) := by decide +kernel
theorem dX7_goesOn_40 : decode cX7_goesOn 40 = .ok (.iload_n 2, 1) := by decide +kernel
theorem dX7_goesOn_41 : decode cX7_goesOn 41 = .ok (.bipush 31, 2) := by decide +kernel
theorem dX7_goesOn_43 : decode cX7_goesOn 43 = .ok (.iand, 1) := by decide +kernel
theorem dX7_goesOn_44 : decode cX7_goesOn 44 = .ok (.ishl, 1) := by decide +kernel
theorem dX7_goesOn_45 : decode cX7_goesOn 45 = .ok (.iand, 1) := by decide +kernel
theorem dX7_goesOn_46 : decode cX7_goesOn 46 = .ok (.ifCond .eq 5, 3) := by decide +kernel
theorem dX7_goesOn_49 : decode cX7_goesOn 49 = .ok (.iconst 0, 1) := by decide +kernel
theorem dX7_goesOn_50 : decode cX7_goesOn 50 = .ok (.ireturn, 1) := by decide +kernel
theorem dX7_goesOn_51 : decode cX7_goesOn 51 = .ok (.iconst 0, 1) := by decide +kernel
theorem dX7_goesOn_52 : decode cX7_goesOn 52 = .ok (.istore 4, 2) := by decide +kernel
theorem dX7_goesOn_54 : decode cX7_goesOn 54 = .ok (.iload 4, 2) := by decide +kernel
theorem dX7_goesOn_56 : decode cX7_goesOn 56 = .ok (.aload_n 0, 1) := by decide +kernel
theorem dX7_goesOn_57 : decode cX7_goesOn 57 = .ok (.getfield 33, 3) := by decide +kernel
theorem dX7_goesOn_60 : decode cX7_goesOn 60 = .ok (.if_icmp .ge 127, 3) := by decide +kernel
theorem dX7_goesOn_63 : decode cX7_goesOn 63 = .ok (.iload 4, 2) := by decide +kernel
theorem dX7_goesOn_65 : decode cX7_goesOn 65 = .ok (.bipush 9, 2) := by decide +kernel
theorem dX7_goesOn_67 : decode cX7_goesOn 67 = .ok (.if_icmp .ge 120, 3) := by decide +kernel
theorem dX7_goesOn_70 : decode cX7_goesOn 70 = .ok (.iload_n 2, 1) := by decide +kernel
theorem dX7_goesOn_71 : decode cX7_goesOn 71 = .ok (.iconst 1, 1) := by decide +kernel
theorem dX7_goesOn_72 : decode cX7_goesOn 72 = .ok (.iload 4, 2) := by decide +kernel
theorem dX7_goesOn_74 : decode cX7_goesOn 74 = .ok (.ishl, 1) := by decide +kernel
theorem dX7_goesOn_75 : decode cX7_goesOn 75 = .ok (.iand, 1) := by decide +kernel
theorem dX7_goesOn_76 : decode cX7_goesOn 76 = .ok (.ifCond .ne 7, 3) := by decide +kernel
theorem dX7_goesOn_79 : decode cX7_goesOn 79 = .ok (.iconst 1, 1) := by decide +kernel
theorem dX7_goesOn_80 : decode cX7_goesOn 80 = .ok (.goto 4, 3) := by decide +kernel
theorem dX7_goesOn_83 : decode cX7_goesOn 83 = .ok (.iconst 0, 1) := by decide +kernel
theorem dX7_goesOn_84 : decode cX7_goesOn 84 = .ok (.istore 5, 2) := by decide +kernel
theorem dX7_goesOn_86 : decode cX7_goesOn 86 = .ok (.iload 5, 2) := by decide +kernel
theorem dX7_goesOn_88 : decode cX7_goesOn 88 = .ok (.ifCond .eq 93, 3) := by decide +kernel
theorem dX7_goesOn_91 : decode cX7_goesOn 91 = .ok (.aload_n 0, 1) := by decide +kernel
theorem dX7_goesOn_92 : decode cX7_goesOn 92 = .ok (.iload 4, 2) := by decide +kernel
theorem dX7_goesOn_94 : decode cX7_goesOn 94 = .ok (.iload_n 2, 1) := by decide +kernel
theorem dX7_goesOn_95 : decode cX7_goesOn 95 = .ok (.invokevirtual 65, 3) := by decide +kernel
theorem dX7_goesOn_98 : decode cX7_goesOn 98 = .ok (.ifCond .eq 83, 3) := by decide +kernel
theorem dX7_goesOn_101 : decode cX7_goesOn 101 = .ok (.aload_n 0, 1) := by decide +kernel
theorem dX7_goesOn_102 : decode cX7_goesOn 102 = .ok (.iload 4, 2) := by decide +kernel
theorem dX7_goesOn_104 : decode cX7_goesOn 104 = .ok (.iload_n 3, 1) := by decide +kernel
theorem dX7_goesOn_105 : decode cX7_goesOn 105 = .ok (.invokevirtual 69, 3) := by decide +kernel
theorem dX7_goesOn_108 : decode cX7_goesOn 108 = .ok (.ifCond .eq 73, 3) := by decide +kernel
theorem dX7_goesOn_111 : decode cX7_goesOn 111 = .ok (.aload_n 0, 1) := by decide +kernel
theorem dX7_goesOn_112 : decode cX7_goesOn 112 = .ok (.getfield 27, 3) := by decide +kernel
theorem dX7_goesOn_115 : decode cX7_goesOn 115 = .ok (.iload_n 1, 1) := by decide +kernel
theorem dX7_goesOn_116 : decode cX7_goesOn 116 = .ok (.aload_n 0, 1) := by decide +kernel
theorem dX7_goesOn_117 : decode cX7_goesOn 117 = .ok (.getfield 11, 3) := by decide +kernel
theorem dX7_goesOn_120 : decode cX7_goesOn 120 = .ok (.iload 4, 2) := by decide +kernel
theorem dX7_goesOn_122 : decode cX7_goesOn 122 = .ok (.iaload, 1) := by decide +kernel
theorem dX7_goesOn_123 : decode cX7_goesOn 123 = .ok (.iastore, 1) := by decide +kernel
theorem dX7_goesOn_124 : decode cX7_goesOn 124 = .ok (.aload_n 0, 1) := by decide +kernel
theorem dX7_goesOn_125 : decode cX7_goesOn 125 = .ok (.getfield 18, 3) := by decide +kernel
theorem dX7_goesOn_128 : decode cX7_goesOn 128 = .ok (.iload 4, 2) := by decide +kernel
theorem dX7_goesOn_130 : decode cX7_goesOn 130 = .ok (.iaload, 1) := by decide +kernel
theorem dX7_goesOn_131 : decode cX7_goesOn 131 = .ok (.iconst 1, 1) := by decide +kernel
theorem dX7_goesOn_132 : decode cX7_goesOn 132 = .ok (.if_icmp .ne 17, 3) := by decide +kernel
theorem dX7_goesOn_135 : decode cX7_goesOn 135 = .ok (.aload_n 0, 1) := by decide +kernel
theorem dX7_goesOn_136 : decode cX7_goesOn 136 = .ok (.getfield 15, 3) := by decide +kernel
theorem dX7_goesOn_139 : decode cX7_goesOn 139 = .ok (.iload 4, 2) := by decide +kernel
theorem dX7_goesOn_141 : decode cX7_goesOn 141 = .ok (.iaload, 1) := by decide +kernel
theorem dX7_goesOn_142 : decode cX7_goesOn 142 = .ok (.ifCond .eq 7, 3) := by decide +kernel
theorem dX7_goesOn_145 : decode cX7_goesOn 145 = .ok (.iconst 1, 1) := by decide +kernel
theorem dX7_goesOn_146 : decode cX7_goesOn 146 = .ok (.goto 4, 3) := by decide +kernel
theorem dX7_goesOn_149 : decode cX7_goesOn 149 = .ok (.iconst 0, 1) := by decide +kernel
theorem dX7_goesOn_150 : decode cX7_goesOn 150 = .ok (.istore 6, 2) := by decide +kernel
theorem dX7_goesOn_152 : decode cX7_goesOn 152 = .ok (.aload_n 0, 1) := by decide +kernel
theorem dX7_goesOn_153 : decode cX7_goesOn 153 = .ok (.iload_n 1, 1) := by decide +kernel
theorem dX7_goesOn_154 : decode cX7_goesOn 154 = .ok (.iconst 1, 1) := by decide +kernel
theorem dX7_goesOn_155 : decode cX7_goesOn 155 = .ok (.iadd, 1) := by decide +kernel
theorem dX7_goesOn_156 : decode cX7_goesOn 156 = .ok (.iload_n 2, 1) := by decide +kernel
theorem dX7_goesOn_157 : decode cX7_goesOn 157 = .ok (.iconst 1, 1) := by decide +kernel
theorem dX7_goesOn_158 : decode cX7_goesOn 158 = .ok (.iload 4, 2) := by decide +kernel
theorem dX7_goesOn_160 : decode cX7_goesOn 160 = .ok (.ishl, 1) := by decide +kernel
theorem dX7_goesOn_161 : decode cX7_goesOn 161 = .ok (.ior, 1) := by decide +kernel
theorem dX7_goesOn_162 : decode cX7_goesOn 162 = .ok (.iload 6, 2) := by decide +kernel
theorem dX7_goesOn_164 : decode cX7_goesOn 164 = .ok (.iload_n 3, 1) := by decide +kernel
theorem dX7_goesOn_165 : decode cX7_goesOn 165 = .ok (.if_icmp .eq 7, 3) := by decide +kernel
theorem dX7_goesOn_168 : decode cX7_goesOn 168 = .ok (.iconst 1, 1) := by decide +kernel
theorem dX7_goesOn_169 : decode cX7_goesOn 169 = .ok (.goto 4, 3) := by decide +kernel
theorem dX7_goesOn_172 : decode cX7_goesOn 172 = .ok (.iconst 0, 1) := by decide +kernel
theorem dX7_goesOn_173 : decode cX7_goesOn 173 = .ok (.invokevirtual 51, 3) := by decide +kernel
theorem dX7_goesOn_176 : decode cX7_goesOn 176 = .ok (.ifCond .eq 5, 3) := by decide +kernel
theorem dX7_goesOn_179 : decode cX7_goesOn 179 = .ok (.iconst 1, 1) := by decide +kernel
theorem dX7_goesOn_180 : decode cX7_goesOn 180 = .ok (.ireturn, 1) := by decide +kernel
theorem dX7_goesOn_181 : decode cX7_goesOn 181 = .ok (.iinc 4 1, 3) := by decide +kernel
theorem dX7_goesOn_184 : decode cX7_goesOn 184 = .ok (.goto (-130), 3) := by decide +kernel
theorem dX7_goesOn_187 : decode cX7_goesOn 187 = .ok (.aload_n 0, 1) := by decide +kernel
theorem dX7_goesOn_188 : decode cX7_goesOn 188 = .ok (.getfield 30, 3) := by decide +kernel
theorem dX7_goesOn_191 : decode cX7_goesOn 191 = .ok (.iload_n 2, 1) := by decide +kernel
theorem dX7_goesOn_192 : decode cX7_goesOn 192 = .ok (.iconst 5, 1) := by decide +kernel
theorem dX7_goesOn_193 : decode cX7_goesOn 193 = .ok (.ishr, 1) := by decide +kernel
theorem dX7_goesOn_194 : decode cX7_goesOn 194 = .ok (.dup2, 1) := by decide +kernel
theorem dX7_goesOn_195 : decode cX7_goesOn 195 = .ok (.iaload, 1) := by decide +kernel
theorem dX7_goesOn_196 : decode cX7_goesOn 196 = .ok (.iconst 1, 1) := by decide +kernel
theorem dX7_goesOn_197 : decode cX7_goesOn 197 = .ok (.iload_n 2, 1) := by decide +kernel
theorem dX7_goesOn_198 : decode cX7_goesOn 198 = .ok (.bipush 31, 2) := by decide +kernel
theorem dX7_goesOn_200 : decode cX7_goesOn 200 = .ok (.iand, 1) := by decide +kernel
theorem dX7_goesOn_201 : decode cX7_goesOn 201 = .ok (.ishl, 1) := by decide +kernel
theorem dX7_goesOn_202 : decode cX7_goesOn 202 = .ok (.ior, 1) := by decide +kernel
theorem dX7_goesOn_203 : decode cX7_goesOn 203 = .ok (.iastore, 1) := by decide +kernel
theorem dX7_goesOn_204 : decode cX7_goesOn 204 = .ok (.iconst 0, 1) := by decide +kernel
theorem dX7_goesOn_205 : decode cX7_goesOn 205 = .ok (.ireturn, 1) := by decide +kernel
def f_X7_goesOn_p187 (ln : Nat → Nat) (rc : Int32 → Int32 → Int32 → dr_S → Option (Int32 × dr_S)) (x2 : Int32) (s : dr_S) : Option (Int32 × dr_S) := (dr_rd ln s 26 (x2 >>> (5 &&& 31))).bind (fun v13 => (dr_wr ln s 26 (x2 >>> (5 &&& 31)) (v13 ||| (1 <<< ((x2 &&& 31) &&& 31)))).bind (fun s14 => some (0, s14)))
def f_X7_goesOn_p181 (ln : Nat → Nat) (rc : Int32 → Int32 → Int32 → dr_S → Option (Int32 × dr_S)) (kb54 : Int32 → Int32 → Int32 → Int32 → dr_S → Option (Int32 × dr_S)) (x1 : Int32) (x2 : Int32) (x3 : Int32) (x4 : Int32) (s : dr_S) : Option (Int32 × dr_S) := dr_let (x4 + 1) (fun y12 => (kb54 x1 x2 x3 y12 s))
def f_X7_goesOn_p173 (ln : Nat → Nat) (rc : Int32 → Int32 → Int32 → dr_S → Option (Int32 × dr_S)) (kb54 : Int32 → Int32 → Int32 → Int32 → dr_S → Option (Int32 × dr_S)) (x1 : Int32) (x2 : Int32) (x3 : Int32) (x4 : Int32) (z0 : Int32) (z1 : Int32) (z2 : Int32) (s : dr_S) : Option (Int32 × dr_S) := dr_bnd (rc z2 z1 z0 s) (fun r11 s10 => (if r11 = 0 then (f_X7_goesOn_p181 ln rc kb54 x1 x2 x3 x4 s10) else some (1, s10)))
def f_X7_goesOn_p150 (ln : Nat → Nat) (rc : Int32 → Int32 → Int32 → dr_S → Option (Int32 × dr_S)) (kb54 : Int32 → Int32 → Int32 → Int32 → dr_S → Option (Int32 × dr_S)) (x1 : Int32) (x2 : Int32) (x3 : Int32) (x4 : Int32) (z0 : Int32) (s : dr_S) : Option (Int32 × dr_S) := (if z0 = x3 then (f_X7_goesOn_p173 ln rc kb54 x1 x2 x3 x4 0 ((x2 ||| (1 <<< (x4 &&& 31)))) ((x1 + 1)) s) else (f_X7_goesOn_p173 ln rc kb54 x1 x2 x3 x4 1 ((x2 ||| (1 <<< (x4 &&& 31)))) ((x1 + 1)) s))
def f_X7_goesOn_p149 (ln : Nat → Nat) (rc : Int32 → Int32 → Int32 → dr_S → Option (Int32 × dr_S)) (kb54 : Int32 → Int32 → Int32 → Int32 → dr_S → Option (Int32 × dr_S)) (x1 : Int32) (x2 : Int32) (x3 : Int32) (x4 : Int32) (s : dr_S) : Option (Int32 × dr_S) := (f_X7_goesOn_p150 ln rc kb54 x1 x2 x3 x4 0 s)
def f_X7_goesOn_p84 (ln : Nat → Nat) (rc : Int32 → Int32 → Int32 → dr_S → Option (Int32 × dr_S)) (kb54 : Int32 → Int32 → Int32 → Int32 → dr_S → Option (Int32 × dr_S)) (x1 : Int32) (x2 : Int32) (x3 : Int32) (x4 : Int32) (z0 : Int32) (s : dr_S) : Option (Int32 × dr_S) := (if z0 = 0 then (f_X7_goesOn_p181 ln rc kb54 x1 x2 x3 x4 s) else dr_bnd (f_X7_nothingComesFirst ln x4 x2 s) (fun r3 s2 => (if r3 = 0 then (f_X7_goesOn_p181 ln rc kb54 x1 x2 x3 x4 s2) else dr_bnd (f_X7_isRight ln x4 x3 s2) (fun r5 s4 => (if r5 = 0 then (f_X7_goesOn_p181 ln rc kb54 x1 x2 x3 x4 s4) else (dr_rd ln s4 20 x4).bind (fun v6 => (dr_wr ln s4 25 x1 v6).bind (fun s7 => (dr_rd ln s7 22 x4).bind (fun v8 => (if v8 = 1 then (dr_rd ln s7 21 x4).bind (fun v9 => (if v9 = 0 then (f_X7_goesOn_p149 ln rc kb54 x1 x2 x3 x4 s7) else (f_X7_goesOn_p150 ln rc kb54 x1 x2 x3 x4 1 s7))) else (f_X7_goesOn_p149 ln rc kb54 x1 x2 x3 x4 s7))))))))))
def f_X7_goesOn_p54 (ln : Nat → Nat) (rc : Int32 → Int32 → Int32 → dr_S → Option (Int32 × dr_S)) : Nat → Int32 → Int32 → Int32 → Int32 → dr_S → Option (Int32 × dr_S)
  | 0, _, _, _, _, _ => none
  | n + 1, x1, x2, x3, x4, s => (if (s.2 708) ≤ x4 then (f_X7_goesOn_p187 ln rc x2 s) else (if ((9 : Int32) ≤ x4 : Prop) then (f_X7_goesOn_p187 ln rc x2 s) else (if (x2 &&& (1 <<< (x4 &&& 31))) = 0 then (f_X7_goesOn_p84 ln rc (f_X7_goesOn_p54 ln rc n) x1 x2 x3 x4 1 s) else (f_X7_goesOn_p84 ln rc (f_X7_goesOn_p54 ln rc n) x1 x2 x3 x4 0 s))))
def f_X7_goesOn_b (ln : Nat → Nat) (rc : Int32 → Int32 → Int32 → dr_S → Option (Int32 × dr_S)) (x1 : Int32) (x2 : Int32) (x3 : Int32) (s : dr_S) : Option (Int32 × dr_S) := (if (s.2 708) ≤ x1 then some (1, s) else (if x1 < 9 then (if x1 < 0 then some (0, s) else (if x2 < 0 then some (0, s) else (if ((512 : Int32) ≤ x2 : Prop) then some (0, s) else (dr_rd ln s 26 (x2 >>> (5 &&& 31))).bind (fun v1 => (if (v1 &&& (1 <<< ((x2 &&& 31) &&& 31))) = 0 then (f_X7_goesOn_p54 ln rc dr_N x1 x2 x3 0 s) else some (0, s)))))) else some (1, s)))
def f_X7_goesOn (ln : Nat → Nat) : Nat → Int32 → Int32 → Int32 → dr_S → Option (Int32 × dr_S)
  | 0, _, _, _, _ => none
  | k + 1, x1, x2, x3, s => f_X7_goesOn_b ln (f_X7_goesOn ln k) x1 x2 x3 s
section
variable {p : Program} {l : Launch} {e : Env} {s0 : State} {m : MethodId} {args : Array Value} {below : List Frame} {meth : Method} {c : Code} {A : Nat → Prop} {D : va_G} {cI cZ : ClassId} {ad ln : Nat → Nat} {L : List Nat}
set_option maxHeartbeats 4000000 in
set_option maxRecDepth 20000 in
theorem w_X7_goesOn_p187 {k : Nat} {rc : Int32 → Int32 → Int32 → dr_S → Option (Int32 × dr_S)} (E : dr_E p (dr_rm (1 + k + 1)) s0 m args meth c 0 0 A s0.heap D cI cZ ad L cX7_goesOn 7 RX7 (some .boolean)) (hap : dr_ap ad L) (hN : ∀ x ∈ nd_7, x ∈ L) (hrec : ∀ (x1 : Int32) (x2 : Int32) (x3 : Int32)  (s : dr_S), dr_Mi l D cI cZ ad ln L yX7_goesOn cX7_goesOn 7 (some .boolean) (1 + k) [.ref (ad 7), .int x1, .int x2, .int x3] s (rc x1 x2 x3 s)) : ∀ (x2 : Int32) (s : dr_S), dr_G p l e (dr_rm (1 + k + 1)) s0 m args below meth c 0 0 A s0.heap D cI cZ ad ln L 7 (dr_Zi D cI cZ ad ln L A below args s0 0 0) 187 [(0, .ref (ad 7)), (2, .int x2)] [] s (f_X7_goesOn_p187 ln rc x2 s) := by
  intro x2 s
  unfold f_X7_goesOn_p187
  refine g_aload_n E dX7_goesOn_187 0 rfl ?_
  refine gg_7_30 E (hN 7 (by decide)) dX7_goesOn_188 ?_
  refine g_iload_n E dX7_goesOn_191 1 rfl ?_
  refine g_iconst E (v := 5) dX7_goesOn_192 (by decide) ?_
  refine g_ishr E dX7_goesOn_193 ?_
  refine g_dup2 E dX7_goesOn_194 rfl rfl ?_
  refine g_iaload E (hN 26 (by decide)) (by decide) rfl dX7_goesOn_195 (fun v13 => ?_)
  refine g_iconst E (v := 1) dX7_goesOn_196 (by decide) ?_
  refine g_iload_n E dX7_goesOn_197 1 rfl ?_
  refine g_bipush E (v := 31) dX7_goesOn_198 (by decide) ?_
  refine g_iand E dX7_goesOn_200 ?_
  refine g_ishl E dX7_goesOn_201 ?_
  refine g_ior E dX7_goesOn_202 ?_
  refine g_iastore E (hN 26 (by decide)) (by decide) rfl dX7_goesOn_203 (fun s14 => ?_)
  refine g_iconst E (v := 0) dX7_goesOn_204 (by decide) ?_
  exact g_zret E dX7_goesOn_205 (Or.inl rfl)
set_option maxHeartbeats 4000000 in
set_option maxRecDepth 20000 in
theorem w_X7_goesOn_p181 {k : Nat} {rc : Int32 → Int32 → Int32 → dr_S → Option (Int32 × dr_S)} {kb54 : Int32 → Int32 → Int32 → Int32 → dr_S → Option (Int32 × dr_S)} (E : dr_E p (dr_rm (1 + k + 1)) s0 m args meth c 0 0 A s0.heap D cI cZ ad L cX7_goesOn 7 RX7 (some .boolean)) (hap : dr_ap ad L) (hN : ∀ x ∈ nd_7, x ∈ L) (hrec : ∀ (x1 : Int32) (x2 : Int32) (x3 : Int32)  (s : dr_S), dr_Mi l D cI cZ ad ln L yX7_goesOn cX7_goesOn 7 (some .boolean) (1 + k) [.ref (ad 7), .int x1, .int x2, .int x3] s (rc x1 x2 x3 s)) (hkb54 : ∀ (x1 : Int32) (x2 : Int32) (x3 : Int32) (x4 : Int32) (s : dr_S), dr_G p l e (dr_rm (1 + k + 1)) s0 m args below meth c 0 0 A s0.heap D cI cZ ad ln L 7 (dr_Zi D cI cZ ad ln L A below args s0 0 0) 54 [(0, .ref (ad 7)), (1, .int x1), (2, .int x2), (3, .int x3), (4, .int x4)] [] s (kb54 x1 x2 x3 x4 s)) : ∀ (x1 : Int32) (x2 : Int32) (x3 : Int32) (x4 : Int32) (s : dr_S), dr_G p l e (dr_rm (1 + k + 1)) s0 m args below meth c 0 0 A s0.heap D cI cZ ad ln L 7 (dr_Zi D cI cZ ad ln L A below args s0 0 0) 181 [(0, .ref (ad 7)), (1, .int x1), (2, .int x2), (3, .int x3), (4, .int x4)] [] s (f_X7_goesOn_p181 ln rc kb54 x1 x2 x3 x4 s) := by
  intro x1 x2 x3 x4 s
  unfold f_X7_goesOn_p181
  refine g_iinc E (lv' := []) (lv'' := fun y12 => [(4, .int y12), (0, .ref (ad 7)), (1, .int x1), (2, .int x2), (3, .int x3)]) (v := 1) dX7_goesOn_181 4 rfl (by decide) (by decide) (fun _ => rfl) (fun y12 => ?_)
  refine g_goto E 54 dX7_goesOn_184 (by decide) ?_
  refine g_sub [1, 2, 3, 4, 0] rfl ?_
  exact hkb54 x1 x2 x3 y12 s
set_option maxHeartbeats 4000000 in
set_option maxRecDepth 20000 in
theorem w_X7_goesOn_p173 {k : Nat} {rc : Int32 → Int32 → Int32 → dr_S → Option (Int32 × dr_S)} {kb54 : Int32 → Int32 → Int32 → Int32 → dr_S → Option (Int32 × dr_S)} (E : dr_E p (dr_rm (1 + k + 1)) s0 m args meth c 0 0 A s0.heap D cI cZ ad L cX7_goesOn 7 RX7 (some .boolean)) (hap : dr_ap ad L) (hN : ∀ x ∈ nd_7, x ∈ L) (hrec : ∀ (x1 : Int32) (x2 : Int32) (x3 : Int32)  (s : dr_S), dr_Mi l D cI cZ ad ln L yX7_goesOn cX7_goesOn 7 (some .boolean) (1 + k) [.ref (ad 7), .int x1, .int x2, .int x3] s (rc x1 x2 x3 s)) (hkb54 : ∀ (x1 : Int32) (x2 : Int32) (x3 : Int32) (x4 : Int32) (s : dr_S), dr_G p l e (dr_rm (1 + k + 1)) s0 m args below meth c 0 0 A s0.heap D cI cZ ad ln L 7 (dr_Zi D cI cZ ad ln L A below args s0 0 0) 54 [(0, .ref (ad 7)), (1, .int x1), (2, .int x2), (3, .int x3), (4, .int x4)] [] s (kb54 x1 x2 x3 x4 s)) : ∀ (x1 : Int32) (x2 : Int32) (x3 : Int32) (x4 : Int32) (z0 : Int32) (z1 : Int32) (z2 : Int32) (s : dr_S), dr_G p l e (dr_rm (1 + k + 1)) s0 m args below meth c 0 0 A s0.heap D cI cZ ad ln L 7 (dr_Zi D cI cZ ad ln L A below args s0 0 0) 173 [(0, .ref (ad 7)), (1, .int x1), (2, .int x2), (3, .int x3), (4, .int x4)] [.int z0, .int z1, .int z2, .ref (ad 7)] s (f_X7_goesOn_p173 ln rc kb54 x1 x2 x3 x4 z0 z1 z2 s) := by
  intro x1 x2 x3 x4 z0 z1 z2 s
  unfold f_X7_goesOn_p173
  refine g_cVi E [.int z2, .int z1, .int z0] rfl (hrec z2 z1 z0 s) (hN 7 (by decide)) (by decide) rfl rfl mi_X7_goesOn msl_X7_goesOn mw_X7_goesOn rfl ml_7_51 ⟨by simp only [dr_rm]; omega, by simp only [dr_rm]; omega⟩ (Nat.le_of_ble_eq_true rfl) dX7_goesOn_173 (fun r11 s10 => ?_)
  refine g_if_eq E 181 dX7_goesOn_176 (by decide) ?_ ?_
  · refine g_sub [0, 1, 2, 3, 4] rfl ?_
    exact w_X7_goesOn_p181 E hap hN hrec hkb54 x1 x2 x3 x4 s10
  · refine g_iconst E (v := 1) dX7_goesOn_179 (by decide) ?_
    exact g_zret E dX7_goesOn_180 (Or.inr rfl)
set_option maxHeartbeats 4000000 in
set_option maxRecDepth 20000 in
theorem w_X7_goesOn_p150 {k : Nat} {rc : Int32 → Int32 → Int32 → dr_S → Option (Int32 × dr_S)} {kb54 : Int32 → Int32 → Int32 → Int32 → dr_S → Option (Int32 × dr_S)} (E : dr_E p (dr_rm (1 + k + 1)) s0 m args meth c 0 0 A s0.heap D cI cZ ad L cX7_goesOn 7 RX7 (some .boolean)) (hap : dr_ap ad L) (hN : ∀ x ∈ nd_7, x ∈ L) (hrec : ∀ (x1 : Int32) (x2 : Int32) (x3 : Int32)  (s : dr_S), dr_Mi l D cI cZ ad ln L yX7_goesOn cX7_goesOn 7 (some .boolean) (1 + k) [.ref (ad 7), .int x1, .int x2, .int x3] s (rc x1 x2 x3 s)) (hkb54 : ∀ (x1 : Int32) (x2 : Int32) (x3 : Int32) (x4 : Int32) (s : dr_S), dr_G p l e (dr_rm (1 + k + 1)) s0 m args below meth c 0 0 A s0.heap D cI cZ ad ln L 7 (dr_Zi D cI cZ ad ln L A below args s0 0 0) 54 [(0, .ref (ad 7)), (1, .int x1), (2, .int x2), (3, .int x3), (4, .int x4)] [] s (kb54 x1 x2 x3 x4 s)) : ∀ (x1 : Int32) (x2 : Int32) (x3 : Int32) (x4 : Int32) (z0 : Int32) (s : dr_S), dr_G p l e (dr_rm (1 + k + 1)) s0 m args below meth c 0 0 A s0.heap D cI cZ ad ln L 7 (dr_Zi D cI cZ ad ln L A below args s0 0 0) 150 [(0, .ref (ad 7)), (1, .int x1), (2, .int x2), (3, .int x3), (4, .int x4)] [.int z0] s (f_X7_goesOn_p150 ln rc kb54 x1 x2 x3 x4 z0 s) := by
  intro x1 x2 x3 x4 z0 s
  unfold f_X7_goesOn_p150
  refine g_istore E (lv' := [(6, .int z0), (0, .ref (ad 7)), (1, .int x1), (2, .int x2), (3, .int x3), (4, .int x4)]) dX7_goesOn_150 (by decide) rfl ?_
  refine g_aload_n E dX7_goesOn_152 1 rfl ?_
  refine g_iload_n E dX7_goesOn_153 2 rfl ?_
  refine g_iconst E (v := 1) dX7_goesOn_154 (by decide) ?_
  refine g_iadd E dX7_goesOn_155 ?_
  refine g_iload_n E dX7_goesOn_156 3 rfl ?_
  refine g_iconst E (v := 1) dX7_goesOn_157 (by decide) ?_
  refine g_iload E dX7_goesOn_158 5 rfl ?_
  refine g_ishl E dX7_goesOn_160 ?_
  refine g_ior E dX7_goesOn_161 ?_
  refine g_iload E dX7_goesOn_162 0 rfl ?_
  refine g_iload_n E dX7_goesOn_164 4 rfl ?_
  refine g_icmp_eq E 172 dX7_goesOn_165 (by decide) ?_ ?_
  · refine g_iconst E (v := 0) dX7_goesOn_172 (by decide) ?_
    refine g_sub [1, 2, 3, 4, 5] rfl ?_
    exact w_X7_goesOn_p173 E hap hN hrec hkb54 x1 x2 x3 x4 0 ((x2 ||| (1 <<< (x4 &&& 31)))) ((x1 + 1)) s
  · refine g_iconst E (v := 1) dX7_goesOn_168 (by decide) ?_
    refine g_goto E 173 dX7_goesOn_169 (by decide) ?_
    refine g_sub [1, 2, 3, 4, 5] rfl ?_
    exact w_X7_goesOn_p173 E hap hN hrec hkb54 x1 x2 x3 x4 1 ((x2 ||| (1 <<< (x4 &&& 31)))) ((x1 + 1)) s
set_option maxHeartbeats 4000000 in
set_option maxRecDepth 20000 in
theorem w_X7_goesOn_p149 {k : Nat} {rc : Int32 → Int32 → Int32 → dr_S → Option (Int32 × dr_S)} {kb54 : Int32 → Int32 → Int32 → Int32 → dr_S → Option (Int32 × dr_S)} (E : dr_E p (dr_rm (1 + k + 1)) s0 m args meth c 0 0 A s0.heap D cI cZ ad L cX7_goesOn 7 RX7 (some .boolean)) (hap : dr_ap ad L) (hN : ∀ x ∈ nd_7, x ∈ L) (hrec : ∀ (x1 : Int32) (x2 : Int32) (x3 : Int32)  (s : dr_S), dr_Mi l D cI cZ ad ln L yX7_goesOn cX7_goesOn 7 (some .boolean) (1 + k) [.ref (ad 7), .int x1, .int x2, .int x3] s (rc x1 x2 x3 s)) (hkb54 : ∀ (x1 : Int32) (x2 : Int32) (x3 : Int32) (x4 : Int32) (s : dr_S), dr_G p l e (dr_rm (1 + k + 1)) s0 m args below meth c 0 0 A s0.heap D cI cZ ad ln L 7 (dr_Zi D cI cZ ad ln L A below args s0 0 0) 54 [(0, .ref (ad 7)), (1, .int x1), (2, .int x2), (3, .int x3), (4, .int x4)] [] s (kb54 x1 x2 x3 x4 s)) : ∀ (x1 : Int32) (x2 : Int32) (x3 : Int32) (x4 : Int32) (s : dr_S), dr_G p l e (dr_rm (1 + k + 1)) s0 m args below meth c 0 0 A s0.heap D cI cZ ad ln L 7 (dr_Zi D cI cZ ad ln L A below args s0 0 0) 149 [(0, .ref (ad 7)), (1, .int x1), (2, .int x2), (3, .int x3), (4, .int x4)] [] s (f_X7_goesOn_p149 ln rc kb54 x1 x2 x3 x4 s) := by
  intro x1 x2 x3 x4 s
  unfold f_X7_goesOn_p149
  refine g_iconst E (v := 0) dX7_goesOn_149 (by decide) ?_
  refine g_sub [0, 1, 2, 3, 4] rfl ?_
  exact w_X7_goesOn_p150 E hap hN hrec hkb54 x1 x2 x3 x4 0 s
set_option maxHeartbeats 4000000 in
set_option maxRecDepth 20000 in
theorem w_X7_goesOn_p84 {k : Nat} {rc : Int32 → Int32 → Int32 → dr_S → Option (Int32 × dr_S)} {kb54 : Int32 → Int32 → Int32 → Int32 → dr_S → Option (Int32 × dr_S)} (E : dr_E p (dr_rm (1 + k + 1)) s0 m args meth c 0 0 A s0.heap D cI cZ ad L cX7_goesOn 7 RX7 (some .boolean)) (hap : dr_ap ad L) (hN : ∀ x ∈ nd_7, x ∈ L) (hrec : ∀ (x1 : Int32) (x2 : Int32) (x3 : Int32)  (s : dr_S), dr_Mi l D cI cZ ad ln L yX7_goesOn cX7_goesOn 7 (some .boolean) (1 + k) [.ref (ad 7), .int x1, .int x2, .int x3] s (rc x1 x2 x3 s)) (hkb54 : ∀ (x1 : Int32) (x2 : Int32) (x3 : Int32) (x4 : Int32) (s : dr_S), dr_G p l e (dr_rm (1 + k + 1)) s0 m args below meth c 0 0 A s0.heap D cI cZ ad ln L 7 (dr_Zi D cI cZ ad ln L A below args s0 0 0) 54 [(0, .ref (ad 7)), (1, .int x1), (2, .int x2), (3, .int x3), (4, .int x4)] [] s (kb54 x1 x2 x3 x4 s)) : ∀ (x1 : Int32) (x2 : Int32) (x3 : Int32) (x4 : Int32) (z0 : Int32) (s : dr_S), dr_G p l e (dr_rm (1 + k + 1)) s0 m args below meth c 0 0 A s0.heap D cI cZ ad ln L 7 (dr_Zi D cI cZ ad ln L A below args s0 0 0) 84 [(0, .ref (ad 7)), (1, .int x1), (2, .int x2), (3, .int x3), (4, .int x4)] [.int z0] s (f_X7_goesOn_p84 ln rc kb54 x1 x2 x3 x4 z0 s) := by
  intro x1 x2 x3 x4 z0 s
  unfold f_X7_goesOn_p84
  refine g_istore E (lv' := [(5, .int z0), (0, .ref (ad 7)), (1, .int x1), (2, .int x2), (3, .int x3), (4, .int x4)]) dX7_goesOn_84 (by decide) rfl ?_
  refine g_iload E dX7_goesOn_86 0 rfl ?_
  refine g_if_eq E 181 dX7_goesOn_88 (by decide) ?_ ?_
  · refine g_sub [1, 2, 3, 4, 5] rfl ?_
    exact w_X7_goesOn_p181 E hap hN hrec hkb54 x1 x2 x3 x4 s
  · refine g_aload_n E dX7_goesOn_91 1 rfl ?_
    refine g_iload E dX7_goesOn_92 5 rfl ?_
    refine g_iload_n E dX7_goesOn_94 3 rfl ?_
    refine g_cVi E [.int x4, .int x2] rfl (c_X7_nothingComesFirst hap hN x4 x2 s) (hN 7 (by decide)) (by decide) rfl rfl mi_X7_nothingComesFirst msl_X7_nothingComesFirst mw_X7_nothingComesFirst rfl ml_7_65 ⟨by simp only [dr_rm]; omega, by simp only [dr_rm]; omega⟩ (Nat.le_of_ble_eq_true rfl) dX7_goesOn_95 (fun r3 s2 => ?_)
    refine g_if_eq E 181 dX7_goesOn_98 (by decide) ?_ ?_
    · refine g_sub [1, 2, 3, 4, 5] rfl ?_
      exact w_X7_goesOn_p181 E hap hN hrec hkb54 x1 x2 x3 x4 s2
    · refine g_aload_n E dX7_goesOn_101 1 rfl ?_
      refine g_iload E dX7_goesOn_102 5 rfl ?_
      refine g_iload_n E dX7_goesOn_104 4 rfl ?_
      refine g_cVi E [.int x4, .int x3] rfl (c_X7_isRight hap hN x4 x3 s2) (hN 7 (by decide)) (by decide) rfl rfl mi_X7_isRight msl_X7_isRight mw_X7_isRight rfl ml_7_69 ⟨by simp only [dr_rm]; omega, by simp only [dr_rm]; omega⟩ (Nat.le_of_ble_eq_true rfl) dX7_goesOn_105 (fun r5 s4 => ?_)
      refine g_if_eq E 181 dX7_goesOn_108 (by decide) ?_ ?_
      · refine g_sub [1, 2, 3, 4, 5] rfl ?_
        exact w_X7_goesOn_p181 E hap hN hrec hkb54 x1 x2 x3 x4 s4
      · refine g_aload_n E dX7_goesOn_111 1 rfl ?_
        refine gg_7_27 E (hN 7 (by decide)) dX7_goesOn_112 ?_
        refine g_iload_n E dX7_goesOn_115 2 rfl ?_
        refine g_aload_n E dX7_goesOn_116 1 rfl ?_
        refine gg_7_11 E (hN 7 (by decide)) dX7_goesOn_117 ?_
        refine g_iload E dX7_goesOn_120 5 rfl ?_
        refine g_iaload E (hN 20 (by decide)) (by decide) rfl dX7_goesOn_122 (fun v6 => ?_)
        refine g_iastore E (hN 25 (by decide)) (by decide) rfl dX7_goesOn_123 (fun s7 => ?_)
        refine g_aload_n E dX7_goesOn_124 1 rfl ?_
        refine gg_7_18 E (hN 7 (by decide)) dX7_goesOn_125 ?_
        refine g_iload E dX7_goesOn_128 5 rfl ?_
        refine g_iaload E (hN 22 (by decide)) (by decide) rfl dX7_goesOn_130 (fun v8 => ?_)
        refine g_iconst E (v := 1) dX7_goesOn_131 (by decide) ?_
        refine g_icmp_ne E 149 dX7_goesOn_132 (by decide) ?_ ?_
        · refine g_sub [1, 2, 3, 4, 5] rfl ?_
          exact w_X7_goesOn_p149 E hap hN hrec hkb54 x1 x2 x3 x4 s7
        · refine g_aload_n E dX7_goesOn_135 1 rfl ?_
          refine gg_7_15 E (hN 7 (by decide)) dX7_goesOn_136 ?_
          refine g_iload E dX7_goesOn_139 5 rfl ?_
          refine g_iaload E (hN 21 (by decide)) (by decide) rfl dX7_goesOn_141 (fun v9 => ?_)
          refine g_if_eq E 149 dX7_goesOn_142 (by decide) ?_ ?_
          · refine g_sub [1, 2, 3, 4, 5] rfl ?_
            exact w_X7_goesOn_p149 E hap hN hrec hkb54 x1 x2 x3 x4 s7
          · refine g_iconst E (v := 1) dX7_goesOn_145 (by decide) ?_
            refine g_goto E 150 dX7_goesOn_146 (by decide) ?_
            refine g_sub [1, 2, 3, 4, 5] rfl ?_
            exact w_X7_goesOn_p150 E hap hN hrec hkb54 x1 x2 x3 x4 1 s7
set_option maxHeartbeats 4000000 in
set_option maxRecDepth 20000 in
theorem w_X7_goesOn_p54 {k : Nat} {rc : Int32 → Int32 → Int32 → dr_S → Option (Int32 × dr_S)} (E : dr_E p (dr_rm (1 + k + 1)) s0 m args meth c 0 0 A s0.heap D cI cZ ad L cX7_goesOn 7 RX7 (some .boolean)) (hap : dr_ap ad L) (hN : ∀ x ∈ nd_7, x ∈ L) (hrec : ∀ (x1 : Int32) (x2 : Int32) (x3 : Int32)  (s : dr_S), dr_Mi l D cI cZ ad ln L yX7_goesOn cX7_goesOn 7 (some .boolean) (1 + k) [.ref (ad 7), .int x1, .int x2, .int x3] s (rc x1 x2 x3 s)) : ∀ (n : Nat) (x1 : Int32) (x2 : Int32) (x3 : Int32) (x4 : Int32) (s : dr_S), dr_G p l e (dr_rm (1 + k + 1)) s0 m args below meth c 0 0 A s0.heap D cI cZ ad ln L 7 (dr_Zi D cI cZ ad ln L A below args s0 0 0) 54 [(0, .ref (ad 7)), (1, .int x1), (2, .int x2), (3, .int x3), (4, .int x4)] [] s (f_X7_goesOn_p54 ln rc n x1 x2 x3 x4 s) := by
  intro n
  induction n with
  | zero =>
    intro x1 x2 x3 x4 s
    rw [f_X7_goesOn_p54]
    exact g_none
  | succ n hkb54 =>
    intro x1 x2 x3 x4 s
    rw [f_X7_goesOn_p54]
    refine g_iload E dX7_goesOn_54 4 rfl ?_
    refine g_aload_n E dX7_goesOn_56 0 rfl ?_
    refine gg_7_33 E (hN 7 (by decide)) dX7_goesOn_57 ?_
    refine g_icmp_ge E 187 dX7_goesOn_60 (by decide) ?_ ?_
    · refine g_sub [0, 2] rfl ?_
      exact w_X7_goesOn_p187 E hap hN hrec x2 s
    · refine g_iload E dX7_goesOn_63 4 rfl ?_
      refine g_bipush E (v := 9) dX7_goesOn_65 (by decide) ?_
      refine g_icmp_ge E 187 dX7_goesOn_67 (by decide) ?_ ?_
      · refine g_sub [0, 2] rfl ?_
        exact w_X7_goesOn_p187 E hap hN hrec x2 s
      · refine g_iload_n E dX7_goesOn_70 2 rfl ?_
        refine g_iconst E (v := 1) dX7_goesOn_71 (by decide) ?_
        refine g_iload E dX7_goesOn_72 4 rfl ?_
        refine g_ishl E dX7_goesOn_74 ?_
        refine g_iand E dX7_goesOn_75 ?_
        refine g_if_ne E 83 dX7_goesOn_76 (by decide) ?_ ?_
        · refine g_iconst E (v := 0) dX7_goesOn_83 (by decide) ?_
          refine g_sub [0, 1, 2, 3, 4] rfl ?_
          exact w_X7_goesOn_p84 E hap hN hrec hkb54 x1 x2 x3 x4 0 s
        · refine g_iconst E (v := 1) dX7_goesOn_79 (by decide) ?_
          refine g_goto E 84 dX7_goesOn_80 (by decide) ?_
          refine g_sub [0, 1, 2, 3, 4] rfl ?_
          exact w_X7_goesOn_p84 E hap hN hrec hkb54 x1 x2 x3 x4 1 s
set_option maxHeartbeats 4000000 in
set_option maxRecDepth 20000 in
theorem c_X7_goesOn_b {k : Nat} {rc : Int32 → Int32 → Int32 → dr_S → Option (Int32 × dr_S)} (hap : dr_ap ad L) (hN : ∀ x ∈ nd_7, x ∈ L) (hrec : ∀ (x1 : Int32) (x2 : Int32) (x3 : Int32)  (s : dr_S), dr_Mi l D cI cZ ad ln L yX7_goesOn cX7_goesOn 7 (some .boolean) (1 + k) [.ref (ad 7), .int x1, .int x2, .int x3] s (rc x1 x2 x3 s)) (x1 : Int32) (x2 : Int32) (x3 : Int32) (s : dr_S) : dr_Mi l D cI cZ ad ln L yX7_goesOn cX7_goesOn 7 (some .boolean) (1 + k + 1) [.ref (ad 7), .int x1, .int x2, .int x3] s (f_X7_goesOn_b ln rc x1 x2 x3 s) := by
  refine dr_meti (own := RX7) (by decide) rfl (Nat.le_of_ble_eq_true rfl) hap ?_
  intro p e s0 m args below meth c A E
  unfold f_X7_goesOn_b
  refine g_eqL (lv' := [(0, .ref (ad 7)), (1, .int x1), (2, .int x2), (3, .int x3)]) rfl ?_
  refine g_iload_n E dX7_goesOn_0 1 rfl ?_
  refine g_aload_n E dX7_goesOn_1 0 rfl ?_
  refine gg_7_33 E (hN 7 (by decide)) dX7_goesOn_2 ?_
  refine g_icmp_ge E 14 dX7_goesOn_5 (by decide) ?_ ?_
  · refine g_iconst E (v := 1) dX7_goesOn_14 (by decide) ?_
    exact g_zret E dX7_goesOn_15 (Or.inr rfl)
  · refine g_iload_n E dX7_goesOn_8 1 rfl ?_
    refine g_bipush E (v := 9) dX7_goesOn_9 (by decide) ?_
    refine g_icmp_lt E 16 dX7_goesOn_11 (by decide) ?_ ?_
    · refine g_iload_n E dX7_goesOn_16 1 rfl ?_
      refine g_if_lt E 49 dX7_goesOn_17 (by decide) ?_ ?_
      · refine g_iconst E (v := 0) dX7_goesOn_49 (by decide) ?_
        exact g_zret E dX7_goesOn_50 (Or.inl rfl)
      · refine g_iload_n E dX7_goesOn_20 2 rfl ?_
        refine g_if_lt E 49 dX7_goesOn_21 (by decide) ?_ ?_
        · refine g_iconst E (v := 0) dX7_goesOn_49 (by decide) ?_
          exact g_zret E dX7_goesOn_50 (Or.inl rfl)
        · refine g_iload_n E dX7_goesOn_24 2 rfl ?_
          refine g_sipush E (v := 512) dX7_goesOn_25 (by decide) ?_
          refine g_icmp_ge E 49 dX7_goesOn_28 (by decide) ?_ ?_
          · refine g_iconst E (v := 0) dX7_goesOn_49 (by decide) ?_
            exact g_zret E dX7_goesOn_50 (Or.inl rfl)
          · refine g_aload_n E dX7_goesOn_31 0 rfl ?_
            refine gg_7_30 E (hN 7 (by decide)) dX7_goesOn_32 ?_
            refine g_iload_n E dX7_goesOn_35 2 rfl ?_
            refine g_iconst E (v := 5) dX7_goesOn_36 (by decide) ?_
            refine g_ishr E dX7_goesOn_37 ?_
            refine g_iaload E (hN 26 (by decide)) (by decide) rfl dX7_goesOn_38 (fun v1 => ?_)
            refine g_iconst E (v := 1) dX7_goesOn_39 (by decide) ?_
            refine g_iload_n E dX7_goesOn_40 2 rfl ?_
            refine g_bipush E (v := 31) dX7_goesOn_41 (by decide) ?_
            refine g_iand E dX7_goesOn_43 ?_
            refine g_ishl E dX7_goesOn_44 ?_
            refine g_iand E dX7_goesOn_45 ?_
            refine g_if_eq E 51 dX7_goesOn_46 (by decide) ?_ ?_
            · refine g_iconst E (v := 0) dX7_goesOn_51 (by decide) ?_
              refine g_istore E (lv' := [(4, .int 0), (0, .ref (ad 7)), (1, .int x1), (2, .int x2), (3, .int x3)]) dX7_goesOn_52 (by decide) rfl ?_
              refine g_sub [1, 2, 3, 4, 0] rfl ?_
              exact w_X7_goesOn_p54 E hap hN hrec dr_N x1 x2 x3 0 s
            · refine g_iconst E (v := 0) dX7_goesOn_49 (by decide) ?_
              exact g_zret E dX7_goesOn_50 (Or.inl rfl)
    · refine g_iconst E (v := 1) dX7_goesOn_14 (by decide) ?_
      exact g_zret E dX7_goesOn_15 (Or.inr rfl)
theorem c_X7_goesOn (hap : dr_ap ad L) (hN : ∀ x ∈ nd_7, x ∈ L) : ∀ (k : Nat) (x1 : Int32) (x2 : Int32) (x3 : Int32) (s : dr_S), dr_Mi l D cI cZ ad ln L yX7_goesOn cX7_goesOn 7 (some .boolean) (1 + k) [.ref (ad 7), .int x1, .int x2, .int x3] s (f_X7_goesOn ln k x1 x2 x3 s) := by
  intro k
  induction k with
  | zero =>
    intro x1 x2 x3 s r s' h
    rw [f_X7_goesOn] at h
    cases h
  | succ k ih =>
    intro x1 x2 x3 s
    rw [f_X7_goesOn]
    exact c_X7_goesOn_b hap hN ih x1 x2 x3 s
end

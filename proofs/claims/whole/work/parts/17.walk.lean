theorem dX10_letGo_0 : decode cX10_letGo 0 = .ok (.aload_n 0, 1) := by decide +kernel
theorem dX10_letGo_1 : decode cX10_letGo 1 = .ok (.getfield 15, 3) := by decide +kernel
theorem dX10_letGo_4 : decode cX10_letGo 4 = .ok (.iload_n 1, 1) := by decide +kernel
theorem dX10_letGo_5 : decode cX10_letGo 5 = .ok (.iconst 5, 1) := by decide +kernel
theorem dX10_letGo_6 : decode cX10_letGo 6 = .ok (.invokevirtual 25, 3) := by decide +kernel
theorem dX10_letGo_9 : decode cX10_letGo 9 = .ok (.iconst 2, 1) := by decide +kernel
theorem dX10_letGo_10 : decode cX10_letGo 10 = .ok (.if_icmp .eq 13, 3) := by decide +kernel
theorem dX10_letGo_13 : decode cX10_letGo 13 = .ok (.aload_n 0, 1) := by decide +kernel
theorem dX10_letGo_14 : decode cX10_letGo 14 = .ok (.getfield 9, 3) := by decide +kernel
theorem dX10_letGo_17 : decode cX10_letGo 17 = .ok (.iload_n 2, 1) := by decide +kernel
theorem dX10_letGo_18 : decode cX10_letGo 18 = .ok (.iconst 4, 1) := by decide +kernel
theorem dX10_letGo_19 : decode cX10_letGo 19 = .ok (.iconst (-1), 1) := by decide +kernel
theorem dX10_letGo_20 : decode cX10_letGo 20 = .ok (.invokevirtual 138, 3) := by decide +kernel
theorem dX10_letGo_23 : decode cX10_letGo 23 = .ok (.return_, 1) := by decide +kernel
def f_X10_letGo (ln : Nat → Nat) (x1 : Int32) (x2 : Int32) (s : dr_S) : Option (Int32 × dr_S) := dr_bnd (f_X3_get ln x1 5 s) (fun r2 s1 => (if r2 = 2 then some (0, s1) else dr_bndv (f_X4_set ln x2 4 ((-1)) s1) (fun s3 => some (0, s3))))
section
variable {p : Program} {l : Launch} {e : Env} {s0 : State} {m : MethodId} {args : Array Value} {below : List Frame} {meth : Method} {c : Code} {A : Nat → Prop} {D : va_G} {cI cZ : ClassId} {ad ln : Nat → Nat} {L : List Nat}
set_option maxHeartbeats 4000000 in
set_option maxRecDepth 20000 in
theorem c_X10_letGo (hap : dr_ap ad L) (hN : ∀ x ∈ nd_10, x ∈ L) (x1 : Int32) (x2 : Int32) (s : dr_S) : dr_Mv l D cI cZ ad ln L yX10_letGo cX10_letGo 3 2 [.ref (ad 10), .int x1, .int x2] s (f_X10_letGo ln x1 x2 s) := by
  refine dr_metv (own := RX10) (by decide) rfl (Nat.le_of_ble_eq_true rfl) hap ?_
  intro p e s0 m args below meth c A E
  unfold f_X10_letGo
  refine g_eqL (lv' := [(0, .ref (ad 10)), (1, .int x1), (2, .int x2)]) rfl ?_
  refine g_aload_n E dX10_letGo_0 0 rfl ?_
  refine gg_10_15 E (hN 10 (by decide)) dX10_letGo_1 ?_
  refine g_iload_n E dX10_letGo_4 1 rfl ?_
  refine g_iconst E (v := 5) dX10_letGo_5 (by decide) ?_
  refine g_cVi E [.int x1, .int 5] rfl (c_X3_get hap (fun x h => hN x (ns_3_10 x h)) x1 5 s) (hN 3 (by decide)) (by decide) rfl rfl mi_X3_get msl_X3_get mw_X3_get rfl ml_10_25 ⟨Nat.le_of_ble_eq_true rfl, Nat.le_of_ble_eq_true rfl⟩ (Nat.le_of_ble_eq_true rfl) dX10_letGo_6 (fun r2 s1 => ?_)
  refine g_iconst E (v := 2) dX10_letGo_9 (by decide) ?_
  refine g_icmp_eq E 23 dX10_letGo_10 (by decide) ?_ ?_
  · exact g_vret E dX10_letGo_23
  · refine g_aload_n E dX10_letGo_13 0 rfl ?_
    refine gg_10_9 E (hN 10 (by decide)) dX10_letGo_14 ?_
    refine g_iload_n E dX10_letGo_17 2 rfl ?_
    refine g_iconst E (v := 4) dX10_letGo_18 (by decide) ?_
    refine g_iconst E (v := (-1)) dX10_letGo_19 (by decide) ?_
    refine g_cVv E [.int x2, .int 4, .int (-1)] rfl (c_X4_set hap (fun x h => hN x (ns_4_10 x h)) x2 4 ((-1)) s1) (hN 4 (by decide)) (by decide) rfl rfl mi_X4_set msl_X4_set mw_X4_set rfl ml_10_138 ⟨Nat.le_of_ble_eq_true rfl, Nat.le_of_ble_eq_true rfl⟩ (Nat.le_of_ble_eq_true rfl) dX10_letGo_20 (fun s3 => ?_)
    exact g_vret E dX10_letGo_23
end

theorem dX10_moveTo_0 : decode cX10_moveTo 0 = .ok (.iload_n 2, 1) := by decide +kernel
theorem dX10_moveTo_1 : decode cX10_moveTo 1 = .ok (.iconst (-1), 1) := by decide +kernel
theorem dX10_moveTo_2 : decode cX10_moveTo 2 = .ok (.if_icmp .eq 12, 3) := by decide +kernel
theorem dX10_moveTo_5 : decode cX10_moveTo 5 = .ok (.aload_n 0, 1) := by decide +kernel
theorem dX10_moveTo_6 : decode cX10_moveTo 6 = .ok (.iload_n 1, 1) := by decide +kernel
theorem dX10_moveTo_7 : decode cX10_moveTo 7 = .ok (.iload_n 2, 1) := by decide +kernel
theorem dX10_moveTo_8 : decode cX10_moveTo 8 = .ok (.invokevirtual 78, 3) := by decide +kernel
theorem dX10_moveTo_11 : decode cX10_moveTo 11 = .ok (.ifCond .ne 4, 3) := by decide +kernel
theorem dX10_moveTo_14 : decode cX10_moveTo 14 = .ok (.return_, 1) := by decide +kernel
theorem dX10_moveTo_15 : decode cX10_moveTo 15 = .ok (.aload_n 0, 1) := by decide +kernel
theorem dX10_moveTo_16 : decode cX10_moveTo 16 = .ok (.iload_n 1, 1) := by decide +kernel
theorem dX10_moveTo_17 : decode cX10_moveTo 17 = .ok (.aload_n 0, 1) := by decide +kernel
theorem dX10_moveTo_18 : decode cX10_moveTo 18 = .ok (.getfield 15, 3) := by decide +kernel
theorem dX10_moveTo_21 : decode cX10_moveTo 21 = .ok (.iload_n 1, 1) := by decide +kernel
theorem dX10_moveTo_22 : decode cX10_moveTo 22 = .ok (.iconst 1, 1) := by decide +kernel
theorem dX10_moveTo_23 : decode cX10_moveTo 23 = .ok (.invokevirtual 25, 3) := by decide +kernel
theorem dX10_moveTo_26 : decode cX10_moveTo 26 = .ok (.invokevirtual 100, 3) := by decide +kernel
theorem dX10_moveTo_29 : decode cX10_moveTo 29 = .ok (.aload_n 0, 1) := by decide +kernel
theorem dX10_moveTo_30 : decode cX10_moveTo 30 = .ok (.iload_n 1, 1) := by decide +kernel
theorem dX10_moveTo_31 : decode cX10_moveTo 31 = .ok (.iload_n 2, 1) := by decide +kernel
theorem dX10_moveTo_32 : decode cX10_moveTo 32 = .ok (.invokevirtual 82, 3) := by decide +kernel
theorem dX10_moveTo_35 : decode cX10_moveTo 35 = .ok (.return_, 1) := by decide +kernel
def f_X10_moveTo (ln : Nat → Nat) (x1 : Int32) (x2 : Int32) (s : dr_S) : Option (Int32 × dr_S) := (if x2 = (-1) then some (0, s) else dr_bnd (f_X10_isFree ln x1 x2 s) (fun r2 s1 => (if r2 = 0 then some (0, s1) else dr_bnd (f_X3_get ln x1 1 s1) (fun r4 s3 => dr_bndv (f_X10_letGo ln x1 r4 s3) (fun s5 => dr_bndv (f_X10_latch ln x1 x2 s5) (fun s6 => some (0, s6)))))))
section
variable {p : Program} {l : Launch} {e : Env} {s0 : State} {m : MethodId} {args : Array Value} {below : List Frame} {meth : Method} {c : Code} {A : Nat → Prop} {D : va_G} {cI cZ : ClassId} {ad ln : Nat → Nat} {L : List Nat}
set_option maxHeartbeats 4000000 in
set_option maxRecDepth 20000 in
theorem c_X10_moveTo (hap : dr_ap ad L) (hN : ∀ x ∈ nd_10, x ∈ L) (x1 : Int32) (x2 : Int32) (s : dr_S) : dr_Mv l D cI cZ ad ln L yX10_moveTo cX10_moveTo 3 3 [.ref (ad 10), .int x1, .int x2] s (f_X10_moveTo ln x1 x2 s) := by
  refine dr_metv (own := RX10) (by decide) rfl (Nat.le_of_ble_eq_true rfl) hap ?_
  intro p e s0 m args below meth c A E
  unfold f_X10_moveTo
  refine g_eqL (lv' := [(0, .ref (ad 10)), (1, .int x1), (2, .int x2)]) rfl ?_
  refine g_iload_n E dX10_moveTo_0 2 rfl ?_
  refine g_iconst E (v := (-1)) dX10_moveTo_1 (by decide) ?_
  refine g_icmp_eq E 14 dX10_moveTo_2 (by decide) ?_ ?_
  · exact g_vret E dX10_moveTo_14
  · refine g_aload_n E dX10_moveTo_5 0 rfl ?_
    refine g_iload_n E dX10_moveTo_6 1 rfl ?_
    refine g_iload_n E dX10_moveTo_7 2 rfl ?_
    refine g_cVi E [.int x1, .int x2] rfl (c_X10_isFree hap hN x1 x2 s) (hN 10 (by decide)) (by decide) rfl rfl mi_X10_isFree msl_X10_isFree mw_X10_isFree rfl ml_10_78 ⟨Nat.le_of_ble_eq_true rfl, Nat.le_of_ble_eq_true rfl⟩ (Nat.le_of_ble_eq_true rfl) dX10_moveTo_8 (fun r2 s1 => ?_)
    refine g_if_ne E 15 dX10_moveTo_11 (by decide) ?_ ?_
    · refine g_aload_n E dX10_moveTo_15 0 rfl ?_
      refine g_iload_n E dX10_moveTo_16 1 rfl ?_
      refine g_aload_n E dX10_moveTo_17 0 rfl ?_
      refine gg_10_15 E (hN 10 (by decide)) dX10_moveTo_18 ?_
      refine g_iload_n E dX10_moveTo_21 1 rfl ?_
      refine g_iconst E (v := 1) dX10_moveTo_22 (by decide) ?_
      refine g_cVi E [.int x1, .int 1] rfl (c_X3_get hap (fun x h => hN x (ns_3_10 x h)) x1 1 s1) (hN 3 (by decide)) (by decide) rfl rfl mi_X3_get msl_X3_get mw_X3_get rfl ml_10_25 ⟨Nat.le_of_ble_eq_true rfl, Nat.le_of_ble_eq_true rfl⟩ (Nat.le_of_ble_eq_true rfl) dX10_moveTo_23 (fun r4 s3 => ?_)
      refine g_cVv E [.int x1, .int r4] rfl (c_X10_letGo hap hN x1 r4 s3) (hN 10 (by decide)) (by decide) rfl rfl mi_X10_letGo msl_X10_letGo mw_X10_letGo rfl ml_10_100 ⟨Nat.le_of_ble_eq_true rfl, Nat.le_of_ble_eq_true rfl⟩ (Nat.le_of_ble_eq_true rfl) dX10_moveTo_26 (fun s5 => ?_)
      refine g_aload_n E dX10_moveTo_29 0 rfl ?_
      refine g_iload_n E dX10_moveTo_30 1 rfl ?_
      refine g_iload_n E dX10_moveTo_31 2 rfl ?_
      refine g_cVv E [.int x1, .int x2] rfl (c_X10_latch hap hN x1 x2 s5) (hN 10 (by decide)) (by decide) rfl rfl mi_X10_latch msl_X10_latch mw_X10_latch rfl ml_10_82 ⟨Nat.le_of_ble_eq_true rfl, Nat.le_of_ble_eq_true rfl⟩ (Nat.le_of_ble_eq_true rfl) dX10_moveTo_32 (fun s6 => ?_)
      exact g_vret E dX10_moveTo_35
    · exact g_vret E dX10_moveTo_14
end

theorem dX10_hold_0 : decode cX10_hold 0 = .ok (.aload_n 0, 1) := by decide +kernel
theorem dX10_hold_1 : decode cX10_hold 1 = .ok (.getfield 15, 3) := by decide +kernel
theorem dX10_hold_4 : decode cX10_hold 4 = .ok (.iload_n 1, 1) := by decide +kernel
theorem dX10_hold_5 : decode cX10_hold 5 = .ok (.iconst 1, 1) := by decide +kernel
theorem dX10_hold_6 : decode cX10_hold 6 = .ok (.invokevirtual 25, 3) := by decide +kernel
theorem dX10_hold_9 : decode cX10_hold 9 = .ok (.istore_n 2, 1) := by decide +kernel
theorem dX10_hold_10 : decode cX10_hold 10 = .ok (.aload_n 0, 1) := by decide +kernel
theorem dX10_hold_11 : decode cX10_hold 11 = .ok (.iload_n 1, 1) := by decide +kernel
theorem dX10_hold_12 : decode cX10_hold 12 = .ok (.iload_n 2, 1) := by decide +kernel
theorem dX10_hold_13 : decode cX10_hold 13 = .ok (.aload_n 0, 1) := by decide +kernel
theorem dX10_hold_14 : decode cX10_hold 14 = .ok (.getfield 15, 3) := by decide +kernel
theorem dX10_hold_17 : decode cX10_hold 17 = .ok (.iload_n 1, 1) := by decide +kernel
theorem dX10_hold_18 : decode cX10_hold 18 = .ok (.iconst 3, 1) := by decide +kernel
theorem dX10_hold_19 : decode cX10_hold 19 = .ok (.invokevirtual 25, 3) := by decide +kernel
theorem dX10_hold_22 : decode cX10_hold 22 = .ok (.invokevirtual 50, 3) := by decide +kernel
theorem dX10_hold_25 : decode cX10_hold 25 = .ok (.ifCond .ne 26, 3) := by decide +kernel
theorem dX10_hold_28 : decode cX10_hold 28 = .ok (.aload_n 0, 1) := by decide +kernel
theorem dX10_hold_29 : decode cX10_hold 29 = .ok (.getfield 9, 3) := by decide +kernel
theorem dX10_hold_32 : decode cX10_hold 32 = .ok (.iload_n 2, 1) := by decide +kernel
theorem dX10_hold_33 : decode cX10_hold 33 = .ok (.iload_n 1, 1) := by decide +kernel
theorem dX10_hold_34 : decode cX10_hold 34 = .ok (.invokestatic 85, 3) := by decide +kernel
theorem dX10_hold_37 : decode cX10_hold 37 = .ok (.invokevirtual 88, 3) := by decide +kernel
theorem dX10_hold_40 : decode cX10_hold 40 = .ok (.aload_n 0, 1) := by decide +kernel
theorem dX10_hold_41 : decode cX10_hold 41 = .ok (.getfield 15, 3) := by decide +kernel
theorem dX10_hold_44 : decode cX10_hold 44 = .ok (.iload_n 1, 1) := by decide +kernel
theorem dX10_hold_45 : decode cX10_hold 45 = .ok (.iconst 0, 1) := by decide +kernel
theorem dX10_hold_46 : decode cX10_hold 46 = .ok (.iconst 3, 1) := by decide +kernel
theorem dX10_hold_47 : decode cX10_hold 47 = .ok (.invokevirtual 54, 3) := by decide +kernel
theorem dX10_hold_50 : decode cX10_hold 50 = .ok (.return_, 1) := by decide +kernel
theorem dX10_hold_51 : decode cX10_hold 51 = .ok (.aload_n 0, 1) := by decide +kernel
theorem dX10_hold_52 : decode cX10_hold 52 = .ok (.iload_n 1, 1) := by decide +kernel
theorem dX10_hold_53 : decode cX10_hold 53 = .ok (.aload_n 0, 1) := by decide +kernel
theorem dX10_hold_54 : decode cX10_hold 54 = .ok (.getfield 9, 3) := by decide +kernel
theorem dX10_hold_57 : decode cX10_hold 57 = .ok (.iload_n 2, 1) := by decide +kernel
theorem dX10_hold_58 : decode cX10_hold 58 = .ok (.iconst 3, 1) := by decide +kernel
theorem dX10_hold_59 : decode cX10_hold 59 = .ok (.invokevirtual 49, 3) := by decide +kernel
theorem dX10_hold_62 : decode cX10_hold 62 = .ok (.invokevirtual 91, 3) := by decide +kernel
theorem dX10_hold_65 : decode cX10_hold 65 = .ok (.return_, 1) := by decide +kernel
def f_X10_hold (ln : Nat → Nat) (x1 : Int32) (s : dr_S) : Option (Int32 × dr_S) := dr_bnd (f_X3_get ln x1 1 s) (fun r2 s1 => dr_bnd (f_X3_get ln x1 3 s1) (fun r4 s3 => dr_bnd (f_X10_mustGoOn ln x1 r2 r4 s3) (fun r6 s5 => (if r6 = 0 then dr_bnd (f_X4_copyOf ln x1 s5) (fun r11 s10 => dr_bndv (f_X4_bring ln r2 r11 s10) (fun s12 => dr_bndv (f_X3_set ln x1 0 3 s12) (fun s13 => some (0, s13)))) else dr_bnd (f_X4_get ln r2 3 s5) (fun r8 s7 => dr_bndv (f_X10_moveTo ln x1 r8 s7) (fun s9 => some (0, s9)))))))
section
variable {p : Program} {l : Launch} {e : Env} {s0 : State} {m : MethodId} {args : Array Value} {below : List Frame} {meth : Method} {c : Code} {A : Nat → Prop} {D : va_G} {cI cZ : ClassId} {ad ln : Nat → Nat} {L : List Nat}
set_option maxHeartbeats 4000000 in
set_option maxRecDepth 20000 in
theorem c_X10_hold (hap : dr_ap ad L) (hN : ∀ x ∈ nd_10, x ∈ L) (x1 : Int32) (s : dr_S) : dr_Mv l D cI cZ ad ln L yX10_hold cX10_hold 3 4 [.ref (ad 10), .int x1] s (f_X10_hold ln x1 s) := by
  refine dr_metv (own := RX10) (by decide) rfl (Nat.le_of_ble_eq_true rfl) hap ?_
  intro p e s0 m args below meth c A E
  unfold f_X10_hold
  refine g_eqL (lv' := [(0, .ref (ad 10)), (1, .int x1)]) rfl ?_
  refine g_aload_n E dX10_hold_0 0 rfl ?_
  refine gg_10_15 E (hN 10 (by decide)) dX10_hold_1 ?_
  refine g_iload_n E dX10_hold_4 1 rfl ?_
  refine g_iconst E (v := 1) dX10_hold_5 (by decide) ?_
  refine g_cVi E [.int x1, .int 1] rfl (c_X3_get hap (fun x h => hN x (ns_3_10 x h)) x1 1 s) (hN 3 (by decide)) (by decide) rfl rfl mi_X3_get msl_X3_get mw_X3_get rfl ml_10_25 ⟨Nat.le_of_ble_eq_true rfl, Nat.le_of_ble_eq_true rfl⟩ (Nat.le_of_ble_eq_true rfl) dX10_hold_6 (fun r2 s1 => ?_)
  refine g_istore_n E (lv' := [(2, .int r2), (0, .ref (ad 10)), (1, .int x1)]) dX10_hold_9 (by decide) rfl ?_
  refine g_aload_n E dX10_hold_10 1 rfl ?_
  refine g_iload_n E dX10_hold_11 2 rfl ?_
  refine g_iload_n E dX10_hold_12 0 rfl ?_
  refine g_aload_n E dX10_hold_13 1 rfl ?_
  refine gg_10_15 E (hN 10 (by decide)) dX10_hold_14 ?_
  refine g_iload_n E dX10_hold_17 2 rfl ?_
  refine g_iconst E (v := 3) dX10_hold_18 (by decide) ?_
  refine g_cVi E [.int x1, .int 3] rfl (c_X3_get hap (fun x h => hN x (ns_3_10 x h)) x1 3 s1) (hN 3 (by decide)) (by decide) rfl rfl mi_X3_get msl_X3_get mw_X3_get rfl ml_10_25 ⟨Nat.le_of_ble_eq_true rfl, Nat.le_of_ble_eq_true rfl⟩ (Nat.le_of_ble_eq_true rfl) dX10_hold_19 (fun r4 s3 => ?_)
  refine g_cVi E [.int x1, .int r2, .int r4] rfl (c_X10_mustGoOn hap hN x1 r2 r4 s3) (hN 10 (by decide)) (by decide) rfl rfl mi_X10_mustGoOn msl_X10_mustGoOn mw_X10_mustGoOn rfl ml_10_50 ⟨Nat.le_of_ble_eq_true rfl, Nat.le_of_ble_eq_true rfl⟩ (Nat.le_of_ble_eq_true rfl) dX10_hold_22 (fun r6 s5 => ?_)
  refine g_if_ne E 51 dX10_hold_25 (by decide) ?_ ?_
  · refine g_aload_n E dX10_hold_51 1 rfl ?_
    refine g_iload_n E dX10_hold_52 2 rfl ?_
    refine g_aload_n E dX10_hold_53 1 rfl ?_
    refine gg_10_9 E (hN 10 (by decide)) dX10_hold_54 ?_
    refine g_iload_n E dX10_hold_57 0 rfl ?_
    refine g_iconst E (v := 3) dX10_hold_58 (by decide) ?_
    refine g_cVi E [.int r2, .int 3] rfl (c_X4_get hap (fun x h => hN x (ns_4_10 x h)) r2 3 s5) (hN 4 (by decide)) (by decide) rfl rfl mi_X4_get msl_X4_get mw_X4_get rfl ml_10_49 ⟨Nat.le_of_ble_eq_true rfl, Nat.le_of_ble_eq_true rfl⟩ (Nat.le_of_ble_eq_true rfl) dX10_hold_59 (fun r8 s7 => ?_)
    refine g_cVv E [.int x1, .int r8] rfl (c_X10_moveTo hap hN x1 r8 s7) (hN 10 (by decide)) (by decide) rfl rfl mi_X10_moveTo msl_X10_moveTo mw_X10_moveTo rfl ml_10_91 ⟨Nat.le_of_ble_eq_true rfl, Nat.le_of_ble_eq_true rfl⟩ (Nat.le_of_ble_eq_true rfl) dX10_hold_62 (fun s9 => ?_)
    exact g_vret E dX10_hold_65
  · refine g_aload_n E dX10_hold_28 1 rfl ?_
    refine gg_10_9 E (hN 10 (by decide)) dX10_hold_29 ?_
    refine g_iload_n E dX10_hold_32 0 rfl ?_
    refine g_iload_n E dX10_hold_33 2 rfl ?_
    refine g_cSi E [.int x1] rfl (c_X4_copyOf hap (fun x h => hN x (ns_4_10 x h)) x1 s5) ms_X4_copyOf mw_X4_copyOf rfl ml_10_85 ⟨Nat.le_of_ble_eq_true rfl, Nat.le_of_ble_eq_true rfl⟩ (Nat.le_of_ble_eq_true rfl) dX10_hold_34 (fun r11 s10 => ?_)
    refine g_cVv E [.int r2, .int r11] rfl (c_X4_bring hap (fun x h => hN x (ns_4_10 x h)) r2 r11 s10) (hN 4 (by decide)) (by decide) rfl rfl mi_X4_bring msl_X4_bring mw_X4_bring rfl ml_10_88 ⟨Nat.le_of_ble_eq_true rfl, Nat.le_of_ble_eq_true rfl⟩ (Nat.le_of_ble_eq_true rfl) dX10_hold_37 (fun s12 => ?_)
    refine g_aload_n E dX10_hold_40 1 rfl ?_
    refine gg_10_15 E (hN 10 (by decide)) dX10_hold_41 ?_
    refine g_iload_n E dX10_hold_44 2 rfl ?_
    refine g_iconst E (v := 0) dX10_hold_45 (by decide) ?_
    refine g_iconst E (v := 3) dX10_hold_46 (by decide) ?_
    refine g_cVv E [.int x1, .int 0, .int 3] rfl (c_X3_set hap (fun x h => hN x (ns_3_10 x h)) x1 0 3 s12) (hN 3 (by decide)) (by decide) rfl rfl mi_X3_set msl_X3_set mw_X3_set rfl ml_10_54 ⟨Nat.le_of_ble_eq_true rfl, Nat.le_of_ble_eq_true rfl⟩ (Nat.le_of_ble_eq_true rfl) dX10_hold_47 (fun s13 => ?_)
    exact g_vret E dX10_hold_50
end

theorem dX10_writeCard_0 : decode cX10_writeCard 0 = .ok (.aload_n 0, 1) := by decide +kernel
theorem dX10_writeCard_1 : decode cX10_writeCard 1 = .ok (.getfield 15, 3) := by decide +kernel
theorem dX10_writeCard_4 : decode cX10_writeCard 4 = .ok (.iload_n 1, 1) := by decide +kernel
theorem dX10_writeCard_5 : decode cX10_writeCard 5 = .ok (.iconst 3, 1) := by decide +kernel
theorem dX10_writeCard_6 : decode cX10_writeCard 6 = .ok (.invokevirtual 25, 3) := by decide +kernel
theorem dX10_writeCard_9 : decode cX10_writeCard 9 = .ok (.istore_n 3, 1) := by decide +kernel
theorem dX10_writeCard_10 : decode cX10_writeCard 10 = .ok (.aload_n 0, 1) := by decide +kernel
theorem dX10_writeCard_11 : decode cX10_writeCard 11 = .ok (.iload_n 1, 1) := by decide +kernel
theorem dX10_writeCard_12 : decode cX10_writeCard 12 = .ok (.invokevirtual 67, 3) := by decide +kernel
theorem dX10_writeCard_15 : decode cX10_writeCard 15 = .ok (.iconst 1, 1) := by decide +kernel
theorem dX10_writeCard_16 : decode cX10_writeCard 16 = .ok (.if_icmp .ne 7, 3) := by decide +kernel
theorem dX10_writeCard_19 : decode cX10_writeCard 19 = .ok (.iconst 1, 1) := by decide +kernel
theorem dX10_writeCard_20 : decode cX10_writeCard 20 = .ok (.goto 4, 3) := by decide +kernel
theorem dX10_writeCard_23 : decode cX10_writeCard 23 = .ok (.iconst 0, 1) := by decide +kernel
theorem dX10_writeCard_24 : decode cX10_writeCard 24 = .ok (.istore 4, 2) := by decide +kernel
theorem dX10_writeCard_26 : decode cX10_writeCard 26 = .ok (.aload_n 0, 1) := by decide +kernel
theorem dX10_writeCard_27 : decode cX10_writeCard 27 = .ok (.getfield 9, 3) := by decide +kernel
theorem dX10_writeCard_30 : decode cX10_writeCard 30 = .ok (.iload_n 1, 1) := by decide +kernel
theorem dX10_writeCard_31 : decode cX10_writeCard 31 = .ok (.invokestatic 85, 3) := by decide +kernel
theorem dX10_writeCard_34 : decode cX10_writeCard 34 = .ok (.iload_n 3, 1) := by decide +kernel
theorem dX10_writeCard_35 : decode cX10_writeCard 35 = .ok (.invokevirtual 71, 3) := by decide +kernel
theorem dX10_writeCard_38 : decode cX10_writeCard 38 = .ok (.istore 5, 2) := by decide +kernel
theorem dX10_writeCard_40 : decode cX10_writeCard 40 = .ok (.iload 4, 2) := by decide +kernel
theorem dX10_writeCard_42 : decode cX10_writeCard 42 = .ok (.iload 5, 2) := by decide +kernel
theorem dX10_writeCard_44 : decode cX10_writeCard 44 = .ok (.iconst (-1), 1) := by decide +kernel
theorem dX10_writeCard_45 : decode cX10_writeCard 45 = .ok (.if_icmp .ne 7, 3) := by decide +kernel
theorem dX10_writeCard_48 : decode cX10_writeCard 48 = .ok (.iconst 1, 1) := by decide +kernel
theorem dX10_writeCard_49 : decode cX10_writeCard 49 = .ok (.goto 4, 3) := by decide +kernel
theorem dX10_writeCard_52 : decode cX10_writeCard 52 = .ok (.iconst 0, 1) := by decide +kernel
theorem dX10_writeCard_53 : decode cX10_writeCard 53 = .ok (.if_icmp .eq 5, 3) := by decide +kernel
theorem dX10_writeCard_56 : decode cX10_writeCard 56 = .ok (.iconst 0, 1) := by decide +kernel
theorem dX10_writeCard_57 : decode cX10_writeCard 57 = .ok (.ireturn, 1) := by decide +kernel
theorem dX10_writeCard_58 : decode cX10_writeCard 58 = .ok (.aload_n 0, 1) := by decide +kernel
theorem dX10_writeCard_59 : decode cX10_writeCard 59 = .ok (.getfield 9, 3) := by decide +kernel
theorem dX10_writeCard_62 : decode cX10_writeCard 62 = .ok (.iload_n 1, 1) := by decide +kernel
theorem dX10_writeCard_63 : decode cX10_writeCard 63 = .ok (.invokestatic 85, 3) := by decide +kernel
theorem dX10_writeCard_66 : decode cX10_writeCard 66 = .ok (.iload_n 2, 1) := by decide +kernel
theorem dX10_writeCard_67 : decode cX10_writeCard 67 = .ok (.invokevirtual 88, 3) := by decide +kernel
theorem dX10_writeCard_70 : decode cX10_writeCard 70 = .ok (.iload 4, 2) := by decide +kernel
theorem dX10_writeCard_72 : decode cX10_writeCard 72 = .ok (.ifCond .eq 25, 3) := by decide +kernel
theorem dX10_writeCard_75 : decode cX10_writeCard 75 = .ok (.aload_n 0, 1) := by decide +kernel
theorem dX10_writeCard_76 : decode cX10_writeCard 76 = .ok (.getfield 9, 3) := by decide +kernel
theorem dX10_writeCard_79 : decode cX10_writeCard 79 = .ok (.iload_n 2, 1) := by decide +kernel
theorem dX10_writeCard_80 : decode cX10_writeCard 80 = .ok (.aload_n 0, 1) := by decide +kernel
theorem dX10_writeCard_81 : decode cX10_writeCard 81 = .ok (.getfield 9, 3) := by decide +kernel
theorem dX10_writeCard_84 : decode cX10_writeCard 84 = .ok (.iload_n 2, 1) := by decide +kernel
theorem dX10_writeCard_85 : decode cX10_writeCard 85 = .ok (.iload_n 3, 1) := by decide +kernel
theorem dX10_writeCard_86 : decode cX10_writeCard 86 = .ok (.invokevirtual 61, 3) := by decide +kernel
theorem dX10_writeCard_89 : decode cX10_writeCard 89 = .ok (.iload_n 3, 1) := by decide +kernel
theorem dX10_writeCard_90 : decode cX10_writeCard 90 = .ok (.iconst (-1), 1) := by decide +kernel
theorem dX10_writeCard_91 : decode cX10_writeCard 91 = .ok (.invokevirtual 110, 3) := by decide +kernel
theorem dX10_writeCard_94 : decode cX10_writeCard 94 = .ok (.goto 13, 3) := by decide +kernel
theorem dX10_writeCard_97 : decode cX10_writeCard 97 = .ok (.aload_n 0, 1) := by decide +kernel
theorem dX10_writeCard_98 : decode cX10_writeCard 98 = .ok (.getfield 9, 3) := by decide +kernel
theorem dX10_writeCard_101 : decode cX10_writeCard 101 = .ok (.iload_n 2, 1) := by decide +kernel
theorem dX10_writeCard_102 : decode cX10_writeCard 102 = .ok (.iload 5, 2) := by decide +kernel
theorem dX10_writeCard_104 : decode cX10_writeCard 104 = .ok (.invokevirtual 117, 3) := by decide +kernel
theorem dX10_writeCard_107 : decode cX10_writeCard 107 = .ok (.aload_n 0, 1) := by decide +kernel
theorem dX10_writeCard_108 : decode cX10_writeCard 108 = .ok (.getfield 19, 3) := by decide +kernel
theorem dX10_writeCard_111 : decode cX10_writeCard 111 = .ok (.aload_n 0, 1) := by decide +kernel
theorem dX10_writeCard_112 : decode cX10_writeCard 112 = .ok (.getfield 15, 3) := by decide +kernel
theorem dX10_writeCard_115 : decode cX10_writeCard 115 = .ok (.iload_n 1, 1) := by decide +kernel
theorem dX10_writeCard_116 : decode cX10_writeCard 116 = .ok (.iconst 2, 1) := by decide +kernel
theorem dX10_writeCard_117 : decode cX10_writeCard 117 = .ok (.invokevirtual 25, 3) := by decide +kernel
theorem dX10_writeCard_120 : decode cX10_writeCard 120 = .ok (.invokevirtual 120, 3) := by decide +kernel
theorem dX10_writeCard_123 : decode cX10_writeCard 123 = .ok (.iconst 1, 1) := by decide +kernel
theorem dX10_writeCard_124 : decode cX10_writeCard 124 = .ok (.ireturn, 1) := by decide +kernel
def f_X10_writeCard_p107 (ln : Nat → Nat) (x1 : Int32) (s : dr_S) : Option (Int32 × dr_S) := dr_bnd (f_X3_get ln x1 2 s) (fun r17 s16 => dr_bndv (f_X6_changeCards ln r17 s16) (fun s18 => some (1, s18)))
def f_X10_writeCard_p53 (ln : Nat → Nat) (x1 : Int32) (x2 : Int32) (x3 : Int32) (x4 : Int32) (x5 : Int32) (z0 : Int32) (z1 : Int32) (s : dr_S) : Option (Int32 × dr_S) := (if z1 = z0 then dr_bnd (f_X4_copyOf ln x1 s) (fun r10 s9 => dr_bndv (f_X4_bring ln r10 x2 s9) (fun s11 => (if x4 = 0 then dr_bndv (f_X4_remove ln x2 x5 s11) (fun s12 => (f_X10_writeCard_p107 ln x1 s12)) else dr_bnd (f_X4_wayOf ln x2 x3 s11) (fun r14 s13 => dr_bndv (f_X4_insert ln x2 r14 x3 ((-1)) s13) (fun s15 => (f_X10_writeCard_p107 ln x1 s15)))))) else some (0, s))
def f_X10_writeCard_p24 (ln : Nat → Nat) (x1 : Int32) (x2 : Int32) (x3 : Int32) (z0 : Int32) (s : dr_S) : Option (Int32 × dr_S) := dr_bnd (f_X4_copyOf ln x1 s) (fun r6 s5 => dr_bnd (f_X4_placeOf ln r6 x3 s5) (fun r8 s7 => (if r8 = (-1) then (f_X10_writeCard_p53 ln x1 x2 x3 z0 r8 1 z0 s7) else (f_X10_writeCard_p53 ln x1 x2 x3 z0 r8 0 z0 s7))))
def f_X10_writeCard (ln : Nat → Nat) (x1 : Int32) (x2 : Int32) (s : dr_S) : Option (Int32 × dr_S) := dr_bnd (f_X3_get ln x1 3 s) (fun r2 s1 => dr_bnd (f_X10_kindOf ln x1 s1) (fun r4 s3 => (if r4 = 1 then (f_X10_writeCard_p24 ln x1 x2 r2 1 s3) else (f_X10_writeCard_p24 ln x1 x2 r2 0 s3))))
section
variable {p : Program} {l : Launch} {e : Env} {s0 : State} {m : MethodId} {args : Array Value} {below : List Frame} {meth : Method} {c : Code} {A : Nat → Prop} {D : va_G} {cI cZ : ClassId} {ad ln : Nat → Nat} {L : List Nat}
set_option maxHeartbeats 4000000 in
set_option maxRecDepth 20000 in
theorem w_X10_writeCard_p107 (E : dr_E p (dr_rm 3) s0 m args meth c 0 0 A s0.heap D cI cZ ad L cX10_writeCard 6 RX10 (some .boolean)) (hap : dr_ap ad L) (hN : ∀ x ∈ nd_10, x ∈ L) : ∀ (x1 : Int32) (s : dr_S), dr_G p l e (dr_rm 3) s0 m args below meth c 0 0 A s0.heap D cI cZ ad ln L 6 (dr_Zi D cI cZ ad ln L A below args s0 0 0) 107 [(0, .ref (ad 10)), (1, .int x1)] [] s (f_X10_writeCard_p107 ln x1 s) := by
  intro x1 s
  unfold f_X10_writeCard_p107
  refine g_aload_n E dX10_writeCard_107 0 rfl ?_
  refine gg_10_19 E (hN 10 (by decide)) dX10_writeCard_108 ?_
  refine g_aload_n E dX10_writeCard_111 0 rfl ?_
  refine gg_10_15 E (hN 10 (by decide)) dX10_writeCard_112 ?_
  refine g_iload_n E dX10_writeCard_115 1 rfl ?_
  refine g_iconst E (v := 2) dX10_writeCard_116 (by decide) ?_
  refine g_cVi E [.int x1, .int 2] rfl (c_X3_get hap (fun x h => hN x (ns_3_10 x h)) x1 2 s) (hN 3 (by decide)) (by decide) rfl rfl mi_X3_get msl_X3_get mw_X3_get rfl ml_10_25 ⟨Nat.le_of_ble_eq_true rfl, Nat.le_of_ble_eq_true rfl⟩ (Nat.le_of_ble_eq_true rfl) dX10_writeCard_117 (fun r17 s16 => ?_)
  refine g_cVv E [.int r17] rfl (c_X6_changeCards hap (fun x h => hN x (ns_6_10 x h)) r17 s16) (hN 6 (by decide)) (by decide) rfl rfl mi_X6_changeCards msl_X6_changeCards mw_X6_changeCards rfl ml_10_120 ⟨Nat.le_of_ble_eq_true rfl, Nat.le_of_ble_eq_true rfl⟩ (Nat.le_of_ble_eq_true rfl) dX10_writeCard_120 (fun s18 => ?_)
  refine g_iconst E (v := 1) dX10_writeCard_123 (by decide) ?_
  exact g_zret E dX10_writeCard_124 (Or.inr rfl)
set_option maxHeartbeats 4000000 in
set_option maxRecDepth 20000 in
theorem w_X10_writeCard_p53 (E : dr_E p (dr_rm 3) s0 m args meth c 0 0 A s0.heap D cI cZ ad L cX10_writeCard 6 RX10 (some .boolean)) (hap : dr_ap ad L) (hN : ∀ x ∈ nd_10, x ∈ L) : ∀ (x1 : Int32) (x2 : Int32) (x3 : Int32) (x4 : Int32) (x5 : Int32) (z0 : Int32) (z1 : Int32) (s : dr_S), dr_G p l e (dr_rm 3) s0 m args below meth c 0 0 A s0.heap D cI cZ ad ln L 6 (dr_Zi D cI cZ ad ln L A below args s0 0 0) 53 [(0, .ref (ad 10)), (1, .int x1), (2, .int x2), (3, .int x3), (4, .int x4), (5, .int x5)] [.int z0, .int z1] s (f_X10_writeCard_p53 ln x1 x2 x3 x4 x5 z0 z1 s) := by
  intro x1 x2 x3 x4 x5 z0 z1 s
  unfold f_X10_writeCard_p53
  refine g_icmp_eq E 58 dX10_writeCard_53 (by decide) ?_ ?_
  · refine g_aload_n E dX10_writeCard_58 0 rfl ?_
    refine gg_10_9 E (hN 10 (by decide)) dX10_writeCard_59 ?_
    refine g_iload_n E dX10_writeCard_62 1 rfl ?_
    refine g_cSi E [.int x1] rfl (c_X4_copyOf hap (fun x h => hN x (ns_4_10 x h)) x1 s) ms_X4_copyOf mw_X4_copyOf rfl ml_10_85 ⟨Nat.le_of_ble_eq_true rfl, Nat.le_of_ble_eq_true rfl⟩ (Nat.le_of_ble_eq_true rfl) dX10_writeCard_63 (fun r10 s9 => ?_)
    refine g_iload_n E dX10_writeCard_66 2 rfl ?_
    refine g_cVv E [.int r10, .int x2] rfl (c_X4_bring hap (fun x h => hN x (ns_4_10 x h)) r10 x2 s9) (hN 4 (by decide)) (by decide) rfl rfl mi_X4_bring msl_X4_bring mw_X4_bring rfl ml_10_88 ⟨Nat.le_of_ble_eq_true rfl, Nat.le_of_ble_eq_true rfl⟩ (Nat.le_of_ble_eq_true rfl) dX10_writeCard_67 (fun s11 => ?_)
    refine g_iload E dX10_writeCard_70 4 rfl ?_
    refine g_if_eq E 97 dX10_writeCard_72 (by decide) ?_ ?_
    · refine g_aload_n E dX10_writeCard_97 0 rfl ?_
      refine gg_10_9 E (hN 10 (by decide)) dX10_writeCard_98 ?_
      refine g_iload_n E dX10_writeCard_101 2 rfl ?_
      refine g_iload E dX10_writeCard_102 5 rfl ?_
      refine g_cVv E [.int x2, .int x5] rfl (c_X4_remove hap (fun x h => hN x (ns_4_10 x h)) x2 x5 s11) (hN 4 (by decide)) (by decide) rfl rfl mi_X4_remove msl_X4_remove mw_X4_remove rfl ml_10_117 ⟨Nat.le_of_ble_eq_true rfl, Nat.le_of_ble_eq_true rfl⟩ (Nat.le_of_ble_eq_true rfl) dX10_writeCard_104 (fun s12 => ?_)
      refine g_sub [0, 1] rfl ?_
      exact w_X10_writeCard_p107 E hap hN x1 s12
    · refine g_aload_n E dX10_writeCard_75 0 rfl ?_
      refine gg_10_9 E (hN 10 (by decide)) dX10_writeCard_76 ?_
      refine g_iload_n E dX10_writeCard_79 2 rfl ?_
      refine g_aload_n E dX10_writeCard_80 0 rfl ?_
      refine gg_10_9 E (hN 10 (by decide)) dX10_writeCard_81 ?_
      refine g_iload_n E dX10_writeCard_84 2 rfl ?_
      refine g_iload_n E dX10_writeCard_85 3 rfl ?_
      refine g_cVi E [.int x2, .int x3] rfl (c_X4_wayOf hap (fun x h => hN x (ns_4_10 x h)) x2 x3 s11) (hN 4 (by decide)) (by decide) rfl rfl mi_X4_wayOf msl_X4_wayOf mw_X4_wayOf rfl ml_10_61 ⟨Nat.le_of_ble_eq_true rfl, Nat.le_of_ble_eq_true rfl⟩ (Nat.le_of_ble_eq_true rfl) dX10_writeCard_86 (fun r14 s13 => ?_)
      refine g_iload_n E dX10_writeCard_89 3 rfl ?_
      refine g_iconst E (v := (-1)) dX10_writeCard_90 (by decide) ?_
      refine g_cVv E [.int x2, .int r14, .int x3, .int (-1)] rfl (c_X4_insert hap (fun x h => hN x (ns_4_10 x h)) x2 r14 x3 ((-1)) s13) (hN 4 (by decide)) (by decide) rfl rfl mi_X4_insert msl_X4_insert mw_X4_insert rfl ml_10_110 ⟨Nat.le_of_ble_eq_true rfl, Nat.le_of_ble_eq_true rfl⟩ (Nat.le_of_ble_eq_true rfl) dX10_writeCard_91 (fun s15 => ?_)
      refine g_goto E 107 dX10_writeCard_94 (by decide) ?_
      refine g_sub [0, 1] rfl ?_
      exact w_X10_writeCard_p107 E hap hN x1 s15
  · refine g_iconst E (v := 0) dX10_writeCard_56 (by decide) ?_
    exact g_zret E dX10_writeCard_57 (Or.inl rfl)
set_option maxHeartbeats 4000000 in
set_option maxRecDepth 20000 in
theorem w_X10_writeCard_p24 (E : dr_E p (dr_rm 3) s0 m args meth c 0 0 A s0.heap D cI cZ ad L cX10_writeCard 6 RX10 (some .boolean)) (hap : dr_ap ad L) (hN : ∀ x ∈ nd_10, x ∈ L) : ∀ (x1 : Int32) (x2 : Int32) (x3 : Int32) (z0 : Int32) (s : dr_S), dr_G p l e (dr_rm 3) s0 m args below meth c 0 0 A s0.heap D cI cZ ad ln L 6 (dr_Zi D cI cZ ad ln L A below args s0 0 0) 24 [(0, .ref (ad 10)), (1, .int x1), (2, .int x2), (3, .int x3)] [.int z0] s (f_X10_writeCard_p24 ln x1 x2 x3 z0 s) := by
  intro x1 x2 x3 z0 s
  unfold f_X10_writeCard_p24
  refine g_istore E (lv' := [(4, .int z0), (0, .ref (ad 10)), (1, .int x1), (2, .int x2), (3, .int x3)]) dX10_writeCard_24 (by decide) rfl ?_
  refine g_aload_n E dX10_writeCard_26 1 rfl ?_
  refine gg_10_9 E (hN 10 (by decide)) dX10_writeCard_27 ?_
  refine g_iload_n E dX10_writeCard_30 2 rfl ?_
  refine g_cSi E [.int x1] rfl (c_X4_copyOf hap (fun x h => hN x (ns_4_10 x h)) x1 s) ms_X4_copyOf mw_X4_copyOf rfl ml_10_85 ⟨Nat.le_of_ble_eq_true rfl, Nat.le_of_ble_eq_true rfl⟩ (Nat.le_of_ble_eq_true rfl) dX10_writeCard_31 (fun r6 s5 => ?_)
  refine g_iload_n E dX10_writeCard_34 4 rfl ?_
  refine g_cVi E [.int r6, .int x3] rfl (c_X4_placeOf hap (fun x h => hN x (ns_4_10 x h)) r6 x3 s5) (hN 4 (by decide)) (by decide) rfl rfl mi_X4_placeOf msl_X4_placeOf mw_X4_placeOf rfl ml_10_71 ⟨Nat.le_of_ble_eq_true rfl, Nat.le_of_ble_eq_true rfl⟩ (Nat.le_of_ble_eq_true rfl) dX10_writeCard_35 (fun r8 s7 => ?_)
  refine g_istore E (lv' := [(5, .int r8), (4, .int z0), (0, .ref (ad 10)), (1, .int x1), (2, .int x2), (3, .int x3)]) dX10_writeCard_38 (by decide) rfl ?_
  refine g_iload E dX10_writeCard_40 1 rfl ?_
  refine g_iload E dX10_writeCard_42 0 rfl ?_
  refine g_iconst E (v := (-1)) dX10_writeCard_44 (by decide) ?_
  refine g_icmp_ne E 52 dX10_writeCard_45 (by decide) ?_ ?_
  · refine g_iconst E (v := 0) dX10_writeCard_52 (by decide) ?_
    refine g_sub [2, 3, 4, 5, 1, 0] rfl ?_
    exact w_X10_writeCard_p53 E hap hN x1 x2 x3 z0 r8 0 z0 s7
  · refine g_iconst E (v := 1) dX10_writeCard_48 (by decide) ?_
    refine g_goto E 53 dX10_writeCard_49 (by decide) ?_
    refine g_sub [2, 3, 4, 5, 1, 0] rfl ?_
    exact w_X10_writeCard_p53 E hap hN x1 x2 x3 z0 r8 1 z0 s7
set_option maxHeartbeats 4000000 in
set_option maxRecDepth 20000 in
theorem c_X10_writeCard (hap : dr_ap ad L) (hN : ∀ x ∈ nd_10, x ∈ L) (x1 : Int32) (x2 : Int32) (s : dr_S) : dr_Mi l D cI cZ ad ln L yX10_writeCard cX10_writeCard 6 (some .boolean) 3 [.ref (ad 10), .int x1, .int x2] s (f_X10_writeCard ln x1 x2 s) := by
  refine dr_meti (own := RX10) (by decide) rfl (Nat.le_of_ble_eq_true rfl) hap ?_
  intro p e s0 m args below meth c A E
  unfold f_X10_writeCard
  refine g_eqL (lv' := [(0, .ref (ad 10)), (1, .int x1), (2, .int x2)]) rfl ?_
  refine g_aload_n E dX10_writeCard_0 0 rfl ?_
  refine gg_10_15 E (hN 10 (by decide)) dX10_writeCard_1 ?_
  refine g_iload_n E dX10_writeCard_4 1 rfl ?_
  refine g_iconst E (v := 3) dX10_writeCard_5 (by decide) ?_
  refine g_cVi E [.int x1, .int 3] rfl (c_X3_get hap (fun x h => hN x (ns_3_10 x h)) x1 3 s) (hN 3 (by decide)) (by decide) rfl rfl mi_X3_get msl_X3_get mw_X3_get rfl ml_10_25 ⟨Nat.le_of_ble_eq_true rfl, Nat.le_of_ble_eq_true rfl⟩ (Nat.le_of_ble_eq_true rfl) dX10_writeCard_6 (fun r2 s1 => ?_)
  refine g_istore_n E (lv' := [(3, .int r2), (0, .ref (ad 10)), (1, .int x1), (2, .int x2)]) dX10_writeCard_9 (by decide) rfl ?_
  refine g_aload_n E dX10_writeCard_10 1 rfl ?_
  refine g_iload_n E dX10_writeCard_11 2 rfl ?_
  refine g_cVi E [.int x1] rfl (c_X10_kindOf hap hN x1 s1) (hN 10 (by decide)) (by decide) rfl rfl mi_X10_kindOf msl_X10_kindOf mw_X10_kindOf rfl ml_10_67 ⟨Nat.le_of_ble_eq_true rfl, Nat.le_of_ble_eq_true rfl⟩ (Nat.le_of_ble_eq_true rfl) dX10_writeCard_12 (fun r4 s3 => ?_)
  refine g_iconst E (v := 1) dX10_writeCard_15 (by decide) ?_
  refine g_icmp_ne E 23 dX10_writeCard_16 (by decide) ?_ ?_
  · refine g_iconst E (v := 0) dX10_writeCard_23 (by decide) ?_
    refine g_sub [1, 2, 3, 0] rfl ?_
    exact w_X10_writeCard_p24 E hap hN x1 x2 r2 0 s3
  · refine g_iconst E (v := 1) dX10_writeCard_19 (by decide) ?_
    refine g_goto E 24 dX10_writeCard_20 (by decide) ?_
    refine g_sub [1, 2, 3, 0] rfl ?_
    exact w_X10_writeCard_p24 E hap hN x1 x2 r2 1 s3
end

theorem dX10_writeGuide_0 : decode cX10_writeGuide 0 = .ok (.aload_n 0, 1) := by decide +kernel
theorem dX10_writeGuide_1 : decode cX10_writeGuide 1 = .ok (.getfield 15, 3) := by decide +kernel
theorem dX10_writeGuide_4 : decode cX10_writeGuide 4 = .ok (.iload_n 1, 1) := by decide +kernel
theorem dX10_writeGuide_5 : decode cX10_writeGuide 5 = .ok (.iconst 3, 1) := by decide +kernel
theorem dX10_writeGuide_6 : decode cX10_writeGuide 6 = .ok (.invokevirtual 25, 3) := by decide +kernel
theorem dX10_writeGuide_9 : decode cX10_writeGuide 9 = .ok (.istore_n 3, 1) := by decide +kernel
theorem dX10_writeGuide_10 : decode cX10_writeGuide 10 = .ok (.aload_n 0, 1) := by decide +kernel
theorem dX10_writeGuide_11 : decode cX10_writeGuide 11 = .ok (.getfield 15, 3) := by decide +kernel
theorem dX10_writeGuide_14 : decode cX10_writeGuide 14 = .ok (.iload_n 1, 1) := by decide +kernel
theorem dX10_writeGuide_15 : decode cX10_writeGuide 15 = .ok (.iconst 4, 1) := by decide +kernel
theorem dX10_writeGuide_16 : decode cX10_writeGuide 16 = .ok (.invokevirtual 25, 3) := by decide +kernel
theorem dX10_writeGuide_19 : decode cX10_writeGuide 19 = .ok (.istore 4, 2) := by decide +kernel
theorem dX10_writeGuide_21 : decode cX10_writeGuide 21 = .ok (.aload_n 0, 1) := by decide +kernel
theorem dX10_writeGuide_22 : decode cX10_writeGuide 22 = .ok (.getfield 9, 3) := by decide +kernel
theorem dX10_writeGuide_25 : decode cX10_writeGuide 25 = .ok (.iload_n 1, 1) := by decide +kernel
theorem dX10_writeGuide_26 : decode cX10_writeGuide 26 = .ok (.invokestatic 85, 3) := by decide +kernel
theorem dX10_writeGuide_29 : decode cX10_writeGuide 29 = .ok (.iload_n 2, 1) := by decide +kernel
theorem dX10_writeGuide_30 : decode cX10_writeGuide 30 = .ok (.invokevirtual 88, 3) := by decide +kernel
theorem dX10_writeGuide_33 : decode cX10_writeGuide 33 = .ok (.aload_n 0, 1) := by decide +kernel
theorem dX10_writeGuide_34 : decode cX10_writeGuide 34 = .ok (.getfield 9, 3) := by decide +kernel
theorem dX10_writeGuide_37 : decode cX10_writeGuide 37 = .ok (.iload_n 2, 1) := by decide +kernel
theorem dX10_writeGuide_38 : decode cX10_writeGuide 38 = .ok (.iload_n 3, 1) := by decide +kernel
theorem dX10_writeGuide_39 : decode cX10_writeGuide 39 = .ok (.invokevirtual 71, 3) := by decide +kernel
theorem dX10_writeGuide_42 : decode cX10_writeGuide 42 = .ok (.istore 5, 2) := by decide +kernel
theorem dX10_writeGuide_44 : decode cX10_writeGuide 44 = .ok (.iload 5, 2) := by decide +kernel
theorem dX10_writeGuide_46 : decode cX10_writeGuide 46 = .ok (.iconst (-1), 1) := by decide +kernel
theorem dX10_writeGuide_47 : decode cX10_writeGuide 47 = .ok (.if_icmp .ne 26, 3) := by decide +kernel
theorem dX10_writeGuide_50 : decode cX10_writeGuide 50 = .ok (.aload_n 0, 1) := by decide +kernel
theorem dX10_writeGuide_51 : decode cX10_writeGuide 51 = .ok (.getfield 9, 3) := by decide +kernel
theorem dX10_writeGuide_54 : decode cX10_writeGuide 54 = .ok (.iload_n 2, 1) := by decide +kernel
theorem dX10_writeGuide_55 : decode cX10_writeGuide 55 = .ok (.aload_n 0, 1) := by decide +kernel
theorem dX10_writeGuide_56 : decode cX10_writeGuide 56 = .ok (.getfield 9, 3) := by decide +kernel
theorem dX10_writeGuide_59 : decode cX10_writeGuide 59 = .ok (.iload_n 2, 1) := by decide +kernel
theorem dX10_writeGuide_60 : decode cX10_writeGuide 60 = .ok (.iload_n 3, 1) := by decide +kernel
theorem dX10_writeGuide_61 : decode cX10_writeGuide 61 = .ok (.invokevirtual 61, 3) := by decide +kernel
theorem dX10_writeGuide_64 : decode cX10_writeGuide 64 = .ok (.iload_n 3, 1) := by decide +kernel
theorem dX10_writeGuide_65 : decode cX10_writeGuide 65 = .ok (.iload 4, 2) := by decide +kernel
theorem dX10_writeGuide_67 : decode cX10_writeGuide 67 = .ok (.invokevirtual 110, 3) := by decide +kernel
theorem dX10_writeGuide_70 : decode cX10_writeGuide 70 = .ok (.goto 17, 3) := by decide +kernel
theorem dX10_writeGuide_73 : decode cX10_writeGuide 73 = .ok (.aload_n 0, 1) := by decide +kernel
theorem dX10_writeGuide_74 : decode cX10_writeGuide 74 = .ok (.getfield 9, 3) := by decide +kernel
theorem dX10_writeGuide_77 : decode cX10_writeGuide 77 = .ok (.iload_n 2, 1) := by decide +kernel
theorem dX10_writeGuide_78 : decode cX10_writeGuide 78 = .ok (.iload 5, 2) := by decide +kernel
theorem dX10_writeGuide_80 : decode cX10_writeGuide 80 = .ok (.iconst 1, 1) := by decide +kernel
theorem dX10_writeGuide_81 : decode cX10_writeGuide 81 = .ok (.iadd, 1) := by decide +kernel
theorem dX10_writeGuide_82 : decode cX10_writeGuide 82 = .ok (.iload 4, 2) := by decide +kernel
theorem dX10_writeGuide_84 : decode cX10_writeGuide 84 = .ok (.invokevirtual 114, 3) := by decide +kernel
theorem dX10_writeGuide_87 : decode cX10_writeGuide 87 = .ok (.return_, 1) := by decide +kernel
def f_X10_writeGuide (ln : Nat → Nat) (x1 : Int32) (x2 : Int32) (s : dr_S) : Option (Int32 × dr_S) := dr_bnd (f_X3_get ln x1 3 s) (fun r2 s1 => dr_bnd (f_X3_get ln x1 4 s1) (fun r4 s3 => dr_bnd (f_X4_copyOf ln x1 s3) (fun r6 s5 => dr_bndv (f_X4_bring ln r6 x2 s5) (fun s7 => dr_bnd (f_X4_placeOf ln x2 r2 s7) (fun r9 s8 => (if r9 = (-1) then dr_bnd (f_X4_wayOf ln x2 r2 s8) (fun r12 s11 => dr_bndv (f_X4_insert ln x2 r12 r2 r4 s11) (fun s13 => some (0, s13))) else dr_bndv (f_X4_setChild ln x2 ((r9 + 1)) r4 s8) (fun s10 => some (0, s10))))))))
section
variable {p : Program} {l : Launch} {e : Env} {s0 : State} {m : MethodId} {args : Array Value} {below : List Frame} {meth : Method} {c : Code} {A : Nat → Prop} {D : va_G} {cI cZ : ClassId} {ad ln : Nat → Nat} {L : List Nat}
set_option maxHeartbeats 4000000 in
set_option maxRecDepth 20000 in
theorem c_X10_writeGuide (hap : dr_ap ad L) (hN : ∀ x ∈ nd_10, x ∈ L) (x1 : Int32) (x2 : Int32) (s : dr_S) : dr_Mv l D cI cZ ad ln L yX10_writeGuide cX10_writeGuide 6 3 [.ref (ad 10), .int x1, .int x2] s (f_X10_writeGuide ln x1 x2 s) := by
  refine dr_metv (own := RX10) (by decide) rfl (Nat.le_of_ble_eq_true rfl) hap ?_
  intro p e s0 m args below meth c A E
  unfold f_X10_writeGuide
  refine g_eqL (lv' := [(0, .ref (ad 10)), (1, .int x1), (2, .int x2)]) rfl ?_
  refine g_aload_n E dX10_writeGuide_0 0 rfl ?_
  refine gg_10_15 E (hN 10 (by decide)) dX10_writeGuide_1 ?_
  refine g_iload_n E dX10_writeGuide_4 1 rfl ?_
  refine g_iconst E (v := 3) dX10_writeGuide_5 (by decide) ?_
  refine g_cVi E [.int x1, .int 3] rfl (c_X3_get hap (fun x h => hN x (ns_3_10 x h)) x1 3 s) (hN 3 (by decide)) (by decide) rfl rfl mi_X3_get msl_X3_get mw_X3_get rfl ml_10_25 ⟨Nat.le_of_ble_eq_true rfl, Nat.le_of_ble_eq_true rfl⟩ (Nat.le_of_ble_eq_true rfl) dX10_writeGuide_6 (fun r2 s1 => ?_)
  refine g_istore_n E (lv' := [(3, .int r2), (0, .ref (ad 10)), (1, .int x1), (2, .int x2)]) dX10_writeGuide_9 (by decide) rfl ?_
  refine g_aload_n E dX10_writeGuide_10 1 rfl ?_
  refine gg_10_15 E (hN 10 (by decide)) dX10_writeGuide_11 ?_
  refine g_iload_n E dX10_writeGuide_14 2 rfl ?_
  refine g_iconst E (v := 4) dX10_writeGuide_15 (by decide) ?_
  refine g_cVi E [.int x1, .int 4] rfl (c_X3_get hap (fun x h => hN x (ns_3_10 x h)) x1 4 s1) (hN 3 (by decide)) (by decide) rfl rfl mi_X3_get msl_X3_get mw_X3_get rfl ml_10_25 ⟨Nat.le_of_ble_eq_true rfl, Nat.le_of_ble_eq_true rfl⟩ (Nat.le_of_ble_eq_true rfl) dX10_writeGuide_16 (fun r4 s3 => ?_)
  refine g_istore E (lv' := [(4, .int r4), (3, .int r2), (0, .ref (ad 10)), (1, .int x1), (2, .int x2)]) dX10_writeGuide_19 (by decide) rfl ?_
  refine g_aload_n E dX10_writeGuide_21 2 rfl ?_
  refine gg_10_9 E (hN 10 (by decide)) dX10_writeGuide_22 ?_
  refine g_iload_n E dX10_writeGuide_25 3 rfl ?_
  refine g_cSi E [.int x1] rfl (c_X4_copyOf hap (fun x h => hN x (ns_4_10 x h)) x1 s3) ms_X4_copyOf mw_X4_copyOf rfl ml_10_85 ⟨Nat.le_of_ble_eq_true rfl, Nat.le_of_ble_eq_true rfl⟩ (Nat.le_of_ble_eq_true rfl) dX10_writeGuide_26 (fun r6 s5 => ?_)
  refine g_iload_n E dX10_writeGuide_29 4 rfl ?_
  refine g_cVv E [.int r6, .int x2] rfl (c_X4_bring hap (fun x h => hN x (ns_4_10 x h)) r6 x2 s5) (hN 4 (by decide)) (by decide) rfl rfl mi_X4_bring msl_X4_bring mw_X4_bring rfl ml_10_88 ⟨Nat.le_of_ble_eq_true rfl, Nat.le_of_ble_eq_true rfl⟩ (Nat.le_of_ble_eq_true rfl) dX10_writeGuide_30 (fun s7 => ?_)
  refine g_aload_n E dX10_writeGuide_33 2 rfl ?_
  refine gg_10_9 E (hN 10 (by decide)) dX10_writeGuide_34 ?_
  refine g_iload_n E dX10_writeGuide_37 4 rfl ?_
  refine g_iload_n E dX10_writeGuide_38 1 rfl ?_
  refine g_cVi E [.int x2, .int r2] rfl (c_X4_placeOf hap (fun x h => hN x (ns_4_10 x h)) x2 r2 s7) (hN 4 (by decide)) (by decide) rfl rfl mi_X4_placeOf msl_X4_placeOf mw_X4_placeOf rfl ml_10_71 ⟨Nat.le_of_ble_eq_true rfl, Nat.le_of_ble_eq_true rfl⟩ (Nat.le_of_ble_eq_true rfl) dX10_writeGuide_39 (fun r9 s8 => ?_)
  refine g_istore E (lv' := [(5, .int r9), (4, .int r4), (3, .int r2), (0, .ref (ad 10)), (1, .int x1), (2, .int x2)]) dX10_writeGuide_42 (by decide) rfl ?_
  refine g_iload E dX10_writeGuide_44 0 rfl ?_
  refine g_iconst E (v := (-1)) dX10_writeGuide_46 (by decide) ?_
  refine g_icmp_ne E 73 dX10_writeGuide_47 (by decide) ?_ ?_
  · refine g_aload_n E dX10_writeGuide_73 3 rfl ?_
    refine gg_10_9 E (hN 10 (by decide)) dX10_writeGuide_74 ?_
    refine g_iload_n E dX10_writeGuide_77 5 rfl ?_
    refine g_iload E dX10_writeGuide_78 0 rfl ?_
    refine g_iconst E (v := 1) dX10_writeGuide_80 (by decide) ?_
    refine g_iadd E dX10_writeGuide_81 ?_
    refine g_iload E dX10_writeGuide_82 1 rfl ?_
    refine g_cVv E [.int x2, .int (r9 + 1), .int r4] rfl (c_X4_setChild hap (fun x h => hN x (ns_4_10 x h)) x2 ((r9 + 1)) r4 s8) (hN 4 (by decide)) (by decide) rfl rfl mi_X4_setChild msl_X4_setChild mw_X4_setChild rfl ml_10_114 ⟨Nat.le_of_ble_eq_true rfl, Nat.le_of_ble_eq_true rfl⟩ (Nat.le_of_ble_eq_true rfl) dX10_writeGuide_84 (fun s10 => ?_)
    exact g_vret E dX10_writeGuide_87
  · refine g_aload_n E dX10_writeGuide_50 3 rfl ?_
    refine gg_10_9 E (hN 10 (by decide)) dX10_writeGuide_51 ?_
    refine g_iload_n E dX10_writeGuide_54 5 rfl ?_
    refine g_aload_n E dX10_writeGuide_55 3 rfl ?_
    refine gg_10_9 E (hN 10 (by decide)) dX10_writeGuide_56 ?_
    refine g_iload_n E dX10_writeGuide_59 5 rfl ?_
    refine g_iload_n E dX10_writeGuide_60 2 rfl ?_
    refine g_cVi E [.int x2, .int r2] rfl (c_X4_wayOf hap (fun x h => hN x (ns_4_10 x h)) x2 r2 s8) (hN 4 (by decide)) (by decide) rfl rfl mi_X4_wayOf msl_X4_wayOf mw_X4_wayOf rfl ml_10_61 ⟨Nat.le_of_ble_eq_true rfl, Nat.le_of_ble_eq_true rfl⟩ (Nat.le_of_ble_eq_true rfl) dX10_writeGuide_61 (fun r12 s11 => ?_)
    refine g_iload_n E dX10_writeGuide_64 2 rfl ?_
    refine g_iload E dX10_writeGuide_65 1 rfl ?_
    refine g_cVv E [.int x2, .int r12, .int r2, .int r4] rfl (c_X4_insert hap (fun x h => hN x (ns_4_10 x h)) x2 r12 r2 r4 s11) (hN 4 (by decide)) (by decide) rfl rfl mi_X4_insert msl_X4_insert mw_X4_insert rfl ml_10_110 ⟨Nat.le_of_ble_eq_true rfl, Nat.le_of_ble_eq_true rfl⟩ (Nat.le_of_ble_eq_true rfl) dX10_writeGuide_67 (fun s13 => ?_)
    refine g_goto E 87 dX10_writeGuide_70 (by decide) ?_
    exact g_vret E dX10_writeGuide_87
end

theorem dX10_write_0 : decode cX10_write 0 = .ok (.aload_n 0, 1) := by decide +kernel
theorem dX10_write_1 : decode cX10_write 1 = .ok (.getfield 15, 3) := by decide +kernel
theorem dX10_write_4 : decode cX10_write 4 = .ok (.iload_n 1, 1) := by decide +kernel
theorem dX10_write_5 : decode cX10_write 5 = .ok (.iconst 1, 1) := by decide +kernel
theorem dX10_write_6 : decode cX10_write 6 = .ok (.invokevirtual 25, 3) := by decide +kernel
theorem dX10_write_9 : decode cX10_write 9 = .ok (.istore_n 2, 1) := by decide +kernel
theorem dX10_write_10 : decode cX10_write 10 = .ok (.aload_n 0, 1) := by decide +kernel
theorem dX10_write_11 : decode cX10_write 11 = .ok (.getfield 9, 3) := by decide +kernel
theorem dX10_write_14 : decode cX10_write 14 = .ok (.iload_n 2, 1) := by decide +kernel
theorem dX10_write_15 : decode cX10_write 15 = .ok (.iconst 0, 1) := by decide +kernel
theorem dX10_write_16 : decode cX10_write 16 = .ok (.invokevirtual 49, 3) := by decide +kernel
theorem dX10_write_19 : decode cX10_write 19 = .ok (.ifCond .le 12, 3) := by decide +kernel
theorem dX10_write_22 : decode cX10_write 22 = .ok (.aload_n 0, 1) := by decide +kernel
theorem dX10_write_23 : decode cX10_write 23 = .ok (.iload_n 1, 1) := by decide +kernel
theorem dX10_write_24 : decode cX10_write 24 = .ok (.iload_n 2, 1) := by decide +kernel
theorem dX10_write_25 : decode cX10_write 25 = .ok (.invokevirtual 94, 3) := by decide +kernel
theorem dX10_write_28 : decode cX10_write 28 = .ok (.goto 25, 3) := by decide +kernel
theorem dX10_write_31 : decode cX10_write 31 = .ok (.aload_n 0, 1) := by decide +kernel
theorem dX10_write_32 : decode cX10_write 32 = .ok (.iload_n 1, 1) := by decide +kernel
theorem dX10_write_33 : decode cX10_write 33 = .ok (.iload_n 2, 1) := by decide +kernel
theorem dX10_write_34 : decode cX10_write 34 = .ok (.invokevirtual 97, 3) := by decide +kernel
theorem dX10_write_37 : decode cX10_write 37 = .ok (.ifCond .ne 16, 3) := by decide +kernel
theorem dX10_write_40 : decode cX10_write 40 = .ok (.aload_n 0, 1) := by decide +kernel
theorem dX10_write_41 : decode cX10_write 41 = .ok (.iload_n 1, 1) := by decide +kernel
theorem dX10_write_42 : decode cX10_write 42 = .ok (.iload_n 2, 1) := by decide +kernel
theorem dX10_write_43 : decode cX10_write 43 = .ok (.invokevirtual 100, 3) := by decide +kernel
theorem dX10_write_46 : decode cX10_write 46 = .ok (.aload_n 0, 1) := by decide +kernel
theorem dX10_write_47 : decode cX10_write 47 = .ok (.iload_n 1, 1) := by decide +kernel
theorem dX10_write_48 : decode cX10_write 48 = .ok (.iconst 0, 1) := by decide +kernel
theorem dX10_write_49 : decode cX10_write 49 = .ok (.invokevirtual 74, 3) := by decide +kernel
theorem dX10_write_52 : decode cX10_write 52 = .ok (.return_, 1) := by decide +kernel
theorem dX10_write_53 : decode cX10_write 53 = .ok (.iconst (-1), 1) := by decide +kernel
theorem dX10_write_54 : decode cX10_write 54 = .ok (.istore_n 3, 1) := by decide +kernel
theorem dX10_write_55 : decode cX10_write 55 = .ok (.aload_n 0, 1) := by decide +kernel
theorem dX10_write_56 : decode cX10_write 56 = .ok (.getfield 9, 3) := by decide +kernel
theorem dX10_write_59 : decode cX10_write 59 = .ok (.iload_n 2, 1) := by decide +kernel
theorem dX10_write_60 : decode cX10_write 60 = .ok (.iconst 1, 1) := by decide +kernel
theorem dX10_write_61 : decode cX10_write 61 = .ok (.invokevirtual 49, 3) := by decide +kernel
theorem dX10_write_64 : decode cX10_write 64 = .ok (.iconst 2, 1) := by decide +kernel
theorem dX10_write_65 : decode cX10_write 65 = .ok (.aload_n 0, 1) := by decide +kernel
theorem dX10_write_66 : decode cX10_write 66 = .ok (.getfield 9, 3) := by decide +kernel
theorem dX10_write_69 : decode cX10_write 69 = .ok (.invokevirtual 103, 3) := by decide +kernel
theorem dX10_write_72 : decode cX10_write 72 = .ok (.imul, 1) := by decide +kernel
theorem dX10_write_73 : decode cX10_write 73 = .ok (.if_icmp .le 12, 3) := by decide +kernel
theorem dX10_write_76 : decode cX10_write 76 = .ok (.aload_n 0, 1) := by decide +kernel
theorem dX10_write_77 : decode cX10_write 77 = .ok (.getfield 9, 3) := by decide +kernel
theorem dX10_write_80 : decode cX10_write 80 = .ok (.iload_n 2, 1) := by decide +kernel
theorem dX10_write_81 : decode cX10_write 81 = .ok (.invokevirtual 107, 3) := by decide +kernel
theorem dX10_write_84 : decode cX10_write 84 = .ok (.istore_n 3, 1) := by decide +kernel
theorem dX10_write_85 : decode cX10_write 85 = .ok (.iload_n 3, 1) := by decide +kernel
theorem dX10_write_86 : decode cX10_write 86 = .ok (.iconst (-1), 1) := by decide +kernel
theorem dX10_write_87 : decode cX10_write 87 = .ok (.if_icmp .ne 16, 3) := by decide +kernel
theorem dX10_write_90 : decode cX10_write 90 = .ok (.aload_n 0, 1) := by decide +kernel
theorem dX10_write_91 : decode cX10_write 91 = .ok (.iload_n 1, 1) := by decide +kernel
theorem dX10_write_92 : decode cX10_write 92 = .ok (.iload_n 2, 1) := by decide +kernel
theorem dX10_write_93 : decode cX10_write 93 = .ok (.invokevirtual 100, 3) := by decide +kernel
theorem dX10_write_96 : decode cX10_write 96 = .ok (.aload_n 0, 1) := by decide +kernel
theorem dX10_write_97 : decode cX10_write 97 = .ok (.iload_n 1, 1) := by decide +kernel
theorem dX10_write_98 : decode cX10_write 98 = .ok (.iconst 1, 1) := by decide +kernel
theorem dX10_write_99 : decode cX10_write 99 = .ok (.invokevirtual 74, 3) := by decide +kernel
theorem dX10_write_102 : decode cX10_write 102 = .ok (.return_, 1) := by decide +kernel
theorem dX10_write_103 : decode cX10_write 103 = .ok (.aload_n 0, 1) := by decide +kernel
theorem dX10_write_104 : decode cX10_write 104 = .ok (.getfield 15, 3) := by decide +kernel
theorem dX10_write_107 : decode cX10_write 107 = .ok (.iload_n 1, 1) := by decide +kernel
theorem dX10_write_108 : decode cX10_write 108 = .ok (.iconst 3, 1) := by decide +kernel
theorem dX10_write_109 : decode cX10_write 109 = .ok (.aload_n 0, 1) := by decide +kernel
theorem dX10_write_110 : decode cX10_write 110 = .ok (.getfield 9, 3) := by decide +kernel
theorem dX10_write_113 : decode cX10_write 113 = .ok (.iload_n 2, 1) := by decide +kernel
theorem dX10_write_114 : decode cX10_write 114 = .ok (.iconst 2, 1) := by decide +kernel
theorem dX10_write_115 : decode cX10_write 115 = .ok (.invokevirtual 49, 3) := by decide +kernel
theorem dX10_write_118 : decode cX10_write 118 = .ok (.invokevirtual 54, 3) := by decide +kernel
theorem dX10_write_121 : decode cX10_write 121 = .ok (.aload_n 0, 1) := by decide +kernel
theorem dX10_write_122 : decode cX10_write 122 = .ok (.getfield 15, 3) := by decide +kernel
theorem dX10_write_125 : decode cX10_write 125 = .ok (.iload_n 1, 1) := by decide +kernel
theorem dX10_write_126 : decode cX10_write 126 = .ok (.iconst 4, 1) := by decide +kernel
theorem dX10_write_127 : decode cX10_write 127 = .ok (.iload_n 3, 1) := by decide +kernel
theorem dX10_write_128 : decode cX10_write 128 = .ok (.invokevirtual 54, 3) := by decide +kernel
theorem dX10_write_131 : decode cX10_write 131 = .ok (.aload_n 0, 1) := by decide +kernel
theorem dX10_write_132 : decode cX10_write 132 = .ok (.getfield 15, 3) := by decide +kernel
theorem dX10_write_135 : decode cX10_write 135 = .ok (.iload_n 1, 1) := by decide +kernel
theorem dX10_write_136 : decode cX10_write 136 = .ok (.iconst 0, 1) := by decide +kernel
theorem dX10_write_137 : decode cX10_write 137 = .ok (.iconst 4, 1) := by decide +kernel
theorem dX10_write_138 : decode cX10_write 138 = .ok (.invokevirtual 54, 3) := by decide +kernel
theorem dX10_write_141 : decode cX10_write 141 = .ok (.return_, 1) := by decide +kernel
def f_X10_write_p85 (ln : Nat → Nat) (x1 : Int32) (x2 : Int32) (x3 : Int32) (s : dr_S) : Option (Int32 × dr_S) := (if x3 = (-1) then dr_bndv (f_X10_letGo ln x1 x2 s) (fun s21 => dr_bndv (f_X10_end ln x1 1 s21) (fun s22 => some (0, s22))) else dr_bnd (f_X4_get ln x2 2 s) (fun r17 s16 => dr_bndv (f_X3_set ln x1 3 r17 s16) (fun s18 => dr_bndv (f_X3_set ln x1 4 x3 s18) (fun s19 => dr_bndv (f_X3_set ln x1 0 4 s19) (fun s20 => some (0, s20))))))
def f_X10_write_p53 (ln : Nat → Nat) (x1 : Int32) (x2 : Int32) (s : dr_S) : Option (Int32 × dr_S) := dr_bnd (f_X4_get ln x2 1 s) (fun r11 s10 => dr_bnd (f_X4_half ln  s10) (fun r13 s12 => (if r11 ≤ (2 * r13) then (f_X10_write_p85 ln x1 x2 ((-1)) s12) else dr_bnd (f_X4_part ln x2 s12) (fun r15 s14 => (f_X10_write_p85 ln x1 x2 r15 s14)))))
def f_X10_write (ln : Nat → Nat) (x1 : Int32) (s : dr_S) : Option (Int32 × dr_S) := dr_bnd (f_X3_get ln x1 1 s) (fun r2 s1 => dr_bnd (f_X4_get ln r2 0 s1) (fun r4 s3 => (if r4 ≤ 0 then dr_bnd (f_X10_writeCard ln x1 r2 s3) (fun r6 s5 => (if r6 = 0 then dr_bndv (f_X10_letGo ln x1 r2 s5) (fun s7 => dr_bndv (f_X10_end ln x1 0 s7) (fun s8 => some (0, s8))) else (f_X10_write_p53 ln x1 r2 s5))) else dr_bndv (f_X10_writeGuide ln x1 r2 s3) (fun s9 => (f_X10_write_p53 ln x1 r2 s9)))))
section
variable {p : Program} {l : Launch} {e : Env} {s0 : State} {m : MethodId} {args : Array Value} {below : List Frame} {meth : Method} {c : Code} {A : Nat → Prop} {D : va_G} {cI cZ : ClassId} {ad ln : Nat → Nat} {L : List Nat}
set_option maxHeartbeats 4000000 in
set_option maxRecDepth 20000 in
theorem w_X10_write_p85 (E : dr_E p (dr_rm 4) s0 m args meth c 0 0 A s0.heap D cI cZ ad L cX10_write 4 RX10 none) (hap : dr_ap ad L) (hN : ∀ x ∈ nd_10, x ∈ L) : ∀ (x1 : Int32) (x2 : Int32) (x3 : Int32) (s : dr_S), dr_G p l e (dr_rm 4) s0 m args below meth c 0 0 A s0.heap D cI cZ ad ln L 4 (dr_Zv D cI cZ ad ln L A below args s0 0 0) 85 [(0, .ref (ad 10)), (1, .int x1), (2, .int x2), (3, .int x3)] [] s (f_X10_write_p85 ln x1 x2 x3 s) := by
  intro x1 x2 x3 s
  unfold f_X10_write_p85
  refine g_iload_n E dX10_write_85 3 rfl ?_
  refine g_iconst E (v := (-1)) dX10_write_86 (by decide) ?_
  refine g_icmp_ne E 103 dX10_write_87 (by decide) ?_ ?_
  · refine g_aload_n E dX10_write_103 0 rfl ?_
    refine gg_10_15 E (hN 10 (by decide)) dX10_write_104 ?_
    refine g_iload_n E dX10_write_107 1 rfl ?_
    refine g_iconst E (v := 3) dX10_write_108 (by decide) ?_
    refine g_aload_n E dX10_write_109 0 rfl ?_
    refine gg_10_9 E (hN 10 (by decide)) dX10_write_110 ?_
    refine g_iload_n E dX10_write_113 2 rfl ?_
    refine g_iconst E (v := 2) dX10_write_114 (by decide) ?_
    refine g_cVi E [.int x2, .int 2] rfl (c_X4_get hap (fun x h => hN x (ns_4_10 x h)) x2 2 s) (hN 4 (by decide)) (by decide) rfl rfl mi_X4_get msl_X4_get mw_X4_get rfl ml_10_49 ⟨Nat.le_of_ble_eq_true rfl, Nat.le_of_ble_eq_true rfl⟩ (Nat.le_of_ble_eq_true rfl) dX10_write_115 (fun r17 s16 => ?_)
    refine g_cVv E [.int x1, .int 3, .int r17] rfl (c_X3_set hap (fun x h => hN x (ns_3_10 x h)) x1 3 r17 s16) (hN 3 (by decide)) (by decide) rfl rfl mi_X3_set msl_X3_set mw_X3_set rfl ml_10_54 ⟨Nat.le_of_ble_eq_true rfl, Nat.le_of_ble_eq_true rfl⟩ (Nat.le_of_ble_eq_true rfl) dX10_write_118 (fun s18 => ?_)
    refine g_aload_n E dX10_write_121 0 rfl ?_
    refine gg_10_15 E (hN 10 (by decide)) dX10_write_122 ?_
    refine g_iload_n E dX10_write_125 1 rfl ?_
    refine g_iconst E (v := 4) dX10_write_126 (by decide) ?_
    refine g_iload_n E dX10_write_127 3 rfl ?_
    refine g_cVv E [.int x1, .int 4, .int x3] rfl (c_X3_set hap (fun x h => hN x (ns_3_10 x h)) x1 4 x3 s18) (hN 3 (by decide)) (by decide) rfl rfl mi_X3_set msl_X3_set mw_X3_set rfl ml_10_54 ⟨Nat.le_of_ble_eq_true rfl, Nat.le_of_ble_eq_true rfl⟩ (Nat.le_of_ble_eq_true rfl) dX10_write_128 (fun s19 => ?_)
    refine g_aload_n E dX10_write_131 0 rfl ?_
    refine gg_10_15 E (hN 10 (by decide)) dX10_write_132 ?_
    refine g_iload_n E dX10_write_135 1 rfl ?_
    refine g_iconst E (v := 0) dX10_write_136 (by decide) ?_
    refine g_iconst E (v := 4) dX10_write_137 (by decide) ?_
    refine g_cVv E [.int x1, .int 0, .int 4] rfl (c_X3_set hap (fun x h => hN x (ns_3_10 x h)) x1 0 4 s19) (hN 3 (by decide)) (by decide) rfl rfl mi_X3_set msl_X3_set mw_X3_set rfl ml_10_54 ⟨Nat.le_of_ble_eq_true rfl, Nat.le_of_ble_eq_true rfl⟩ (Nat.le_of_ble_eq_true rfl) dX10_write_138 (fun s20 => ?_)
    exact g_vret E dX10_write_141
  · refine g_aload_n E dX10_write_90 0 rfl ?_
    refine g_iload_n E dX10_write_91 1 rfl ?_
    refine g_iload_n E dX10_write_92 2 rfl ?_
    refine g_cVv E [.int x1, .int x2] rfl (c_X10_letGo hap hN x1 x2 s) (hN 10 (by decide)) (by decide) rfl rfl mi_X10_letGo msl_X10_letGo mw_X10_letGo rfl ml_10_100 ⟨Nat.le_of_ble_eq_true rfl, Nat.le_of_ble_eq_true rfl⟩ (Nat.le_of_ble_eq_true rfl) dX10_write_93 (fun s21 => ?_)
    refine g_aload_n E dX10_write_96 0 rfl ?_
    refine g_iload_n E dX10_write_97 1 rfl ?_
    refine g_iconst E (v := 1) dX10_write_98 (by decide) ?_
    refine g_cVv E [.int x1, .int 1] rfl (c_X10_end hap hN x1 1 s21) (hN 10 (by decide)) (by decide) rfl rfl mi_X10_end msl_X10_end mw_X10_end rfl ml_10_74 ⟨Nat.le_of_ble_eq_true rfl, Nat.le_of_ble_eq_true rfl⟩ (Nat.le_of_ble_eq_true rfl) dX10_write_99 (fun s22 => ?_)
    exact g_vret E dX10_write_102
set_option maxHeartbeats 4000000 in
set_option maxRecDepth 20000 in
theorem w_X10_write_p53 (E : dr_E p (dr_rm 4) s0 m args meth c 0 0 A s0.heap D cI cZ ad L cX10_write 4 RX10 none) (hap : dr_ap ad L) (hN : ∀ x ∈ nd_10, x ∈ L) : ∀ (x1 : Int32) (x2 : Int32) (s : dr_S), dr_G p l e (dr_rm 4) s0 m args below meth c 0 0 A s0.heap D cI cZ ad ln L 4 (dr_Zv D cI cZ ad ln L A below args s0 0 0) 53 [(0, .ref (ad 10)), (1, .int x1), (2, .int x2)] [] s (f_X10_write_p53 ln x1 x2 s) := by
  intro x1 x2 s
  unfold f_X10_write_p53
  refine g_iconst E (v := (-1)) dX10_write_53 (by decide) ?_
  refine g_istore_n E (lv' := [(3, .int (-1)), (0, .ref (ad 10)), (1, .int x1), (2, .int x2)]) dX10_write_54 (by decide) rfl ?_
  refine g_aload_n E dX10_write_55 1 rfl ?_
  refine gg_10_9 E (hN 10 (by decide)) dX10_write_56 ?_
  refine g_iload_n E dX10_write_59 3 rfl ?_
  refine g_iconst E (v := 1) dX10_write_60 (by decide) ?_
  refine g_cVi E [.int x2, .int 1] rfl (c_X4_get hap (fun x h => hN x (ns_4_10 x h)) x2 1 s) (hN 4 (by decide)) (by decide) rfl rfl mi_X4_get msl_X4_get mw_X4_get rfl ml_10_49 ⟨Nat.le_of_ble_eq_true rfl, Nat.le_of_ble_eq_true rfl⟩ (Nat.le_of_ble_eq_true rfl) dX10_write_61 (fun r11 s10 => ?_)
  refine g_iconst E (v := 2) dX10_write_64 (by decide) ?_
  refine g_aload_n E dX10_write_65 1 rfl ?_
  refine gg_10_9 E (hN 10 (by decide)) dX10_write_66 ?_
  refine g_cVi E [] rfl (c_X4_half hap (fun x h => hN x (ns_4_10 x h))  s10) (hN 4 (by decide)) (by decide) rfl rfl mi_X4_half msl_X4_half mw_X4_half rfl ml_10_103 ⟨Nat.le_of_ble_eq_true rfl, Nat.le_of_ble_eq_true rfl⟩ (Nat.le_of_ble_eq_true rfl) dX10_write_69 (fun r13 s12 => ?_)
  refine g_imul E dX10_write_72 ?_
  refine g_icmp_le E 85 dX10_write_73 (by decide) ?_ ?_
  · refine g_sub [1, 2, 3, 0] rfl ?_
    exact w_X10_write_p85 E hap hN x1 x2 ((-1)) s12
  · refine g_aload_n E dX10_write_76 1 rfl ?_
    refine gg_10_9 E (hN 10 (by decide)) dX10_write_77 ?_
    refine g_iload_n E dX10_write_80 3 rfl ?_
    refine g_cVi E [.int x2] rfl (c_X4_part hap (fun x h => hN x (ns_4_10 x h)) x2 s12) (hN 4 (by decide)) (by decide) rfl rfl mi_X4_part msl_X4_part mw_X4_part rfl ml_10_107 ⟨Nat.le_of_ble_eq_true rfl, Nat.le_of_ble_eq_true rfl⟩ (Nat.le_of_ble_eq_true rfl) dX10_write_81 (fun r15 s14 => ?_)
    refine g_istore_n E (lv' := [(3, .int r15), (0, .ref (ad 10)), (1, .int x1), (2, .int x2)]) dX10_write_84 (by decide) rfl ?_
    refine g_sub [1, 2, 3, 0] rfl ?_
    exact w_X10_write_p85 E hap hN x1 x2 r15 s14
set_option maxHeartbeats 4000000 in
set_option maxRecDepth 20000 in
theorem c_X10_write (hap : dr_ap ad L) (hN : ∀ x ∈ nd_10, x ∈ L) (x1 : Int32) (s : dr_S) : dr_Mv l D cI cZ ad ln L yX10_write cX10_write 4 4 [.ref (ad 10), .int x1] s (f_X10_write ln x1 s) := by
  refine dr_metv (own := RX10) (by decide) rfl (Nat.le_of_ble_eq_true rfl) hap ?_
  intro p e s0 m args below meth c A E
  unfold f_X10_write
  refine g_eqL (lv' := [(0, .ref (ad 10)), (1, .int x1)]) rfl ?_
  refine g_aload_n E dX10_write_0 0 rfl ?_
  refine gg_10_15 E (hN 10 (by decide)) dX10_write_1 ?_
  refine g_iload_n E dX10_write_4 1 rfl ?_
  refine g_iconst E (v := 1) dX10_write_5 (by decide) ?_
  refine g_cVi E [.int x1, .int 1] rfl (c_X3_get hap (fun x h => hN x (ns_3_10 x h)) x1 1 s) (hN 3 (by decide)) (by decide) rfl rfl mi_X3_get msl_X3_get mw_X3_get rfl ml_10_25 ⟨Nat.le_of_ble_eq_true rfl, Nat.le_of_ble_eq_true rfl⟩ (Nat.le_of_ble_eq_true rfl) dX10_write_6 (fun r2 s1 => ?_)
  refine g_istore_n E (lv' := [(2, .int r2), (0, .ref (ad 10)), (1, .int x1)]) dX10_write_9 (by decide) rfl ?_
  refine g_aload_n E dX10_write_10 1 rfl ?_
  refine gg_10_9 E (hN 10 (by decide)) dX10_write_11 ?_
  refine g_iload_n E dX10_write_14 0 rfl ?_
  refine g_iconst E (v := 0) dX10_write_15 (by decide) ?_
  refine g_cVi E [.int r2, .int 0] rfl (c_X4_get hap (fun x h => hN x (ns_4_10 x h)) r2 0 s1) (hN 4 (by decide)) (by decide) rfl rfl mi_X4_get msl_X4_get mw_X4_get rfl ml_10_49 ⟨Nat.le_of_ble_eq_true rfl, Nat.le_of_ble_eq_true rfl⟩ (Nat.le_of_ble_eq_true rfl) dX10_write_16 (fun r4 s3 => ?_)
  refine g_if_le E 31 dX10_write_19 (by decide) ?_ ?_
  · refine g_aload_n E dX10_write_31 1 rfl ?_
    refine g_iload_n E dX10_write_32 2 rfl ?_
    refine g_iload_n E dX10_write_33 0 rfl ?_
    refine g_cVi E [.int x1, .int r2] rfl (c_X10_writeCard hap hN x1 r2 s3) (hN 10 (by decide)) (by decide) rfl rfl mi_X10_writeCard msl_X10_writeCard mw_X10_writeCard rfl ml_10_97 ⟨Nat.le_of_ble_eq_true rfl, Nat.le_of_ble_eq_true rfl⟩ (Nat.le_of_ble_eq_true rfl) dX10_write_34 (fun r6 s5 => ?_)
    refine g_if_ne E 53 dX10_write_37 (by decide) ?_ ?_
    · refine g_sub [1, 2, 0] rfl ?_
      exact w_X10_write_p53 E hap hN x1 r2 s5
    · refine g_aload_n E dX10_write_40 1 rfl ?_
      refine g_iload_n E dX10_write_41 2 rfl ?_
      refine g_iload_n E dX10_write_42 0 rfl ?_
      refine g_cVv E [.int x1, .int r2] rfl (c_X10_letGo hap hN x1 r2 s5) (hN 10 (by decide)) (by decide) rfl rfl mi_X10_letGo msl_X10_letGo mw_X10_letGo rfl ml_10_100 ⟨Nat.le_of_ble_eq_true rfl, Nat.le_of_ble_eq_true rfl⟩ (Nat.le_of_ble_eq_true rfl) dX10_write_43 (fun s7 => ?_)
      refine g_aload_n E dX10_write_46 1 rfl ?_
      refine g_iload_n E dX10_write_47 2 rfl ?_
      refine g_iconst E (v := 0) dX10_write_48 (by decide) ?_
      refine g_cVv E [.int x1, .int 0] rfl (c_X10_end hap hN x1 0 s7) (hN 10 (by decide)) (by decide) rfl rfl mi_X10_end msl_X10_end mw_X10_end rfl ml_10_74 ⟨Nat.le_of_ble_eq_true rfl, Nat.le_of_ble_eq_true rfl⟩ (Nat.le_of_ble_eq_true rfl) dX10_write_49 (fun s8 => ?_)
      exact g_vret E dX10_write_52
  · refine g_aload_n E dX10_write_22 1 rfl ?_
    refine g_iload_n E dX10_write_23 2 rfl ?_
    refine g_iload_n E dX10_write_24 0 rfl ?_
    refine g_cVv E [.int x1, .int r2] rfl (c_X10_writeGuide hap hN x1 r2 s3) (hN 10 (by decide)) (by decide) rfl rfl mi_X10_writeGuide msl_X10_writeGuide mw_X10_writeGuide rfl ml_10_94 ⟨Nat.le_of_ble_eq_true rfl, Nat.le_of_ble_eq_true rfl⟩ (Nat.le_of_ble_eq_true rfl) dX10_write_25 (fun s9 => ?_)
    refine g_goto E 53 dX10_write_28 (by decide) ?_
    refine g_sub [1, 2, 0] rfl ?_
    exact w_X10_write_p53 E hap hN x1 r2 s9
end

theorem dX10_climb_0 : decode cX10_climb 0 = .ok (.aload_n 0, 1) := by decide +kernel
theorem dX10_climb_1 : decode cX10_climb 1 = .ok (.getfield 15, 3) := by decide +kernel
theorem dX10_climb_4 : decode cX10_climb 4 = .ok (.iload_n 1, 1) := by decide +kernel
theorem dX10_climb_5 : decode cX10_climb 5 = .ok (.iconst 1, 1) := by decide +kernel
theorem dX10_climb_6 : decode cX10_climb 6 = .ok (.invokevirtual 25, 3) := by decide +kernel
theorem dX10_climb_9 : decode cX10_climb 9 = .ok (.istore_n 2, 1) := by decide +kernel
theorem dX10_climb_10 : decode cX10_climb 10 = .ok (.iload_n 2, 1) := by decide +kernel
theorem dX10_climb_11 : decode cX10_climb 11 = .ok (.aload_n 0, 1) := by decide +kernel
theorem dX10_climb_12 : decode cX10_climb 12 = .ok (.getfield 9, 3) := by decide +kernel
theorem dX10_climb_15 : decode cX10_climb 15 = .ok (.invokevirtual 123, 3) := by decide +kernel
theorem dX10_climb_18 : decode cX10_climb 18 = .ok (.if_icmp .ne 42, 3) := by decide +kernel
theorem dX10_climb_21 : decode cX10_climb 21 = .ok (.aload_n 0, 1) := by decide +kernel
theorem dX10_climb_22 : decode cX10_climb 22 = .ok (.getfield 9, 3) := by decide +kernel
theorem dX10_climb_25 : decode cX10_climb 25 = .ok (.iload_n 2, 1) := by decide +kernel
theorem dX10_climb_26 : decode cX10_climb 26 = .ok (.aload_n 0, 1) := by decide +kernel
theorem dX10_climb_27 : decode cX10_climb 27 = .ok (.getfield 15, 3) := by decide +kernel
theorem dX10_climb_30 : decode cX10_climb 30 = .ok (.iload_n 1, 1) := by decide +kernel
theorem dX10_climb_31 : decode cX10_climb 31 = .ok (.iconst 3, 1) := by decide +kernel
theorem dX10_climb_32 : decode cX10_climb 32 = .ok (.invokevirtual 25, 3) := by decide +kernel
theorem dX10_climb_35 : decode cX10_climb 35 = .ok (.aload_n 0, 1) := by decide +kernel
theorem dX10_climb_36 : decode cX10_climb 36 = .ok (.getfield 15, 3) := by decide +kernel
theorem dX10_climb_39 : decode cX10_climb 39 = .ok (.iload_n 1, 1) := by decide +kernel
theorem dX10_climb_40 : decode cX10_climb 40 = .ok (.iconst 4, 1) := by decide +kernel
theorem dX10_climb_41 : decode cX10_climb 41 = .ok (.invokevirtual 25, 3) := by decide +kernel
theorem dX10_climb_44 : decode cX10_climb 44 = .ok (.invokevirtual 126, 3) := by decide +kernel
theorem dX10_climb_47 : decode cX10_climb 47 = .ok (.aload_n 0, 1) := by decide +kernel
theorem dX10_climb_48 : decode cX10_climb 48 = .ok (.iload_n 1, 1) := by decide +kernel
theorem dX10_climb_49 : decode cX10_climb 49 = .ok (.iload_n 2, 1) := by decide +kernel
theorem dX10_climb_50 : decode cX10_climb 50 = .ok (.invokevirtual 100, 3) := by decide +kernel
theorem dX10_climb_53 : decode cX10_climb 53 = .ok (.aload_n 0, 1) := by decide +kernel
theorem dX10_climb_54 : decode cX10_climb 54 = .ok (.iload_n 1, 1) := by decide +kernel
theorem dX10_climb_55 : decode cX10_climb 55 = .ok (.iconst 1, 1) := by decide +kernel
theorem dX10_climb_56 : decode cX10_climb 56 = .ok (.invokevirtual 74, 3) := by decide +kernel
theorem dX10_climb_59 : decode cX10_climb 59 = .ok (.return_, 1) := by decide +kernel
theorem dX10_climb_60 : decode cX10_climb 60 = .ok (.aload_n 0, 1) := by decide +kernel
theorem dX10_climb_61 : decode cX10_climb 61 = .ok (.getfield 9, 3) := by decide +kernel
theorem dX10_climb_64 : decode cX10_climb 64 = .ok (.iload_n 2, 1) := by decide +kernel
theorem dX10_climb_65 : decode cX10_climb 65 = .ok (.iconst 0, 1) := by decide +kernel
theorem dX10_climb_66 : decode cX10_climb 66 = .ok (.invokevirtual 49, 3) := by decide +kernel
theorem dX10_climb_69 : decode cX10_climb 69 = .ok (.iconst 1, 1) := by decide +kernel
theorem dX10_climb_70 : decode cX10_climb 70 = .ok (.iadd, 1) := by decide +kernel
theorem dX10_climb_71 : decode cX10_climb 71 = .ok (.istore_n 3, 1) := by decide +kernel
theorem dX10_climb_72 : decode cX10_climb 72 = .ok (.aload_n 0, 1) := by decide +kernel
theorem dX10_climb_73 : decode cX10_climb 73 = .ok (.getfield 15, 3) := by decide +kernel
theorem dX10_climb_76 : decode cX10_climb 76 = .ok (.iload_n 1, 1) := by decide +kernel
theorem dX10_climb_77 : decode cX10_climb 77 = .ok (.iload_n 3, 1) := by decide +kernel
theorem dX10_climb_78 : decode cX10_climb 78 = .ok (.invokevirtual 129, 3) := by decide +kernel
theorem dX10_climb_81 : decode cX10_climb 81 = .ok (.istore 4, 2) := by decide +kernel
theorem dX10_climb_83 : decode cX10_climb 83 = .ok (.aload_n 0, 1) := by decide +kernel
theorem dX10_climb_84 : decode cX10_climb 84 = .ok (.iload_n 1, 1) := by decide +kernel
theorem dX10_climb_85 : decode cX10_climb 85 = .ok (.iload 4, 2) := by decide +kernel
theorem dX10_climb_87 : decode cX10_climb 87 = .ok (.iconst (-1), 1) := by decide +kernel
theorem dX10_climb_88 : decode cX10_climb 88 = .ok (.if_icmp .ne 14, 3) := by decide +kernel
theorem dX10_climb_91 : decode cX10_climb 91 = .ok (.aload_n 0, 1) := by decide +kernel
theorem dX10_climb_92 : decode cX10_climb 92 = .ok (.getfield 9, 3) := by decide +kernel
theorem dX10_climb_95 : decode cX10_climb 95 = .ok (.iload_n 3, 1) := by decide +kernel
theorem dX10_climb_96 : decode cX10_climb 96 = .ok (.invokevirtual 132, 3) := by decide +kernel
theorem dX10_climb_99 : decode cX10_climb 99 = .ok (.goto 5, 3) := by decide +kernel
theorem dX10_climb_102 : decode cX10_climb 102 = .ok (.iload 4, 2) := by decide +kernel
theorem dX10_climb_104 : decode cX10_climb 104 = .ok (.invokevirtual 91, 3) := by decide +kernel
theorem dX10_climb_107 : decode cX10_climb 107 = .ok (.return_, 1) := by decide +kernel
def f_X10_climb_p104 (ln : Nat → Nat) (z0 : Int32) (z1 : Int32) (s : dr_S) : Option (Int32 × dr_S) := dr_bndv (f_X10_moveTo ln z1 z0 s) (fun s19 => some (0, s19))
def f_X10_climb (ln : Nat → Nat) (x1 : Int32) (s : dr_S) : Option (Int32 × dr_S) := dr_bnd (f_X3_get ln x1 1 s) (fun r2 s1 => dr_bnd (f_X4_top ln  s1) (fun r4 s3 => (if r2 = r4 then dr_bnd (f_X3_get ln x1 3 s3) (fun r13 s12 => dr_bnd (f_X3_get ln x1 4 s12) (fun r15 s14 => dr_bndv (f_X4_raise ln r2 r13 r15 s14) (fun s16 => dr_bndv (f_X10_letGo ln x1 r2 s16) (fun s17 => dr_bndv (f_X10_end ln x1 1 s17) (fun s18 => some (0, s18)))))) else dr_bnd (f_X4_get ln r2 0 s3) (fun r6 s5 => dr_let (r6 + 1) (fun y7 => dr_bnd (f_X3_path ln x1 y7 s5) (fun r9 s8 => (if r9 = (-1) then dr_bnd (f_X4_firstOf ln y7 s8) (fun r11 s10 => (f_X10_climb_p104 ln r11 x1 s10)) else (f_X10_climb_p104 ln r9 x1 s8))))))))
section
variable {p : Program} {l : Launch} {e : Env} {s0 : State} {m : MethodId} {args : Array Value} {below : List Frame} {meth : Method} {c : Code} {A : Nat → Prop} {D : va_G} {cI cZ : ClassId} {ad ln : Nat → Nat} {L : List Nat}
set_option maxHeartbeats 4000000 in
set_option maxRecDepth 20000 in
theorem w_X10_climb_p104 (E : dr_E p (dr_rm 4) s0 m args meth c 0 0 A s0.heap D cI cZ ad L cX10_climb 5 RX10 none) (hap : dr_ap ad L) (hN : ∀ x ∈ nd_10, x ∈ L) : ∀ (z0 : Int32) (z1 : Int32) (s : dr_S), dr_G p l e (dr_rm 4) s0 m args below meth c 0 0 A s0.heap D cI cZ ad ln L 5 (dr_Zv D cI cZ ad ln L A below args s0 0 0) 104 [] [.int z0, .int z1, .ref (ad 10)] s (f_X10_climb_p104 ln z0 z1 s) := by
  intro z0 z1 s
  unfold f_X10_climb_p104
  refine g_cVv E [.int z1, .int z0] rfl (c_X10_moveTo hap hN z1 z0 s) (hN 10 (by decide)) (by decide) rfl rfl mi_X10_moveTo msl_X10_moveTo mw_X10_moveTo rfl ml_10_91 ⟨Nat.le_of_ble_eq_true rfl, Nat.le_of_ble_eq_true rfl⟩ (Nat.le_of_ble_eq_true rfl) dX10_climb_104 (fun s19 => ?_)
  exact g_vret E dX10_climb_107
set_option maxHeartbeats 4000000 in
set_option maxRecDepth 20000 in
theorem c_X10_climb (hap : dr_ap ad L) (hN : ∀ x ∈ nd_10, x ∈ L) (x1 : Int32) (s : dr_S) : dr_Mv l D cI cZ ad ln L yX10_climb cX10_climb 5 4 [.ref (ad 10), .int x1] s (f_X10_climb ln x1 s) := by
  refine dr_metv (own := RX10) (by decide) rfl (Nat.le_of_ble_eq_true rfl) hap ?_
  intro p e s0 m args below meth c A E
  unfold f_X10_climb
  refine g_eqL (lv' := [(0, .ref (ad 10)), (1, .int x1)]) rfl ?_
  refine g_aload_n E dX10_climb_0 0 rfl ?_
  refine gg_10_15 E (hN 10 (by decide)) dX10_climb_1 ?_
  refine g_iload_n E dX10_climb_4 1 rfl ?_
  refine g_iconst E (v := 1) dX10_climb_5 (by decide) ?_
  refine g_cVi E [.int x1, .int 1] rfl (c_X3_get hap (fun x h => hN x (ns_3_10 x h)) x1 1 s) (hN 3 (by decide)) (by decide) rfl rfl mi_X3_get msl_X3_get mw_X3_get rfl ml_10_25 ⟨Nat.le_of_ble_eq_true rfl, Nat.le_of_ble_eq_true rfl⟩ (Nat.le_of_ble_eq_true rfl) dX10_climb_6 (fun r2 s1 => ?_)
  refine g_istore_n E (lv' := [(2, .int r2), (0, .ref (ad 10)), (1, .int x1)]) dX10_climb_9 (by decide) rfl ?_
  refine g_iload_n E dX10_climb_10 0 rfl ?_
  refine g_aload_n E dX10_climb_11 1 rfl ?_
  refine gg_10_9 E (hN 10 (by decide)) dX10_climb_12 ?_
  refine g_cVi E [] rfl (c_X4_top hap (fun x h => hN x (ns_4_10 x h))  s1) (hN 4 (by decide)) (by decide) rfl rfl mi_X4_top msl_X4_top mw_X4_top rfl ml_10_123 ⟨Nat.le_of_ble_eq_true rfl, Nat.le_of_ble_eq_true rfl⟩ (Nat.le_of_ble_eq_true rfl) dX10_climb_15 (fun r4 s3 => ?_)
  refine g_icmp_ne E 60 dX10_climb_18 (by decide) ?_ ?_
  · refine g_aload_n E dX10_climb_60 1 rfl ?_
    refine gg_10_9 E (hN 10 (by decide)) dX10_climb_61 ?_
    refine g_iload_n E dX10_climb_64 0 rfl ?_
    refine g_iconst E (v := 0) dX10_climb_65 (by decide) ?_
    refine g_cVi E [.int r2, .int 0] rfl (c_X4_get hap (fun x h => hN x (ns_4_10 x h)) r2 0 s3) (hN 4 (by decide)) (by decide) rfl rfl mi_X4_get msl_X4_get mw_X4_get rfl ml_10_49 ⟨Nat.le_of_ble_eq_true rfl, Nat.le_of_ble_eq_true rfl⟩ (Nat.le_of_ble_eq_true rfl) dX10_climb_66 (fun r6 s5 => ?_)
    refine g_iconst E (v := 1) dX10_climb_69 (by decide) ?_
    refine g_iadd E dX10_climb_70 ?_
    refine g_let (fun y7 => ?_)
    refine g_istore_n E (lv' := [(3, .int y7), (2, .int r2), (0, .ref (ad 10)), (1, .int x1)]) dX10_climb_71 (by decide) rfl ?_
    refine g_aload_n E dX10_climb_72 2 rfl ?_
    refine gg_10_15 E (hN 10 (by decide)) dX10_climb_73 ?_
    refine g_iload_n E dX10_climb_76 3 rfl ?_
    refine g_iload_n E dX10_climb_77 0 rfl ?_
    refine g_cVi E [.int x1, .int y7] rfl (c_X3_path hap (fun x h => hN x (ns_3_10 x h)) x1 y7 s5) (hN 3 (by decide)) (by decide) rfl rfl mi_X3_path msl_X3_path mw_X3_path rfl ml_10_129 ⟨Nat.le_of_ble_eq_true rfl, Nat.le_of_ble_eq_true rfl⟩ (Nat.le_of_ble_eq_true rfl) dX10_climb_78 (fun r9 s8 => ?_)
    refine g_istore E (lv' := [(4, .int r9), (3, .int y7), (2, .int r2), (0, .ref (ad 10)), (1, .int x1)]) dX10_climb_81 (by decide) rfl ?_
    refine g_aload_n E dX10_climb_83 3 rfl ?_
    refine g_iload_n E dX10_climb_84 4 rfl ?_
    refine g_iload E dX10_climb_85 0 rfl ?_
    refine g_iconst E (v := (-1)) dX10_climb_87 (by decide) ?_
    refine g_icmp_ne E 102 dX10_climb_88 (by decide) ?_ ?_
    · refine g_iload E dX10_climb_102 0 rfl ?_
      refine g_sub [] rfl ?_
      exact w_X10_climb_p104 E hap hN r9 x1 s8
    · refine g_aload_n E dX10_climb_91 3 rfl ?_
      refine gg_10_9 E (hN 10 (by decide)) dX10_climb_92 ?_
      refine g_iload_n E dX10_climb_95 1 rfl ?_
      refine g_cVi E [.int y7] rfl (c_X4_firstOf hap (fun x h => hN x (ns_4_10 x h)) y7 s8) (hN 4 (by decide)) (by decide) rfl rfl mi_X4_firstOf msl_X4_firstOf mw_X4_firstOf rfl ml_10_132 ⟨Nat.le_of_ble_eq_true rfl, Nat.le_of_ble_eq_true rfl⟩ (Nat.le_of_ble_eq_true rfl) dX10_climb_96 (fun r11 s10 => ?_)
      refine g_goto E 104 dX10_climb_99 (by decide) ?_
      refine g_sub [] rfl ?_
      exact w_X10_climb_p104 E hap hN r11 x1 s10
  · refine g_aload_n E dX10_climb_21 1 rfl ?_
    refine gg_10_9 E (hN 10 (by decide)) dX10_climb_22 ?_
    refine g_iload_n E dX10_climb_25 0 rfl ?_
    refine g_aload_n E dX10_climb_26 1 rfl ?_
    refine gg_10_15 E (hN 10 (by decide)) dX10_climb_27 ?_
    refine g_iload_n E dX10_climb_30 2 rfl ?_
    refine g_iconst E (v := 3) dX10_climb_31 (by decide) ?_
    refine g_cVi E [.int x1, .int 3] rfl (c_X3_get hap (fun x h => hN x (ns_3_10 x h)) x1 3 s3) (hN 3 (by decide)) (by decide) rfl rfl mi_X3_get msl_X3_get mw_X3_get rfl ml_10_25 ⟨Nat.le_of_ble_eq_true rfl, Nat.le_of_ble_eq_true rfl⟩ (Nat.le_of_ble_eq_true rfl) dX10_climb_32 (fun r13 s12 => ?_)
    refine g_aload_n E dX10_climb_35 1 rfl ?_
    refine gg_10_15 E (hN 10 (by decide)) dX10_climb_36 ?_
    refine g_iload_n E dX10_climb_39 2 rfl ?_
    refine g_iconst E (v := 4) dX10_climb_40 (by decide) ?_
    refine g_cVi E [.int x1, .int 4] rfl (c_X3_get hap (fun x h => hN x (ns_3_10 x h)) x1 4 s12) (hN 3 (by decide)) (by decide) rfl rfl mi_X3_get msl_X3_get mw_X3_get rfl ml_10_25 ⟨Nat.le_of_ble_eq_true rfl, Nat.le_of_ble_eq_true rfl⟩ (Nat.le_of_ble_eq_true rfl) dX10_climb_41 (fun r15 s14 => ?_)
    refine g_cVv E [.int r2, .int r13, .int r15] rfl (c_X4_raise hap (fun x h => hN x (ns_4_10 x h)) r2 r13 r15 s14) (hN 4 (by decide)) (by decide) rfl rfl mi_X4_raise msl_X4_raise mw_X4_raise rfl ml_10_126 ⟨Nat.le_of_ble_eq_true rfl, Nat.le_of_ble_eq_true rfl⟩ (Nat.le_of_ble_eq_true rfl) dX10_climb_44 (fun s16 => ?_)
    refine g_aload_n E dX10_climb_47 1 rfl ?_
    refine g_iload_n E dX10_climb_48 2 rfl ?_
    refine g_iload_n E dX10_climb_49 0 rfl ?_
    refine g_cVv E [.int x1, .int r2] rfl (c_X10_letGo hap hN x1 r2 s16) (hN 10 (by decide)) (by decide) rfl rfl mi_X10_letGo msl_X10_letGo mw_X10_letGo rfl ml_10_100 ⟨Nat.le_of_ble_eq_true rfl, Nat.le_of_ble_eq_true rfl⟩ (Nat.le_of_ble_eq_true rfl) dX10_climb_50 (fun s17 => ?_)
    refine g_aload_n E dX10_climb_53 1 rfl ?_
    refine g_iload_n E dX10_climb_54 2 rfl ?_
    refine g_iconst E (v := 1) dX10_climb_55 (by decide) ?_
    refine g_cVv E [.int x1, .int 1] rfl (c_X10_end hap hN x1 1 s17) (hN 10 (by decide)) (by decide) rfl rfl mi_X10_end msl_X10_end mw_X10_end rfl ml_10_74 ⟨Nat.le_of_ble_eq_true rfl, Nat.le_of_ble_eq_true rfl⟩ (Nat.le_of_ble_eq_true rfl) dX10_climb_56 (fun s18 => ?_)
    exact g_vret E dX10_climb_59
end

theorem dX10_go_0 : decode cX10_go 0 = .ok (.aload_n 0, 1) := by decide +kernel
theorem dX10_go_1 : decode cX10_go 1 = .ok (.getfield 19, 3) := by decide +kernel
theorem dX10_go_4 : decode cX10_go 4 = .ok (.aload_n 0, 1) := by decide +kernel
theorem dX10_go_5 : decode cX10_go 5 = .ok (.getfield 15, 3) := by decide +kernel
theorem dX10_go_8 : decode cX10_go 8 = .ok (.iload_n 1, 1) := by decide +kernel
theorem dX10_go_9 : decode cX10_go 9 = .ok (.iconst 2, 1) := by decide +kernel
theorem dX10_go_10 : decode cX10_go 10 = .ok (.invokevirtual 25, 3) := by decide +kernel
theorem dX10_go_13 : decode cX10_go 13 = .ok (.invokevirtual 29, 3) := by decide +kernel
theorem dX10_go_16 : decode cX10_go 16 = .ok (.aload_n 0, 1) := by decide +kernel
theorem dX10_go_17 : decode cX10_go 17 = .ok (.getfield 15, 3) := by decide +kernel
theorem dX10_go_20 : decode cX10_go 20 = .ok (.iload_n 1, 1) := by decide +kernel
theorem dX10_go_21 : decode cX10_go 21 = .ok (.iconst 0, 1) := by decide +kernel
theorem dX10_go_22 : decode cX10_go 22 = .ok (.invokevirtual 25, 3) := by decide +kernel
theorem dX10_go_25 : decode cX10_go 25 = .ok (.tableswitch 63 1 4 #[31, 39, 47, 55], 31) := by decide +kernel
theorem dX10_go_56 : decode cX10_go 56 = .ok (.aload_n 0, 1) := by decide +kernel
theorem dX10_go_57 : decode cX10_go 57 = .ok (.iload_n 1, 1) := by decide +kernel
theorem dX10_go_58 : decode cX10_go 58 = .ok (.invokevirtual 35, 3) := by decide +kernel
theorem dX10_go_61 : decode cX10_go 61 = .ok (.goto 27, 3) := by decide +kernel
theorem dX10_go_64 : decode cX10_go 64 = .ok (.aload_n 0, 1) := by decide +kernel
theorem dX10_go_65 : decode cX10_go 65 = .ok (.iload_n 1, 1) := by decide +kernel
theorem dX10_go_66 : decode cX10_go 66 = .ok (.invokevirtual 38, 3) := by decide +kernel
theorem dX10_go_69 : decode cX10_go 69 = .ok (.goto 19, 3) := by decide +kernel
theorem dX10_go_72 : decode cX10_go 72 = .ok (.aload_n 0, 1) := by decide +kernel
theorem dX10_go_73 : decode cX10_go 73 = .ok (.iload_n 1, 1) := by decide +kernel
theorem dX10_go_74 : decode cX10_go 74 = .ok (.invokevirtual 41, 3) := by decide +kernel
theorem dX10_go_77 : decode cX10_go 77 = .ok (.goto 11, 3) := by decide +kernel
theorem dX10_go_80 : decode cX10_go 80 = .ok (.aload_n 0, 1) := by decide +kernel
theorem dX10_go_81 : decode cX10_go 81 = .ok (.iload_n 1, 1) := by decide +kernel
theorem dX10_go_82 : decode cX10_go 82 = .ok (.invokevirtual 44, 3) := by decide +kernel
theorem dX10_go_85 : decode cX10_go 85 = .ok (.goto 3, 3) := by decide +kernel
theorem dX10_go_88 : decode cX10_go 88 = .ok (.return_, 1) := by decide +kernel
def f_X10_go (ln : Nat → Nat) (x1 : Int32) (s : dr_S) : Option (Int32 × dr_S) := dr_bnd (f_X3_get ln x1 2 s) (fun r2 s1 => dr_bndv (f_X6_passStep ln r2 s1) (fun s3 => dr_bnd (f_X3_get ln x1 0 s3) (fun r5 s4 => dr_sw r5 1 4 [(dr_bndv (f_X10_read ln x1 s4) (fun s6 => some (0, s6))), (dr_bndv (f_X10_hold ln x1 s4) (fun s7 => some (0, s7))), (dr_bndv (f_X10_write ln x1 s4) (fun s8 => some (0, s8))), (dr_bndv (f_X10_climb ln x1 s4) (fun s9 => some (0, s9)))] (some (0, s4)))))
section
variable {p : Program} {l : Launch} {e : Env} {s0 : State} {m : MethodId} {args : Array Value} {below : List Frame} {meth : Method} {c : Code} {A : Nat → Prop} {D : va_G} {cI cZ : ClassId} {ad ln : Nat → Nat} {L : List Nat}
set_option maxHeartbeats 4000000 in
set_option maxRecDepth 20000 in
theorem c_X10_go (hap : dr_ap ad L) (hN : ∀ x ∈ nd_10, x ∈ L) (x1 : Int32) (s : dr_S) : dr_Mv l D cI cZ ad ln L yX10_go cX10_go 2 5 [.ref (ad 10), .int x1] s (f_X10_go ln x1 s) := by
  refine dr_metv (own := RX10) (by decide) rfl (Nat.le_of_ble_eq_true rfl) hap ?_
  intro p e s0 m args below meth c A E
  unfold f_X10_go
  refine g_eqL (lv' := [(0, .ref (ad 10)), (1, .int x1)]) rfl ?_
  refine g_aload_n E dX10_go_0 0 rfl ?_
  refine gg_10_19 E (hN 10 (by decide)) dX10_go_1 ?_
  refine g_aload_n E dX10_go_4 0 rfl ?_
  refine gg_10_15 E (hN 10 (by decide)) dX10_go_5 ?_
  refine g_iload_n E dX10_go_8 1 rfl ?_
  refine g_iconst E (v := 2) dX10_go_9 (by decide) ?_
  refine g_cVi E [.int x1, .int 2] rfl (c_X3_get hap (fun x h => hN x (ns_3_10 x h)) x1 2 s) (hN 3 (by decide)) (by decide) rfl rfl mi_X3_get msl_X3_get mw_X3_get rfl ml_10_25 ⟨Nat.le_of_ble_eq_true rfl, Nat.le_of_ble_eq_true rfl⟩ (Nat.le_of_ble_eq_true rfl) dX10_go_10 (fun r2 s1 => ?_)
  refine g_cVv E [.int r2] rfl (c_X6_passStep hap (fun x h => hN x (ns_6_10 x h)) r2 s1) (hN 6 (by decide)) (by decide) rfl rfl mi_X6_passStep msl_X6_passStep mw_X6_passStep rfl ml_10_29 ⟨Nat.le_of_ble_eq_true rfl, Nat.le_of_ble_eq_true rfl⟩ (Nat.le_of_ble_eq_true rfl) dX10_go_13 (fun s3 => ?_)
  refine g_aload_n E dX10_go_16 0 rfl ?_
  refine gg_10_15 E (hN 10 (by decide)) dX10_go_17 ?_
  refine g_iload_n E dX10_go_20 1 rfl ?_
  refine g_iconst E (v := 0) dX10_go_21 (by decide) ?_
  refine g_cVi E [.int x1, .int 0] rfl (c_X3_get hap (fun x h => hN x (ns_3_10 x h)) x1 0 s3) (hN 3 (by decide)) (by decide) rfl rfl mi_X3_get msl_X3_get mw_X3_get rfl ml_10_25 ⟨Nat.le_of_ble_eq_true rfl, Nat.le_of_ble_eq_true rfl⟩ (Nat.le_of_ble_eq_true rfl) dX10_go_22 (fun r5 s4 => ?_)
  refine g_tsw E [(dr_bndv (f_X10_read ln x1 s4) (fun s6 => some (0, s6))), (dr_bndv (f_X10_hold ln x1 s4) (fun s7 => some (0, s7))), (dr_bndv (f_X10_write ln x1 s4) (fun s8 => some (0, s8))), (dr_bndv (f_X10_climb ln x1 s4) (fun s9 => some (0, s9)))] (some (0, s4)) [56, 64, 72, 80] 88 dX10_go_25 (by decide) (by decide) (by decide) ?_ ?_
  · exact g_vret E dX10_go_88
  · refine dr_fc ?_ (dr_fc ?_ (dr_fc ?_ (dr_fc ?_ dr_fn)))
    · refine g_aload_n E dX10_go_56 0 rfl ?_
      refine g_iload_n E dX10_go_57 1 rfl ?_
      refine g_cVv E [.int x1] rfl (c_X10_read hap hN x1 s4) (hN 10 (by decide)) (by decide) rfl rfl mi_X10_read msl_X10_read mw_X10_read rfl ml_10_35 ⟨Nat.le_of_ble_eq_true rfl, Nat.le_of_ble_eq_true rfl⟩ (Nat.le_of_ble_eq_true rfl) dX10_go_58 (fun s6 => ?_)
      refine g_goto E 88 dX10_go_61 (by decide) ?_
      exact g_vret E dX10_go_88
    · refine g_aload_n E dX10_go_64 0 rfl ?_
      refine g_iload_n E dX10_go_65 1 rfl ?_
      refine g_cVv E [.int x1] rfl (c_X10_hold hap hN x1 s4) (hN 10 (by decide)) (by decide) rfl rfl mi_X10_hold msl_X10_hold mw_X10_hold rfl ml_10_38 ⟨Nat.le_of_ble_eq_true rfl, Nat.le_of_ble_eq_true rfl⟩ (Nat.le_of_ble_eq_true rfl) dX10_go_66 (fun s7 => ?_)
      refine g_goto E 88 dX10_go_69 (by decide) ?_
      exact g_vret E dX10_go_88
    · refine g_aload_n E dX10_go_72 0 rfl ?_
      refine g_iload_n E dX10_go_73 1 rfl ?_
      refine g_cVv E [.int x1] rfl (c_X10_write hap hN x1 s4) (hN 10 (by decide)) (by decide) rfl rfl mi_X10_write msl_X10_write mw_X10_write rfl ml_10_41 ⟨Nat.le_of_ble_eq_true rfl, Nat.le_of_ble_eq_true rfl⟩ (Nat.le_of_ble_eq_true rfl) dX10_go_74 (fun s8 => ?_)
      refine g_goto E 88 dX10_go_77 (by decide) ?_
      exact g_vret E dX10_go_88
    · refine g_aload_n E dX10_go_80 0 rfl ?_
      refine g_iload_n E dX10_go_81 1 rfl ?_
      refine g_cVv E [.int x1] rfl (c_X10_climb hap hN x1 s4) (hN 10 (by decide)) (by decide) rfl rfl mi_X10_climb msl_X10_climb mw_X10_climb rfl ml_10_44 ⟨Nat.le_of_ble_eq_true rfl, Nat.le_of_ble_eq_true rfl⟩ (Nat.le_of_ble_eq_true rfl) dX10_go_82 (fun s9 => ?_)
      refine g_goto E 88 dX10_go_85 (by decide) ?_
      exact g_vret E dX10_go_88
end

theorem dX8_goesWrong_0 : decode cX8_goesWrong 0 = .ok (.iload_n 1, 1) := by decide +kernel
theorem dX8_goesWrong_1 : decode cX8_goesWrong 1 = .ok (.ifCond .lt 14, 3) := by decide +kernel
theorem dX8_goesWrong_4 : decode cX8_goesWrong 4 = .ok (.iload_n 1, 1) := by decide +kernel
theorem dX8_goesWrong_5 : decode cX8_goesWrong 5 = .ok (.iload_n 2, 1) := by decide +kernel
theorem dX8_goesWrong_6 : decode cX8_goesWrong 6 = .ok (.if_icmp .ge 9, 3) := by decide +kernel
theorem dX8_goesWrong_9 : decode cX8_goesWrong 9 = .ok (.iload_n 1, 1) := by decide +kernel
theorem dX8_goesWrong_10 : decode cX8_goesWrong 10 = .ok (.bipush 8, 2) := by decide +kernel
theorem dX8_goesWrong_12 : decode cX8_goesWrong 12 = .ok (.if_icmp .lt 8, 3) := by decide +kernel
theorem dX8_goesWrong_15 : decode cX8_goesWrong 15 = .ok (.aload_n 0, 1) := by decide +kernel
theorem dX8_goesWrong_16 : decode cX8_goesWrong 16 = .ok (.invokevirtual 52, 3) := by decide +kernel
theorem dX8_goesWrong_19 : decode cX8_goesWrong 19 = .ok (.ireturn, 1) := by decide +kernel
theorem dX8_goesWrong_20 : decode cX8_goesWrong 20 = .ok (.aload_n 0, 1) := by decide +kernel
theorem dX8_goesWrong_21 : decode cX8_goesWrong 21 = .ok (.getfield 26, 3) := by decide +kernel
theorem dX8_goesWrong_24 : decode cX8_goesWrong 24 = .ok (.aload_n 0, 1) := by decide +kernel
theorem dX8_goesWrong_25 : decode cX8_goesWrong 25 = .ok (.getfield 15, 3) := by decide +kernel
theorem dX8_goesWrong_28 : decode cX8_goesWrong 28 = .ok (.invokevirtual 46, 3) := by decide +kernel
theorem dX8_goesWrong_31 : decode cX8_goesWrong 31 = .ok (.ifCond .eq 33, 3) := by decide +kernel
theorem dX8_goesWrong_34 : decode cX8_goesWrong 34 = .ok (.aload_n 0, 1) := by decide +kernel
theorem dX8_goesWrong_35 : decode cX8_goesWrong 35 = .ok (.getfield 26, 3) := by decide +kernel
theorem dX8_goesWrong_38 : decode cX8_goesWrong 38 = .ok (.aload_n 0, 1) := by decide +kernel
theorem dX8_goesWrong_39 : decode cX8_goesWrong 39 = .ok (.getfield 19, 3) := by decide +kernel
theorem dX8_goesWrong_42 : decode cX8_goesWrong 42 = .ok (.invokevirtual 46, 3) := by decide +kernel
theorem dX8_goesWrong_45 : decode cX8_goesWrong 45 = .ok (.ifCond .eq 19, 3) := by decide +kernel
theorem dX8_goesWrong_48 : decode cX8_goesWrong 48 = .ok (.aload_n 0, 1) := by decide +kernel
theorem dX8_goesWrong_49 : decode cX8_goesWrong 49 = .ok (.getfield 9, 3) := by decide +kernel
theorem dX8_goesWrong_52 : decode cX8_goesWrong 52 = .ok (.iload_n 1, 1) := by decide +kernel
theorem dX8_goesWrong_53 : decode cX8_goesWrong 53 = .ok (.iconst (-1), 1) := by decide +kernel
theorem dX8_goesWrong_54 : decode cX8_goesWrong 54 = .ok (.iastore, 1) := by decide +kernel
theorem dX8_goesWrong_55 : decode cX8_goesWrong 55 = .ok (.aload_n 0, 1) := by decide +kernel
theorem dX8_goesWrong_56 : decode cX8_goesWrong 56 = .ok (.iload_n 1, 1) := by decide +kernel
theorem dX8_goesWrong_57 : decode cX8_goesWrong 57 = .ok (.iconst 1, 1) := by decide +kernel
theorem dX8_goesWrong_58 : decode cX8_goesWrong 58 = .ok (.iadd, 1) := by decide +kernel
theorem dX8_goesWrong_59 : decode cX8_goesWrong 59 = .ok (.iload_n 2, 1) := by decide +kernel
theorem dX8_goesWrong_60 : decode cX8_goesWrong 60 = .ok (.invokevirtual 56, 3) := by decide +kernel
theorem dX8_goesWrong_63 : decode cX8_goesWrong 63 = .ok (.ireturn, 1) := by decide +kernel
theorem dX8_goesWrong_64 : decode cX8_goesWrong 64 = .ok (.iconst 0, 1) := by decide +kernel
theorem dX8_goesWrong_65 : decode cX8_goesWrong 65 = .ok (.istore_n 3, 1) := by decide +kernel
theorem dX8_goesWrong_66 : decode cX8_goesWrong 66 = .ok (.iconst 0, 1) := by decide +kernel
theorem dX8_goesWrong_67 : decode cX8_goesWrong 67 = .ok (.istore 4, 2) := by decide +kernel
theorem dX8_goesWrong_69 : decode cX8_goesWrong 69 = .ok (.iload 4, 2) := by decide +kernel
theorem dX8_goesWrong_71 : decode cX8_goesWrong 71 = .ok (.iconst 2, 1) := by decide +kernel
theorem dX8_goesWrong_72 : decode cX8_goesWrong 72 = .ok (.if_icmp .ge 87, 3) := by decide +kernel
theorem dX8_goesWrong_75 : decode cX8_goesWrong 75 = .ok (.iload_n 3, 1) := by decide +kernel
theorem dX8_goesWrong_76 : decode cX8_goesWrong 76 = .ok (.ifCond .ne 83, 3) := by decide +kernel
theorem dX8_goesWrong_79 : decode cX8_goesWrong 79 = .ok (.iload 4, 2) := by decide +kernel
theorem dX8_goesWrong_81 : decode cX8_goesWrong 81 = .ok (.ifCond .ne 10, 3) := by decide +kernel
theorem dX8_goesWrong_84 : decode cX8_goesWrong 84 = .ok (.aload_n 0, 1) := by decide +kernel
theorem dX8_goesWrong_85 : decode cX8_goesWrong 85 = .ok (.getfield 15, 3) := by decide +kernel
theorem dX8_goesWrong_88 : decode cX8_goesWrong 88 = .ok (.goto 7, 3) := by decide +kernel
theorem dX8_goesWrong_91 : decode cX8_goesWrong 91 = .ok (.aload_n 0, 1) := by decide +kernel
theorem dX8_goesWrong_92 : decode cX8_goesWrong 92 = .ok (.getfield 19, 3) := by decide +kernel
theorem dX8_goesWrong_95 : decode cX8_goesWrong 95 = .ok (.istore 5, 2) := by decide +kernel
theorem dX8_goesWrong_97 : decode cX8_goesWrong 97 = .ok (.aload_n 0, 1) := by decide +kernel
theorem dX8_goesWrong_98 : decode cX8_goesWrong 98 = .ok (.getfield 26, 3) := by decide +kernel
theorem dX8_goesWrong_101 : decode cX8_goesWrong 101 = .ok (.iload 5, 2) := by decide +kernel
theorem dX8_goesWrong_103 : decode cX8_goesWrong 103 = .ok (.invokevirtual 46, 3) := by decide +kernel
theorem dX8_goesWrong_106 : decode cX8_goesWrong 106 = .ok (.ifCond .ne 47, 3) := by decide +kernel
theorem dX8_goesWrong_109 : decode cX8_goesWrong 109 = .ok (.aload_n 0, 1) := by decide +kernel
theorem dX8_goesWrong_110 : decode cX8_goesWrong 110 = .ok (.getfield 9, 3) := by decide +kernel
theorem dX8_goesWrong_113 : decode cX8_goesWrong 113 = .ok (.iload_n 1, 1) := by decide +kernel
theorem dX8_goesWrong_114 : decode cX8_goesWrong 114 = .ok (.iload 5, 2) := by decide +kernel
theorem dX8_goesWrong_116 : decode cX8_goesWrong 116 = .ok (.iastore, 1) := by decide +kernel
theorem dX8_goesWrong_117 : decode cX8_goesWrong 117 = .ok (.aload_n 0, 1) := by decide +kernel
theorem dX8_goesWrong_118 : decode cX8_goesWrong 118 = .ok (.getfield 22, 3) := by decide +kernel
theorem dX8_goesWrong_121 : decode cX8_goesWrong 121 = .ok (.invokevirtual 60, 3) := by decide +kernel
theorem dX8_goesWrong_124 : decode cX8_goesWrong 124 = .ok (.istore 6, 2) := by decide +kernel
theorem dX8_goesWrong_126 : decode cX8_goesWrong 126 = .ok (.aload_n 0, 1) := by decide +kernel
theorem dX8_goesWrong_127 : decode cX8_goesWrong 127 = .ok (.getfield 34, 3) := by decide +kernel
theorem dX8_goesWrong_130 : decode cX8_goesWrong 130 = .ok (.iload 5, 2) := by decide +kernel
theorem dX8_goesWrong_132 : decode cX8_goesWrong 132 = .ok (.invokevirtual 66, 3) := by decide +kernel
theorem dX8_goesWrong_135 : decode cX8_goesWrong 135 = .ok (.aload_n 0, 1) := by decide +kernel
theorem dX8_goesWrong_136 : decode cX8_goesWrong 136 = .ok (.iload_n 1, 1) := by decide +kernel
theorem dX8_goesWrong_137 : decode cX8_goesWrong 137 = .ok (.iconst 1, 1) := by decide +kernel
theorem dX8_goesWrong_138 : decode cX8_goesWrong 138 = .ok (.iadd, 1) := by decide +kernel
theorem dX8_goesWrong_139 : decode cX8_goesWrong 139 = .ok (.iload_n 2, 1) := by decide +kernel
theorem dX8_goesWrong_140 : decode cX8_goesWrong 140 = .ok (.invokevirtual 56, 3) := by decide +kernel
theorem dX8_goesWrong_143 : decode cX8_goesWrong 143 = .ok (.istore_n 3, 1) := by decide +kernel
theorem dX8_goesWrong_144 : decode cX8_goesWrong 144 = .ok (.aload_n 0, 1) := by decide +kernel
theorem dX8_goesWrong_145 : decode cX8_goesWrong 145 = .ok (.getfield 22, 3) := by decide +kernel
theorem dX8_goesWrong_148 : decode cX8_goesWrong 148 = .ok (.iload 6, 2) := by decide +kernel
theorem dX8_goesWrong_150 : decode cX8_goesWrong 150 = .ok (.invokevirtual 72, 3) := by decide +kernel
theorem dX8_goesWrong_153 : decode cX8_goesWrong 153 = .ok (.iinc 4 1, 3) := by decide +kernel
theorem dX8_goesWrong_156 : decode cX8_goesWrong 156 = .ok (.goto (-87), 3) := by decide +kernel
theorem dX8_goesWrong_159 : decode cX8_goesWrong 159 = .ok (.iload_n 3, 1) := by decide +kernel
theorem dX8_goesWrong_160 : decode cX8_goesWrong 160 = .ok (.ireturn, 1) := by decide +kernel
def f_X8_goesWrong_p153 (ln : Nat → Nat) (rc : Int32 → Int32 → dr_S → Option (Int32 × dr_S)) (kb69 : Int32 → Int32 → Int32 → Int32 → dr_S → Option (Int32 × dr_S)) (x1 : Int32) (x2 : Int32) (x3 : Int32) (x4 : Int32) (s : dr_S) : Option (Int32 × dr_S) := dr_let (x4 + 1) (fun y19 => (kb69 x1 x2 x3 y19 s))
def f_X8_goesWrong_p95 (ln : Nat → Nat) (rc : Int32 → Int32 → dr_S → Option (Int32 × dr_S)) (kb69 : Int32 → Int32 → Int32 → Int32 → dr_S → Option (Int32 × dr_S)) (x1 : Int32) (x2 : Int32) (x3 : Int32) (x4 : Int32) (z0 : Int32) (s : dr_S) : Option (Int32 × dr_S) := dr_bnd (f_X3_isIdle ln z0 s) (fun r11 s10 => (if r11 = 0 then (dr_wr ln s10 27 x1 z0).bind (fun s12 => dr_bnd (f_X2_startTrying ln  s12) (fun r14 s13 => dr_bndv (f_X10_go ln z0 s13) (fun s15 => dr_bnd (rc ((x1 + 1)) x2 s15) (fun r17 s16 => dr_bndv (f_X2_takeBack ln r14 s16) (fun s18 => (f_X8_goesWrong_p153 ln rc kb69 x1 x2 r17 x4 s18)))))) else (f_X8_goesWrong_p153 ln rc kb69 x1 x2 x3 x4 s10)))
def f_X8_goesWrong_p69 (ln : Nat → Nat) (rc : Int32 → Int32 → dr_S → Option (Int32 × dr_S)) : Nat → Int32 → Int32 → Int32 → Int32 → dr_S → Option (Int32 × dr_S)
  | 0, _, _, _, _, _ => none
  | n + 1, x1, x2, x3, x4, s => (if ((2 : Int32) ≤ x4 : Prop) then dr_rz x3 s else (if x3 = 0 then (if x4 = 0 then (f_X8_goesWrong_p95 ln rc (f_X8_goesWrong_p69 ln rc n) x1 x2 x3 x4 ((s.2 807)) s) else (f_X8_goesWrong_p95 ln rc (f_X8_goesWrong_p69 ln rc n) x1 x2 x3 x4 ((s.2 808)) s)) else dr_rz x3 s))
def f_X8_goesWrong_p64 (ln : Nat → Nat) (rc : Int32 → Int32 → dr_S → Option (Int32 × dr_S)) (x1 : Int32) (x2 : Int32) (s : dr_S) : Option (Int32 × dr_S) := (f_X8_goesWrong_p69 ln rc dr_N x1 x2 0 0 s)
def f_X8_goesWrong_p15 (ln : Nat → Nat) (rc : Int32 → Int32 → dr_S → Option (Int32 × dr_S)) (s : dr_S) : Option (Int32 × dr_S) := dr_bnd (f_X8_isWrongNow ln  s) (fun r9 s8 => dr_rz r9 s8)
def f_X8_goesWrong_b (ln : Nat → Nat) (rc : Int32 → Int32 → dr_S → Option (Int32 × dr_S)) (x1 : Int32) (x2 : Int32) (s : dr_S) : Option (Int32 × dr_S) := (if x1 < 0 then (f_X8_goesWrong_p15 ln rc  s) else (if x2 ≤ x1 then (f_X8_goesWrong_p15 ln rc  s) else (if x1 < 8 then dr_bnd (f_X3_isIdle ln ((s.2 807)) s) (fun r2 s1 => (if r2 = 0 then (f_X8_goesWrong_p64 ln rc x1 x2 s1) else dr_bnd (f_X3_isIdle ln ((s1.2 808)) s1) (fun r4 s3 => (if r4 = 0 then (f_X8_goesWrong_p64 ln rc x1 x2 s3) else (dr_wr ln s3 27 x1 (-1)).bind (fun s5 => dr_bnd (rc ((x1 + 1)) x2 s5) (fun r7 s6 => dr_rz r7 s6)))))) else (f_X8_goesWrong_p15 ln rc  s))))
def f_X8_goesWrong (ln : Nat → Nat) : Nat → Int32 → Int32 → dr_S → Option (Int32 × dr_S)
  | 0, _, _, _ => none
  | k + 1, x1, x2, s => f_X8_goesWrong_b ln (f_X8_goesWrong ln k) x1 x2 s
section
variable {p : Program} {l : Launch} {e : Env} {s0 : State} {m : MethodId} {args : Array Value} {below : List Frame} {meth : Method} {c : Code} {A : Nat → Prop} {D : va_G} {cI cZ : ClassId} {ad ln : Nat → Nat} {L : List Nat}
set_option maxHeartbeats 4000000 in
set_option maxRecDepth 20000 in
theorem w_X8_goesWrong_p153 {k : Nat} {rc : Int32 → Int32 → dr_S → Option (Int32 × dr_S)} {kb69 : Int32 → Int32 → Int32 → Int32 → dr_S → Option (Int32 × dr_S)} (E : dr_E p (dr_rm (17 + k + 1)) s0 m args meth c 0 0 A s0.heap D cI cZ ad L cX8_goesWrong 7 RX8 (some .boolean)) (hap : dr_ap ad L) (hN : ∀ x ∈ nd_8, x ∈ L) (hrec : ∀ (x1 : Int32) (x2 : Int32)  (s : dr_S), dr_Mi l D cI cZ ad ln L yX8_goesWrong cX8_goesWrong 7 (some .boolean) (17 + k) [.ref (ad 8), .int x1, .int x2] s (rc x1 x2 s)) (hkb69 : ∀ (x1 : Int32) (x2 : Int32) (x3 : Int32) (x4 : Int32) (s : dr_S), dr_G p l e (dr_rm (17 + k + 1)) s0 m args below meth c 0 0 A s0.heap D cI cZ ad ln L 7 (dr_Zi D cI cZ ad ln L A below args s0 0 0) 69 [(0, .ref (ad 8)), (1, .int x1), (2, .int x2), (3, .int x3), (4, .int x4)] [] s (kb69 x1 x2 x3 x4 s)) : ∀ (x1 : Int32) (x2 : Int32) (x3 : Int32) (x4 : Int32) (s : dr_S), dr_G p l e (dr_rm (17 + k + 1)) s0 m args below meth c 0 0 A s0.heap D cI cZ ad ln L 7 (dr_Zi D cI cZ ad ln L A below args s0 0 0) 153 [(0, .ref (ad 8)), (1, .int x1), (2, .int x2), (3, .int x3), (4, .int x4)] [] s (f_X8_goesWrong_p153 ln rc kb69 x1 x2 x3 x4 s) := by
  intro x1 x2 x3 x4 s
  unfold f_X8_goesWrong_p153
  refine g_iinc E (lv' := []) (lv'' := fun y19 => [(4, .int y19), (0, .ref (ad 8)), (1, .int x1), (2, .int x2), (3, .int x3)]) (v := 1) dX8_goesWrong_153 4 rfl (by decide) (by decide) (fun _ => rfl) (fun y19 => ?_)
  refine g_goto E 69 dX8_goesWrong_156 (by decide) ?_
  refine g_sub [1, 2, 3, 4, 0] rfl ?_
  exact hkb69 x1 x2 x3 y19 s
set_option maxHeartbeats 4000000 in
set_option maxRecDepth 20000 in
theorem w_X8_goesWrong_p95 {k : Nat} {rc : Int32 → Int32 → dr_S → Option (Int32 × dr_S)} {kb69 : Int32 → Int32 → Int32 → Int32 → dr_S → Option (Int32 × dr_S)} (E : dr_E p (dr_rm (17 + k + 1)) s0 m args meth c 0 0 A s0.heap D cI cZ ad L cX8_goesWrong 7 RX8 (some .boolean)) (hap : dr_ap ad L) (hN : ∀ x ∈ nd_8, x ∈ L) (hrec : ∀ (x1 : Int32) (x2 : Int32)  (s : dr_S), dr_Mi l D cI cZ ad ln L yX8_goesWrong cX8_goesWrong 7 (some .boolean) (17 + k) [.ref (ad 8), .int x1, .int x2] s (rc x1 x2 s)) (hkb69 : ∀ (x1 : Int32) (x2 : Int32) (x3 : Int32) (x4 : Int32) (s : dr_S), dr_G p l e (dr_rm (17 + k + 1)) s0 m args below meth c 0 0 A s0.heap D cI cZ ad ln L 7 (dr_Zi D cI cZ ad ln L A below args s0 0 0) 69 [(0, .ref (ad 8)), (1, .int x1), (2, .int x2), (3, .int x3), (4, .int x4)] [] s (kb69 x1 x2 x3 x4 s)) : ∀ (x1 : Int32) (x2 : Int32) (x3 : Int32) (x4 : Int32) (z0 : Int32) (s : dr_S), dr_G p l e (dr_rm (17 + k + 1)) s0 m args below meth c 0 0 A s0.heap D cI cZ ad ln L 7 (dr_Zi D cI cZ ad ln L A below args s0 0 0) 95 [(0, .ref (ad 8)), (1, .int x1), (2, .int x2), (3, .int x3), (4, .int x4)] [.int z0] s (f_X8_goesWrong_p95 ln rc kb69 x1 x2 x3 x4 z0 s) := by
  intro x1 x2 x3 x4 z0 s
  unfold f_X8_goesWrong_p95
  refine g_istore E (lv' := [(5, .int z0), (0, .ref (ad 8)), (1, .int x1), (2, .int x2), (3, .int x3), (4, .int x4)]) dX8_goesWrong_95 (by decide) rfl ?_
  refine g_aload_n E dX8_goesWrong_97 1 rfl ?_
  refine gg_8_26 E (hN 8 (by decide)) dX8_goesWrong_98 ?_
  refine g_iload E dX8_goesWrong_101 0 rfl ?_
  refine g_cVi E [.int z0] rfl (c_X3_isIdle hap (fun x h => hN x (ns_3_8 x h)) z0 s) (hN 3 (by decide)) (by decide) rfl rfl mi_X3_isIdle msl_X3_isIdle mw_X3_isIdle rfl ml_8_46 ⟨by simp only [dr_rm]; omega, by simp only [dr_rm]; omega⟩ (Nat.le_of_ble_eq_true rfl) dX8_goesWrong_103 (fun r11 s10 => ?_)
  refine g_if_ne E 153 dX8_goesWrong_106 (by decide) ?_ ?_
  · refine g_sub [1, 2, 3, 4, 5] rfl ?_
    exact w_X8_goesWrong_p153 E hap hN hrec hkb69 x1 x2 x3 x4 s10
  · refine g_aload_n E dX8_goesWrong_109 1 rfl ?_
    refine gg_8_9 E (hN 8 (by decide)) dX8_goesWrong_110 ?_
    refine g_iload_n E dX8_goesWrong_113 2 rfl ?_
    refine g_iload E dX8_goesWrong_114 0 rfl ?_
    refine g_iastore E (hN 27 (by decide)) (by decide) rfl dX8_goesWrong_116 (fun s12 => ?_)
    refine g_aload_n E dX8_goesWrong_117 1 rfl ?_
    refine gg_8_22 E (hN 8 (by decide)) dX8_goesWrong_118 ?_
    refine g_cVi E [] rfl (c_X2_startTrying hap (fun x h => hN x (ns_2_8 x h))  s12) (hN 2 (by decide)) (by decide) rfl rfl mi_X2_startTrying msl_X2_startTrying mw_X2_startTrying rfl ml_8_60 ⟨by simp only [dr_rm]; omega, by simp only [dr_rm]; omega⟩ (Nat.le_of_ble_eq_true rfl) dX8_goesWrong_121 (fun r14 s13 => ?_)
    refine g_istore E (lv' := [(6, .int r14), (5, .int z0), (0, .ref (ad 8)), (1, .int x1), (2, .int x2), (3, .int x3), (4, .int x4)]) dX8_goesWrong_124 (by decide) rfl ?_
    refine g_aload_n E dX8_goesWrong_126 2 rfl ?_
    refine gg_8_34 E (hN 8 (by decide)) dX8_goesWrong_127 ?_
    refine g_iload E dX8_goesWrong_130 1 rfl ?_
    refine g_cVv E [.int z0] rfl (c_X10_go hap (fun x h => hN x (ns_10_8 x h)) z0 s13) (hN 10 (by decide)) (by decide) rfl rfl mi_X10_go msl_X10_go mw_X10_go rfl ml_8_66 ⟨by simp only [dr_rm]; omega, by simp only [dr_rm]; omega⟩ (Nat.le_of_ble_eq_true rfl) dX8_goesWrong_132 (fun s15 => ?_)
    refine g_aload_n E dX8_goesWrong_135 2 rfl ?_
    refine g_iload_n E dX8_goesWrong_136 3 rfl ?_
    refine g_iconst E (v := 1) dX8_goesWrong_137 (by decide) ?_
    refine g_iadd E dX8_goesWrong_138 ?_
    refine g_iload_n E dX8_goesWrong_139 4 rfl ?_
    refine g_cVi E [.int (x1 + 1), .int x2] rfl (hrec ((x1 + 1)) x2 s15) (hN 8 (by decide)) (by decide) rfl rfl mi_X8_goesWrong msl_X8_goesWrong mw_X8_goesWrong rfl ml_8_56 ⟨by simp only [dr_rm]; omega, by simp only [dr_rm]; omega⟩ (Nat.le_of_ble_eq_true rfl) dX8_goesWrong_140 (fun r17 s16 => ?_)
    refine g_istore_n E (lv' := [(3, .int r17), (6, .int r14), (5, .int z0), (0, .ref (ad 8)), (1, .int x1), (2, .int x2), (4, .int x4)]) dX8_goesWrong_143 (by decide) rfl ?_
    refine g_aload_n E dX8_goesWrong_144 3 rfl ?_
    refine gg_8_22 E (hN 8 (by decide)) dX8_goesWrong_145 ?_
    refine g_iload E dX8_goesWrong_148 1 rfl ?_
    refine g_cVv E [.int r14] rfl (c_X2_takeBack hap (fun x h => hN x (ns_2_8 x h)) r14 s16) (hN 2 (by decide)) (by decide) rfl rfl mi_X2_takeBack msl_X2_takeBack mw_X2_takeBack rfl ml_8_72 ⟨by simp only [dr_rm]; omega, by simp only [dr_rm]; omega⟩ (Nat.le_of_ble_eq_true rfl) dX8_goesWrong_150 (fun s18 => ?_)
    refine g_sub [3, 4, 5, 0, 6] rfl ?_
    exact w_X8_goesWrong_p153 E hap hN hrec hkb69 x1 x2 r17 x4 s18
set_option maxHeartbeats 4000000 in
set_option maxRecDepth 20000 in
theorem w_X8_goesWrong_p69 {k : Nat} {rc : Int32 → Int32 → dr_S → Option (Int32 × dr_S)} (E : dr_E p (dr_rm (17 + k + 1)) s0 m args meth c 0 0 A s0.heap D cI cZ ad L cX8_goesWrong 7 RX8 (some .boolean)) (hap : dr_ap ad L) (hN : ∀ x ∈ nd_8, x ∈ L) (hrec : ∀ (x1 : Int32) (x2 : Int32)  (s : dr_S), dr_Mi l D cI cZ ad ln L yX8_goesWrong cX8_goesWrong 7 (some .boolean) (17 + k) [.ref (ad 8), .int x1, .int x2] s (rc x1 x2 s)) : ∀ (n : Nat) (x1 : Int32) (x2 : Int32) (x3 : Int32) (x4 : Int32) (s : dr_S), dr_G p l e (dr_rm (17 + k + 1)) s0 m args below meth c 0 0 A s0.heap D cI cZ ad ln L 7 (dr_Zi D cI cZ ad ln L A below args s0 0 0) 69 [(0, .ref (ad 8)), (1, .int x1), (2, .int x2), (3, .int x3), (4, .int x4)] [] s (f_X8_goesWrong_p69 ln rc n x1 x2 x3 x4 s) := by
  intro n
  induction n with
  | zero =>
    intro x1 x2 x3 x4 s
    rw [f_X8_goesWrong_p69]
    exact g_none
  | succ n hkb69 =>
    intro x1 x2 x3 x4 s
    rw [f_X8_goesWrong_p69]
    refine g_iload E dX8_goesWrong_69 4 rfl ?_
    refine g_iconst E (v := 2) dX8_goesWrong_71 (by decide) ?_
    refine g_icmp_ge E 159 dX8_goesWrong_72 (by decide) ?_ ?_
    · refine g_iload_n E dX8_goesWrong_159 3 rfl ?_
      exact g_zretV E dX8_goesWrong_160
    · refine g_iload_n E dX8_goesWrong_75 3 rfl ?_
      refine g_if_ne E 159 dX8_goesWrong_76 (by decide) ?_ ?_
      · refine g_iload_n E dX8_goesWrong_159 3 rfl ?_
        exact g_zretV E dX8_goesWrong_160
      · refine g_iload E dX8_goesWrong_79 4 rfl ?_
        refine g_if_ne E 91 dX8_goesWrong_81 (by decide) ?_ ?_
        · refine g_aload_n E dX8_goesWrong_91 0 rfl ?_
          refine gg_8_19 E (hN 8 (by decide)) dX8_goesWrong_92 ?_
          refine g_sub [0, 1, 2, 3, 4] rfl ?_
          exact w_X8_goesWrong_p95 E hap hN hrec hkb69 x1 x2 x3 x4 ((s.2 808)) s
        · refine g_aload_n E dX8_goesWrong_84 0 rfl ?_
          refine gg_8_15 E (hN 8 (by decide)) dX8_goesWrong_85 ?_
          refine g_goto E 95 dX8_goesWrong_88 (by decide) ?_
          refine g_sub [0, 1, 2, 3, 4] rfl ?_
          exact w_X8_goesWrong_p95 E hap hN hrec hkb69 x1 x2 x3 x4 ((s.2 807)) s
set_option maxHeartbeats 4000000 in
set_option maxRecDepth 20000 in
theorem w_X8_goesWrong_p64 {k : Nat} {rc : Int32 → Int32 → dr_S → Option (Int32 × dr_S)} (E : dr_E p (dr_rm (17 + k + 1)) s0 m args meth c 0 0 A s0.heap D cI cZ ad L cX8_goesWrong 7 RX8 (some .boolean)) (hap : dr_ap ad L) (hN : ∀ x ∈ nd_8, x ∈ L) (hrec : ∀ (x1 : Int32) (x2 : Int32)  (s : dr_S), dr_Mi l D cI cZ ad ln L yX8_goesWrong cX8_goesWrong 7 (some .boolean) (17 + k) [.ref (ad 8), .int x1, .int x2] s (rc x1 x2 s)) : ∀ (x1 : Int32) (x2 : Int32) (s : dr_S), dr_G p l e (dr_rm (17 + k + 1)) s0 m args below meth c 0 0 A s0.heap D cI cZ ad ln L 7 (dr_Zi D cI cZ ad ln L A below args s0 0 0) 64 [(0, .ref (ad 8)), (1, .int x1), (2, .int x2)] [] s (f_X8_goesWrong_p64 ln rc x1 x2 s) := by
  intro x1 x2 s
  unfold f_X8_goesWrong_p64
  refine g_iconst E (v := 0) dX8_goesWrong_64 (by decide) ?_
  refine g_istore_n E (lv' := [(3, .int 0), (0, .ref (ad 8)), (1, .int x1), (2, .int x2)]) dX8_goesWrong_65 (by decide) rfl ?_
  refine g_iconst E (v := 0) dX8_goesWrong_66 (by decide) ?_
  refine g_istore E (lv' := [(4, .int 0), (3, .int 0), (0, .ref (ad 8)), (1, .int x1), (2, .int x2)]) dX8_goesWrong_67 (by decide) rfl ?_
  refine g_sub [2, 3, 4, 1, 0] rfl ?_
  exact w_X8_goesWrong_p69 E hap hN hrec dr_N x1 x2 0 0 s
set_option maxHeartbeats 4000000 in
set_option maxRecDepth 20000 in
theorem w_X8_goesWrong_p15 {k : Nat} {rc : Int32 → Int32 → dr_S → Option (Int32 × dr_S)} (E : dr_E p (dr_rm (17 + k + 1)) s0 m args meth c 0 0 A s0.heap D cI cZ ad L cX8_goesWrong 7 RX8 (some .boolean)) (hap : dr_ap ad L) (hN : ∀ x ∈ nd_8, x ∈ L) (hrec : ∀ (x1 : Int32) (x2 : Int32)  (s : dr_S), dr_Mi l D cI cZ ad ln L yX8_goesWrong cX8_goesWrong 7 (some .boolean) (17 + k) [.ref (ad 8), .int x1, .int x2] s (rc x1 x2 s)) : ∀ (s : dr_S), dr_G p l e (dr_rm (17 + k + 1)) s0 m args below meth c 0 0 A s0.heap D cI cZ ad ln L 7 (dr_Zi D cI cZ ad ln L A below args s0 0 0) 15 [(0, .ref (ad 8))] [] s (f_X8_goesWrong_p15 ln rc  s) := by
  intro s
  unfold f_X8_goesWrong_p15
  refine g_aload_n E dX8_goesWrong_15 0 rfl ?_
  refine g_cVi E [] rfl (c_X8_isWrongNow hap hN  s) (hN 8 (by decide)) (by decide) rfl rfl mi_X8_isWrongNow msl_X8_isWrongNow mw_X8_isWrongNow rfl ml_8_52 ⟨by simp only [dr_rm]; omega, by simp only [dr_rm]; omega⟩ (Nat.le_of_ble_eq_true rfl) dX8_goesWrong_16 (fun r9 s8 => ?_)
  exact g_zretV E dX8_goesWrong_19
set_option maxHeartbeats 4000000 in
set_option maxRecDepth 20000 in
theorem c_X8_goesWrong_b {k : Nat} {rc : Int32 → Int32 → dr_S → Option (Int32 × dr_S)} (hap : dr_ap ad L) (hN : ∀ x ∈ nd_8, x ∈ L) (hrec : ∀ (x1 : Int32) (x2 : Int32)  (s : dr_S), dr_Mi l D cI cZ ad ln L yX8_goesWrong cX8_goesWrong 7 (some .boolean) (17 + k) [.ref (ad 8), .int x1, .int x2] s (rc x1 x2 s)) (x1 : Int32) (x2 : Int32) (s : dr_S) : dr_Mi l D cI cZ ad ln L yX8_goesWrong cX8_goesWrong 7 (some .boolean) (17 + k + 1) [.ref (ad 8), .int x1, .int x2] s (f_X8_goesWrong_b ln rc x1 x2 s) := by
  refine dr_meti (own := RX8) (by decide) rfl (Nat.le_of_ble_eq_true rfl) hap ?_
  intro p e s0 m args below meth c A E
  unfold f_X8_goesWrong_b
  refine g_eqL (lv' := [(0, .ref (ad 8)), (1, .int x1), (2, .int x2)]) rfl ?_
  refine g_iload_n E dX8_goesWrong_0 1 rfl ?_
  refine g_if_lt E 15 dX8_goesWrong_1 (by decide) ?_ ?_
  · refine g_sub [0] rfl ?_
    exact w_X8_goesWrong_p15 E hap hN hrec  s
  · refine g_iload_n E dX8_goesWrong_4 1 rfl ?_
    refine g_iload_n E dX8_goesWrong_5 2 rfl ?_
    refine g_icmp_ge E 15 dX8_goesWrong_6 (by decide) ?_ ?_
    · refine g_sub [0] rfl ?_
      exact w_X8_goesWrong_p15 E hap hN hrec  s
    · refine g_iload_n E dX8_goesWrong_9 1 rfl ?_
      refine g_bipush E (v := 8) dX8_goesWrong_10 (by decide) ?_
      refine g_icmp_lt E 20 dX8_goesWrong_12 (by decide) ?_ ?_
      · refine g_aload_n E dX8_goesWrong_20 0 rfl ?_
        refine gg_8_26 E (hN 8 (by decide)) dX8_goesWrong_21 ?_
        refine g_aload_n E dX8_goesWrong_24 0 rfl ?_
        refine gg_8_15 E (hN 8 (by decide)) dX8_goesWrong_25 ?_
        refine g_cVi E [.int (s.2 807)] rfl (c_X3_isIdle hap (fun x h => hN x (ns_3_8 x h)) ((s.2 807)) s) (hN 3 (by decide)) (by decide) rfl rfl mi_X3_isIdle msl_X3_isIdle mw_X3_isIdle rfl ml_8_46 ⟨by simp only [dr_rm]; omega, by simp only [dr_rm]; omega⟩ (Nat.le_of_ble_eq_true rfl) dX8_goesWrong_28 (fun r2 s1 => ?_)
        refine g_if_eq E 64 dX8_goesWrong_31 (by decide) ?_ ?_
        · refine g_sub [0, 1, 2] rfl ?_
          exact w_X8_goesWrong_p64 E hap hN hrec x1 x2 s1
        · refine g_aload_n E dX8_goesWrong_34 0 rfl ?_
          refine gg_8_26 E (hN 8 (by decide)) dX8_goesWrong_35 ?_
          refine g_aload_n E dX8_goesWrong_38 0 rfl ?_
          refine gg_8_19 E (hN 8 (by decide)) dX8_goesWrong_39 ?_
          refine g_cVi E [.int (s1.2 808)] rfl (c_X3_isIdle hap (fun x h => hN x (ns_3_8 x h)) ((s1.2 808)) s1) (hN 3 (by decide)) (by decide) rfl rfl mi_X3_isIdle msl_X3_isIdle mw_X3_isIdle rfl ml_8_46 ⟨by simp only [dr_rm]; omega, by simp only [dr_rm]; omega⟩ (Nat.le_of_ble_eq_true rfl) dX8_goesWrong_42 (fun r4 s3 => ?_)
          refine g_if_eq E 64 dX8_goesWrong_45 (by decide) ?_ ?_
          · refine g_sub [0, 1, 2] rfl ?_
            exact w_X8_goesWrong_p64 E hap hN hrec x1 x2 s3
          · refine g_aload_n E dX8_goesWrong_48 0 rfl ?_
            refine gg_8_9 E (hN 8 (by decide)) dX8_goesWrong_49 ?_
            refine g_iload_n E dX8_goesWrong_52 1 rfl ?_
            refine g_iconst E (v := (-1)) dX8_goesWrong_53 (by decide) ?_
            refine g_iastore E (hN 27 (by decide)) (by decide) rfl dX8_goesWrong_54 (fun s5 => ?_)
            refine g_aload_n E dX8_goesWrong_55 0 rfl ?_
            refine g_iload_n E dX8_goesWrong_56 1 rfl ?_
            refine g_iconst E (v := 1) dX8_goesWrong_57 (by decide) ?_
            refine g_iadd E dX8_goesWrong_58 ?_
            refine g_iload_n E dX8_goesWrong_59 2 rfl ?_
            refine g_cVi E [.int (x1 + 1), .int x2] rfl (hrec ((x1 + 1)) x2 s5) (hN 8 (by decide)) (by decide) rfl rfl mi_X8_goesWrong msl_X8_goesWrong mw_X8_goesWrong rfl ml_8_56 ⟨by simp only [dr_rm]; omega, by simp only [dr_rm]; omega⟩ (Nat.le_of_ble_eq_true rfl) dX8_goesWrong_60 (fun r7 s6 => ?_)
            exact g_zretV E dX8_goesWrong_63
      · refine g_sub [0] rfl ?_
        exact w_X8_goesWrong_p15 E hap hN hrec  s
theorem c_X8_goesWrong (hap : dr_ap ad L) (hN : ∀ x ∈ nd_8, x ∈ L) : ∀ (k : Nat) (x1 : Int32) (x2 : Int32) (s : dr_S), dr_Mi l D cI cZ ad ln L yX8_goesWrong cX8_goesWrong 7 (some .boolean) (17 + k) [.ref (ad 8), .int x1, .int x2] s (f_X8_goesWrong ln k x1 x2 s) := by
  intro k
  induction k with
  | zero =>
    intro x1 x2 s r s' h
    rw [f_X8_goesWrong] at h
    cases h
  | succ k ih =>
    intro x1 x2 s
    rw [f_X8_goesWrong]
    exact c_X8_goesWrong_b hap hN ih x1 x2 s
end

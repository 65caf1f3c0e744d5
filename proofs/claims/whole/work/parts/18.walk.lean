theorem dX10_climb_0 : decode cX10_climb 0 = .ok (.aload_n 0, 1) := by decide +kernel
theorem dX10_climb_1 : decode cX10_climb 1 = .ok (.getfield 15, 3) := by decide +kernel
theorem dX10_climb_4 : decode cX10_climb 4 = .ok (.iload_n 1, 1) := by decide +kernel
theorem dX10_climb_5 : decode cX10_climb 5 = .ok (.iconst 1, 1) := by decide +kernel
theorem dX10_climb_6 : decode cX10_climb 6 = .ok (.invokevirtual 25, 3) := by decide +kernel
theorem dX10_climb_9 : decode cX10_climb 9 = .ok (.istore_n 2, 1) := by decide +kernel
theorem dX10_climb_10 : decode cX10_climb 10 = .ok (.iload_n 2, 1) := by decide +kernel
theorem dX10_climb_11 : decode cX10_climb 11 = .ok (.aload_n 0, 1) := by decide +kernel
theorem dX10_climb_12 : decode cX10_climb 12 = .ok (.getfield 9, 3) := by decide +kernel
theorem dX10_climb_15 : decode cX10_climb 15 = .ok (.invokevirtual 123, 3) := by decide +kernel
theorem dX10_climb_18 : decode cX10_climb 18 = .ok (.if_icmp .ne 42, 3) := by decide +kernel
theorem dX10_climb_21 : decode cX10_climb 21 = .ok (.aload_n 0, 1) := by decide +kernel
theorem dX10_climb_22 : decode cX10_climb 22 = .ok (.getfield 9, 3) := by decide +kernel
theorem dX10_climb_25 : decode cX10_climb 25 = .ok (.iload_n 2, 1) := by decide +kernel
theorem dX10_climb_26 : decode cX10_climb 26 = .ok (.aload_n 0, 1) := by decide +kernel
theorem dX10_climb_27 : decode cX10_climb 27 = .ok (.getfield 15, 3) := by decide +kernel
theorem dX10_climb_30 : decode cX10_climb 30 = .ok (.iload_n 1, 1) := by decide +kernel
theorem dX10_climb_31 : decode cX10_climb 31 = .ok (.iconst 3, 1) := by decide +kernel
theorem dX10_climb_32 : decode cX10_climb 32 = .ok (.invokevirtual 25, 3) := by decide +kernel
theorem dX10_climb_35 : decode cX10_climb 35 = .ok (.aload_n 0, 1) := by decide +kernel
theorem dX10_climb_36 : decode cX10_climb 36 = .ok (.getfield 15, 3) := by decide +kernel
theorem dX10_climb_39 : decode cX10_climb 39 = .ok (.iload_n 1, 1) := by decide +kernel
theorem dX10_climb_40 : decode cX10_climb 40 = .ok (.iconst 4, 1) := by decide +kernel
theorem dX10_climb_41 : decode cX10_climb 41 = .ok (.invokevirtual 25, 3) := by decide +kernel
theorem dX10_climb_44 : decode cX10_climb 44 = .ok (.invokevirtual 126, 3) := by decide +kernel
theorem dX10_climb_47 : decode cX10_climb 47 = .ok (.aload_n 0, 1) := by decide +kernel
theorem dX10_climb_48 : decode cX10_climb 48 = .ok (.iload_n 1, 1) := by decide +kernel
theorem dX10_climb_49 : decode cX10_climb 49 = .ok (.iload_n 2, 1) := by decide +kernel
theorem dX10_climb_50 : decode cX10_climb 50 = .ok (.invokevirtual 100, 3) := by decide +kernel
theorem dX10_climb_53 : decode cX10_climb 53 = .ok (.aload_n 0, 1) := by decide +kernel
theorem dX10_climb_54 : decode cX10_climb 54 = .ok (.iload_n 1, 1) := by decide +kernel
theorem dX10_climb_55 : decode cX10_climb 55 = .ok (.iconst 1, 1) := by decide +kernel
theorem dX10_climb_56 : decode cX10_climb 56 = .ok (.invokevirtual 74, 3) := by decide +kernel
theorem dX10_climb_59 : decode cX10_climb 59 = .ok (.return_, 1) := by decide +kernel
theorem dX10_climb_60 : decode cX10_climb 60 = .ok (.aload_n 0, 1) := by decide +kernel
theorem dX10_climb_61 : decode cX10_climb 61 = .ok (.getfield 9, 3) := by decide +kernel
theorem dX10_climb_64 : decode cX10_climb 64 = .ok (.iload_n 2, 1) := by decide +kernel
theorem dX10_climb_65 : decode cX10_climb 65 = .ok (.iconst 0, 1) := by decide +kernel
theorem dX10_climb_66 : decode cX10_climb 66 = .ok (.invokevirtual 49, 3) := by decide +kernel
theorem dX10_climb_69 : decode cX10_climb 69 = .ok (.iconst 1, 1) := by decide +kernel
theorem dX10_climb_70 : decode cX10_climb 70 = .ok (.iadd, 1) := by decide +kernel
theorem dX10_climb_71 : decode cX10_climb 71 = .ok (.istore_n 3, 1) := by decide +kernel
theorem dX10_climb_72 : decode cX10_climb 72 = .ok (.aload_n 0, 1) := by decide +kernel
theorem dX10_climb_73 : decode cX10_climb 73 = .ok (.getfield 15, 3) := by decide +kernel
theorem dX10_climb_76 : decode cX10_climb 76 = .ok (.iload_n 1, 1) := by decide +kernel
theorem dX10_climb_77 : decode cX10_climb 77 = .ok (.iload_n 3, 1) := by decide +kernel
theorem dX10_climb_78 : decode cX10_climb 78 = .ok (.invokevirtual 129, 3) := by decide +kernel
theorem dX10_climb_81 : decode cX10_climb 81 = .ok (.istore 4, 2) := by decide +kernel
theorem dX10_climb_83 : decode cX10_climb 83 = .ok (.aload_n 0, 1) := by decide +kernel
theorem dX10_climb_84 : decode cX10_climb 84 = .ok (.iload_n 1, 1) := by decide +kernel
theorem dX10_climb_85 : decode cX10_climb 85 = .ok (.iload 4, 2) := by decide +kernel
theorem dX10_climb_87 : decode cX10_climb 87 = .ok (.iconst (-1), 1) := by decide +kernel
theorem dX10_climb_88 : decode cX10_climb 88 = .ok (.if_icmp .ne 14, 3) := by decide +kernel
theorem dX10_climb_91 : decode cX10_climb 91 = .ok (.aload_n 0, 1) := by decide +kernel
theorem dX10_climb_92 : decode cX10_climb 92 = .ok (.getfield 9, 3) := by decide +kernel
theorem dX10_climb_95 : decode cX10_climb 95 = .ok (.iload_n 3, 1) := by decide +kernel
theorem dX10_climb_96 : decode cX10_climb 96 = .ok (.invokevirtual 132, 3) := by decide +kernel
theorem dX10_climb_99 : decode cX10_climb 99 = .ok (.goto 5, 3) := by decide +kernel
theorem dX10_climb_102 : decode cX10_climb 102 = .ok (.iload 4, 2) := by decide +kernel
theorem dX10_climb_104 : decode cX10_climb 104 = .ok (.invokevirtual 91, 3) := by decide +kernel
theorem dX10_climb_107 : decode cX10_climb 107 = .ok (.return_, 1) := by decide +kernel
def f_X10_climb_p104 (ln : Nat → Nat) (z0 : Int32) (z1 : Int32) (s : dr_S) : Option (Int32 × dr_S) := dr_bndv (f_X10_moveTo ln z1 z0 s) (fun s19 => some (0, s19))
def f_X10_climb (ln : Nat → Nat) (x1 : Int32) (s : dr_S) : Option (Int32 × dr_S) := dr_bnd (f_X3_get ln x1 1 s) (fun r2 s1 => dr_bnd (f_X4_top ln  s1) (fun r4 s3 => (if r2 = r4 then dr_bnd (f_X3_get ln x1 3 s3) (fun r13 s12 => dr_bnd (f_X3_get ln x1 4 s12) (fun r15 s14 => dr_bndv (f_X4_raise ln r2 r13 r15 s14) (fun s16 => dr_bndv (f_X10_letGo ln x1 r2 s16) (fun s17 => dr_bndv (f_X10_end ln x1 1 s17) (fun s18 => some (0, s18)))))) else dr_bnd (f_X4_get ln r2 0 s3) (fun r6 s5 => dr_let (r6 + 1) (fun y7 => dr_bnd (f_X3_path ln x1 y7 s5) (fun r9 s8 => (if r9 = (-1) then dr_bnd (f_X4_firstOf ln y7 s8) (fun r11 s10 => (f_X10_climb_p104 ln r11 x1 s10)) else (f_X10_climb_p104 ln r9 x1 s8))))))))
section
variable {p : Program} {l : Launch} {e : Env} {s0 : State} {m : MethodId} {args : Array Value} {below : List Frame} {meth : Method} {c : Code} {A : Nat → Prop} {D : va_G} {cI cZ : ClassId} {ad ln : Nat → Nat} {L : List Nat}
set_option maxHeartbeats 4000000 in
set_option maxRecDepth 20000 in
theorem w_X10_climb_p104 (E : dr_E p (dr_rm 4) s0 m args meth c 0 0 A s0.heap D cI cZ ad L cX10_climb 5 RX10 none) (hap : dr_ap ad L) (hN : ∀ x ∈ nd_10, x ∈ L) : ∀ (z0 : Int32) (z1 : Int32) (s : dr_S), dr_G p l e (dr_rm 4) s0 m args below meth c 0 0 A s0.heap D cI cZ ad ln L 5 (dr_Zv D cI cZ ad ln L A below args s0 0 0) 104 [] [.int z0, .int z1, .ref (ad 10)] s (f_X10_climb_p104 ln z0 z1 s) := by
  intro z0 z1 s
  unfold f_X10_climb_p104
  refine g_cVv E [.int z1, .int z0] rfl (c_X10_moveTo hap hN z1 z0 s) (hN 10 (by decide)) (by decide) rfl rfl mi_X10_moveTo msl_X10_moveTo mw_X10_moveTo rfl ml_10_91 ⟨Nat.le_of_ble_eq_true rfl, Nat.le_of_ble_eq_true rfl⟩ (Nat.le_of_ble_eq_true rfl) dX10_climb_104 (fun s19 => ?_)
  exact g_vret E dX10_climb_107
set_option maxHeartbeats 4000000 in
set_option maxRecDepth 20000 in
theorem c_X10_climb (hap : dr_ap ad L) (hN : ∀ x ∈ nd_10, x ∈ L) (x1 : Int32) (s : dr_S) : dr_Mv l D cI cZ ad ln L yX10_climb cX10_climb 5 4 [.ref (ad 10), .int x1] s (f_X10_climb ln x1 s) := by
  refine dr_metv (own := RX10) (by decide) rfl (Nat.le_of_ble_eq_true rfl) hap ?_
  intro p e s0 m args below meth c A E
  unfold f_X10_climb
  refine g_eqL (lv' := [(0, .ref (ad 10)), (1, .int x1)]) rfl ?_
  refine g_aload_n E dX10_climb_0 0 rfl ?_
  refine gg_10_15 E (hN 10 (by decide)) dX10_climb_1 ?_
  refine g_iload_n E dX10_climb_4 1 rfl ?_
  refine g_iconst E (v := 1) dX10_climb_5 (by decide) ?_
  refine g_cVi E [.int x1, .int 1] rfl (c_X3_get hap (fun x h => hN x (ns_3_10 x h)) x1 1 s) (hN 3 (by decide)) (by decide) rfl rfl mi_X3_get msl_X3_get mw_X3_get rfl ml_10_25 ⟨Nat.le_of_ble_eq_true rfl, Nat.le_of_ble_eq_true rfl⟩ (Nat.le_of_ble_eq_true rfl) dX10_climb_6 (fun r2 s1 => ?_)
  refine g_istore_n E (lv' := [(2, .int r2), (0, .ref (ad 10)), (1, .int x1)]) dX10_climb_9 (by decide) rfl ?_
  refine g_iload_n E dX10_climb_10 0 rfl ?_
  refine g_aload_n E dX10_climb_11 1 rfl ?_
  refine gg_10_9 E (hN 10 (by decide)) dX10_climb_12 ?_
  refine g_cVi E [] rfl (c_X4_top hap (fun x h => hN x (ns_4_10 x h))  s1) (hN 4 (by decide)) (by decide) rfl rfl mi_X4_top msl_X4_top mw_X4_top rfl ml_10_123 ⟨Nat.le_of_ble_eq_true rfl, Nat.le_of_ble_eq_true rfl⟩ (Nat.le_of_ble_eq_true rfl) dX10_climb_15 (fun r4 s3 => ?_)
  refine g_icmp_ne E 60 dX10_climb_18 (by decide) ?_ ?_
  · refine g_aload_n E dX10_climb_60 1 rfl ?_
    refine gg_10_9 E (hN 10 (by decide)) dX10_climb_61 ?_
    refine g_iload_n E dX10_climb_64 0 rfl ?_
    refine g_iconst E (v := 0) dX10_climb_65 (by decide) ?_
    refine g_cVi E [.int r2, .int 0] rfl (c_X4_get hap (fun x h => hN x (ns_4_10 x h)) r2 0 s3) (hN 4 (by decide)) (by decide) rfl rfl mi_X4_get msl_X4_get mw_X4_get rfl ml_10_49 ⟨Nat.le_of_ble_eq_true rfl, Nat.le_of_ble_eq_true rfl⟩ (Nat.le_of_ble_eq_true rfl) dX10_climb_66 (fun r6 s5 => ?_)
    refine g_iconst E (v := 1) dX10_climb_69 (by decide) ?_
    refine g_iadd E dX10_climb_70 ?_
    refine g_let (fun y7 => ?_)
    refine g_istore_n E (lv' := [(3, .int y7), (2, .int r2), (0, .ref (ad 10)), (1, .int x1)]) dX10_climb_71 (by decide) rfl ?_
    refine g_aload_n E dX10_climb_72 2 rfl ?_
    refine gg_10_15 E (hN 10 (by decide)) dX10_climb_73 ?_
    refine g_iload_n E dX10_climb_76 3 rfl ?_
    refine g_iload_n E dX10_climb_77 0 rfl ?_
    refine g_cVi E [.int x1, .int y7] rfl (c_X3_path hap (fun x h => hN x (ns_3_10 x h)) x1 y7 s5) (hN 3 (by decide)) (by decide) rfl rfl mi_X3_path msl_X3_path mw_X3_path rfl ml_10_129 ⟨Nat.le_of_ble_eq_true rfl, Nat.le_of_ble_eq_true rfl⟩ (Nat.le_of_ble_eq_true rfl) dX10_climb_78 (fun r9 s8 => ?_)
    refine g_istore E (lv' := [(4, .int r9), (3, .int y7), (2, .int r2), (0, .ref (ad 10)), (1, .int x1)]) dX10_climb_81 (by decide) rfl ?_
    refine g_aload_n E dX10_climb_83 3 rfl ?_
    refine g_iload_n E dX10_climb_84 4 rfl ?_
    refine g_iload E dX10_climb_85 0 rfl ?_
    refine g_iconst E (v := (-1)) dX10_climb_87 (by decide) ?_
    refine g_icmp_ne E 102 dX10_climb_88 (by decide) ?_ ?_
    · refine g_iload E dX10_climb_102 0 rfl ?_
      refine g_sub [] rfl ?_
      exact w_X10_climb_p104 E hap hN r9 x1 s8
    · refine g_aload_n E dX10_climb_91 3 rfl ?_
      refine gg_10_9 E (hN 10 (by decide)) dX10_climb_92 ?_
      refine g_iload_n E dX10_climb_95 1 rfl ?_
      refine g_cVi E [.int y7] rfl (c_X4_firstOf hap (fun x h => hN x (ns_4_10 x h)) y7 s8) (hN 4 (by decide)) (by decide) rfl rfl mi_X4_firstOf msl_X4_firstOf mw_X4_firstOf rfl ml_10_132 ⟨Nat.le_of_ble_eq_true rfl, Nat.le_of_ble_eq_true rfl⟩ (Nat.le_of_ble_eq_true rfl) dX10_climb_96 (fun r11 s10 => ?_)
      refine g_goto E 104 dX10_climb_99 (by decide) ?_
      refine g_sub [] rfl ?_
      exact w_X10_climb_p104 E hap hN r11 x1 s10
  · refine g_aload_n E dX10_climb_21 1 rfl ?_
    refine gg_10_9 E (hN 10 (by decide)) dX10_climb_22 ?_
    refine g_iload_n E dX10_climb_25 0 rfl ?_
    refine g_aload_n E dX10_climb_26 1 rfl ?_
    refine gg_10_15 E (hN 10 (by decide)) dX10_climb_27 ?_
    refine g_iload_n E dX10_climb_30 2 rfl ?_
    refine g_iconst E (v := 3) dX10_climb_31 (by decide) ?_
    refine g_cVi E [.int x1, .int 3] rfl (c_X3_get hap (fun x h => hN x (ns_3_10 x h)) x1 3 s3) (hN 3 (by decide)) (by decide) rfl rfl mi_X3_get msl_X3_get mw_X3_get rfl ml_10_25 ⟨Nat.le_of_ble_eq_true rfl, Nat.le_of_ble_eq_true rfl⟩ (Nat.le_of_ble_eq_true rfl) dX10_climb_32 (fun r13 s12 => ?_)
    refine g_aload_n E dX10_climb_35 1 rfl ?_
    refine gg_10_15 E (hN 10 (by decide)) dX10_climb_36 ?_
    refine g_iload_n E dX10_climb_39 2 rfl ?_
    refine g_iconst E (v := 4) dX10_climb_40 (by decide) ?_
    refine g_cVi E [.int x1, .int 4] rfl (c_X3_get hap (fun x h => hN x (ns_3_10 x h)) x1 4 s12) (hN 3 (by decide)) (by decide) rfl rfl mi_X3_get msl_X3_get mw_X3_get rfl ml_10_25 ⟨Nat.le_of_ble_eq_true rfl, Nat.le_of_ble_eq_true rfl⟩ (Nat.le_of_ble_eq_true rfl) dX10_climb_41 (fun r15 s14 => ?_)
    refine g_cVv E [.int r2, .int r13, .int r15] rfl (c_X4_raise hap (fun x h => hN x (ns_4_10 x h)) r2 r13 r15 s14) (hN 4 (by decide)) (by decide) rfl rfl mi_X4_raise msl_X4_raise mw_X4_raise rfl ml_10_126 ⟨Nat.le_of_ble_eq_true rfl, Nat.le_of_ble_eq_true rfl⟩ (Nat.le_of_ble_eq_true rfl) dX10_climb_44 (fun s16 => ?_)
    refine g_aload_n E dX10_climb_47 1 rfl ?_
    refine g_iload_n E dX10_climb_48 2 rfl ?_
    refine g_iload_n E dX10_climb_49 0 rfl ?_
    refine g_cVv E [.int x1, .int r2] rfl (c_X10_letGo hap hN x1 r2 s16) (hN 10 (by decide)) (by decide) rfl rfl mi_X10_letGo msl_X10_letGo mw_X10_letGo rfl ml_10_100 ⟨Nat.le_of_ble_eq_true rfl, Nat.le_of_ble_eq_true rfl⟩ (Nat.le_of_ble_eq_true rfl) dX10_climb_50 (fun s17 => ?_)
    refine g_aload_n E dX10_climb_53 1 rfl ?_
    refine g_iload_n E dX10_climb_54 2 rfl ?_
    refine g_iconst E (v := 1) dX10_climb_55 (by decide) ?_
    refine g_cVv E [.int x1, .int 1] rfl (c_X10_end hap hN x1 1 s17) (hN 10 (by decide)) (by decide) rfl rfl mi_X10_end msl_X10_end mw_X10_end rfl ml_10_74 ⟨Nat.le_of_ble_eq_true rfl, Nat.le_of_ble_eq_true rfl⟩ (Nat.le_of_ble_eq_true rfl) dX10_climb_56 (fun s18 => ?_)
    exact g_vret E dX10_climb_59
end

theorem dX10_go_0 : decode cX10_go 0 = .ok (.aload_n 0, 1) := by decide +kernel
theorem dX10_go_1 : decode cX10_go 1 = .ok (.getfield 19, 3) := by decide +kernel
theorem dX10_go_4 : decode cX10_go 4 = .ok (.aload_n 0, 1) := by decide +kernel
theorem dX10_go_5 : decode cX10_go 5 = .ok (.getfield 15, 3) := by decide +kernel
theorem dX10_go_8 : decode cX10_go 8 = .ok (.iload_n 1, 1) := by decide +kernel
theorem dX10_go_9 : decode cX10_go 9 = .ok (.iconst 2, 1) := by decide +kernel
theorem dX10_go_10 : decode cX10_go 10 = .ok (.invokevirtual 25, 3) := by decide +kernel
theorem dX10_go_13 : decode cX10_go 13 = .ok (.invokevirtual 29, 3) := by decide +kernel
theorem dX10_go_16 : decode cX10_go 16 = .ok (.aload_n 0, 1) := by decide +kernel
theorem dX10_go_17 : decode cX10_go 17 = .ok (.getfield 15, 3) := by decide +kernel
theorem dX10_go_20 : decode cX10_go 20 = .ok (.iload_n 1, 1) := by decide +kernel
theorem dX10_go_21 : decode cX10_go 21 = .ok (.iconst 0, 1) := by decide +kernel
theorem dX10_go_22 : decode cX10_go 22 = .ok (.invokevirtual 25, 3) := by decide +kernel
theorem dX10_go_25 : decode cX10_go 25 = .ok (.tableswitch 63 1 4 #[31, 39, 47, 55], 31) := by decide +kernel
theorem dX10_go_56 : decode cX10_go 56 = .ok (.aload_n 0, 1) := by decide +kernel
theorem dX10_go_57 : decode cX10_go 57 = .ok (.iload_n 1, 1) := by decide +kernel
theorem dX10_go_58 : decode cX10_go 58 = .ok (.invokevirtual 35, 3) := by decide +kernel
theorem dX10_go_61 : decode cX10_go 61 = .ok (.goto 27, 3) := by decide +kernel
theorem dX10_go_64 : decode cX10_go 64 = .ok (.aload_n 0, 1) := by decide +kernel
theorem dX10_go_65 : decode cX10_go 65 = .ok (.iload_n 1, 1) := by decide +kernel
theorem dX10_go_66 : decode cX10_go 66 = .ok (.invokevirtual 38, 3) := by decide +kernel
theorem dX10_go_69 : decode cX10_go 69 = .ok (.goto 19, 3) := by decide +kernel
theorem dX10_go_72 : decode cX10_go 72 = .ok (.aload_n 0, 1) := by decide +kernel
theorem dX10_go_73 : decode cX10_go 73 = .ok (.iload_n 1, 1) := by decide +kernel
theorem dX10_go_74 : decode cX10_go 74 = .ok (.invokevirtual 41, 3) := by decide +kernel
theorem dX10_go_77 : decode cX10_go 77 = .ok (.goto 11, 3) := by decide +kernel
theorem dX10_go_80 : decode cX10_go 80 = .ok (.aload_n 0, 1) := by decide +kernel
theorem dX10_go_81 : decode cX10_go 81 = .ok (.iload_n 1, 1) := by decide +kernel
theorem dX10_go_82 : decode cX10_go 82 = .ok (.invokevirtual 44, 3) := by decide +kernel
theorem dX10_go_85 : decode cX10_go 85 = .ok (.goto 3, 3) := by decide +kernel
theorem dX10_go_88 : decode cX10_go 88 = .ok (.return_, 1) := by decide +kernel
def f_X10_go (ln : Nat → Nat) (x1 : Int32) (s : dr_S) : Option (Int32 × dr_S) := dr_bnd (f_X3_get ln x1 2 s) (fun r2 s1 => dr_bndv (f_X6_passStep ln r2 s1) (fun s3 => dr_bnd (f_X3_get ln x1 0 s3) (fun r5 s4 => dr_sw r5 1 4 [(dr_bndv (f_X10_read ln x1 s4) (fun s6 => some (0, s6))), (dr_bndv (f_X10_hold ln x1 s4) (fun s7 => some (0, s7))), (dr_bndv (f_X10_write ln x1 s4) (fun s8 => some (0, s8))), (dr_bndv (f_X10_climb ln x1 s4) (fun s9 => some (0, s9)))] (some (0, s4)))))
section
variable {p : Program} {l : Launch} {e : Env} {s0 : State} {m : MethodId} {args : Array Value} {below : List Frame} {meth : Method} {c : Code} {A : Nat → Prop} {D : va_G} {cI cZ : ClassId} {ad ln : Nat → Nat} {L : List Nat}
set_option maxHeartbeats 4000000 in
set_option maxRecDepth 20000 in
theorem c_X10_go (hap : dr_ap ad L) (hN : ∀ x ∈ nd_10, x ∈ L) (x1 : Int32) (s : dr_S) : dr_Mv l D cI cZ ad ln L yX10_go cX10_go 2 5 [.ref (ad 10), .int x1] s (f_X10_go ln x1 s) := by
  refine dr_metv (own := RX10) (by decide) rfl (Nat.le_of_ble_eq_true rfl) hap ?_
  intro p e s0 m args below meth c A E
  unfold f_X10_go
  refine g_eqL (lv' := [(0, .ref (ad 10)), (1, .int x1)]) rfl ?_
  refine g_aload_n E dX10_go_0 0 rfl ?_
  refine gg_10_19 E (hN 10 (by decide)) dX10_go_1 ?_
  refine g_aload_n E dX10_go_4 0 rfl ?_
  refine gg_10_15 E (hN 10 (by decide)) dX10_go_5 ?_
  refine g_iload_n E dX10_go_8 1 rfl ?_
  refine g_iconst E (v := 2) dX10_go_9 (by decide) ?_
  refine g_cVi E [.int x1, .int 2] rfl (c_X3_get hap (fun x h => hN x (ns_3_10 x h)) x1 2 s) (hN 3 (by decide)) (by decide) rfl rfl mi_X3_get msl_X3_get mw_X3_get rfl ml_10_25 ⟨Nat.le_of_ble_eq_true rfl, Nat.le_of_ble_eq_true rfl⟩ (Nat.le_of_ble_eq_true rfl) dX10_go_10 (fun r2 s1 => ?_)
  refine g_cVv E [.int r2] rfl (c_X6_passStep hap (fun x h => hN x (ns_6_10 x h)) r2 s1) (hN 6 (by decide)) (by decide) rfl rfl mi_X6_passStep msl_X6_passStep mw_X6_passStep rfl ml_10_29 ⟨Nat.le_of_ble_eq_true rfl, Nat.le_of_ble_eq_true rfl⟩ (Nat.le_of_ble_eq_true rfl) dX10_go_13 (fun s3 => ?_)
  refine g_aload_n E dX10_go_16 0 rfl ?_
  refine gg_10_15 E (hN 10 (by decide)) dX10_go_17 ?_
  refine g_iload_n E dX10_go_20 1 rfl ?_
  refine g_iconst E (v := 0) dX10_go_21 (by decide) ?_
  refine g_cVi E [.int x1, .int 0] rfl (c_X3_get hap (fun x h => hN x (ns_3_10 x h)) x1 0 s3) (hN 3 (by decide)) (by decide) rfl rfl mi_X3_get msl_X3_get mw_X3_get rfl ml_10_25 ⟨Nat.le_of_ble_eq_true rfl, Nat.le_of_ble_eq_true rfl⟩ (Nat.le_of_ble_eq_true rfl) dX10_go_22 (fun r5 s4 => ?_)
  refine g_tsw E [(dr_bndv (f_X10_read ln x1 s4) (fun s6 => some (0, s6))), (dr_bndv (f_X10_hold ln x1 s4) (fun s7 => some (0, s7))), (dr_bndv (f_X10_write ln x1 s4) (fun s8 => some (0, s8))), (dr_bndv (f_X10_climb ln x1 s4) (fun s9 => some (0, s9)))] (some (0, s4)) [56, 64, 72, 80] 88 dX10_go_25 (by decide) (by decide) (by decide) ?_ ?_
  · exact g_vret E dX10_go_88
  · refine dr_fc ?_ (dr_fc ?_ (dr_fc ?_ (dr_fc ?_ dr_fn)))
    · refine g_aload_n E dX10_go_56 0 rfl ?_
      refine g_iload_n E dX10_go_57 1 rfl ?_
      refine g_cVv E [.int x1] rfl (c_X10_read hap hN x1 s4) (hN 10 (by decide)) (by decide) rfl rfl mi_X10_read msl_X10_read mw_X10_read rfl ml_10_35 ⟨Nat.le_of_ble_eq_true rfl, Nat.le_of_ble_eq_true rfl⟩ (Nat.le_of_ble_eq_true rfl) dX10_go_58 (fun s6 => ?_)
      refine g_goto E 88 dX10_go_61 (by decide) ?_
      exact g_vret E dX10_go_88
    · refine g_aload_n E dX10_go_64 0 rfl ?_
      refine g_iload_n E dX10_go_65 1 rfl ?_
      refine g_cVv E [.int x1] rfl (c_X10_hold hap hN x1 s4) (hN 10 (by decide)) (by decide) rfl rfl mi_X10_hold msl_X10_hold mw_X10_hold rfl ml_10_38 ⟨Nat.le_of_ble_eq_true rfl, Nat.le_of_ble_eq_true rfl⟩ (Nat.le_of_ble_eq_true rfl) dX10_go_66 (fun s7 => ?_)
      refine g_goto E 88 dX10_go_69 (by decide) ?_
      exact g_vret E dX10_go_88
    · refine g_aload_n E dX10_go_72 0 rfl ?_
      refine g_iload_n E dX10_go_73 1 rfl ?_
      refine g_cVv E [.int x1] rfl (c_X10_write hap hN x1 s4) (hN 10 (by decide)) (by decide) rfl rfl mi_X10_write msl_X10_write mw_X10_write rfl ml_10_41 ⟨Nat.le_of_ble_eq_true rfl, Nat.le_of_ble_eq_true rfl⟩ (Nat.le_of_ble_eq_true rfl) dX10_go_74 (fun s8 => ?_)
      refine g_goto E 88 dX10_go_77 (by decide) ?_
      exact g_vret E dX10_go_88
    · refine g_aload_n E dX10_go_80 0 rfl ?_
      refine g_iload_n E dX10_go_81 1 rfl ?_
      refine g_cVv E [.int x1] rfl (c_X10_climb hap hN x1 s4) (hN 10 (by decide)) (by decide) rfl rfl mi_X10_climb msl_X10_climb mw_X10_climb rfl ml_10_44 ⟨Nat.le_of_ble_eq_true rfl, Nat.le_of_ble_eq_true rfl⟩ (Nat.le_of_ble_eq_true rfl) dX10_go_82 (fun s9 => ?_)
      refine g_goto E 88 dX10_go_85 (by decide) ?_
      exact g_vret E dX10_go_88
end

theorem dX8_goesWrong_0 : decode cX8_goesWrong 0 = .ok (.iload_n 1, 1) := by decide +kernel
theorem dX8_goesWrong_1 : decode cX8_goesWrong 1 = .ok (.ifCond .lt 14, 3) := by decide +kernel
theorem dX8_goesWrong_4 : decode cX8_goesWrong 4 = .ok (.iload_n 1, 1) := by decide +kernel
theorem dX8_goesWrong_5 : decode cX8_goesWrong 5 = .ok (.iload_n 2, 1) := by decide +kernel
theorem dX8_goesWrong_6 : decode cX8_goesWrong 6 = .ok (.if_icmp .ge 9, 3) := by decide +kernel
theorem dX8_goesWrong_9 : decode cX8_goesWrong 9 = .ok (.iload_n 1, 1) := by decide +kernel
theorem dX8_goesWrong_10 : decode cX8_goesWrong 10 = .ok (.bipush 8, 2) := by decide +kernel
theorem dX8_goesWrong_12 : decode cX8_goesWrong 12 = .ok (.if_icmp .lt 8, 3) := by decide +kernel
theorem dX8_goesWrong_15 : decode cX8_goesWrong 15 = .ok (.aload_n 0, 1) := by decide +kernel
theorem dX8_goesWrong_16 : decode cX8_goesWrong 16 = .ok (.invokevirtual 52, 3) := by decide +kernel
theorem dX8_goesWrong_19 : decode cX8_goesWrong 19 = .ok (.ireturn, 1) := by decide +kernel
theorem dX8_goesWrong_20 : decode cX8_goesWrong 20 = .ok (.aload_n 0, 1) := by decide +kernel
theorem dX8_goesWrong_21 : decode cX8_goesWrong 21 = .ok (.getfield 26, 3) := by decide +kernel
theorem dX8_goesWrong_24 : decode cX8_goesWrong 24 = .ok (.aload_n 0, 1) := by decide +kernel
theorem dX8_goesWrong_25 : decode cX8_goesWrong 25 = .ok (.getfield 15, 3) := by decide +kernel
theorem dX8_goesWrong_28 : decode cX8_goesWrong 28 = .ok (.invokevirtual 46, 3) := by decide +kernel
theorem dX8_goesWrong_31 : decode cX8_goesWrong 31 = .ok (.ifCond .eq 33, 3) := by decide +kernel
theorem dX8_goesWrong_34 : decode cX8_goesWrong 34 = .ok (.aload_n 0, 1) := by decide +kernel
theorem dX8_goesWrong_35 : decode cX8_goesWrong 35 = .ok (.getfield 26, 3) := by decide +kernel
theorem dX8_goesWrong_38 : decode cX8_goesWrong 38 = .ok (.aload_n 0, 1) := by decide +kernel
theorem dX8_goesWrong_39 : decode cX8_goesWrong 39 = .ok (.getfield 19, 3) := by decide +kernel
theorem dX8_goesWrong_42 : decode cX8_goesWrong 42 = .ok (.invokevirtual 46, 3) := by decide +kernel
theorem dX8_goesWrong_45 : decode cX8_goesWrong 45 = .ok (.ifCond .eq 19, 3) := by decide +kernel
theorem dX8_goesWrong_48 : decode cX8_goesWrong 48 = .ok (.aload_n 0, 1) := by decide +kernel
theorem dX8_goesWrong_49 : decode cX8_goesWrong 49 = .ok (.getfield 9, 3) := by decide +kernel
theorem dX8_goesWrong_52 : decode cX8_goesWrong 52 = .ok (.iload_n 1, 1) := by decide +kernel
theorem dX8_goesWrong_53 : decode cX8_goesWrong 53 = .ok (.iconst (-1), 1) := by decide +kernel
theorem dX8_goesWrong_54 : decode cX8_goesWrong 54 = .ok (.iastore, 1) := by decide +kernel
theorem dX8_goesWrong_55 : decode cX8_goesWrong 55 = .ok (.aload_n 0, 1) := by decide +kernel
theorem dX8_goesWrong_56 : decode cX8_goesWrong 56 = .ok (.iload_n 1, 1) := by decide +kernel
theorem dX8_goesWrong_57 : decode cX8_goesWrong 57 = .ok (.iconst 1, 1) := by decide +kernel
theorem dX8_goesWrong_58 : decode cX8_goesWrong 58 = .ok (.iadd, 1) := by decide +kernel
theorem dX8_goesWrong_59 : decode cX8_goesWrong 59 = .ok (.iload_n 2, 1) := by decide +kernel
theorem dX8_goesWrong_60 : decode cX8_goesWrong 60 = .ok (.invokevirtual 56, 3) := by decide +kernel
theorem dX8_goesWrong_63 : decode cX8_goesWrong 63 = .ok (.ireturn, 1) := by decide +kernel
theorem dX8_goesWrong_64 : decode cX8_goesWrong 64 = .ok (.iconst 0, 1) := by decide +kernel
theorem dX8_goesWrong_65 : decode cX8_goesWrong 65 = .ok (.istore_n 3, 1) := by decide +kernel
theorem dX8_goesWrong_66 : decode cX8_goesWrong 66 = .ok (.iconst 0, 1) := by decide +kernel
theorem dX8_goesWrong_67 : decode cX8_goesWrong 67 = .ok (.istore 4, 2) := by decide +kernel
theorem dX8_goesWrong_69 : decode cX8_goesWrong 69 = .ok (.iload 4, 2) := by decide +kernel
theorem dX8_goesWrong_71 : decode cX8_goesWrong 71 = .ok (.iconst 2, 1) := by decide +kernel
theorem dX8_goesWrong_72 : decode cX8_goesWrong 72 = .ok (.if_icmp .ge 87, 3) := by decide +kernel
theorem dX8_goesWrong_75 : decode cX8_goesWrong 75 = .ok (.iload_n 3, 1) := by decide +kernel
theorem dX8_goesWrong_76 : decode cX8_goesWrong 76 = .ok (.ifCond .ne 83, 3) := by decide +kernel
theorem dX8_goesWrong_79 : decode cX8_goesWrong 79 = .ok (.iload 4, 2) := by decide +kernel
theorem dX8_goesWrong_81 : decode cX8_goesWrong 81 = .ok (.ifCond .ne 10, 3) := by decide +kernel
theorem dX8_goesWrong_84 : decode cX8_goesWrong 84 = .ok (.aload_n 0, 1) := by decide +kernel
theorem dX8_goesWrong_85 : decode cX8_goesWrong 85 = .ok (.getfield 15, 3) := by decide +kernel
theorem dX8_goesWrong_88 : decode cX8_goesWrong 88 = .ok (.goto 7, 3) := by decide +kernel
theorem dX8_goesWrong_91 : decode cX8_goesWrong 91 = .ok (.aload_n 0, 1) := by decide +kernel
theorem dX8_goesWrong_92 : decode cX8_goesWrong 92 = .ok (.getfield 19, 3) := by decide +kernel
theorem dX8_goesWrong_95 : decode cX8_goesWrong 95 = .ok (.istore 5, 2) := by decide +kernel
theorem dX8_goesWrong_97 : decode cX8_goesWrong 97 = .ok (.aload_n 0, 1) := by decide +kernel
theorem dX8_goesWrong_98 : decode cX8_goesWrong 98 = .ok (.getfield 26, 3) := by decide +kernel
theorem dX8_goesWrong_101 : decode cX8_goesWrong 101 = .ok (.iload 5, 2) := by decide +kernel
theorem dX8_goesWrong_103 : decode cX8_goesWrong 103 = .ok (.invokevirtual 46, 3) := by decide +kernel
theorem dX8_goesWrong_106 : decode cX8_goesWrong 106 = .ok (.ifCond .ne 47, 3) := by decide +kernel
theorem dX8_goesWrong_109 : decode cX8_goesWrong 109 = .ok (.aload_n 0, 1) := by decide +kernel
theorem dX8_goesWrong_110 : decode cX8_goesWrong 110 = .ok (.getfield 9, 3) := by decide +kernel
theorem dX8_goesWrong_113 : decode cX8_goesWrong 113 = .ok (.iload_n 1, 1) := by decide +kernel
theorem dX8_goesWrong_114 : decode cX8_goesWrong 114 = .ok (.iload 5, 2) := by decide +kernel
theorem dX8_goesWrong_116 : decode cX8_goesWrong 116 = .ok (.iastore, 1) := by decide +kernel
theorem dX8_goesWrong_117 : decode cX8_goesWrong 117 = .ok (.aload_n 0, 1) := by decide +kernel
theorem dX8_goesWrong_118 : decode cX8_goesWrong 118 = .ok (.getfield 22, 3) := by decide +kernel
theorem dX8_goesWrong_121 : decode cX8_goesWrong 121 = .ok (.invokevirtual 60, 3) := by decide +kernel
theorem dX8_goesWrong_124 : decode cX8_goesWrong 124 = .ok (.istore 6, 2) := by decide +kernel
theorem dX8_goesWrong_126 : decode cX8_goesWrong 126 = .ok (.aload_n 0, 1) := by decide +kernel
theorem dX8_goesWrong_127 : decode cX8_goesWrong 127 = .ok (.getfield 34, 3) := by decide +kernel
theorem dX8_goesWrong_130 : decode cX8_goesWrong 130 = .ok (.iload 5, 2) := by decide +kernel
theorem dX8_goesWrong_132 : decode cX8_goesWrong 132 = .ok (.invokevirtual 66, 3) := by decide +kernel
theorem dX8_goesWrong_135 : decode cX8_goesWrong 135 = .ok (.aload_n 0, 1) := by decide +kernel
theorem dX8_goesWrong_136 : decode cX8_goesWrong 136 = .ok (.iload_n 1, 1) := by decide +kernel
theorem dX8_goesWrong_137 : decode cX8_goesWrong 137 = .ok (.iconst 1, 1) := by decide +kernel
theorem dX8_goesWrong_138 : decode cX8_goesWrong 138 = .ok (.iadd, 1) := by decide +kernel
theorem dX8_goesWrong_139 : decode cX8_goesWrong 139 = .ok (.iload_n 2, 1) := by decide +kernel
theorem dX8_goesWrong_140 : decode cX8_goesWrong 140 = .ok (.invokevirtual 56, 3) := by decide +kernel
theorem dX8_goesWrong_143 : decode cX8_goesWrong 143 = .ok (.istore_n 3, 1) := by decide +kernel
theorem dX8_goesWrong_144 : decode cX8_goesWrong 144 = .ok (.aload_n 0, 1) := by decide +kernel
theorem dX8_goesWrong_145 : decode cX8_goesWrong 145 = .ok (.getfield 22, 3) := by decide +kernel
theorem dX8_goesWrong_148 : decode cX8_goesWrong 148 = .ok (.iload 6, 2) := by decide +kernel
theorem dX8_goesWrong_150 : decode cX8_goesWrong 150 = .ok (.invokevirtual 72, 3) := by decide +kernel
theorem dX8_goesWrong_153 : decode cX8_goesWrong 153 = .ok (.iinc 4 1, 3) := by decide +kernel
theorem dX8_goesWrong_156 : decode cX8_goesWrong 156 = .ok (.goto (-87), 3) := by decide +kernel
theorem dX8_goesWrong_159 : decode cX8_goesWrong 159 = .ok (.iload_n 3, 1) := by decide +kernel
theorem dX8_goesWrong_160 : decode cX8_goesWrong 160 = .ok (.ireturn, 1) := by decide +kernel
def f_X8_goesWrong_p153 (ln : Nat → Nat) (rc : Int32 → Int32 → dr_S → Option (Int32 × dr_S)) (kb69 : Int32 → Int32 → Int32 → Int32 → dr_S → Option (Int32 × dr_S)) (x1 : Int32) (x2 : Int32) (x3 : Int32) (x4 : Int32) (s : dr_S) : Option (Int32 × dr_S) := dr_let (x4 + 1) (fun y19 => (kb69 x1 x2 x3 y19 s))
def f_X8_goesWrong_p95 (ln : Nat → Nat) (rc : Int32 → Int32 → dr_S → Option (Int32 × dr_S)) (kb69 : Int32 → Int32 → Int32 → Int32 → dr_S → Option (Int32 × dr_S)) (x1 : Int32) (x2 : Int32) (x3 : Int32) (x4 : Int32) (z0 : Int32) (s : dr_S) : Option (Int32 × dr_S) := dr_bnd (f_X3_isIdle ln z0 s) (fun r11 s10 => (if r11 = 0 then (dr_wr ln s10 27 x1 z0).bind (fun s12 => dr_bnd (f_X2_startTrying ln  s12) (fun r14 s13 => dr_bndv (f_X10_go ln z0 s13) (fun s15 => dr_bnd (rc ((x1 + 1)) x2 s15) (fun r17 s16 => dr_bndv (f_X2_takeBack ln r14 s16) (fun s18 => (f_X8_goesWrong_p153 ln rc kb69 x1 x2 r17 x4 s18)))))) else (f_X8_goesWrong_p153 ln rc kb69 x1 x2 x3 x4 s10)))
def f_X8_goesWrong_p69 (ln : Nat → Nat) (rc : Int32 → Int32 → dr_S → Option (Int32 × dr_S)) : Nat → Int32 → Int32 → Int32 → Int32 → dr_S → Option (Int32 × dr_S)
  | 0, _, _, _, _, _ => none
  | n + 1, x1, x2, x3, x4, s => (if ((2 : Int32) ≤ x4 : Prop) then dr_rz x3 s else (if x3 = 0 then (if x4 = 0 then (f_X8_goesWrong_p95 ln rc (f_X8_goesWrong_p69 ln rc n) x1 x2 x3 x4 ((s.2 807)) s) else (f_X8_goesWrong_p95 ln rc (f_X8_goesWrong_p69 ln rc n) x1 x2 x3 x4 ((s.2 808)) s)) else dr_rz x3 s))
def f_X8_goesWrong_p64 (ln : Nat → Nat) (rc : Int32 → Int32 → dr_S → Option (Int32 × dr_S)) (x1 : Int32) (x2 : Int32) (s : dr_S) : Option (Int32 × dr_S) := (f_X8_goesWrong_p69 ln rc dr_N x1 x2 0 0 s)
def f_X8_goesWrong_p15 (ln : Nat → Nat) (rc : Int32 → Int32 → dr_S → Option (Int32 × dr_S)) (s : dr_S) : Option (Int32 × dr_S) := dr_bnd (f_X8_isWrongNow ln  s) (fun r9 s8 => dr_rz r9 s8)
def f_X8_goesWrong_b (ln : Nat → Nat) (rc : Int32 → Int32 → dr_S → Option (Int32 × dr_S)) (x1 : Int32) (x2 : Int32) (s : dr_S) : Option (Int32 × dr_S) := (if x1 < 0 then (f_X8_goesWrong_p15 ln rc  s) else (if x2 ≤ x1 then (f_X8_goesWrong_p15 ln rc  s) else (if x1 < 8 then dr_bnd (f_X3_isIdle ln ((s.2 807)) s) (fun r2 s1 => (if r2 = 0 then (f_X8_goesWrong_p64 ln rc x1 x2 s1) else dr_bnd (f_X3_isIdle ln ((s1.2 808)) s1) (fun r4 s3 => (if r4 = 0 then (f_X8_goesWrong_p64 ln rc x1 x2 s3) else (dr_wr ln s3 27 x1 (-1)).bind (fun s5 => dr_bnd (rc ((x1 + 1)) x2 s5) (fun r7 s6 => dr_rz r7 s6)))))) else (f_X8_goesWrong_p15 ln rc  s))))
def f_X8_goesWrong (ln : Nat → Nat) : Nat → Int32 → Int32 → dr_S → Option (Int32 × dr_S)
  | 0, _, _, _ => none
  | k + 1, x1, x2, s => f_X8_goesWrong_b ln (f_X8_goesWrong ln k) x1 x2 s
section
variable {p : Program} {l : Launch} {e : Env} {s0 : State} {m : MethodId} {args : Array Value} {below : List Frame} {meth : Method} {c : Code} {A : Nat → Prop} {D : va_G} {cI cZ : ClassId} {ad ln : Nat → Nat} {L : List Nat}
set_option maxHeartbeats 4000000 in
set_option maxRecDepth 20000 in
theorem w_X8_goesWrong_p153 {k : Nat} {rc : Int32 → Int32 → dr_S → Option (Int32 × dr_S)} {kb69 : Int32 → Int32 → Int32 → Int32 → dr_S → Option (Int32 × dr_S)} (E : dr_E p (dr_rm (17 + k + 1)) s0 m args meth c 0 0 A s0.heap D cI cZ ad L cX8_goesWrong 7 RX8 (some .boolean)) (hap : dr_ap ad L) (hN : ∀ x ∈ nd_8, x ∈ L) (hrec : ∀ (x1 : Int32) (x2 : Int32)  (s : dr_S), dr_Mi l D cI cZ ad ln L yX8_goesWrong cX8_goesWrong 7 (some .boolean) (17 + k) [.ref (ad 8), .int x1, .int x2] s (rc x1 x2 s)) (hkb69 : ∀ (x1 : Int32) (x2 : Int32) (x3 : Int32) (x4 : Int32) (s : dr_S), dr_G p l e (dr_rm (17 + k + 1)) s0 m args below meth c 0 0 A s0.heap D cI cZ ad ln L 7 (dr_Zi D cI cZ ad ln L A below args s0 0 0) 69 [(0, .ref (ad 8)), (1, .int x1), (2, .int x2), (3, .int x3), (4, .int x4)] [] s (kb69 x1 x2 x3 x4 s)) : ∀ (x1 : Int32) (x2 : Int32) (x3 : Int32) (x4 : Int32) (s : dr_S), dr_G p l e (dr_rm (17 + k + 1)) s0 m args below meth c 0 0 A s0.heap D cI cZ ad ln L 7 (dr_Zi D cI cZ ad ln L A below args s0 0 0) 153 [(0, .ref (ad 8)), (1, .int x1), (2, .int x2), (3, .int x3), (4, .int x4)] [] s (f_X8_goesWrong_p153 ln rc kb69 x1 x2 x3 x4 s) := by
  intro x1 x2 x3 x4 s
  unfold f_X8_goesWrong_p153
  refine g_iinc E (lv' := []) (lv'' := fun y19 => [(4, .int y19), (0, .ref (ad 8)), (1, .int x1), (2, .int x2), (3, .int x3)]) (v := 1) dX8_goesWrong_153 4 rfl (by decide) (by decide) (fun _ => rfl) (fun y19 => ?_)
  refine g_goto E 69 dX8_goesWrong_156 (by decide) ?_
  refine g_sub [1, 2, 3, 4, 0] rfl ?_
  exact hkb69 x1 x2 x3 y19 s
set_option maxHeartbeats 4000000 in
set_option maxRecDepth 20000 in
theorem w_X8_goesWrong_p95 {k : Nat} {rc : Int32 → Int32 → dr_S → Option (Int32 × dr_S)} {kb69 : Int32 → Int32 → Int32 → Int32 → dr_S → Option (Int32 × dr_S)} (E : dr_E p (dr_rm (17 + k + 1)) s0 m args meth c 0 0 A s0.heap D cI cZ ad L cX8_goesWrong 7 RX8 (some .boolean)) (hap : dr_ap ad L) (hN : ∀ x ∈ nd_8, x ∈ L) (hrec : ∀ (x1 : Int32) (x2 : Int32)  (s : dr_S), dr_Mi l D cI cZ ad ln L yX8_goesWrong cX8_goesWrong 7 (some .boolean) (17 + k) [.ref (ad 8), .int x1, .int x2] s (rc x1 x2 s)) (hkb69 : ∀ (x1 : Int32) (x2 : Int32) (x3 : Int32) (x4 : Int32) (s : dr_S), dr_G p l e (dr_rm (17 + k + 1)) s0 m args below meth c 0 0 A s0.heap D cI cZ ad ln L 7 (dr_Zi D cI cZ ad ln L A below args s0 0 0) 69 [(0, .ref (ad 8)), (1, .int x1), (2, .int x2), (3, .int x3), (4, .int x4)] [] s (kb69 x1 x2 x3 x4 s)) : ∀ (x1 : Int32) (x2 : Int32) (x3 : Int32) (x4 : Int32) (z0 : Int32) (s : dr_S), dr_G p l e (dr_rm (17 + k + 1)) s0 m args below meth c 0 0 A s0.heap D cI cZ ad ln L 7 (dr_Zi D cI cZ ad ln L A below args s0 0 0) 95 [(0, .ref (ad 8)), (1, .int x1), (2, .int x2), (3, .int x3), (4, .int x4)] [.int z0] s (f_X8_goesWrong_p95 ln rc kb69 x1 x2 x3 x4 z0 s) := by
  intro x1 x2 x3 x4 z0 s
  unfold f_X8_goesWrong_p95
  refine g_istore E (lv' := [(5, .int z0), (0, .ref (ad 8)), (1, .int x1), (2, .int x2), (3, .int x3), (4, .int x4)]) dX8_goesWrong_95 (by decide) rfl ?_
  refine g_aload_n E dX8_goesWrong_97 1 rfl ?_
  refine gg_8_26 E (hN 8 (by decide)) dX8_goesWrong_98 ?_
  refine g_iload E dX8_goesWrong_101 0 rfl ?_
  refine g_cVi E [.int z0] rfl (c_X3_isIdle hap (fun x h => hN x (ns_3_8 x h)) z0 s) (hN 3 (by decide)) (by decide) rfl rfl mi_X3_isIdle msl_X3_isIdle mw_X3_isIdle rfl ml_8_46 ⟨by simp only [dr_rm]; omega, by simp only [dr_rm]; omega⟩ (Nat.le_of_ble_eq_true rfl) dX8_goesWrong_103 (fun r11 s10 => ?_)
  refine g_if_ne E 153 dX8_goesWrong_106 (by decide) ?_ ?_
  · refine g_sub [1, 2, 3, 4, 5] rfl ?_
    exact w_X8_goesWrong_p153 E hap hN hrec hkb69 x1 x2 x3 x4 s10
  · refine g_aload_n E dX8_goesWrong_109 1 rfl ?_
    refine gg_8_9 E (hN 8 (by decide)) dX8_goesWrong_110 ?_
    refine g_iload_n E dX8_goesWrong_113 2 rfl ?_
    refine g_iload E dX8_goesWrong_114 0 rfl ?_
    refine g_iastore E (hN 27 (by decide)) (by decide) rfl dX8_goesWrong_116 (fun s12 => ?_)
    refine g_aload_n E dX8_goesWrong_117 1 rfl ?_
    refine gg_8_22 E (hN 8 (by decide)) dX8_goesWrong_118 ?_
    refine g_cVi E [] rfl (c_X2_startTrying hap (fun x h => hN x (ns_2_8 x h))  s12) (hN 2 (by decide)) (by decide) rfl rfl mi_X2_startTrying msl_X2_startTrying mw_X2_startTrying rfl ml_8_60 ⟨by simp only [dr_rm]; omega, by simp only [dr_rm]; omega⟩ (Nat.le_of_ble_eq_true rfl) dX8_goesWrong_121 (fun r14 s13 => ?_)
    refine g_istore E (lv' := [(6, .int r14), (5, .int z0), (0, .ref (ad 8)), (1, .int x1), (2, .int x2), (3, .int x3), (4, .int x4)]) dX8_goesWrong_124 (by decide) rfl ?_
    refine g_aload_n E dX8_goesWrong_126 2 rfl ?_
    refine gg_8_34 E (hN 8 (by decide)) dX8_goesWrong_127 ?_
    refine g_iload E dX8_goesWrong_130 1 rfl ?_
    refine g_cVv E [.int z0] rfl (c_X10_go hap (fun x h => hN x (ns_10_8 x h)) z0 s13) (hN 10 (by decide)) (by decide) rfl rfl mi_X10_go msl_X10_go mw_X10_go rfl ml_8_66 ⟨by simp only [dr_rm]; omega, by simp only [dr_rm]; omega⟩ (Nat.le_of_ble_eq_true rfl) dX8_goesWrong_132 (fun s15 => ?_)
    refine g_aload_n E dX8_goesWrong_135 2 rfl ?_
    refine g_iload_n E dX8_goesWrong_136 3 rfl ?_
    refine g_iconst E (v := 1) dX8_goesWrong_137 (by decide) ?_
    refine g_iadd E dX8_goesWrong_138 ?_
    refine g_iload_n E dX8_goesWrong_139 4 rfl ?_
    refine g_cVi E [.int (x1 + 1), .int x2] rfl (hrec ((x1 + 1)) x2 s15) (hN 8 (by decide)) (by decide) rfl rfl mi_X8_goesWrong msl_X8_goesWrong mw_X8_goesWrong rfl ml_8_56 ⟨by simp only [dr_rm]; omega, by simp only [dr_rm]; omega⟩ (Nat.le_of_ble_eq_true rfl) dX8_goesWrong_140 (fun r17 s16 => ?_)
    refine g_istore_n E (lv' := [(3, .int r17), (6, .int r14), (5, .int z0), (0, .ref (ad 8)), (1, .int x1), (2, .int x2), (4, .int x4)]) dX8_goesWrong_143 (by decide) rfl ?_
    refine g_aload_n E dX8_goesWrong_144 3 rfl ?_
    refine gg_8_22 E (hN 8 (by decide)) dX8_goesWrong_145 ?_
    refine g_iload E dX8_goesWrong_148 1 rfl ?_
    refine g_cVv E [.int r14] rfl (c_X2_takeBack hap (fun x h => hN x (ns_2_8 x h)) r14 s16) (hN 2 (by decide)) (by decide) rfl rfl mi_X2_takeBack msl_X2_takeBack mw_X2_takeBack rfl ml_8_72 ⟨by simp only [dr_rm]; omega, by simp only [dr_rm]; omega⟩ (Nat.le_of_ble_eq_true rfl) dX8_goesWrong_150 (fun s18 => ?_)
    refine g_sub [3, 4, 5, 0, 6] rfl ?_
    exact w_X8_goesWrong_p153 E hap hN hrec hkb69 x1 x2 r17 x4 s18
set_option maxHeartbeats 4000000 in
set_option maxRecDepth 20000 in
theorem w_X8_goesWrong_p69 {k : Nat} {rc : Int32 → Int32 → dr_S → Option (Int32 × dr_S)} (E : dr_E p (dr_rm (17 + k + 1)) s0 m args meth c 0 0 A s0.heap D cI cZ ad L cX8_goesWrong 7 RX8 (some .boolean)) (hap : dr_ap ad L) (hN : ∀ x ∈ nd_8, x ∈ L) (hrec : ∀ (x1 : Int32) (x2 : Int32)  (s : dr_S), dr_Mi l D cI cZ ad ln L yX8_goesWrong cX8_goesWrong 7 (some .boolean) (17 + k) [.ref (ad 8), .int x1, .int x2] s (rc x1 x2 s)) : ∀ (n : Nat) (x1 : Int32) (x2 : Int32) (x3 : Int32) (x4 : Int32) (s : dr_S), dr_G p l e (dr_rm (17 + k + 1)) s0 m args below meth c 0 0 A s0.heap D cI cZ ad ln L 7 (dr_Zi D cI cZ ad ln L A below args s0 0 0) 69 [(0, .ref (ad 8)), (1, .int x1), (2, .int x2), (3, .int x3), (4, .int x4)] [] s (f_X8_goesWrong_p69 ln rc n x1 x2 x3 x4 s) := by
  intro n
  induction n with
  | zero =>
    intro x1 x2 x3 x4 s
    rw [f_X8_goesWrong_p69]
    exact g_none
  | succ n hkb69 =>
    intro x1 x2 x3 x4 s
    rw [f_X8_goesWrong_p69]
    refine g_iload E dX8_goesWrong_69 4 rfl ?_
    refine g_iconst E (v := 2) dX8_goesWrong_71 (by decide) ?_
    refine g_icmp_ge E 159 dX8_goesWrong_72 (by decide) ?_ ?_
    · refine g_iload_n E dX8_goesWrong_159 3 rfl ?_
      exact g_zretV E dX8_goesWrong_160
    · refine g_iload_n E dX8_goesWrong_75 3 rfl ?_
      refine g_if_ne E 159 dX8_goesWrong_76 (by decide) ?_ ?_
      · refine g_iload_n E dX8_goesWrong_159 3 rfl ?_
        exact g_zretV E dX8_goesWrong_160
      · refine g_iload E dX8_goesWrong_79 4 rfl ?_
        refine g_if_ne E 91 dX8_goesWrong_81 (by decide) ?_ ?_
        · refine g_aload_n E dX8_goesWrong_91 0 rfl ?_
          refine gg_8_19 E (hN 8 (by decide)) dX8_goesWrong_92 ?_
          refine g_sub [0, 1, 2, 3, 4] rfl ?_
          exact w_X8_goesWrong_p95 E hap hN hrec hkb69 x1 x2 x3 x4 ((s.2 808)) s
        · refine g_aload_n E dX8_goesWrong_84 0 rfl ?_
          refine gg_8_15 E (hN 8 (by decide)) dX8_goesWrong_85 ?_
          refine g_goto E 95 dX8_goesWrong_88 (by decide) ?_
          refine g_sub [0, 1, 2, 3, 4] rfl ?_
          exact w_X8_goesWrong_p95 E hap hN hrec hkb69 x1 x2 x3 x4 ((s.2 807)) s
set_option maxHeartbeats 4000000 in
set_option maxRecDepth 20000 in
theorem w_X8_goesWrong_p64 {k : Nat} {rc : Int32 → Int32 → dr_S → Option (Int32 × dr_S)} (E : dr_E p (dr_rm (17 + k + 1)) s0 m args meth c 0 0 A s0.heap D cI cZ ad L cX8_goesWrong 7 RX8 (some .boolean)) (hap : dr_ap ad L) (hN : ∀ x ∈ nd_8, x ∈ L) (hrec : ∀ (x1 : Int32) (x2 : Int32)  (s : dr_S), dr_Mi l D cI cZ ad ln L yX8_goesWrong cX8_goesWrong 7 (some .boolean) (17 + k) [.ref (ad 8), .int x1, .int x2] s (rc x1 x2 s)) : ∀ (x1 : Int32) (x2 : Int32) (s : dr_S), dr_G p l e (dr_rm (17 + k + 1)) s0 m args below meth c 0 0 A s0.heap D cI cZ ad ln L 7 (dr_Zi D cI cZ ad ln L A below args s0 0 0) 64 [(0, .ref (ad 8)), (1, .int x1), (2, .int x2)] [] s (f_X8_goesWrong_p64 ln rc x1 x2 s) := by
  intro x1 x2 s
  unfold f_X8_goesWrong_p64
  refine g_iconst E (v := 0) dX8_goesWrong_64 (by decide) ?_
  refine g_istore_n E (lv' := [(3, .int 0), (0, .ref (ad 8)), (1, .int x1), (2, .int x2)]) dX8_goesWrong_65 (by decide) rfl ?_
  refine g_iconst E (v := 0) dX8_goesWrong_66 (by decide) ?_
  refine g_istore E (lv' := [(4, .int 0), (3, .int 0), (0, .ref (ad 8)), (1, .int x1), (2, .int x2)]) dX8_goesWrong_67 (by decide) rfl ?_
  refine g_sub [2, 3, 4, 1, 0] rfl ?_
  exact w_X8_goesWrong_p69 E hap hN hrec dr_N x1 x2 0 0 s
set_option maxHeartbeats 4000000 in
set_option maxRecDepth 20000 in
theorem w_X8_goesWrong_p15 {k : Nat} {rc : Int32 → Int32 → dr_S → Option (Int32 × dr_S)} (E : dr_E p (dr_rm (17 + k + 1)) s0 m args meth c 0 0 A s0.heap D cI cZ ad L cX8_goesWrong 7 RX8 (some .boolean)) (hap : dr_ap ad L) (hN : ∀ x ∈ nd_8, x ∈ L) (hrec : ∀ (x1 : Int32) (x2 : Int32)  (s : dr_S), dr_Mi l D cI cZ ad ln L yX8_goesWrong cX8_goesWrong 7 (some .boolean) (17 + k) [.ref (ad 8), .int x1, .int x2] s (rc x1 x2 s)) : ∀ (s : dr_S), dr_G p l e (dr_rm (17 + k + 1)) s0 m args below meth c 0 0 A s0.heap D cI cZ ad ln L 7 (dr_Zi D cI cZ ad ln L A below args s0 0 0) 15 [(0, .ref (ad 8))] [] s (f_X8_goesWrong_p15 ln rc  s) := by
  intro s
  unfold f_X8_goesWrong_p15
  refine g_aload_n E dX8_goesWrong_15 0 rfl ?_
  refine g_cVi E [] rfl (c_X8_isWrongNow hap hN  s) (hN 8 (by decide)) (by decide) rfl rfl mi_X8_isWrongNow msl_X8_isWrongNow mw_X8_isWrongNow rfl ml_8_52 ⟨by simp only [dr_rm]; omega, by simp only [dr_rm]; omega⟩ (Nat.le_of_ble_eq_true rfl) dX8_goesWrong_16 (fun r9 s8 => ?_)
  exact g_zretV E dX8_goesWrong_19
set_option maxHeartbeats 4000000 in
set_option maxRecDepth 20000 in
theorem c_X8_goesWrong_b {k : Nat} {rc : Int32 → Int32 → dr_S → Option (Int32 × dr_S)} (hap : dr_ap ad L) (hN : ∀ x ∈ nd_8, x ∈ L) (hrec : ∀ (x1 : Int32) (x2 : Int32)  (s : dr_S), dr_Mi l D cI cZ ad ln L yX8_goesWrong cX8_goesWrong 7 (some .boolean) (17 + k) [.ref (ad 8), .int x1, .int x2] s (rc x1 x2 s)) (x1 : Int32) (x2 : Int32) (s : dr_S) : dr_Mi l D cI cZ ad ln L yX8_goesWrong cX8_goesWrong 7 (some .boolean) (17 + k + 1) [.ref (ad 8), .int x1, .int x2] s (f_X8_goesWrong_b ln rc x1 x2 s) := by
  refine dr_meti (own := RX8) (by decide) rfl (Nat.le_of_ble_eq_true rfl) hap ?_
  intro p e s0 m args below meth c A E
  unfold f_X8_goesWrong_b
  refine g_eqL (lv' := [(0, .ref (ad 8)), (1, .int x1), (2, .int x2)]) rfl ?_
  refine g_iload_n E dX8_goesWrong_0 1 rfl ?_
  refine g_if_lt E 15 dX8_goesWrong_1 (by decide) ?_ ?_
  · refine g_sub [0] rfl ?_
    exact w_X8_goesWrong_p15 E hap hN hrec  s
  · refine g_iload_n E dX8_goesWrong_4 1 rfl ?_
    refine g_iload_n E dX8_goesWrong_5 2 rfl ?_
    refine g_icmp_ge E 15 dX8_goesWrong_6 (by decide) ?_ ?_
    · refine g_sub [0] rfl ?_
      exact w_X8_goesWrong_p15 E hap hN hrec  s
    · refine g_iload_n E dX8_goesWrong_9 1 rfl ?_
      refine g_bipush E (v := 8) dX8_goesWrong_10 (by decide) ?_
      refine g_icmp_lt E 20 dX8_goesWrong_12 (by decide) ?_ ?_
      · refine g_aload_n E dX8_goesWrong_20 0 rfl ?_
        refine gg_8_26 E (hN 8 (by decide)) dX8_goesWrong_21 ?_
        refine g_aload_n E dX8_goesWrong_24 0 rfl ?_
        refine gg_8_15 E (hN 8 (by decide)) dX8_goesWrong_25 ?_
        refine g_cVi E [.int (s.2 807)] rfl (c_X3_isIdle hap (fun x h => hN x (ns_3_8 x h)) ((s.2 807)) s) (hN 3 (by decide)) (by decide) rfl rfl mi_X3_isIdle msl_X3_isIdle mw_X3_isIdle rfl ml_8_46 ⟨by simp only [dr_rm]; omega, by simp only [dr_rm]; omega⟩ (Nat.le_of_ble_eq_true rfl) dX8_goesWrong_28 (fun r2 s1 => ?_)
        refine g_if_eq E 64 dX8_goesWrong_31 (by decide) ?_ ?_
        · refine g_sub [0, 1, 2] rfl ?_
          exact w_X8_goesWrong_p64 E hap hN hrec x1 x2 s1
        · refine g_aload_n E dX8_goesWrong_34 0 rfl ?_
          refine gg_8_26 E (hN 8 (by decide)) dX8_goesWrong_35 ?_
          refine g_aload_n E dX8_goesWrong_38 0 rfl ?_
          refine gg_8_19 E (hN 8 (by decide)) dX8_goesWrong_39 ?_
          refine g_cVi E [.int (s1.2 808)] rfl (c_X3_isIdle hap (fun x h => hN x (ns_3_8 x h)) ((s1.2 808)) s1) (hN 3 (by decide)) (by decide) rfl rfl mi_X3_isIdle msl_X3_isIdle mw_X3_isIdle rfl ml_8_46 ⟨by simp only [dr_rm]; omega, by simp only [dr_rm]; omega⟩ (Nat.le_of_ble_eq_true rfl) dX8_goesWrong_42 (fun r4 s3 => ?_)
          refine g_if_eq E 64 dX8_goesWrong_45 (by decide) ?_ ?_
          · refine g_sub [0, 1, 2] rfl ?_
            exact w_X8_goesWrong_p64 E hap hN hrec x1 x2 s3
          · refine g_aload_n E dX8_goesWrong_48 0 rfl ?_
            refine gg_8_9 E (hN 8 (by decide)) dX8_goesWrong_49 ?_
            refine g_iload_n E dX8_goesWrong_52 1 rfl ?_
            refine g_iconst E (v := (-1)) dX8_goesWrong_53 (by decide) ?_
            refine g_iastore E (hN 27 (by decide)) (by decide) rfl dX8_goesWrong_54 (fun s5 => ?_)
            refine g_aload_n E dX8_goesWrong_55 0 rfl ?_
            refine g_iload_n E dX8_goesWrong_56 1 rfl ?_
            refine g_iconst E (v := 1) dX8_goesWrong_57 (by decide) ?_
            refine g_iadd E dX8_goesWrong_58 ?_
            refine g_iload_n E dX8_goesWrong_59 2 rfl ?_
            refine g_cVi E [.int (x1 + 1), .int x2] rfl (hrec ((x1 + 1)) x2 s5) (hN 8 (by decide)) (by decide) rfl rfl mi_X8_goesWrong msl_X8_goesWrong mw_X8_goesWrong rfl ml_8_56 ⟨by simp only [dr_rm]; omega, by simp only [dr_rm]; omega⟩ (Nat.le_of_ble_eq_true rfl) dX8_goesWrong_60 (fun r7 s6 => ?_)
            exact g_zretV E dX8_goesWrong_63
      · refine g_sub [0] rfl ?_
        exact w_X8_goesWrong_p15 E hap hN hrec  s
theorem c_X8_goesWrong (hap : dr_ap ad L) (hN : ∀ x ∈ nd_8, x ∈ L) : ∀ (k : Nat) (x1 : Int32) (x2 : Int32) (s : dr_S), dr_Mi l D cI cZ ad ln L yX8_goesWrong cX8_goesWrong 7 (some .boolean) (17 + k) [.ref (ad 8), .int x1, .int x2] s (f_X8_goesWrong ln k x1 x2 s) := by
  intro k
  induction k with
  | zero =>
    intro x1 x2 s r s' h
    rw [f_X8_goesWrong] at h
    cases h
  | succ k ih =>
    intro x1 x2 s
    rw [f_X8_goesWrong]
    exact c_X8_goesWrong_b hap hN ih x1 x2 s
end

theorem dX11_rule_0 : decode cX11_rule 0 = .ok (.iload_n 1, 1) := by decide +kernel
theorem dX11_rule_1 : decode cX11_rule 1 = .ok (.ifCond .lt 9, 3) := by decide +kernel
theorem dX11_rule_4 : decode cX11_rule 4 = .ok (.iload_n 1, 1) := by decide +kernel
theorem dX11_rule_5 : decode cX11_rule 5 = .ok (.bipush 20, 2) := by decide +kernel
theorem dX11_rule_7 : decode cX11_rule 7 = .ok (.if_icmp .le 6, 3) := by decide +kernel
theorem dX11_rule_10 : decode cX11_rule 10 = .ok (.bipush (-2), 2) := by decide +kernel
theorem dX11_rule_12 : decode cX11_rule 12 = .ok (.ireturn, 1) := by decide +kernel
theorem dX11_rule_13 : decode cX11_rule 13 = .ok (.aload_n 0, 1) := by decide +kernel
theorem dX11_rule_14 : decode cX11_rule 14 = .ok (.getfield 34, 3) := by decide +kernel
theorem dX11_rule_17 : decode cX11_rule 17 = .ok (.iload_n 2, 1) := by decide +kernel
theorem dX11_rule_18 : decode cX11_rule 18 = .ok (.iload_n 3, 1) := by decide +kernel
theorem dX11_rule_19 : decode cX11_rule 19 = .ok (.iload 4, 2) := by decide +kernel
theorem dX11_rule_21 : decode cX11_rule 21 = .ok (.iload 5, 2) := by decide +kernel
theorem dX11_rule_23 : decode cX11_rule 23 = .ok (.iload 6, 2) := by decide +kernel
theorem dX11_rule_25 : decode cX11_rule 25 = .ok (.invokevirtual 111, 3) := by decide +kernel
theorem dX11_rule_28 : decode cX11_rule 28 = .ok (.aload_n 0, 1) := by decide +kernel
theorem dX11_rule_29 : decode cX11_rule 29 = .ok (.getfield 34, 3) := by decide +kernel
theorem dX11_rule_32 : decode cX11_rule 32 = .ok (.iload_n 1, 1) := by decide +kernel
theorem dX11_rule_33 : decode cX11_rule 33 = .ok (.invokevirtual 115, 3) := by decide +kernel
theorem dX11_rule_36 : decode cX11_rule 36 = .ok (.istore 7, 2) := by decide +kernel
theorem dX11_rule_38 : decode cX11_rule 38 = .ok (.iload 7, 2) := by decide +kernel
theorem dX11_rule_40 : decode cX11_rule 40 = .ok (.iconst (-1), 1) := by decide +kernel
theorem dX11_rule_41 : decode cX11_rule 41 = .ok (.if_icmp .ne 20, 3) := by decide +kernel
theorem dX11_rule_44 : decode cX11_rule 44 = .ok (.aload_n 0, 1) := by decide +kernel
theorem dX11_rule_45 : decode cX11_rule 45 = .ok (.getfield 55, 3) := by decide +kernel
theorem dX11_rule_48 : decode cX11_rule 48 = .ok (.invokevirtual 118, 3) := by decide +kernel
theorem dX11_rule_51 : decode cX11_rule 51 = .ok (.ifCond .ne 10, 3) := by decide +kernel
theorem dX11_rule_54 : decode cX11_rule 54 = .ok (.aload_n 0, 1) := by decide +kernel
theorem dX11_rule_55 : decode cX11_rule 55 = .ok (.getfield 34, 3) := by decide +kernel
theorem dX11_rule_58 : decode cX11_rule 58 = .ok (.invokevirtual 122, 3) := by decide +kernel
theorem dX11_rule_61 : decode cX11_rule 61 = .ok (.iload 7, 2) := by decide +kernel
theorem dX11_rule_63 : decode cX11_rule 63 = .ok (.ireturn, 1) := by decide +kernel
def f_X11_rule (ln : Nat → Nat) (x1 : Int32) (x2 : Int32) (x3 : Int32) (x4 : Int32) (x5 : Int32) (x6 : Int32) (s : dr_S) : Option (Int32 × dr_S) := (if x1 < 0 then some ((-2), s) else (if x1 ≤ 20 then dr_bndv (f_X5_hear ln x2 x3 x4 x5 x6 s) (fun s1 => dr_bnd (f_X5_faultOf ln x1 s1) (fun r3 s2 => (if r3 = (-1) then dr_bnd (f_X6_begun ln  s2) (fun r5 s4 => (if r5 = 0 then dr_bndv (f_X5_keepWhatWasRead ln  s4) (fun s6 => some (r3, s6)) else some (r3, s4))) else some (r3, s2)))) else some ((-2), s)))
section
variable {p : Program} {l : Launch} {e : Env} {s0 : State} {m : MethodId} {args : Array Value} {below : List Frame} {meth : Method} {c : Code} {A : Nat → Prop} {D : va_G} {cI cZ : ClassId} {ad ln : Nat → Nat} {L : List Nat}
set_option maxHeartbeats 4000000 in
set_option maxRecDepth 20000 in
theorem c_X11_rule (hap : dr_ap ad L) (hN : ∀ x ∈ nd_11, x ∈ L) (x1 : Int32) (x2 : Int32) (x3 : Int32) (x4 : Int32) (x5 : Int32) (x6 : Int32) (s : dr_S) : dr_Mi l D cI cZ ad ln L yX11_rule cX11_rule 8 (some .int) 3 [.ref (ad 11), .int x1, .int x2, .int x3, .int x4, .int x5, .int x6] s (f_X11_rule ln x1 x2 x3 x4 x5 x6 s) := by
  refine dr_meti (own := RX11) (by decide) rfl (Nat.le_of_ble_eq_true rfl) hap ?_
  intro p e s0 m args below meth c A E
  unfold f_X11_rule
  refine g_eqL (lv' := [(0, .ref (ad 11)), (1, .int x1), (2, .int x2), (3, .int x3), (4, .int x4), (5, .int x5), (6, .int x6)]) rfl ?_
  refine g_iload_n E dX11_rule_0 1 rfl ?_
  refine g_if_lt E 10 dX11_rule_1 (by decide) ?_ ?_
  · refine g_bipush E (v := (-2)) dX11_rule_10 (by decide) ?_
    exact g_iret E dX11_rule_12
  · refine g_iload_n E dX11_rule_4 1 rfl ?_
    refine g_bipush E (v := 20) dX11_rule_5 (by decide) ?_
    refine g_icmp_le E 13 dX11_rule_7 (by decide) ?_ ?_
    · refine g_aload_n E dX11_rule_13 0 rfl ?_
      refine gg_11_34 E (hN 11 (by decide)) dX11_rule_14 ?_
      refine g_iload_n E dX11_rule_17 2 rfl ?_
      refine g_iload_n E dX11_rule_18 3 rfl ?_
      refine g_iload E dX11_rule_19 4 rfl ?_
      refine g_iload E dX11_rule_21 5 rfl ?_
      refine g_iload E dX11_rule_23 6 rfl ?_
      refine g_cVv E [.int x2, .int x3, .int x4, .int x5, .int x6] rfl (c_X5_hear hap (fun x h => hN x (ns_5_11 x h)) x2 x3 x4 x5 x6 s) (hN 5 (by decide)) (by decide) rfl rfl mi_X5_hear msl_X5_hear mw_X5_hear rfl ml_11_111 ⟨Nat.le_of_ble_eq_true rfl, Nat.le_of_ble_eq_true rfl⟩ (Nat.le_of_ble_eq_true rfl) dX11_rule_25 (fun s1 => ?_)
      refine g_aload_n E dX11_rule_28 0 rfl ?_
      refine gg_11_34 E (hN 11 (by decide)) dX11_rule_29 ?_
      refine g_iload_n E dX11_rule_32 1 rfl ?_
      refine g_cVi E [.int x1] rfl (c_X5_faultOf hap (fun x h => hN x (ns_5_11 x h)) x1 s1) (hN 5 (by decide)) (by decide) rfl rfl mi_X5_faultOf msl_X5_faultOf mw_X5_faultOf rfl ml_11_115 ⟨Nat.le_of_ble_eq_true rfl, Nat.le_of_ble_eq_true rfl⟩ (Nat.le_of_ble_eq_true rfl) dX11_rule_33 (fun r3 s2 => ?_)
      refine g_istore E (lv' := [(7, .int r3), (0, .ref (ad 11)), (1, .int x1), (2, .int x2), (3, .int x3), (4, .int x4), (5, .int x5), (6, .int x6)]) dX11_rule_36 (by decide) rfl ?_
      refine g_iload E dX11_rule_38 0 rfl ?_
      refine g_iconst E (v := (-1)) dX11_rule_40 (by decide) ?_
      refine g_icmp_ne E 61 dX11_rule_41 (by decide) ?_ ?_
      · refine g_iload E dX11_rule_61 0 rfl ?_
        exact g_iret E dX11_rule_63
      · refine g_aload_n E dX11_rule_44 1 rfl ?_
        refine gg_11_55 E (hN 11 (by decide)) dX11_rule_45 ?_
        refine g_cVi E [] rfl (c_X6_begun hap (fun x h => hN x (ns_6_11 x h))  s2) (hN 6 (by decide)) (by decide) rfl rfl mi_X6_begun msl_X6_begun mw_X6_begun rfl ml_11_118 ⟨Nat.le_of_ble_eq_true rfl, Nat.le_of_ble_eq_true rfl⟩ (Nat.le_of_ble_eq_true rfl) dX11_rule_48 (fun r5 s4 => ?_)
        refine g_if_ne E 61 dX11_rule_51 (by decide) ?_ ?_
        · refine g_iload E dX11_rule_61 0 rfl ?_
          exact g_iret E dX11_rule_63
        · refine g_aload_n E dX11_rule_54 1 rfl ?_
          refine gg_11_34 E (hN 11 (by decide)) dX11_rule_55 ?_
          refine g_cVv E [] rfl (c_X5_keepWhatWasRead hap (fun x h => hN x (ns_5_11 x h))  s4) (hN 5 (by decide)) (by decide) rfl rfl mi_X5_keepWhatWasRead msl_X5_keepWhatWasRead mw_X5_keepWhatWasRead rfl ml_11_122 ⟨Nat.le_of_ble_eq_true rfl, Nat.le_of_ble_eq_true rfl⟩ (Nat.le_of_ble_eq_true rfl) dX11_rule_58 (fun s6 => ?_)
          refine g_iload E dX11_rule_61 0 rfl ?_
          exact g_iret E dX11_rule_63
    · refine g_bipush E (v := (-2)) dX11_rule_10 (by decide) ?_
      exact g_iret E dX11_rule_12
end

theorem dX11_isHeading_0 : decode cX11_isHeading 0 = .ok (.iload_n 0, 1) := by decide +kernel
theorem dX11_isHeading_1 : decode cX11_isHeading 1 = .ok (.ifCond .lt 14, 3) := by decide +kernel
theorem dX11_isHeading_4 : decode cX11_isHeading 4 = .ok (.iload_n 0, 1) := by decide +kernel
theorem dX11_isHeading_5 : decode cX11_isHeading 5 = .ok (.sipush 10000, 3) := by decide +kernel
theorem dX11_isHeading_8 : decode cX11_isHeading 8 = .ok (.if_icmp .ge 7, 3) := by decide +kernel
theorem dX11_isHeading_11 : decode cX11_isHeading 11 = .ok (.iconst 1, 1) := by decide +kernel
theorem dX11_isHeading_12 : decode cX11_isHeading 12 = .ok (.goto 4, 3) := by decide +kernel
theorem dX11_isHeading_15 : decode cX11_isHeading 15 = .ok (.iconst 0, 1) := by decide +kernel
theorem dX11_isHeading_16 : decode cX11_isHeading 16 = .ok (.ireturn, 1) := by decide +kernel
def f_X11_isHeading (ln : Nat → Nat) (x0 : Int32) (s : dr_S) : Option (Int32 × dr_S) := (if x0 < 0 then some (0, s) else (if ((10000 : Int32) ≤ x0 : Prop) then some (0, s) else some (1, s)))
section
variable {p : Program} {l : Launch} {e : Env} {s0 : State} {m : MethodId} {args : Array Value} {below : List Frame} {meth : Method} {c : Code} {A : Nat → Prop} {D : va_G} {cI cZ : ClassId} {ad ln : Nat → Nat} {L : List Nat}
set_option maxHeartbeats 4000000 in
set_option maxRecDepth 20000 in
theorem c_X11_isHeading (hap : dr_ap ad L) (hN : ∀ x ∈ nd_11, x ∈ L) (x0 : Int32) (s : dr_S) : dr_Mi l D cI cZ ad ln L yX11_isHeading cX11_isHeading 1 (some .boolean) 0 [.int x0] s (f_X11_isHeading ln x0 s) := by
  refine dr_meti (own := RX11) (by decide) rfl (Nat.le_of_ble_eq_true rfl) hap ?_
  intro p e s0 m args below meth c A E
  unfold f_X11_isHeading
  refine g_eqL (lv' := [(0, .int x0)]) rfl ?_
  refine g_iload_n E dX11_isHeading_0 0 rfl ?_
  refine g_if_lt E 15 dX11_isHeading_1 (by decide) ?_ ?_
  · refine g_iconst E (v := 0) dX11_isHeading_15 (by decide) ?_
    exact g_zret E dX11_isHeading_16 (Or.inl rfl)
  · refine g_iload_n E dX11_isHeading_4 0 rfl ?_
    refine g_sipush E (v := 10000) dX11_isHeading_5 (by decide) ?_
    refine g_icmp_ge E 15 dX11_isHeading_8 (by decide) ?_ ?_
    · refine g_iconst E (v := 0) dX11_isHeading_15 (by decide) ?_
      exact g_zret E dX11_isHeading_16 (Or.inl rfl)
    · refine g_iconst E (v := 1) dX11_isHeading_11 (by decide) ?_
      refine g_goto E 16 dX11_isHeading_12 (by decide) ?_
      exact g_zret E dX11_isHeading_16 (Or.inr rfl)
end

theorem dX11_ahead_0 : decode cX11_ahead 0 = .ok (.iload_n 1, 1) := by decide +kernel
theorem dX11_ahead_1 : decode cX11_ahead 1 = .ok (.invokestatic 125, 3) := by decide +kernel
theorem dX11_ahead_4 : decode cX11_ahead 4 = .ok (.ifCond .eq 10, 3) := by decide +kernel
theorem dX11_ahead_7 : decode cX11_ahead 7 = .ok (.iload_n 2, 1) := by decide +kernel
theorem dX11_ahead_8 : decode cX11_ahead 8 = .ok (.invokestatic 125, 3) := by decide +kernel
theorem dX11_ahead_11 : decode cX11_ahead 11 = .ok (.ifCond .ne 5, 3) := by decide +kernel
theorem dX11_ahead_14 : decode cX11_ahead 14 = .ok (.iconst (-1), 1) := by decide +kernel
theorem dX11_ahead_15 : decode cX11_ahead 15 = .ok (.ireturn, 1) := by decide +kernel
theorem dX11_ahead_16 : decode cX11_ahead 16 = .ok (.aload_n 0, 1) := by decide +kernel
theorem dX11_ahead_17 : decode cX11_ahead 17 = .ok (.getfield 34, 3) := by decide +kernel
theorem dX11_ahead_20 : decode cX11_ahead 20 = .ok (.iload_n 1, 1) := by decide +kernel
theorem dX11_ahead_21 : decode cX11_ahead 21 = .ok (.iload_n 2, 1) := by decide +kernel
theorem dX11_ahead_22 : decode cX11_ahead 22 = .ok (.invokevirtual 129, 3) := by decide +kernel
theorem dX11_ahead_25 : decode cX11_ahead 25 = .ok (.ifCond .eq 7, 3) := by decide +kernel
theorem dX11_ahead_28 : decode cX11_ahead 28 = .ok (.iconst 1, 1) := by decide +kernel
theorem dX11_ahead_29 : decode cX11_ahead 29 = .ok (.goto 4, 3) := by decide +kernel
theorem dX11_ahead_32 : decode cX11_ahead 32 = .ok (.iconst 0, 1) := by decide +kernel
theorem dX11_ahead_33 : decode cX11_ahead 33 = .ok (.ireturn, 1) := by decide +kernel
def f_X11_ahead (ln : Nat → Nat) (x1 : Int32) (x2 : Int32) (s : dr_S) : Option (Int32 × dr_S) := dr_bnd (f_X11_isHeading ln x1 s) (fun r2 s1 => (if r2 = 0 then some ((-1), s1) else dr_bnd (f_X11_isHeading ln x2 s1) (fun r4 s3 => (if r4 = 0 then some ((-1), s3) else dr_bnd (f_X5_isAhead ln x1 x2 s3) (fun r6 s5 => (if r6 = 0 then some (0, s5) else some (1, s5)))))))
section
variable {p : Program} {l : Launch} {e : Env} {s0 : State} {m : MethodId} {args : Array Value} {below : List Frame} {meth : Method} {c : Code} {A : Nat → Prop} {D : va_G} {cI cZ : ClassId} {ad ln : Nat → Nat} {L : List Nat}
set_option maxHeartbeats 4000000 in
set_option maxRecDepth 20000 in
theorem c_X11_ahead (hap : dr_ap ad L) (hN : ∀ x ∈ nd_11, x ∈ L) (x1 : Int32) (x2 : Int32) (s : dr_S) : dr_Mi l D cI cZ ad ln L yX11_ahead cX11_ahead 3 (some .int) 1 [.ref (ad 11), .int x1, .int x2] s (f_X11_ahead ln x1 x2 s) := by
  refine dr_meti (own := RX11) (by decide) rfl (Nat.le_of_ble_eq_true rfl) hap ?_
  intro p e s0 m args below meth c A E
  unfold f_X11_ahead
  refine g_eqL (lv' := [(0, .ref (ad 11)), (1, .int x1), (2, .int x2)]) rfl ?_
  refine g_iload_n E dX11_ahead_0 1 rfl ?_
  refine g_cSi E [.int x1] rfl (c_X11_isHeading hap hN x1 s) ms_X11_isHeading mw_X11_isHeading rfl ml_11_125 ⟨Nat.le_of_ble_eq_true rfl, Nat.le_of_ble_eq_true rfl⟩ (Nat.le_of_ble_eq_true rfl) dX11_ahead_1 (fun r2 s1 => ?_)
  refine g_if_eq E 14 dX11_ahead_4 (by decide) ?_ ?_
  · refine g_iconst E (v := (-1)) dX11_ahead_14 (by decide) ?_
    exact g_iret E dX11_ahead_15
  · refine g_iload_n E dX11_ahead_7 2 rfl ?_
    refine g_cSi E [.int x2] rfl (c_X11_isHeading hap hN x2 s1) ms_X11_isHeading mw_X11_isHeading rfl ml_11_125 ⟨Nat.le_of_ble_eq_true rfl, Nat.le_of_ble_eq_true rfl⟩ (Nat.le_of_ble_eq_true rfl) dX11_ahead_8 (fun r4 s3 => ?_)
    refine g_if_ne E 16 dX11_ahead_11 (by decide) ?_ ?_
    · refine g_aload_n E dX11_ahead_16 0 rfl ?_
      refine gg_11_34 E (hN 11 (by decide)) dX11_ahead_17 ?_
      refine g_iload_n E dX11_ahead_20 1 rfl ?_
      refine g_iload_n E dX11_ahead_21 2 rfl ?_
      refine g_cVi E [.int x1, .int x2] rfl (c_X5_isAhead hap (fun x h => hN x (ns_5_11 x h)) x1 x2 s3) (hN 5 (by decide)) (by decide) rfl rfl mi_X5_isAhead msl_X5_isAhead mw_X5_isAhead rfl ml_11_129 ⟨Nat.le_of_ble_eq_true rfl, Nat.le_of_ble_eq_true rfl⟩ (Nat.le_of_ble_eq_true rfl) dX11_ahead_22 (fun r6 s5 => ?_)
      refine g_if_eq E 32 dX11_ahead_25 (by decide) ?_ ?_
      · refine g_iconst E (v := 0) dX11_ahead_32 (by decide) ?_
        exact g_iret E dX11_ahead_33
      · refine g_iconst E (v := 1) dX11_ahead_28 (by decide) ?_
        refine g_goto E 33 dX11_ahead_29 (by decide) ?_
        exact g_iret E dX11_ahead_33
    · refine g_iconst E (v := (-1)) dX11_ahead_14 (by decide) ?_
      exact g_iret E dX11_ahead_15
end

theorem dX11_isClerk_0 : decode cX11_isClerk 0 = .ok (.iload_n 0, 1) := by decide +kernel
theorem dX11_isClerk_1 : decode cX11_isClerk 1 = .ok (.ifCond .lt 12, 3) := by decide +kernel
theorem dX11_isClerk_4 : decode cX11_isClerk 4 = .ok (.iload_n 0, 1) := by decide +kernel
theorem dX11_isClerk_5 : decode cX11_isClerk 5 = .ok (.iconst 4, 1) := by decide +kernel
theorem dX11_isClerk_6 : decode cX11_isClerk 6 = .ok (.if_icmp .ge 7, 3) := by decide +kernel
theorem dX11_isClerk_9 : decode cX11_isClerk 9 = .ok (.iconst 1, 1) := by decide +kernel
theorem dX11_isClerk_10 : decode cX11_isClerk 10 = .ok (.goto 4, 3) := by decide +kernel
theorem dX11_isClerk_13 : decode cX11_isClerk 13 = .ok (.iconst 0, 1) := by decide +kernel
theorem dX11_isClerk_14 : decode cX11_isClerk 14 = .ok (.ireturn, 1) := by decide +kernel
def f_X11_isClerk (ln : Nat → Nat) (x0 : Int32) (s : dr_S) : Option (Int32 × dr_S) := (if x0 < 0 then some (0, s) else (if ((4 : Int32) ≤ x0 : Prop) then some (0, s) else some (1, s)))
section
variable {p : Program} {l : Launch} {e : Env} {s0 : State} {m : MethodId} {args : Array Value} {below : List Frame} {meth : Method} {c : Code} {A : Nat → Prop} {D : va_G} {cI cZ : ClassId} {ad ln : Nat → Nat} {L : List Nat}
set_option maxHeartbeats 4000000 in
set_option maxRecDepth 20000 in
theorem c_X11_isClerk (hap : dr_ap ad L) (hN : ∀ x ∈ nd_11, x ∈ L) (x0 : Int32) (s : dr_S) : dr_Mi l D cI cZ ad ln L yX11_isClerk cX11_isClerk 1 (some .boolean) 0 [.int x0] s (f_X11_isClerk ln x0 s) := by
  refine dr_meti (own := RX11) (by decide) rfl (Nat.le_of_ble_eq_true rfl) hap ?_
  intro p e s0 m args below meth c A E
  unfold f_X11_isClerk
  refine g_eqL (lv' := [(0, .int x0)]) rfl ?_
  refine g_iload_n E dX11_isClerk_0 0 rfl ?_
  refine g_if_lt E 13 dX11_isClerk_1 (by decide) ?_ ?_
  · refine g_iconst E (v := 0) dX11_isClerk_13 (by decide) ?_
    exact g_zret E dX11_isClerk_14 (Or.inl rfl)
  · refine g_iload_n E dX11_isClerk_4 0 rfl ?_
    refine g_iconst E (v := 4) dX11_isClerk_5 (by decide) ?_
    refine g_icmp_ge E 13 dX11_isClerk_6 (by decide) ?_ ?_
    · refine g_iconst E (v := 0) dX11_isClerk_13 (by decide) ?_
      exact g_zret E dX11_isClerk_14 (Or.inl rfl)
    · refine g_iconst E (v := 1) dX11_isClerk_9 (by decide) ?_
      refine g_goto E 14 dX11_isClerk_10 (by decide) ?_
      exact g_zret E dX11_isClerk_14 (Or.inr rfl)
end

theorem dX11_isIdleClerk_0 : decode cX11_isIdleClerk 0 = .ok (.iload_n 1, 1) := by decide +kernel
theorem dX11_isIdleClerk_1 : decode cX11_isIdleClerk 1 = .ok (.invokestatic 153, 3) := by decide +kernel
theorem dX11_isIdleClerk_4 : decode cX11_isIdleClerk 4 = .ok (.ifCond .eq 18, 3) := by decide +kernel
theorem dX11_isIdleClerk_7 : decode cX11_isIdleClerk 7 = .ok (.aload_n 0, 1) := by decide +kernel
theorem dX11_isIdleClerk_8 : decode cX11_isIdleClerk 8 = .ok (.getfield 50, 3) := by decide +kernel
theorem dX11_isIdleClerk_11 : decode cX11_isIdleClerk 11 = .ok (.iload_n 1, 1) := by decide +kernel
theorem dX11_isIdleClerk_12 : decode cX11_isIdleClerk 12 = .ok (.invokevirtual 156, 3) := by decide +kernel
theorem dX11_isIdleClerk_15 : decode cX11_isIdleClerk 15 = .ok (.ifCond .eq 7, 3) := by decide +kernel
theorem dX11_isIdleClerk_18 : decode cX11_isIdleClerk 18 = .ok (.iconst 1, 1) := by decide +kernel
theorem dX11_isIdleClerk_19 : decode cX11_isIdleClerk 19 = .ok (.goto 4, 3) := by decide +kernel
theorem dX11_isIdleClerk_22 : decode cX11_isIdleClerk 22 = .ok (.iconst 0, 1) := by decide +kernel
theorem dX11_isIdleClerk_23 : decode cX11_isIdleClerk 23 = .ok (.ireturn, 1) := by decide +kernel
def f_X11_isIdleClerk (ln : Nat → Nat) (x1 : Int32) (s : dr_S) : Option (Int32 × dr_S) := dr_bnd (f_X11_isClerk ln x1 s) (fun r2 s1 => (if r2 = 0 then some (0, s1) else dr_bnd (f_X3_isIdle ln x1 s1) (fun r4 s3 => (if r4 = 0 then some (0, s3) else some (1, s3)))))
section
variable {p : Program} {l : Launch} {e : Env} {s0 : State} {m : MethodId} {args : Array Value} {below : List Frame} {meth : Method} {c : Code} {A : Nat → Prop} {D : va_G} {cI cZ : ClassId} {ad ln : Nat → Nat} {L : List Nat}
set_option maxHeartbeats 4000000 in
set_option maxRecDepth 20000 in
theorem c_X11_isIdleClerk (hap : dr_ap ad L) (hN : ∀ x ∈ nd_11, x ∈ L) (x1 : Int32) (s : dr_S) : dr_Mi l D cI cZ ad ln L yX11_isIdleClerk cX11_isIdleClerk 2 (some .boolean) 3 [.ref (ad 11), .int x1] s (f_X11_isIdleClerk ln x1 s) := by
  refine dr_meti (own := RX11) (by decide) rfl (Nat.le_of_ble_eq_true rfl) hap ?_
  intro p e s0 m args below meth c A E
  unfold f_X11_isIdleClerk
  refine g_eqL (lv' := [(0, .ref (ad 11)), (1, .int x1)]) rfl ?_
  refine g_iload_n E dX11_isIdleClerk_0 1 rfl ?_
  refine g_cSi E [.int x1] rfl (c_X11_isClerk hap hN x1 s) ms_X11_isClerk mw_X11_isClerk rfl ml_11_153 ⟨Nat.le_of_ble_eq_true rfl, Nat.le_of_ble_eq_true rfl⟩ (Nat.le_of_ble_eq_true rfl) dX11_isIdleClerk_1 (fun r2 s1 => ?_)
  refine g_if_eq E 22 dX11_isIdleClerk_4 (by decide) ?_ ?_
  · refine g_iconst E (v := 0) dX11_isIdleClerk_22 (by decide) ?_
    exact g_zret E dX11_isIdleClerk_23 (Or.inl rfl)
  · refine g_aload_n E dX11_isIdleClerk_7 0 rfl ?_
    refine gg_11_50 E (hN 11 (by decide)) dX11_isIdleClerk_8 ?_
    refine g_iload_n E dX11_isIdleClerk_11 1 rfl ?_
    refine g_cVi E [.int x1] rfl (c_X3_isIdle hap (fun x h => hN x (ns_3_11 x h)) x1 s1) (hN 3 (by decide)) (by decide) rfl rfl mi_X3_isIdle msl_X3_isIdle mw_X3_isIdle rfl ml_11_156 ⟨Nat.le_of_ble_eq_true rfl, Nat.le_of_ble_eq_true rfl⟩ (Nat.le_of_ble_eq_true rfl) dX11_isIdleClerk_12 (fun r4 s3 => ?_)
    refine g_if_eq E 22 dX11_isIdleClerk_15 (by decide) ?_ ?_
    · refine g_iconst E (v := 0) dX11_isIdleClerk_22 (by decide) ?_
      exact g_zret E dX11_isIdleClerk_23 (Or.inl rfl)
    · refine g_iconst E (v := 1) dX11_isIdleClerk_18 (by decide) ?_
      refine g_goto E 23 dX11_isIdleClerk_19 (by decide) ?_
      exact g_zret E dX11_isIdleClerk_23 (Or.inr rfl)
end

theorem dX11_fault_0 : decode cX11_fault 0 = .ok (.aload_n 0, 1) := by decide +kernel
theorem dX11_fault_1 : decode cX11_fault 1 = .ok (.iload_n 1, 1) := by decide +kernel
theorem dX11_fault_2 : decode cX11_fault 2 = .ok (.invokevirtual 133, 3) := by decide +kernel
theorem dX11_fault_5 : decode cX11_fault 5 = .ok (.ifCond .eq 12, 3) := by decide +kernel
theorem dX11_fault_8 : decode cX11_fault 8 = .ok (.iload_n 2, 1) := by decide +kernel
theorem dX11_fault_9 : decode cX11_fault 9 = .ok (.ifCond .lt 8, 3) := by decide +kernel
theorem dX11_fault_12 : decode cX11_fault 12 = .ok (.iload_n 2, 1) := by decide +kernel
theorem dX11_fault_13 : decode cX11_fault 13 = .ok (.iconst 2, 1) := by decide +kernel
theorem dX11_fault_14 : decode cX11_fault 14 = .ok (.if_icmp .le 5, 3) := by decide +kernel
theorem dX11_fault_17 : decode cX11_fault 17 = .ok (.iconst 0, 1) := by decide +kernel
theorem dX11_fault_18 : decode cX11_fault 18 = .ok (.ireturn, 1) := by decide +kernel
theorem dX11_fault_19 : decode cX11_fault 19 = .ok (.aload_n 0, 1) := by decide +kernel
theorem dX11_fault_20 : decode cX11_fault 20 = .ok (.getfield 50, 3) := by decide +kernel
theorem dX11_fault_23 : decode cX11_fault 23 = .ok (.iload_n 1, 1) := by decide +kernel
theorem dX11_fault_24 : decode cX11_fault 24 = .ok (.iconst 5, 1) := by decide +kernel
theorem dX11_fault_25 : decode cX11_fault 25 = .ok (.iload_n 2, 1) := by decide +kernel
theorem dX11_fault_26 : decode cX11_fault 26 = .ok (.invokevirtual 136, 3) := by decide +kernel
theorem dX11_fault_29 : decode cX11_fault 29 = .ok (.iconst 1, 1) := by decide +kernel
theorem dX11_fault_30 : decode cX11_fault 30 = .ok (.ireturn, 1) := by decide +kernel
def f_X11_fault (ln : Nat → Nat) (x1 : Int32) (x2 : Int32) (s : dr_S) : Option (Int32 × dr_S) := dr_bnd (f_X11_isIdleClerk ln x1 s) (fun r2 s1 => (if r2 = 0 then some (0, s1) else (if x2 < 0 then some (0, s1) else (if x2 ≤ 2 then dr_bndv (f_X3_set ln x1 5 x2 s1) (fun s3 => some (1, s3)) else some (0, s1)))))
section
variable {p : Program} {l : Launch} {e : Env} {s0 : State} {m : MethodId} {args : Array Value} {below : List Frame} {meth : Method} {c : Code} {A : Nat → Prop} {D : va_G} {cI cZ : ClassId} {ad ln : Nat → Nat} {L : List Nat}
set_option maxHeartbeats 4000000 in
set_option maxRecDepth 20000 in
theorem c_X11_fault (hap : dr_ap ad L) (hN : ∀ x ∈ nd_11, x ∈ L) (x1 : Int32) (x2 : Int32) (s : dr_S) : dr_Mi l D cI cZ ad ln L yX11_fault cX11_fault 3 (some .boolean) 4 [.ref (ad 11), .int x1, .int x2] s (f_X11_fault ln x1 x2 s) := by
  refine dr_meti (own := RX11) (by decide) rfl (Nat.le_of_ble_eq_true rfl) hap ?_
  intro p e s0 m args below meth c A E
  unfold f_X11_fault
  refine g_eqL (lv' := [(0, .ref (ad 11)), (1, .int x1), (2, .int x2)]) rfl ?_
  refine g_aload_n E dX11_fault_0 0 rfl ?_
  refine g_iload_n E dX11_fault_1 1 rfl ?_
  refine g_cVi E [.int x1] rfl (c_X11_isIdleClerk hap hN x1 s) (hN 11 (by decide)) (by decide) rfl rfl mi_X11_isIdleClerk msl_X11_isIdleClerk mw_X11_isIdleClerk rfl ml_11_133 ⟨Nat.le_of_ble_eq_true rfl, Nat.le_of_ble_eq_true rfl⟩ (Nat.le_of_ble_eq_true rfl) dX11_fault_2 (fun r2 s1 => ?_)
  refine g_if_eq E 17 dX11_fault_5 (by decide) ?_ ?_
  · refine g_iconst E (v := 0) dX11_fault_17 (by decide) ?_
    exact g_zret E dX11_fault_18 (Or.inl rfl)
  · refine g_iload_n E dX11_fault_8 2 rfl ?_
    refine g_if_lt E 17 dX11_fault_9 (by decide) ?_ ?_
    · refine g_iconst E (v := 0) dX11_fault_17 (by decide) ?_
      exact g_zret E dX11_fault_18 (Or.inl rfl)
    · refine g_iload_n E dX11_fault_12 2 rfl ?_
      refine g_iconst E (v := 2) dX11_fault_13 (by decide) ?_
      refine g_icmp_le E 19 dX11_fault_14 (by decide) ?_ ?_
      · refine g_aload_n E dX11_fault_19 0 rfl ?_
        refine gg_11_50 E (hN 11 (by decide)) dX11_fault_20 ?_
        refine g_iload_n E dX11_fault_23 1 rfl ?_
        refine g_iconst E (v := 5) dX11_fault_24 (by decide) ?_
        refine g_iload_n E dX11_fault_25 2 rfl ?_
        refine g_cVv E [.int x1, .int 5, .int x2] rfl (c_X3_set hap (fun x h => hN x (ns_3_11 x h)) x1 5 x2 s1) (hN 3 (by decide)) (by decide) rfl rfl mi_X3_set msl_X3_set mw_X3_set rfl ml_11_136 ⟨Nat.le_of_ble_eq_true rfl, Nat.le_of_ble_eq_true rfl⟩ (Nat.le_of_ble_eq_true rfl) dX11_fault_26 (fun s3 => ?_)
        refine g_iconst E (v := 1) dX11_fault_29 (by decide) ?_
        exact g_zret E dX11_fault_30 (Or.inr rfl)
      · refine g_iconst E (v := 0) dX11_fault_17 (by decide) ?_
        exact g_zret E dX11_fault_18 (Or.inl rfl)
end

theorem dX11_begin_0 : decode cX11_begin 0 = .ok (.aload_n 0, 1) := by decide +kernel
theorem dX11_begin_1 : decode cX11_begin 1 = .ok (.iload_n 1, 1) := by decide +kernel
theorem dX11_begin_2 : decode cX11_begin 2 = .ok (.invokevirtual 133, 3) := by decide +kernel
theorem dX11_begin_5 : decode cX11_begin 5 = .ok (.ifCond .eq 19, 3) := by decide +kernel
theorem dX11_begin_8 : decode cX11_begin 8 = .ok (.iload_n 2, 1) := by decide +kernel
theorem dX11_begin_9 : decode cX11_begin 9 = .ok (.ifCond .lt 15, 3) := by decide +kernel
theorem dX11_begin_12 : decode cX11_begin 12 = .ok (.iload_n 2, 1) := by decide +kernel
theorem dX11_begin_13 : decode cX11_begin 13 = .ok (.iconst 2, 1) := by decide +kernel
theorem dX11_begin_14 : decode cX11_begin 14 = .ok (.if_icmp .gt 10, 3) := by decide +kernel
theorem dX11_begin_17 : decode cX11_begin 17 = .ok (.iload_n 3, 1) := by decide +kernel
theorem dX11_begin_18 : decode cX11_begin 18 = .ok (.invokestatic 125, 3) := by decide +kernel
theorem dX11_begin_21 : decode cX11_begin 21 = .ok (.ifCond .ne 5, 3) := by decide +kernel
theorem dX11_begin_24 : decode cX11_begin 24 = .ok (.iconst (-1), 1) := by decide +kernel
theorem dX11_begin_25 : decode cX11_begin 25 = .ok (.ireturn, 1) := by decide +kernel
theorem dX11_begin_26 : decode cX11_begin 26 = .ok (.aload_n 0, 1) := by decide +kernel
theorem dX11_begin_27 : decode cX11_begin 27 = .ok (.getfield 55, 3) := by decide +kernel
theorem dX11_begin_30 : decode cX11_begin 30 = .ok (.invokevirtual 118, 3) := by decide +kernel
theorem dX11_begin_33 : decode cX11_begin 33 = .ok (.bipush 120, 2) := by decide +kernel
theorem dX11_begin_35 : decode cX11_begin 35 = .ok (.if_icmp .lt 5, 3) := by decide +kernel
theorem dX11_begin_38 : decode cX11_begin 38 = .ok (.iconst (-1), 1) := by decide +kernel
theorem dX11_begin_39 : decode cX11_begin 39 = .ok (.ireturn, 1) := by decide +kernel
theorem dX11_begin_40 : decode cX11_begin 40 = .ok (.iload_n 2, 1) := by decide +kernel
theorem dX11_begin_41 : decode cX11_begin 41 = .ok (.iconst 1, 1) := by decide +kernel
theorem dX11_begin_42 : decode cX11_begin 42 = .ok (.if_icmp .ne 21, 3) := by decide +kernel
theorem dX11_begin_45 : decode cX11_begin 45 = .ok (.sipush 256, 3) := by decide +kernel
theorem dX11_begin_48 : decode cX11_begin 48 = .ok (.aload_n 0, 1) := by decide +kernel
theorem dX11_begin_49 : decode cX11_begin 49 = .ok (.getfield 43, 3) := by decide +kernel
theorem dX11_begin_52 : decode cX11_begin 52 = .ok (.invokevirtual 140, 3) := by decide +kernel
theorem dX11_begin_55 : decode cX11_begin 55 = .ok (.isub, 1) := by decide +kernel
theorem dX11_begin_56 : decode cX11_begin 56 = .ok (.bipush 60, 2) := by decide +kernel
theorem dX11_begin_58 : decode cX11_begin 58 = .ok (.if_icmp .ge 5, 3) := by decide +kernel
theorem dX11_begin_61 : decode cX11_begin 61 = .ok (.iconst (-1), 1) := by decide +kernel
theorem dX11_begin_62 : decode cX11_begin 62 = .ok (.ireturn, 1) := by decide +kernel
theorem dX11_begin_63 : decode cX11_begin 63 = .ok (.aload_n 0, 1) := by decide +kernel
theorem dX11_begin_64 : decode cX11_begin 64 = .ok (.getfield 55, 3) := by decide +kernel
theorem dX11_begin_67 : decode cX11_begin 67 = .ok (.iload_n 2, 1) := by decide +kernel
theorem dX11_begin_68 : decode cX11_begin 68 = .ok (.iload_n 3, 1) := by decide +kernel
theorem dX11_begin_69 : decode cX11_begin 69 = .ok (.invokevirtual 143, 3) := by decide +kernel
theorem dX11_begin_72 : decode cX11_begin 72 = .ok (.istore 4, 2) := by decide +kernel
theorem dX11_begin_74 : decode cX11_begin 74 = .ok (.aload_n 0, 1) := by decide +kernel
theorem dX11_begin_75 : decode cX11_begin 75 = .ok (.getfield 50, 3) := by decide +kernel
theorem dX11_begin_78 : decode cX11_begin 78 = .ok (.iload_n 1, 1) := by decide +kernel
theorem dX11_begin_79 : decode cX11_begin 79 = .ok (.iconst 2, 1) := by decide +kernel
theorem dX11_begin_80 : decode cX11_begin 80 = .ok (.iload 4, 2) := by decide +kernel
theorem dX11_begin_82 : decode cX11_begin 82 = .ok (.invokevirtual 136, 3) := by decide +kernel
theorem dX11_begin_85 : decode cX11_begin 85 = .ok (.aload_n 0, 1) := by decide +kernel
theorem dX11_begin_86 : decode cX11_begin 86 = .ok (.getfield 50, 3) := by decide +kernel
theorem dX11_begin_89 : decode cX11_begin 89 = .ok (.iload_n 1, 1) := by decide +kernel
theorem dX11_begin_90 : decode cX11_begin 90 = .ok (.iconst 3, 1) := by decide +kernel
theorem dX11_begin_91 : decode cX11_begin 91 = .ok (.iload_n 3, 1) := by decide +kernel
theorem dX11_begin_92 : decode cX11_begin 92 = .ok (.invokevirtual 136, 3) := by decide +kernel
theorem dX11_begin_95 : decode cX11_begin 95 = .ok (.aload_n 0, 1) := by decide +kernel
theorem dX11_begin_96 : decode cX11_begin 96 = .ok (.getfield 50, 3) := by decide +kernel
theorem dX11_begin_99 : decode cX11_begin 99 = .ok (.iload_n 1, 1) := by decide +kernel
theorem dX11_begin_100 : decode cX11_begin 100 = .ok (.aload_n 0, 1) := by decide +kernel
theorem dX11_begin_101 : decode cX11_begin 101 = .ok (.getfield 43, 3) := by decide +kernel
theorem dX11_begin_104 : decode cX11_begin 104 = .ok (.invokevirtual 146, 3) := by decide +kernel
theorem dX11_begin_107 : decode cX11_begin 107 = .ok (.invokevirtual 149, 3) := by decide +kernel
theorem dX11_begin_110 : decode cX11_begin 110 = .ok (.iload 4, 2) := by decide +kernel
theorem dX11_begin_112 : decode cX11_begin 112 = .ok (.ireturn, 1) := by decide +kernel
def f_X11_begin_p63 (ln : Nat → Nat) (x1 : Int32) (x2 : Int32) (x3 : Int32) (s : dr_S) : Option (Int32 × dr_S) := dr_bnd (f_X6_open ln x2 x3 s) (fun r10 s9 => dr_bndv (f_X3_set ln x1 2 r10 s9) (fun s11 => dr_bndv (f_X3_set ln x1 3 x3 s11) (fun s12 => dr_bnd (f_X4_top ln  s12) (fun r14 s13 => dr_bndv (f_X3_startReading ln x1 r14 s13) (fun s15 => some (r10, s15))))))
def f_X11_begin (ln : Nat → Nat) (x1 : Int32) (x2 : Int32) (x3 : Int32) (s : dr_S) : Option (Int32 × dr_S) := dr_bnd (f_X11_isIdleClerk ln x1 s) (fun r2 s1 => (if r2 = 0 then some ((-1), s1) else (if x2 < 0 then some ((-1), s1) else (if ((2 : Int32) < x2 : Prop) then some ((-1), s1) else dr_bnd (f_X11_isHeading ln x3 s1) (fun r4 s3 => (if r4 = 0 then some ((-1), s3) else dr_bnd (f_X6_begun ln  s3) (fun r6 s5 => (if r6 < 120 then (if x2 = 1 then dr_bnd (f_X4_inUse ln  s5) (fun r8 s7 => (if ((60 : Int32) ≤ (256 - r8) : Prop) then (f_X11_begin_p63 ln x1 x2 x3 s7) else some ((-1), s7))) else (f_X11_begin_p63 ln x1 x2 x3 s5)) else some ((-1), s5)))))))))
section
variable {p : Program} {l : Launch} {e : Env} {s0 : State} {m : MethodId} {args : Array Value} {below : List Frame} {meth : Method} {c : Code} {A : Nat → Prop} {D : va_G} {cI cZ : ClassId} {ad ln : Nat → Nat} {L : List Nat}
set_option maxHeartbeats 4000000 in
set_option maxRecDepth 20000 in
theorem w_X11_begin_p63 (E : dr_E p (dr_rm 4) s0 m args meth c 0 0 A s0.heap D cI cZ ad L cX11_begin 5 RX11 (some .int)) (hap : dr_ap ad L) (hN : ∀ x ∈ nd_11, x ∈ L) : ∀ (x1 : Int32) (x2 : Int32) (x3 : Int32) (s : dr_S), dr_G p l e (dr_rm 4) s0 m args below meth c 0 0 A s0.heap D cI cZ ad ln L 5 (dr_Zi D cI cZ ad ln L A below args s0 0 0) 63 [(0, .ref (ad 11)), (1, .int x1), (2, .int x2), (3, .int x3)] [] s (f_X11_begin_p63 ln x1 x2 x3 s) := by
  intro x1 x2 x3 s
  unfold f_X11_begin_p63
  refine g_aload_n E dX11_begin_63 0 rfl ?_
  refine gg_11_55 E (hN 11 (by decide)) dX11_begin_64 ?_
  refine g_iload_n E dX11_begin_67 2 rfl ?_
  refine g_iload_n E dX11_begin_68 3 rfl ?_
  refine g_cVi E [.int x2, .int x3] rfl (c_X6_open hap (fun x h => hN x (ns_6_11 x h)) x2 x3 s) (hN 6 (by decide)) (by decide) rfl rfl mi_X6_open msl_X6_open mw_X6_open rfl ml_11_143 ⟨Nat.le_of_ble_eq_true rfl, Nat.le_of_ble_eq_true rfl⟩ (Nat.le_of_ble_eq_true rfl) dX11_begin_69 (fun r10 s9 => ?_)
  refine g_istore E (lv' := [(4, .int r10), (0, .ref (ad 11)), (1, .int x1), (2, .int x2), (3, .int x3)]) dX11_begin_72 (by decide) rfl ?_
  refine g_aload_n E dX11_begin_74 1 rfl ?_
  refine gg_11_50 E (hN 11 (by decide)) dX11_begin_75 ?_
  refine g_iload_n E dX11_begin_78 2 rfl ?_
  refine g_iconst E (v := 2) dX11_begin_79 (by decide) ?_
  refine g_iload E dX11_begin_80 0 rfl ?_
  refine g_cVv E [.int x1, .int 2, .int r10] rfl (c_X3_set hap (fun x h => hN x (ns_3_11 x h)) x1 2 r10 s9) (hN 3 (by decide)) (by decide) rfl rfl mi_X3_set msl_X3_set mw_X3_set rfl ml_11_136 ⟨Nat.le_of_ble_eq_true rfl, Nat.le_of_ble_eq_true rfl⟩ (Nat.le_of_ble_eq_true rfl) dX11_begin_82 (fun s11 => ?_)
  refine g_aload_n E dX11_begin_85 1 rfl ?_
  refine gg_11_50 E (hN 11 (by decide)) dX11_begin_86 ?_
  refine g_iload_n E dX11_begin_89 2 rfl ?_
  refine g_iconst E (v := 3) dX11_begin_90 (by decide) ?_
  refine g_iload_n E dX11_begin_91 4 rfl ?_
  refine g_cVv E [.int x1, .int 3, .int x3] rfl (c_X3_set hap (fun x h => hN x (ns_3_11 x h)) x1 3 x3 s11) (hN 3 (by decide)) (by decide) rfl rfl mi_X3_set msl_X3_set mw_X3_set rfl ml_11_136 ⟨Nat.le_of_ble_eq_true rfl, Nat.le_of_ble_eq_true rfl⟩ (Nat.le_of_ble_eq_true rfl) dX11_begin_92 (fun s12 => ?_)
  refine g_aload_n E dX11_begin_95 1 rfl ?_
  refine gg_11_50 E (hN 11 (by decide)) dX11_begin_96 ?_
  refine g_iload_n E dX11_begin_99 2 rfl ?_
  refine g_aload_n E dX11_begin_100 1 rfl ?_
  refine gg_11_43 E (hN 11 (by decide)) dX11_begin_101 ?_
  refine g_cVi E [] rfl (c_X4_top hap (fun x h => hN x (ns_4_11 x h))  s12) (hN 4 (by decide)) (by decide) rfl rfl mi_X4_top msl_X4_top mw_X4_top rfl ml_11_146 ⟨Nat.le_of_ble_eq_true rfl, Nat.le_of_ble_eq_true rfl⟩ (Nat.le_of_ble_eq_true rfl) dX11_begin_104 (fun r14 s13 => ?_)
  refine g_cVv E [.int x1, .int r14] rfl (c_X3_startReading hap (fun x h => hN x (ns_3_11 x h)) x1 r14 s13) (hN 3 (by decide)) (by decide) rfl rfl mi_X3_startReading msl_X3_startReading mw_X3_startReading rfl ml_11_149 ⟨Nat.le_of_ble_eq_true rfl, Nat.le_of_ble_eq_true rfl⟩ (Nat.le_of_ble_eq_true rfl) dX11_begin_107 (fun s15 => ?_)
  refine g_iload E dX11_begin_110 0 rfl ?_
  exact g_iret E dX11_begin_112
set_option maxHeartbeats 4000000 in
set_option maxRecDepth 20000 in
theorem c_X11_begin (hap : dr_ap ad L) (hN : ∀ x ∈ nd_11, x ∈ L) (x1 : Int32) (x2 : Int32) (x3 : Int32) (s : dr_S) : dr_Mi l D cI cZ ad ln L yX11_begin cX11_begin 5 (some .int) 4 [.ref (ad 11), .int x1, .int x2, .int x3] s (f_X11_begin ln x1 x2 x3 s) := by
  refine dr_meti (own := RX11) (by decide) rfl (Nat.le_of_ble_eq_true rfl) hap ?_
  intro p e s0 m args below meth c A E
  unfold f_X11_begin
  refine g_eqL (lv' := [(0, .ref (ad 11)), (1, .int x1), (2, .int x2), (3, .int x3)]) rfl ?_
  refine g_aload_n E dX11_begin_0 0 rfl ?_
  refine g_iload_n E dX11_begin_1 1 rfl ?_
  refine g_cVi E [.int x1] rfl (c_X11_isIdleClerk hap hN x1 s) (hN 11 (by decide)) (by decide) rfl rfl mi_X11_isIdleClerk msl_X11_isIdleClerk mw_X11_isIdleClerk rfl ml_11_133 ⟨Nat.le_of_ble_eq_true rfl, Nat.le_of_ble_eq_true rfl⟩ (Nat.le_of_ble_eq_true rfl) dX11_begin_2 (fun r2 s1 => ?_)
  refine g_if_eq E 24 dX11_begin_5 (by decide) ?_ ?_
  · refine g_iconst E (v := (-1)) dX11_begin_24 (by decide) ?_
    exact g_iret E dX11_begin_25
  · refine g_iload_n E dX11_begin_8 2 rfl ?_
    refine g_if_lt E 24 dX11_begin_9 (by decide) ?_ ?_
    · refine g_iconst E (v := (-1)) dX11_begin_24 (by decide) ?_
      exact g_iret E dX11_begin_25
    · refine g_iload_n E dX11_begin_12 2 rfl ?_
      refine g_iconst E (v := 2) dX11_begin_13 (by decide) ?_
      refine g_icmp_gt E 24 dX11_begin_14 (by decide) ?_ ?_
      · refine g_iconst E (v := (-1)) dX11_begin_24 (by decide) ?_
        exact g_iret E dX11_begin_25
      · refine g_iload_n E dX11_begin_17 3 rfl ?_
        refine g_cSi E [.int x3] rfl (c_X11_isHeading hap hN x3 s1) ms_X11_isHeading mw_X11_isHeading rfl ml_11_125 ⟨Nat.le_of_ble_eq_true rfl, Nat.le_of_ble_eq_true rfl⟩ (Nat.le_of_ble_eq_true rfl) dX11_begin_18 (fun r4 s3 => ?_)
        refine g_if_ne E 26 dX11_begin_21 (by decide) ?_ ?_
        · refine g_aload_n E dX11_begin_26 0 rfl ?_
          refine gg_11_55 E (hN 11 (by decide)) dX11_begin_27 ?_
          refine g_cVi E [] rfl (c_X6_begun hap (fun x h => hN x (ns_6_11 x h))  s3) (hN 6 (by decide)) (by decide) rfl rfl mi_X6_begun msl_X6_begun mw_X6_begun rfl ml_11_118 ⟨Nat.le_of_ble_eq_true rfl, Nat.le_of_ble_eq_true rfl⟩ (Nat.le_of_ble_eq_true rfl) dX11_begin_30 (fun r6 s5 => ?_)
          refine g_bipush E (v := 120) dX11_begin_33 (by decide) ?_
          refine g_icmp_lt E 40 dX11_begin_35 (by decide) ?_ ?_
          · refine g_iload_n E dX11_begin_40 2 rfl ?_
            refine g_iconst E (v := 1) dX11_begin_41 (by decide) ?_
            refine g_icmp_ne E 63 dX11_begin_42 (by decide) ?_ ?_
            · refine g_sub [0, 1, 2, 3] rfl ?_
              exact w_X11_begin_p63 E hap hN x1 x2 x3 s5
            · refine g_sipush E (v := 256) dX11_begin_45 (by decide) ?_
              refine g_aload_n E dX11_begin_48 0 rfl ?_
              refine gg_11_43 E (hN 11 (by decide)) dX11_begin_49 ?_
              refine g_cVi E [] rfl (c_X4_inUse hap (fun x h => hN x (ns_4_11 x h))  s5) (hN 4 (by decide)) (by decide) rfl rfl mi_X4_inUse msl_X4_inUse mw_X4_inUse rfl ml_11_140 ⟨Nat.le_of_ble_eq_true rfl, Nat.le_of_ble_eq_true rfl⟩ (Nat.le_of_ble_eq_true rfl) dX11_begin_52 (fun r8 s7 => ?_)
              refine g_isub E dX11_begin_55 ?_
              refine g_bipush E (v := 60) dX11_begin_56 (by decide) ?_
              refine g_icmp_ge E 63 dX11_begin_58 (by decide) ?_ ?_
              · refine g_sub [0, 1, 2, 3] rfl ?_
                exact w_X11_begin_p63 E hap hN x1 x2 x3 s7
              · refine g_iconst E (v := (-1)) dX11_begin_61 (by decide) ?_
                exact g_iret E dX11_begin_62
          · refine g_iconst E (v := (-1)) dX11_begin_38 (by decide) ?_
            exact g_iret E dX11_begin_39
        · refine g_iconst E (v := (-1)) dX11_begin_24 (by decide) ?_
          exact g_iret E dX11_begin_25
end

theorem dX11_step_0 : decode cX11_step 0 = .ok (.iload_n 1, 1) := by decide +kernel
theorem dX11_step_1 : decode cX11_step 1 = .ok (.invokestatic 153, 3) := by decide +kernel
theorem dX11_step_4 : decode cX11_step 4 = .ok (.ifCond .eq 25, 3) := by decide +kernel
theorem dX11_step_7 : decode cX11_step 7 = .ok (.aload_n 0, 1) := by decide +kernel
theorem dX11_step_8 : decode cX11_step 8 = .ok (.getfield 50, 3) := by decide +kernel
theorem dX11_step_11 : decode cX11_step 11 = .ok (.iload_n 1, 1) := by decide +kernel
theorem dX11_step_12 : decode cX11_step 12 = .ok (.invokevirtual 156, 3) := by decide +kernel
theorem dX11_step_15 : decode cX11_step 15 = .ok (.ifCond .ne 14, 3) := by decide +kernel
theorem dX11_step_18 : decode cX11_step 18 = .ok (.iload_n 2, 1) := by decide +kernel
theorem dX11_step_19 : decode cX11_step 19 = .ok (.iconst 1, 1) := by decide +kernel
theorem dX11_step_20 : decode cX11_step 20 = .ok (.if_icmp .lt 9, 3) := by decide +kernel
theorem dX11_step_23 : decode cX11_step 23 = .ok (.iload_n 2, 1) := by decide +kernel
theorem dX11_step_24 : decode cX11_step 24 = .ok (.bipush 30, 2) := by decide +kernel
theorem dX11_step_26 : decode cX11_step 26 = .ok (.if_icmp .le 5, 3) := by decide +kernel
theorem dX11_step_29 : decode cX11_step 29 = .ok (.iconst (-1), 1) := by decide +kernel
theorem dX11_step_30 : decode cX11_step 30 = .ok (.ireturn, 1) := by decide +kernel
theorem dX11_step_31 : decode cX11_step 31 = .ok (.iconst 0, 1) := by decide +kernel
theorem dX11_step_32 : decode cX11_step 32 = .ok (.istore_n 3, 1) := by decide +kernel
theorem dX11_step_33 : decode cX11_step 33 = .ok (.iload_n 3, 1) := by decide +kernel
theorem dX11_step_34 : decode cX11_step 34 = .ok (.iload_n 2, 1) := by decide +kernel
theorem dX11_step_35 : decode cX11_step 35 = .ok (.if_icmp .ge 28, 3) := by decide +kernel
theorem dX11_step_38 : decode cX11_step 38 = .ok (.aload_n 0, 1) := by decide +kernel
theorem dX11_step_39 : decode cX11_step 39 = .ok (.getfield 50, 3) := by decide +kernel
theorem dX11_step_42 : decode cX11_step 42 = .ok (.iload_n 1, 1) := by decide +kernel
theorem dX11_step_43 : decode cX11_step 43 = .ok (.invokevirtual 156, 3) := by decide +kernel
theorem dX11_step_46 : decode cX11_step 46 = .ok (.ifCond .ne 17, 3) := by decide +kernel
theorem dX11_step_49 : decode cX11_step 49 = .ok (.aload_n 0, 1) := by decide +kernel
theorem dX11_step_50 : decode cX11_step 50 = .ok (.getfield 64, 3) := by decide +kernel
theorem dX11_step_53 : decode cX11_step 53 = .ok (.iload_n 1, 1) := by decide +kernel
theorem dX11_step_54 : decode cX11_step 54 = .ok (.invokevirtual 159, 3) := by decide +kernel
theorem dX11_step_57 : decode cX11_step 57 = .ok (.iinc 3 1, 3) := by decide +kernel
theorem dX11_step_60 : decode cX11_step 60 = .ok (.goto (-27), 3) := by decide +kernel
theorem dX11_step_63 : decode cX11_step 63 = .ok (.iload_n 3, 1) := by decide +kernel
theorem dX11_step_64 : decode cX11_step 64 = .ok (.ireturn, 1) := by decide +kernel
def f_X11_step_p33 (ln : Nat → Nat) : Nat → Int32 → Int32 → Int32 → dr_S → Option (Int32 × dr_S)
  | 0, _, _, _, _ => none
  | n + 1, x1, x2, x3, s => (if x2 ≤ x3 then some (x3, s) else dr_bnd (f_X3_isIdle ln x1 s) (fun r6 s5 => (if r6 = 0 then dr_bndv (f_X10_go ln x1 s5) (fun s7 => dr_let (x3 + 1) (fun y8 => (f_X11_step_p33 ln n x1 x2 y8 s7))) else some (x3, s5))))
def f_X11_step (ln : Nat → Nat) (x1 : Int32) (x2 : Int32) (s : dr_S) : Option (Int32 × dr_S) := dr_bnd (f_X11_isClerk ln x1 s) (fun r2 s1 => (if r2 = 0 then some ((-1), s1) else dr_bnd (f_X3_isIdle ln x1 s1) (fun r4 s3 => (if r4 = 0 then (if x2 < 1 then some ((-1), s3) else (if x2 ≤ 30 then (f_X11_step_p33 ln dr_N x1 x2 0 s3) else some ((-1), s3))) else some ((-1), s3)))))
section
variable {p : Program} {l : Launch} {e : Env} {s0 : State} {m : MethodId} {args : Array Value} {below : List Frame} {meth : Method} {c : Code} {A : Nat → Prop} {D : va_G} {cI cZ : ClassId} {ad ln : Nat → Nat} {L : List Nat}
set_option maxHeartbeats 4000000 in
set_option maxRecDepth 20000 in
theorem w_X11_step_p33 (E : dr_E p (dr_rm 6) s0 m args meth c 0 0 A s0.heap D cI cZ ad L cX11_step 4 RX11 (some .int)) (hap : dr_ap ad L) (hN : ∀ x ∈ nd_11, x ∈ L) : ∀ (n : Nat) (x1 : Int32) (x2 : Int32) (x3 : Int32) (s : dr_S), dr_G p l e (dr_rm 6) s0 m args below meth c 0 0 A s0.heap D cI cZ ad ln L 4 (dr_Zi D cI cZ ad ln L A below args s0 0 0) 33 [(0, .ref (ad 11)), (1, .int x1), (2, .int x2), (3, .int x3)] [] s (f_X11_step_p33 ln n x1 x2 x3 s) := by
  intro n
  induction n with
  | zero =>
    intro x1 x2 x3 s
    rw [f_X11_step_p33]
    exact g_none
  | succ n hkb33 =>
    intro x1 x2 x3 s
    rw [f_X11_step_p33]
    refine g_iload_n E dX11_step_33 3 rfl ?_
    refine g_iload_n E dX11_step_34 2 rfl ?_
    refine g_icmp_ge E 63 dX11_step_35 (by decide) ?_ ?_
    · refine g_iload_n E dX11_step_63 3 rfl ?_
      exact g_iret E dX11_step_64
    · refine g_aload_n E dX11_step_38 0 rfl ?_
      refine gg_11_50 E (hN 11 (by decide)) dX11_step_39 ?_
      refine g_iload_n E dX11_step_42 1 rfl ?_
      refine g_cVi E [.int x1] rfl (c_X3_isIdle hap (fun x h => hN x (ns_3_11 x h)) x1 s) (hN 3 (by decide)) (by decide) rfl rfl mi_X3_isIdle msl_X3_isIdle mw_X3_isIdle rfl ml_11_156 ⟨Nat.le_of_ble_eq_true rfl, Nat.le_of_ble_eq_true rfl⟩ (Nat.le_of_ble_eq_true rfl) dX11_step_43 (fun r6 s5 => ?_)
      refine g_if_ne E 63 dX11_step_46 (by decide) ?_ ?_
      · refine g_iload_n E dX11_step_63 3 rfl ?_
        exact g_iret E dX11_step_64
      · refine g_aload_n E dX11_step_49 0 rfl ?_
        refine gg_11_64 E (hN 11 (by decide)) dX11_step_50 ?_
        refine g_iload_n E dX11_step_53 1 rfl ?_
        refine g_cVv E [.int x1] rfl (c_X10_go hap (fun x h => hN x (ns_10_11 x h)) x1 s5) (hN 10 (by decide)) (by decide) rfl rfl mi_X10_go msl_X10_go mw_X10_go rfl ml_11_159 ⟨Nat.le_of_ble_eq_true rfl, Nat.le_of_ble_eq_true rfl⟩ (Nat.le_of_ble_eq_true rfl) dX11_step_54 (fun s7 => ?_)
        refine g_iinc E (lv' := []) (lv'' := fun y8 => [(3, .int y8), (0, .ref (ad 11)), (1, .int x1), (2, .int x2)]) (v := 1) dX11_step_57 3 rfl (by decide) (by decide) (fun _ => rfl) (fun y8 => ?_)
        refine g_goto E 33 dX11_step_60 (by decide) ?_
        refine g_sub [1, 2, 3, 0] rfl ?_
        exact hkb33 x1 x2 y8 s7
set_option maxHeartbeats 4000000 in
set_option maxRecDepth 20000 in
theorem c_X11_step (hap : dr_ap ad L) (hN : ∀ x ∈ nd_11, x ∈ L) (x1 : Int32) (x2 : Int32) (s : dr_S) : dr_Mi l D cI cZ ad ln L yX11_step cX11_step 4 (some .int) 6 [.ref (ad 11), .int x1, .int x2] s (f_X11_step ln x1 x2 s) := by
  refine dr_meti (own := RX11) (by decide) rfl (Nat.le_of_ble_eq_true rfl) hap ?_
  intro p e s0 m args below meth c A E
  unfold f_X11_step
  refine g_eqL (lv' := [(0, .ref (ad 11)), (1, .int x1), (2, .int x2)]) rfl ?_
  refine g_iload_n E dX11_step_0 1 rfl ?_
  refine g_cSi E [.int x1] rfl (c_X11_isClerk hap hN x1 s) ms_X11_isClerk mw_X11_isClerk rfl ml_11_153 ⟨Nat.le_of_ble_eq_true rfl, Nat.le_of_ble_eq_true rfl⟩ (Nat.le_of_ble_eq_true rfl) dX11_step_1 (fun r2 s1 => ?_)
  refine g_if_eq E 29 dX11_step_4 (by decide) ?_ ?_
  · refine g_iconst E (v := (-1)) dX11_step_29 (by decide) ?_
    exact g_iret E dX11_step_30
  · refine g_aload_n E dX11_step_7 0 rfl ?_
    refine gg_11_50 E (hN 11 (by decide)) dX11_step_8 ?_
    refine g_iload_n E dX11_step_11 1 rfl ?_
    refine g_cVi E [.int x1] rfl (c_X3_isIdle hap (fun x h => hN x (ns_3_11 x h)) x1 s1) (hN 3 (by decide)) (by decide) rfl rfl mi_X3_isIdle msl_X3_isIdle mw_X3_isIdle rfl ml_11_156 ⟨Nat.le_of_ble_eq_true rfl, Nat.le_of_ble_eq_true rfl⟩ (Nat.le_of_ble_eq_true rfl) dX11_step_12 (fun r4 s3 => ?_)
    refine g_if_ne E 29 dX11_step_15 (by decide) ?_ ?_
    · refine g_iconst E (v := (-1)) dX11_step_29 (by decide) ?_
      exact g_iret E dX11_step_30
    · refine g_iload_n E dX11_step_18 2 rfl ?_
      refine g_iconst E (v := 1) dX11_step_19 (by decide) ?_
      refine g_icmp_lt E 29 dX11_step_20 (by decide) ?_ ?_
      · refine g_iconst E (v := (-1)) dX11_step_29 (by decide) ?_
        exact g_iret E dX11_step_30
      · refine g_iload_n E dX11_step_23 2 rfl ?_
        refine g_bipush E (v := 30) dX11_step_24 (by decide) ?_
        refine g_icmp_le E 31 dX11_step_26 (by decide) ?_ ?_
        · refine g_iconst E (v := 0) dX11_step_31 (by decide) ?_
          refine g_istore_n E (lv' := [(3, .int 0), (0, .ref (ad 11)), (1, .int x1), (2, .int x2)]) dX11_step_32 (by decide) rfl ?_
          refine g_sub [1, 2, 3, 0] rfl ?_
          exact w_X11_step_p33 E hap hN dr_N x1 x2 0 s3
        · refine g_iconst E (v := (-1)) dX11_step_29 (by decide) ?_
          exact g_iret E dX11_step_30
end

theorem dX11_clerk_0 : decode cX11_clerk 0 = .ok (.iload_n 1, 1) := by decide +kernel
theorem dX11_clerk_1 : decode cX11_clerk 1 = .ok (.invokestatic 153, 3) := by decide +kernel
theorem dX11_clerk_4 : decode cX11_clerk 4 = .ok (.ifCond .eq 12, 3) := by decide +kernel
theorem dX11_clerk_7 : decode cX11_clerk 7 = .ok (.iload_n 2, 1) := by decide +kernel
theorem dX11_clerk_8 : decode cX11_clerk 8 = .ok (.ifCond .lt 8, 3) := by decide +kernel
theorem dX11_clerk_11 : decode cX11_clerk 11 = .ok (.iload_n 2, 1) := by decide +kernel
theorem dX11_clerk_12 : decode cX11_clerk 12 = .ok (.iconst 4, 1) := by decide +kernel
theorem dX11_clerk_13 : decode cX11_clerk 13 = .ok (.if_icmp .le 5, 3) := by decide +kernel
theorem dX11_clerk_16 : decode cX11_clerk 16 = .ok (.iconst (-1), 1) := by decide +kernel
theorem dX11_clerk_17 : decode cX11_clerk 17 = .ok (.ireturn, 1) := by decide +kernel
theorem dX11_clerk_18 : decode cX11_clerk 18 = .ok (.aload_n 0, 1) := by decide +kernel
theorem dX11_clerk_19 : decode cX11_clerk 19 = .ok (.getfield 50, 3) := by decide +kernel
theorem dX11_clerk_22 : decode cX11_clerk 22 = .ok (.iload_n 1, 1) := by decide +kernel
theorem dX11_clerk_23 : decode cX11_clerk 23 = .ok (.iload_n 2, 1) := by decide +kernel
theorem dX11_clerk_24 : decode cX11_clerk 24 = .ok (.invokevirtual 162, 3) := by decide +kernel
theorem dX11_clerk_27 : decode cX11_clerk 27 = .ok (.ireturn, 1) := by decide +kernel
def f_X11_clerk (ln : Nat → Nat) (x1 : Int32) (x2 : Int32) (s : dr_S) : Option (Int32 × dr_S) := dr_bnd (f_X11_isClerk ln x1 s) (fun r2 s1 => (if r2 = 0 then some ((-1), s1) else (if x2 < 0 then some ((-1), s1) else (if x2 ≤ 4 then dr_bnd (f_X3_get ln x1 x2 s1) (fun r4 s3 => some (r4, s3)) else some ((-1), s1)))))
section
variable {p : Program} {l : Launch} {e : Env} {s0 : State} {m : MethodId} {args : Array Value} {below : List Frame} {meth : Method} {c : Code} {A : Nat → Prop} {D : va_G} {cI cZ : ClassId} {ad ln : Nat → Nat} {L : List Nat}
set_option maxHeartbeats 4000000 in
set_option maxRecDepth 20000 in
theorem c_X11_clerk (hap : dr_ap ad L) (hN : ∀ x ∈ nd_11, x ∈ L) (x1 : Int32) (x2 : Int32) (s : dr_S) : dr_Mi l D cI cZ ad ln L yX11_clerk cX11_clerk 3 (some .int) 2 [.ref (ad 11), .int x1, .int x2] s (f_X11_clerk ln x1 x2 s) := by
  refine dr_meti (own := RX11) (by decide) rfl (Nat.le_of_ble_eq_true rfl) hap ?_
  intro p e s0 m args below meth c A E
  unfold f_X11_clerk
  refine g_eqL (lv' := [(0, .ref (ad 11)), (1, .int x1), (2, .int x2)]) rfl ?_
  refine g_iload_n E dX11_clerk_0 1 rfl ?_
  refine g_cSi E [.int x1] rfl (c_X11_isClerk hap hN x1 s) ms_X11_isClerk mw_X11_isClerk rfl ml_11_153 ⟨Nat.le_of_ble_eq_true rfl, Nat.le_of_ble_eq_true rfl⟩ (Nat.le_of_ble_eq_true rfl) dX11_clerk_1 (fun r2 s1 => ?_)
  refine g_if_eq E 16 dX11_clerk_4 (by decide) ?_ ?_
  · refine g_iconst E (v := (-1)) dX11_clerk_16 (by decide) ?_
    exact g_iret E dX11_clerk_17
  · refine g_iload_n E dX11_clerk_7 2 rfl ?_
    refine g_if_lt E 16 dX11_clerk_8 (by decide) ?_ ?_
    · refine g_iconst E (v := (-1)) dX11_clerk_16 (by decide) ?_
      exact g_iret E dX11_clerk_17
    · refine g_iload_n E dX11_clerk_11 2 rfl ?_
      refine g_iconst E (v := 4) dX11_clerk_12 (by decide) ?_
      refine g_icmp_le E 18 dX11_clerk_13 (by decide) ?_ ?_
      · refine g_aload_n E dX11_clerk_18 0 rfl ?_
        refine gg_11_50 E (hN 11 (by decide)) dX11_clerk_19 ?_
        refine g_iload_n E dX11_clerk_22 1 rfl ?_
        refine g_iload_n E dX11_clerk_23 2 rfl ?_
        refine g_cVi E [.int x1, .int x2] rfl (c_X3_get hap (fun x h => hN x (ns_3_11 x h)) x1 x2 s1) (hN 3 (by decide)) (by decide) rfl rfl mi_X3_get msl_X3_get mw_X3_get rfl ml_11_162 ⟨Nat.le_of_ble_eq_true rfl, Nat.le_of_ble_eq_true rfl⟩ (Nat.le_of_ble_eq_true rfl) dX11_clerk_24 (fun r4 s3 => ?_)
        exact g_iret E dX11_clerk_27
      · refine g_iconst E (v := (-1)) dX11_clerk_16 (by decide) ?_
        exact g_iret E dX11_clerk_17
end

theorem dX11_job_0 : decode cX11_job 0 = .ok (.iload_n 1, 1) := by decide +kernel
theorem dX11_job_1 : decode cX11_job 1 = .ok (.ifCond .lt 24, 3) := by decide +kernel
theorem dX11_job_4 : decode cX11_job 4 = .ok (.iload_n 1, 1) := by decide +kernel
theorem dX11_job_5 : decode cX11_job 5 = .ok (.aload_n 0, 1) := by decide +kernel
theorem dX11_job_6 : decode cX11_job 6 = .ok (.getfield 55, 3) := by decide +kernel
theorem dX11_job_9 : decode cX11_job 9 = .ok (.invokevirtual 118, 3) := by decide +kernel
theorem dX11_job_12 : decode cX11_job 12 = .ok (.if_icmp .ge 13, 3) := by decide +kernel
theorem dX11_job_15 : decode cX11_job 15 = .ok (.iload_n 2, 1) := by decide +kernel
theorem dX11_job_16 : decode cX11_job 16 = .ok (.ifCond .lt 9, 3) := by decide +kernel
theorem dX11_job_19 : decode cX11_job 19 = .ok (.iload_n 2, 1) := by decide +kernel
theorem dX11_job_20 : decode cX11_job 20 = .ok (.bipush 6, 2) := by decide +kernel
theorem dX11_job_22 : decode cX11_job 22 = .ok (.if_icmp .le 5, 3) := by decide +kernel
theorem dX11_job_25 : decode cX11_job 25 = .ok (.iconst (-1), 1) := by decide +kernel
theorem dX11_job_26 : decode cX11_job 26 = .ok (.ireturn, 1) := by decide +kernel
theorem dX11_job_27 : decode cX11_job 27 = .ok (.aload_n 0, 1) := by decide +kernel
theorem dX11_job_28 : decode cX11_job 28 = .ok (.getfield 55, 3) := by decide +kernel
theorem dX11_job_31 : decode cX11_job 31 = .ok (.iload_n 1, 1) := by decide +kernel
theorem dX11_job_32 : decode cX11_job 32 = .ok (.iload_n 2, 1) := by decide +kernel
theorem dX11_job_33 : decode cX11_job 33 = .ok (.invokevirtual 165, 3) := by decide +kernel
theorem dX11_job_36 : decode cX11_job 36 = .ok (.ireturn, 1) := by decide +kernel
def f_X11_job (ln : Nat → Nat) (x1 : Int32) (x2 : Int32) (s : dr_S) : Option (Int32 × dr_S) := (if x1 < 0 then some ((-1), s) else dr_bnd (f_X6_begun ln  s) (fun r2 s1 => (if r2 ≤ x1 then some ((-1), s1) else (if x2 < 0 then some ((-1), s1) else (if x2 ≤ 6 then dr_bnd (f_X6_get ln x1 x2 s1) (fun r4 s3 => some (r4, s3)) else some ((-1), s1))))))
section
variable {p : Program} {l : Launch} {e : Env} {s0 : State} {m : MethodId} {args : Array Value} {below : List Frame} {meth : Method} {c : Code} {A : Nat → Prop} {D : va_G} {cI cZ : ClassId} {ad ln : Nat → Nat} {L : List Nat}
set_option maxHeartbeats 4000000 in
set_option maxRecDepth 20000 in
theorem c_X11_job (hap : dr_ap ad L) (hN : ∀ x ∈ nd_11, x ∈ L) (x1 : Int32) (x2 : Int32) (s : dr_S) : dr_Mi l D cI cZ ad ln L yX11_job cX11_job 3 (some .int) 2 [.ref (ad 11), .int x1, .int x2] s (f_X11_job ln x1 x2 s) := by
  refine dr_meti (own := RX11) (by decide) rfl (Nat.le_of_ble_eq_true rfl) hap ?_
  intro p e s0 m args below meth c A E
  unfold f_X11_job
  refine g_eqL (lv' := [(0, .ref (ad 11)), (1, .int x1), (2, .int x2)]) rfl ?_
  refine g_iload_n E dX11_job_0 1 rfl ?_
  refine g_if_lt E 25 dX11_job_1 (by decide) ?_ ?_
  · refine g_iconst E (v := (-1)) dX11_job_25 (by decide) ?_
    exact g_iret E dX11_job_26
  · refine g_iload_n E dX11_job_4 1 rfl ?_
    refine g_aload_n E dX11_job_5 0 rfl ?_
    refine gg_11_55 E (hN 11 (by decide)) dX11_job_6 ?_
    refine g_cVi E [] rfl (c_X6_begun hap (fun x h => hN x (ns_6_11 x h))  s) (hN 6 (by decide)) (by decide) rfl rfl mi_X6_begun msl_X6_begun mw_X6_begun rfl ml_11_118 ⟨Nat.le_of_ble_eq_true rfl, Nat.le_of_ble_eq_true rfl⟩ (Nat.le_of_ble_eq_true rfl) dX11_job_9 (fun r2 s1 => ?_)
    refine g_icmp_ge E 25 dX11_job_12 (by decide) ?_ ?_
    · refine g_iconst E (v := (-1)) dX11_job_25 (by decide) ?_
      exact g_iret E dX11_job_26
    · refine g_iload_n E dX11_job_15 2 rfl ?_
      refine g_if_lt E 25 dX11_job_16 (by decide) ?_ ?_
      · refine g_iconst E (v := (-1)) dX11_job_25 (by decide) ?_
        exact g_iret E dX11_job_26
      · refine g_iload_n E dX11_job_19 2 rfl ?_
        refine g_bipush E (v := 6) dX11_job_20 (by decide) ?_
        refine g_icmp_le E 27 dX11_job_22 (by decide) ?_ ?_
        · refine g_aload_n E dX11_job_27 0 rfl ?_
          refine gg_11_55 E (hN 11 (by decide)) dX11_job_28 ?_
          refine g_iload_n E dX11_job_31 1 rfl ?_
          refine g_iload_n E dX11_job_32 2 rfl ?_
          refine g_cVi E [.int x1, .int x2] rfl (c_X6_get hap (fun x h => hN x (ns_6_11 x h)) x1 x2 s1) (hN 6 (by decide)) (by decide) rfl rfl mi_X6_get msl_X6_get mw_X6_get rfl ml_11_165 ⟨Nat.le_of_ble_eq_true rfl, Nat.le_of_ble_eq_true rfl⟩ (Nat.le_of_ble_eq_true rfl) dX11_job_33 (fun r4 s3 => ?_)
          exact g_iret E dX11_job_36
        · refine g_iconst E (v := (-1)) dX11_job_25 (by decide) ?_
          exact g_iret E dX11_job_26
end

theorem dX4_remove_0 : decode cX4_remove 0 = .ok (.aload_n 0, 1) := by decide +kernel
theorem dX4_remove_1 : decode cX4_remove 1 = .ok (.iload_n 1, 1) := by decide +kernel
theorem dX4_remove_2 : decode cX4_remove 2 = .ok (.iconst 1, 1) := by decide +kernel
theorem dX4_remove_3 : decode cX4_remove 3 = .ok (.invokevirtual 58, 3) := by decide +kernel
theorem dX4_remove_6 : decode cX4_remove 6 = .ok (.istore_n 3, 1) := by decide +kernel
theorem dX4_remove_7 : decode cX4_remove 7 = .ok (.iload_n 2, 1) := by decide +kernel
theorem dX4_remove_8 : decode cX4_remove 8 = .ok (.ifCond .lt 8, 3) := by decide +kernel
theorem dX4_remove_11 : decode cX4_remove 11 = .ok (.iload_n 2, 1) := by decide +kernel
theorem dX4_remove_12 : decode cX4_remove 12 = .ok (.iload_n 3, 1) := by decide +kernel
theorem dX4_remove_13 : decode cX4_remove 13 = .ok (.if_icmp .lt 4, 3) := by decide +kernel
theorem dX4_remove_16 : decode cX4_remove 16 = .ok (.return_, 1) := by decide +kernel
theorem dX4_remove_17 : decode cX4_remove 17 = .ok (.iload_n 1, 1) := by decide +kernel
theorem dX4_remove_18 : decode cX4_remove 18 = .ok (.aload_n 0, 1) := by decide +kernel
theorem dX4_remove_19 : decode cX4_remove 19 = .ok (.getfield 27, 3) := by decide +kernel
theorem dX4_remove_22 : decode cX4_remove 22 = .ok (.imul, 1) := by decide +kernel
theorem dX4_remove_23 : decode cX4_remove 23 = .ok (.iconst 5, 1) := by decide +kernel
theorem dX4_remove_24 : decode cX4_remove 24 = .ok (.iadd, 1) := by decide +kernel
theorem dX4_remove_25 : decode cX4_remove 25 = .ok (.istore 4, 2) := by decide +kernel
theorem dX4_remove_27 : decode cX4_remove 27 = .ok (.aload_n 0, 1) := by decide +kernel
theorem dX4_remove_28 : decode cX4_remove 28 = .ok (.getfield 9, 3) := by decide +kernel
theorem dX4_remove_31 : decode cX4_remove 31 = .ok (.iload 4, 2) := by decide +kernel
theorem dX4_remove_33 : decode cX4_remove 33 = .ok (.iload_n 2, 1) := by decide +kernel
theorem dX4_remove_34 : decode cX4_remove 34 = .ok (.iadd, 1) := by decide +kernel
theorem dX4_remove_35 : decode cX4_remove 35 = .ok (.iconst 1, 1) := by decide +kernel
theorem dX4_remove_36 : decode cX4_remove 36 = .ok (.iadd, 1) := by decide +kernel
theorem dX4_remove_37 : decode cX4_remove 37 = .ok (.iload 4, 2) := by decide +kernel
theorem dX4_remove_39 : decode cX4_remove 39 = .ok (.iload_n 2, 1) := by decide +kernel
theorem dX4_remove_40 : decode cX4_remove 40 = .ok (.iadd, 1) := by decide +kernel
theorem dX4_remove_41 : decode cX4_remove 41 = .ok (.iload_n 3, 1) := by decide +kernel
theorem dX4_remove_42 : decode cX4_remove 42 = .ok (.iload_n 2, 1) := by decide +kernel
theorem dX4_remove_43 : decode cX4_remove 43 = .ok (.isub, 1) := by decide +kernel
theorem dX4_remove_44 : decode cX4_remove 44 = .ok (.iconst 1, 1) := by decide +kernel
theorem dX4_remove_45 : decode cX4_remove 45 = .ok (.isub, 1) := by decide +kernel
theorem dX4_remove_46 : decode cX4_remove 46 = .ok (.invokevirtual 75, 3) := by decide +kernel
theorem dX4_remove_49 : decode cX4_remove 49 = .ok (.aload_n 0, 1) := by decide +kernel
theorem dX4_remove_50 : decode cX4_remove 50 = .ok (.iload_n 1, 1) := by decide +kernel
theorem dX4_remove_51 : decode cX4_remove 51 = .ok (.iconst 1, 1) := by decide +kernel
theorem dX4_remove_52 : decode cX4_remove 52 = .ok (.iload_n 3, 1) := by decide +kernel
theorem dX4_remove_53 : decode cX4_remove 53 = .ok (.iconst 1, 1) := by decide +kernel
theorem dX4_remove_54 : decode cX4_remove 54 = .ok (.isub, 1) := by decide +kernel
theorem dX4_remove_55 : decode cX4_remove 55 = .ok (.invokevirtual 65, 3) := by decide +kernel
theorem dX4_remove_58 : decode cX4_remove 58 = .ok (.return_, 1) := by decide +kernel
def f_X4_remove (ln : Nat → Nat) (x1 : Int32) (x2 : Int32) (s : dr_S) : Option (Int32 × dr_S) := dr_bnd (f_X4_get ln x1 1 s) (fun r2 s1 => (if x2 < 0 then some (0, s1) else (if x2 < r2 then dr_let ((x1 * (s1.2 403)) + 5) (fun y3 => dr_bndv (f_X2_copy ln (((y3 + x2) + 1)) ((y3 + x2)) (((r2 - x2) - 1)) s1) (fun s4 => dr_bndv (f_X4_set ln x1 1 ((r2 - 1)) s4) (fun s5 => some (0, s5)))) else some (0, s1))))
section
variable {p : Program} {l : Launch} {e : Env} {s0 : State} {m : MethodId} {args : Array Value} {below : List Frame} {meth : Method} {c : Code} {A : Nat → Prop} {D : va_G} {cI cZ : ClassId} {ad ln : Nat → Nat} {L : List Nat}
set_option maxHeartbeats 4000000 in
set_option maxRecDepth 20000 in
theorem c_X4_remove (hap : dr_ap ad L) (hN : ∀ x ∈ nd_4, x ∈ L) (x1 : Int32) (x2 : Int32) (s : dr_S) : dr_Mv l D cI cZ ad ln L yX4_remove cX4_remove 5 2 [.ref (ad 4), .int x1, .int x2] s (f_X4_remove ln x1 x2 s) := by
  refine dr_metv (own := RX4) (by decide) rfl (Nat.le_of_ble_eq_true rfl) hap ?_
  intro p e s0 m args below meth c A E
  unfold f_X4_remove
  refine g_eqL (lv' := [(0, .ref (ad 4)), (1, .int x1), (2, .int x2)]) rfl ?_
  refine g_aload_n E dX4_remove_0 0 rfl ?_
  refine g_iload_n E dX4_remove_1 1 rfl ?_
  refine g_iconst E (v := 1) dX4_remove_2 (by decide) ?_
  refine g_cVi E [.int x1, .int 1] rfl (c_X4_get hap hN x1 1 s) (hN 4 (by decide)) (by decide) rfl rfl mi_X4_get msl_X4_get mw_X4_get rfl ml_4_58 ⟨Nat.le_of_ble_eq_true rfl, Nat.le_of_ble_eq_true rfl⟩ (Nat.le_of_ble_eq_true rfl) dX4_remove_3 (fun r2 s1 => ?_)
  refine g_istore_n E (lv' := [(3, .int r2), (0, .ref (ad 4)), (1, .int x1), (2, .int x2)]) dX4_remove_6 (by decide) rfl ?_
  refine g_iload_n E dX4_remove_7 3 rfl ?_
  refine g_if_lt E 16 dX4_remove_8 (by decide) ?_ ?_
  · exact g_vret E dX4_remove_16
  · refine g_iload_n E dX4_remove_11 3 rfl ?_
    refine g_iload_n E dX4_remove_12 0 rfl ?_
    refine g_icmp_lt E 17 dX4_remove_13 (by decide) ?_ ?_
    · refine g_iload_n E dX4_remove_17 2 rfl ?_
      refine g_aload_n E dX4_remove_18 1 rfl ?_
      refine gg_4_27 E (hN 4 (by decide)) dX4_remove_19 ?_
      refine g_imul E dX4_remove_22 ?_
      refine g_iconst E (v := 5) dX4_remove_23 (by decide) ?_
      refine g_iadd E dX4_remove_24 ?_
      refine g_let (fun y3 => ?_)
      refine g_istore E (lv' := [(4, .int y3), (3, .int r2), (0, .ref (ad 4)), (1, .int x1), (2, .int x2)]) dX4_remove_25 (by decide) rfl ?_
      refine g_aload_n E dX4_remove_27 2 rfl ?_
      refine gg_4_9 E (hN 4 (by decide)) dX4_remove_28 ?_
      refine g_iload E dX4_remove_31 0 rfl ?_
      refine g_iload_n E dX4_remove_33 4 rfl ?_
      refine g_iadd E dX4_remove_34 ?_
      refine g_iconst E (v := 1) dX4_remove_35 (by decide) ?_
      refine g_iadd E dX4_remove_36 ?_
      refine g_iload E dX4_remove_37 0 rfl ?_
      refine g_iload_n E dX4_remove_39 4 rfl ?_
      refine g_iadd E dX4_remove_40 ?_
      refine g_iload_n E dX4_remove_41 1 rfl ?_
      refine g_iload_n E dX4_remove_42 4 rfl ?_
      refine g_isub E dX4_remove_43 ?_
      refine g_iconst E (v := 1) dX4_remove_44 (by decide) ?_
      refine g_isub E dX4_remove_45 ?_
      refine g_cVv E [.int ((y3 + x2) + 1), .int (y3 + x2), .int ((r2 - x2) - 1)] rfl (c_X2_copy hap (fun x h => hN x (ns_2_4 x h)) (((y3 + x2) + 1)) ((y3 + x2)) (((r2 - x2) - 1)) s1) (hN 2 (by decide)) (by decide) rfl rfl mi_X2_copy msl_X2_copy mw_X2_copy rfl ml_4_75 ⟨Nat.le_of_ble_eq_true rfl, Nat.le_of_ble_eq_true rfl⟩ (Nat.le_of_ble_eq_true rfl) dX4_remove_46 (fun s4 => ?_)
      refine g_aload_n E dX4_remove_49 2 rfl ?_
      refine g_iload_n E dX4_remove_50 3 rfl ?_
      refine g_iconst E (v := 1) dX4_remove_51 (by decide) ?_
      refine g_iload_n E dX4_remove_52 1 rfl ?_
      refine g_iconst E (v := 1) dX4_remove_53 (by decide) ?_
      refine g_isub E dX4_remove_54 ?_
      refine g_cVv E [.int x1, .int 1, .int (r2 - 1)] rfl (c_X4_set hap hN x1 1 ((r2 - 1)) s4) (hN 4 (by decide)) (by decide) rfl rfl mi_X4_set msl_X4_set mw_X4_set rfl ml_4_65 ⟨Nat.le_of_ble_eq_true rfl, Nat.le_of_ble_eq_true rfl⟩ (Nat.le_of_ble_eq_true rfl) dX4_remove_55 (fun s5 => ?_)
      exact g_vret E dX4_remove_58
    · exact g_vret E dX4_remove_16
end

theorem dX4_part_0 : decode cX4_part 0 = .ok (.aload_n 0, 1) := by decide +kernel
theorem dX4_part_1 : decode cX4_part 1 = .ok (.iload_n 1, 1) := by decide +kernel
theorem dX4_part_2 : decode cX4_part 2 = .ok (.iconst 0, 1) := by decide +kernel
theorem dX4_part_3 : decode cX4_part 3 = .ok (.invokevirtual 58, 3) := by decide +kernel
theorem dX4_part_6 : decode cX4_part 6 = .ok (.istore_n 2, 1) := by decide +kernel
theorem dX4_part_7 : decode cX4_part 7 = .ok (.aload_n 0, 1) := by decide +kernel
theorem dX4_part_8 : decode cX4_part 8 = .ok (.iload_n 1, 1) := by decide +kernel
theorem dX4_part_9 : decode cX4_part 9 = .ok (.iconst 1, 1) := by decide +kernel
theorem dX4_part_10 : decode cX4_part 10 = .ok (.invokevirtual 58, 3) := by decide +kernel
theorem dX4_part_13 : decode cX4_part 13 = .ok (.istore_n 3, 1) := by decide +kernel
theorem dX4_part_14 : decode cX4_part 14 = .ok (.aload_n 0, 1) := by decide +kernel
theorem dX4_part_15 : decode cX4_part 15 = .ok (.iload_n 2, 1) := by decide +kernel
theorem dX4_part_16 : decode cX4_part 16 = .ok (.invokevirtual 42, 3) := by decide +kernel
theorem dX4_part_19 : decode cX4_part 19 = .ok (.istore 4, 2) := by decide +kernel
theorem dX4_part_21 : decode cX4_part 21 = .ok (.iload 4, 2) := by decide +kernel
theorem dX4_part_23 : decode cX4_part 23 = .ok (.iconst (-1), 1) := by decide +kernel
theorem dX4_part_24 : decode cX4_part 24 = .ok (.if_icmp .ne 5, 3) := by decide +kernel
theorem dX4_part_27 : decode cX4_part 27 = .ok (.iconst (-1), 1) := by decide +kernel
theorem dX4_part_28 : decode cX4_part 28 = .ok (.ireturn, 1) := by decide +kernel
theorem dX4_part_29 : decode cX4_part 29 = .ok (.iload_n 1, 1) := by decide +kernel
theorem dX4_part_30 : decode cX4_part 30 = .ok (.aload_n 0, 1) := by decide +kernel
theorem dX4_part_31 : decode cX4_part 31 = .ok (.getfield 27, 3) := by decide +kernel
theorem dX4_part_34 : decode cX4_part 34 = .ok (.imul, 1) := by decide +kernel
theorem dX4_part_35 : decode cX4_part 35 = .ok (.istore 5, 2) := by decide +kernel
theorem dX4_part_37 : decode cX4_part 37 = .ok (.iload 4, 2) := by decide +kernel
theorem dX4_part_39 : decode cX4_part 39 = .ok (.aload_n 0, 1) := by decide +kernel
theorem dX4_part_40 : decode cX4_part 40 = .ok (.getfield 27, 3) := by decide +kernel
theorem dX4_part_43 : decode cX4_part 43 = .ok (.imul, 1) := by decide +kernel
theorem dX4_part_44 : decode cX4_part 44 = .ok (.istore 6, 2) := by decide +kernel
theorem dX4_part_46 : decode cX4_part 46 = .ok (.aload_n 0, 1) := by decide +kernel
theorem dX4_part_47 : decode cX4_part 47 = .ok (.getfield 19, 3) := by decide +kernel
theorem dX4_part_50 : decode cX4_part 50 = .ok (.iconst 1, 1) := by decide +kernel
theorem dX4_part_51 : decode cX4_part 51 = .ok (.iadd, 1) := by decide +kernel
theorem dX4_part_52 : decode cX4_part 52 = .ok (.istore 7, 2) := by decide +kernel
theorem dX4_part_54 : decode cX4_part 54 = .ok (.aload_n 0, 1) := by decide +kernel
theorem dX4_part_55 : decode cX4_part 55 = .ok (.getfield 9, 3) := by decide +kernel
theorem dX4_part_58 : decode cX4_part 58 = .ok (.iload 5, 2) := by decide +kernel
theorem dX4_part_60 : decode cX4_part 60 = .ok (.iconst 2, 1) := by decide +kernel
theorem dX4_part_61 : decode cX4_part 61 = .ok (.iadd, 1) := by decide +kernel
theorem dX4_part_62 : decode cX4_part 62 = .ok (.iload 6, 2) := by decide +kernel
theorem dX4_part_64 : decode cX4_part 64 = .ok (.iconst 2, 1) := by decide +kernel
theorem dX4_part_65 : decode cX4_part 65 = .ok (.iadd, 1) := by decide +kernel
theorem dX4_part_66 : decode cX4_part 66 = .ok (.iconst 2, 1) := by decide +kernel
theorem dX4_part_67 : decode cX4_part 67 = .ok (.invokevirtual 75, 3) := by decide +kernel
theorem dX4_part_70 : decode cX4_part 70 = .ok (.aload_n 0, 1) := by decide +kernel
theorem dX4_part_71 : decode cX4_part 71 = .ok (.getfield 9, 3) := by decide +kernel
theorem dX4_part_74 : decode cX4_part 74 = .ok (.iload 5, 2) := by decide +kernel
theorem dX4_part_76 : decode cX4_part 76 = .ok (.iconst 5, 1) := by decide +kernel
theorem dX4_part_77 : decode cX4_part 77 = .ok (.iadd, 1) := by decide +kernel
theorem dX4_part_78 : decode cX4_part 78 = .ok (.iload 7, 2) := by decide +kernel
theorem dX4_part_80 : decode cX4_part 80 = .ok (.iadd, 1) := by decide +kernel
theorem dX4_part_81 : decode cX4_part 81 = .ok (.iload 6, 2) := by decide +kernel
theorem dX4_part_83 : decode cX4_part 83 = .ok (.iconst 5, 1) := by decide +kernel
theorem dX4_part_84 : decode cX4_part 84 = .ok (.iadd, 1) := by decide +kernel
theorem dX4_part_85 : decode cX4_part 85 = .ok (.iload_n 3, 1) := by decide +kernel
theorem dX4_part_86 : decode cX4_part 86 = .ok (.iload 7, 2) := by decide +kernel
theorem dX4_part_88 : decode cX4_part 88 = .ok (.isub, 1) := by decide +kernel
theorem dX4_part_89 : decode cX4_part 89 = .ok (.invokevirtual 75, 3) := by decide +kernel
theorem dX4_part_92 : decode cX4_part 92 = .ok (.iload_n 2, 1) := by decide +kernel
theorem dX4_part_93 : decode cX4_part 93 = .ok (.ifCond .le 33, 3) := by decide +kernel
theorem dX4_part_96 : decode cX4_part 96 = .ok (.aload_n 0, 1) := by decide +kernel
theorem dX4_part_97 : decode cX4_part 97 = .ok (.getfield 9, 3) := by decide +kernel
theorem dX4_part_100 : decode cX4_part 100 = .ok (.iload 5, 2) := by decide +kernel
theorem dX4_part_102 : decode cX4_part 102 = .ok (.aload_n 0, 1) := by decide +kernel
theorem dX4_part_103 : decode cX4_part 103 = .ok (.getfield 30, 3) := by decide +kernel
theorem dX4_part_106 : decode cX4_part 106 = .ok (.iadd, 1) := by decide +kernel
theorem dX4_part_107 : decode cX4_part 107 = .ok (.iload 7, 2) := by decide +kernel
theorem dX4_part_109 : decode cX4_part 109 = .ok (.iadd, 1) := by decide +kernel
theorem dX4_part_110 : decode cX4_part 110 = .ok (.iload 6, 2) := by decide +kernel
theorem dX4_part_112 : decode cX4_part 112 = .ok (.aload_n 0, 1) := by decide +kernel
theorem dX4_part_113 : decode cX4_part 113 = .ok (.getfield 30, 3) := by decide +kernel
theorem dX4_part_116 : decode cX4_part 116 = .ok (.iadd, 1) := by decide +kernel
theorem dX4_part_117 : decode cX4_part 117 = .ok (.iload_n 3, 1) := by decide +kernel
theorem dX4_part_118 : decode cX4_part 118 = .ok (.iconst 1, 1) := by decide +kernel
theorem dX4_part_119 : decode cX4_part 119 = .ok (.iadd, 1) := by decide +kernel
theorem dX4_part_120 : decode cX4_part 120 = .ok (.iload 7, 2) := by decide +kernel
theorem dX4_part_122 : decode cX4_part 122 = .ok (.isub, 1) := by decide +kernel
theorem dX4_part_123 : decode cX4_part 123 = .ok (.invokevirtual 75, 3) := by decide +kernel
theorem dX4_part_126 : decode cX4_part 126 = .ok (.aload_n 0, 1) := by decide +kernel
theorem dX4_part_127 : decode cX4_part 127 = .ok (.iload 4, 2) := by decide +kernel
theorem dX4_part_129 : decode cX4_part 129 = .ok (.iconst 1, 1) := by decide +kernel
theorem dX4_part_130 : decode cX4_part 130 = .ok (.iload_n 3, 1) := by decide +kernel
theorem dX4_part_131 : decode cX4_part 131 = .ok (.iload 7, 2) := by decide +kernel
theorem dX4_part_133 : decode cX4_part 133 = .ok (.isub, 1) := by decide +kernel
theorem dX4_part_134 : decode cX4_part 134 = .ok (.invokevirtual 65, 3) := by decide +kernel
theorem dX4_part_137 : decode cX4_part 137 = .ok (.aload_n 0, 1) := by decide +kernel
theorem dX4_part_138 : decode cX4_part 138 = .ok (.iload_n 1, 1) := by decide +kernel
theorem dX4_part_139 : decode cX4_part 139 = .ok (.iconst 2, 1) := by decide +kernel
theorem dX4_part_140 : decode cX4_part 140 = .ok (.aload_n 0, 1) := by decide +kernel
theorem dX4_part_141 : decode cX4_part 141 = .ok (.getfield 9, 3) := by decide +kernel
theorem dX4_part_144 : decode cX4_part 144 = .ok (.iload 5, 2) := by decide +kernel
theorem dX4_part_146 : decode cX4_part 146 = .ok (.iconst 5, 1) := by decide +kernel
theorem dX4_part_147 : decode cX4_part 147 = .ok (.iadd, 1) := by decide +kernel
theorem dX4_part_148 : decode cX4_part 148 = .ok (.aload_n 0, 1) := by decide +kernel
theorem dX4_part_149 : decode cX4_part 149 = .ok (.getfield 19, 3) := by decide +kernel
theorem dX4_part_152 : decode cX4_part 152 = .ok (.iadd, 1) := by decide +kernel
theorem dX4_part_153 : decode cX4_part 153 = .ok (.invokevirtual 49, 3) := by decide +kernel
theorem dX4_part_156 : decode cX4_part 156 = .ok (.invokevirtual 65, 3) := by decide +kernel
theorem dX4_part_159 : decode cX4_part 159 = .ok (.aload_n 0, 1) := by decide +kernel
theorem dX4_part_160 : decode cX4_part 160 = .ok (.iload_n 1, 1) := by decide +kernel
theorem dX4_part_161 : decode cX4_part 161 = .ok (.iconst 1, 1) := by decide +kernel
theorem dX4_part_162 : decode cX4_part 162 = .ok (.iload_n 2, 1) := by decide +kernel
theorem dX4_part_163 : decode cX4_part 163 = .ok (.ifCond .le 10, 3) := by decide +kernel
theorem dX4_part_166 : decode cX4_part 166 = .ok (.aload_n 0, 1) := by decide +kernel
theorem dX4_part_167 : decode cX4_part 167 = .ok (.getfield 19, 3) := by decide +kernel
theorem dX4_part_170 : decode cX4_part 170 = .ok (.goto 5, 3) := by decide +kernel
theorem dX4_part_173 : decode cX4_part 173 = .ok (.iload 7, 2) := by decide +kernel
theorem dX4_part_175 : decode cX4_part 175 = .ok (.invokevirtual 65, 3) := by decide +kernel
theorem dX4_part_178 : decode cX4_part 178 = .ok (.aload_n 0, 1) := by decide +kernel
theorem dX4_part_179 : decode cX4_part 179 = .ok (.iload_n 1, 1) := by decide +kernel
theorem dX4_part_180 : decode cX4_part 180 = .ok (.iconst 3, 1) := by decide +kernel
theorem dX4_part_181 : decode cX4_part 181 = .ok (.iload 4, 2) := by decide +kernel
theorem dX4_part_183 : decode cX4_part 183 = .ok (.invokevirtual 65, 3) := by decide +kernel
theorem dX4_part_186 : decode cX4_part 186 = .ok (.iload 4, 2) := by decide +kernel
theorem dX4_part_188 : decode cX4_part 188 = .ok (.ireturn, 1) := by decide +kernel
def f_X4_part_p175 (ln : Nat → Nat) (x1 : Int32) (x4 : Int32) (z0 : Int32) (z1 : Int32) (z2 : Int32) (s : dr_S) : Option (Int32 × dr_S) := dr_bndv (f_X4_set ln z2 z1 z0 s) (fun s17 => dr_bndv (f_X4_set ln x1 3 x4 s17) (fun s18 => some (x4, s18)))
def f_X4_part_p126 (ln : Nat → Nat) (x1 : Int32) (x2 : Int32) (x3 : Int32) (x4 : Int32) (x5 : Int32) (x7 : Int32) (s : dr_S) : Option (Int32 × dr_S) := dr_bndv (f_X4_set ln x4 1 ((x3 - x7)) s) (fun s13 => dr_bnd (f_X2_get ln (((x5 + 5) + (s13.2 402))) s13) (fun r15 s14 => dr_bndv (f_X4_set ln x1 2 r15 s14) (fun s16 => (if x2 ≤ 0 then (f_X4_part_p175 ln x1 x4 x7 1 x1 s16) else (f_X4_part_p175 ln x1 x4 ((s16.2 402)) 1 x1 s16)))))
def f_X4_part (ln : Nat → Nat) (x1 : Int32) (s : dr_S) : Option (Int32 × dr_S) := dr_bnd (f_X4_get ln x1 0 s) (fun r2 s1 => dr_bnd (f_X4_get ln x1 1 s1) (fun r4 s3 => dr_bnd (f_X4_open ln r2 s3) (fun r6 s5 => (if r6 = (-1) then some ((-1), s5) else dr_let (x1 * (s5.2 403)) (fun y7 => dr_let (r6 * (s5.2 403)) (fun y8 => dr_let ((s5.2 402) + 1) (fun y9 => dr_bndv (f_X2_copy ln ((y7 + 2)) ((y8 + 2)) 2 s5) (fun s10 => dr_bndv (f_X2_copy ln (((y7 + 5) + y9)) ((y8 + 5)) ((r4 - y9)) s10) (fun s11 => (if r2 ≤ 0 then (f_X4_part_p126 ln x1 r2 r4 r6 y7 y9 s11) else dr_bndv (f_X2_copy ln (((y7 + (s11.2 404)) + y9)) ((y8 + (s11.2 404))) (((r4 + 1) - y9)) s11) (fun s12 => (f_X4_part_p126 ln x1 r2 r4 r6 y7 y9 s12))))))))))))
section
variable {p : Program} {l : Launch} {e : Env} {s0 : State} {m : MethodId} {args : Array Value} {below : List Frame} {meth : Method} {c : Code} {A : Nat → Prop} {D : va_G} {cI cZ : ClassId} {ad ln : Nat → Nat} {L : List Nat}
set_option maxHeartbeats 4000000 in
set_option maxRecDepth 20000 in
theorem w_X4_part_p175 (E : dr_E p (dr_rm 3) s0 m args meth c 0 0 A s0.heap D cI cZ ad L cX4_part 8 RX4 (some .int)) (hap : dr_ap ad L) (hN : ∀ x ∈ nd_4, x ∈ L) : ∀ (x1 : Int32) (x4 : Int32) (z0 : Int32) (z1 : Int32) (z2 : Int32) (s : dr_S), dr_G p l e (dr_rm 3) s0 m args below meth c 0 0 A s0.heap D cI cZ ad ln L 8 (dr_Zi D cI cZ ad ln L A below args s0 0 0) 175 [(0, .ref (ad 4)), (1, .int x1), (4, .int x4)] [.int z0, .int z1, .int z2, .ref (ad 4)] s (f_X4_part_p175 ln x1 x4 z0 z1 z2 s) := by
  intro x1 x4 z0 z1 z2 s
  unfold f_X4_part_p175
  refine g_cVv E [.int z2, .int z1, .int z0] rfl (c_X4_set hap hN z2 z1 z0 s) (hN 4 (by decide)) (by decide) rfl rfl mi_X4_set msl_X4_set mw_X4_set rfl ml_4_65 ⟨Nat.le_of_ble_eq_true rfl, Nat.le_of_ble_eq_true rfl⟩ (Nat.le_of_ble_eq_true rfl) dX4_part_175 (fun s17 => ?_)
  refine g_aload_n E dX4_part_178 0 rfl ?_
  refine g_iload_n E dX4_part_179 1 rfl ?_
  refine g_iconst E (v := 3) dX4_part_180 (by decide) ?_
  refine g_iload E dX4_part_181 2 rfl ?_
  refine g_cVv E [.int x1, .int 3, .int x4] rfl (c_X4_set hap hN x1 3 x4 s17) (hN 4 (by decide)) (by decide) rfl rfl mi_X4_set msl_X4_set mw_X4_set rfl ml_4_65 ⟨Nat.le_of_ble_eq_true rfl, Nat.le_of_ble_eq_true rfl⟩ (Nat.le_of_ble_eq_true rfl) dX4_part_183 (fun s18 => ?_)
  refine g_iload E dX4_part_186 2 rfl ?_
  exact g_iret E dX4_part_188
set_option maxHeartbeats 4000000 in
set_option maxRecDepth 20000 in
theorem w_X4_part_p126 (E : dr_E p (dr_rm 3) s0 m args meth c 0 0 A s0.heap D cI cZ ad L cX4_part 8 RX4 (some .int)) (hap : dr_ap ad L) (hN : ∀ x ∈ nd_4, x ∈ L) : ∀ (x1 : Int32) (x2 : Int32) (x3 : Int32) (x4 : Int32) (x5 : Int32) (x7 : Int32) (s : dr_S), dr_G p l e (dr_rm 3) s0 m args below meth c 0 0 A s0.heap D cI cZ ad ln L 8 (dr_Zi D cI cZ ad ln L A below args s0 0 0) 126 [(0, .ref (ad 4)), (1, .int x1), (2, .int x2), (3, .int x3), (4, .int x4), (5, .int x5), (7, .int x7)] [] s (f_X4_part_p126 ln x1 x2 x3 x4 x5 x7 s) := by
  intro x1 x2 x3 x4 x5 x7 s
  unfold f_X4_part_p126
  refine g_aload_n E dX4_part_126 0 rfl ?_
  refine g_iload E dX4_part_127 4 rfl ?_
  refine g_iconst E (v := 1) dX4_part_129 (by decide) ?_
  refine g_iload_n E dX4_part_130 3 rfl ?_
  refine g_iload E dX4_part_131 6 rfl ?_
  refine g_isub E dX4_part_133 ?_
  refine g_cVv E [.int x4, .int 1, .int (x3 - x7)] rfl (c_X4_set hap hN x4 1 ((x3 - x7)) s) (hN 4 (by decide)) (by decide) rfl rfl mi_X4_set msl_X4_set mw_X4_set rfl ml_4_65 ⟨Nat.le_of_ble_eq_true rfl, Nat.le_of_ble_eq_true rfl⟩ (Nat.le_of_ble_eq_true rfl) dX4_part_134 (fun s13 => ?_)
  refine g_aload_n E dX4_part_137 0 rfl ?_
  refine g_iload_n E dX4_part_138 1 rfl ?_
  refine g_iconst E (v := 2) dX4_part_139 (by decide) ?_
  refine g_aload_n E dX4_part_140 0 rfl ?_
  refine gg_4_9 E (hN 4 (by decide)) dX4_part_141 ?_
  refine g_iload E dX4_part_144 5 rfl ?_
  refine g_iconst E (v := 5) dX4_part_146 (by decide) ?_
  refine g_iadd E dX4_part_147 ?_
  refine g_aload_n E dX4_part_148 0 rfl ?_
  refine gg_4_19 E (hN 4 (by decide)) dX4_part_149 ?_
  refine g_iadd E dX4_part_152 ?_
  refine g_cVi E [.int ((x5 + 5) + (s13.2 402))] rfl (c_X2_get hap (fun x h => hN x (ns_2_4 x h)) (((x5 + 5) + (s13.2 402))) s13) (hN 2 (by decide)) (by decide) rfl rfl mi_X2_get msl_X2_get mw_X2_get rfl ml_4_49 ⟨Nat.le_of_ble_eq_true rfl, Nat.le_of_ble_eq_true rfl⟩ (Nat.le_of_ble_eq_true rfl) dX4_part_153 (fun r15 s14 => ?_)
  refine g_cVv E [.int x1, .int 2, .int r15] rfl (c_X4_set hap hN x1 2 r15 s14) (hN 4 (by decide)) (by decide) rfl rfl mi_X4_set msl_X4_set mw_X4_set rfl ml_4_65 ⟨Nat.le_of_ble_eq_true rfl, Nat.le_of_ble_eq_true rfl⟩ (Nat.le_of_ble_eq_true rfl) dX4_part_156 (fun s16 => ?_)
  refine g_aload_n E dX4_part_159 0 rfl ?_
  refine g_iload_n E dX4_part_160 1 rfl ?_
  refine g_iconst E (v := 1) dX4_part_161 (by decide) ?_
  refine g_iload_n E dX4_part_162 2 rfl ?_
  refine g_if_le E 173 dX4_part_163 (by decide) ?_ ?_
  · refine g_iload E dX4_part_173 6 rfl ?_
    refine g_sub [0, 1, 4] rfl ?_
    exact w_X4_part_p175 E hap hN x1 x4 x7 1 x1 s16
  · refine g_aload_n E dX4_part_166 0 rfl ?_
    refine gg_4_19 E (hN 4 (by decide)) dX4_part_167 ?_
    refine g_goto E 175 dX4_part_170 (by decide) ?_
    refine g_sub [0, 1, 4] rfl ?_
    exact w_X4_part_p175 E hap hN x1 x4 ((s16.2 402)) 1 x1 s16
set_option maxHeartbeats 4000000 in
set_option maxRecDepth 20000 in
theorem c_X4_part (hap : dr_ap ad L) (hN : ∀ x ∈ nd_4, x ∈ L) (x1 : Int32) (s : dr_S) : dr_Mi l D cI cZ ad ln L yX4_part cX4_part 8 (some .int) 3 [.ref (ad 4), .int x1] s (f_X4_part ln x1 s) := by
  refine dr_meti (own := RX4) (by decide) rfl (Nat.le_of_ble_eq_true rfl) hap ?_
  intro p e s0 m args below meth c A E
  unfold f_X4_part
  refine g_eqL (lv' := [(0, .ref (ad 4)), (1, .int x1)]) rfl ?_
  refine g_aload_n E dX4_part_0 0 rfl ?_
  refine g_iload_n E dX4_part_1 1 rfl ?_
  refine g_iconst E (v := 0) dX4_part_2 (by decide) ?_
  refine g_cVi E [.int x1, .int 0] rfl (c_X4_get hap hN x1 0 s) (hN 4 (by decide)) (by decide) rfl rfl mi_X4_get msl_X4_get mw_X4_get rfl ml_4_58 ⟨Nat.le_of_ble_eq_true rfl, Nat.le_of_ble_eq_true rfl⟩ (Nat.le_of_ble_eq_true rfl) dX4_part_3 (fun r2 s1 => ?_)
  refine g_istore_n E (lv' := [(2, .int r2), (0, .ref (ad 4)), (1, .int x1)]) dX4_part_6 (by decide) rfl ?_
  refine g_aload_n E dX4_part_7 1 rfl ?_
  refine g_iload_n E dX4_part_8 2 rfl ?_
  refine g_iconst E (v := 1) dX4_part_9 (by decide) ?_
  refine g_cVi E [.int x1, .int 1] rfl (c_X4_get hap hN x1 1 s1) (hN 4 (by decide)) (by decide) rfl rfl mi_X4_get msl_X4_get mw_X4_get rfl ml_4_58 ⟨Nat.le_of_ble_eq_true rfl, Nat.le_of_ble_eq_true rfl⟩ (Nat.le_of_ble_eq_true rfl) dX4_part_10 (fun r4 s3 => ?_)
  refine g_istore_n E (lv' := [(3, .int r4), (2, .int r2), (0, .ref (ad 4)), (1, .int x1)]) dX4_part_13 (by decide) rfl ?_
  refine g_aload_n E dX4_part_14 2 rfl ?_
  refine g_iload_n E dX4_part_15 1 rfl ?_
  refine g_cVi E [.int r2] rfl (c_X4_open hap hN r2 s3) (hN 4 (by decide)) (by decide) rfl rfl mi_X4_open msl_X4_open mw_X4_open rfl ml_4_42 ⟨Nat.le_of_ble_eq_true rfl, Nat.le_of_ble_eq_true rfl⟩ (Nat.le_of_ble_eq_true rfl) dX4_part_16 (fun r6 s5 => ?_)
  refine g_istore E (lv' := [(4, .int r6), (3, .int r4), (2, .int r2), (0, .ref (ad 4)), (1, .int x1)]) dX4_part_19 (by decide) rfl ?_
  refine g_iload E dX4_part_21 0 rfl ?_
  refine g_iconst E (v := (-1)) dX4_part_23 (by decide) ?_
  refine g_icmp_ne E 29 dX4_part_24 (by decide) ?_ ?_
  · refine g_iload_n E dX4_part_29 4 rfl ?_
    refine g_aload_n E dX4_part_30 3 rfl ?_
    refine gg_4_27 E (hN 4 (by decide)) dX4_part_31 ?_
    refine g_imul E dX4_part_34 ?_
    refine g_let (fun y7 => ?_)
    refine g_istore E (lv' := [(5, .int y7), (4, .int r6), (3, .int r4), (2, .int r2), (0, .ref (ad 4)), (1, .int x1)]) dX4_part_35 (by decide) rfl ?_
    refine g_iload E dX4_part_37 1 rfl ?_
    refine g_aload_n E dX4_part_39 4 rfl ?_
    refine gg_4_27 E (hN 4 (by decide)) dX4_part_40 ?_
    refine g_imul E dX4_part_43 ?_
    refine g_let (fun y8 => ?_)
    refine g_istore E (lv' := [(6, .int y8), (5, .int y7), (4, .int r6), (3, .int r4), (2, .int r2), (0, .ref (ad 4)), (1, .int x1)]) dX4_part_44 (by decide) rfl ?_
    refine g_aload_n E dX4_part_46 5 rfl ?_
    refine gg_4_19 E (hN 4 (by decide)) dX4_part_47 ?_
    refine g_iconst E (v := 1) dX4_part_50 (by decide) ?_
    refine g_iadd E dX4_part_51 ?_
    refine g_let (fun y9 => ?_)
    refine g_istore E (lv' := [(7, .int y9), (6, .int y8), (5, .int y7), (4, .int r6), (3, .int r4), (2, .int r2), (0, .ref (ad 4)), (1, .int x1)]) dX4_part_52 (by decide) rfl ?_
    refine g_aload_n E dX4_part_54 6 rfl ?_
    refine gg_4_9 E (hN 4 (by decide)) dX4_part_55 ?_
    refine g_iload E dX4_part_58 2 rfl ?_
    refine g_iconst E (v := 2) dX4_part_60 (by decide) ?_
    refine g_iadd E dX4_part_61 ?_
    refine g_iload E dX4_part_62 1 rfl ?_
    refine g_iconst E (v := 2) dX4_part_64 (by decide) ?_
    refine g_iadd E dX4_part_65 ?_
    refine g_iconst E (v := 2) dX4_part_66 (by decide) ?_
    refine g_cVv E [.int (y7 + 2), .int (y8 + 2), .int 2] rfl (c_X2_copy hap (fun x h => hN x (ns_2_4 x h)) ((y7 + 2)) ((y8 + 2)) 2 s5) (hN 2 (by decide)) (by decide) rfl rfl mi_X2_copy msl_X2_copy mw_X2_copy rfl ml_4_75 ⟨Nat.le_of_ble_eq_true rfl, Nat.le_of_ble_eq_true rfl⟩ (Nat.le_of_ble_eq_true rfl) dX4_part_67 (fun s10 => ?_)
    refine g_aload_n E dX4_part_70 6 rfl ?_
    refine gg_4_9 E (hN 4 (by decide)) dX4_part_71 ?_
    refine g_iload E dX4_part_74 2 rfl ?_
    refine g_iconst E (v := 5) dX4_part_76 (by decide) ?_
    refine g_iadd E dX4_part_77 ?_
    refine g_iload E dX4_part_78 0 rfl ?_
    refine g_iadd E dX4_part_80 ?_
    refine g_iload E dX4_part_81 1 rfl ?_
    refine g_iconst E (v := 5) dX4_part_83 (by decide) ?_
    refine g_iadd E dX4_part_84 ?_
    refine g_iload_n E dX4_part_85 4 rfl ?_
    refine g_iload E dX4_part_86 0 rfl ?_
    refine g_isub E dX4_part_88 ?_
    refine g_cVv E [.int ((y7 + 5) + y9), .int (y8 + 5), .int (r4 - y9)] rfl (c_X2_copy hap (fun x h => hN x (ns_2_4 x h)) (((y7 + 5) + y9)) ((y8 + 5)) ((r4 - y9)) s10) (hN 2 (by decide)) (by decide) rfl rfl mi_X2_copy msl_X2_copy mw_X2_copy rfl ml_4_75 ⟨Nat.le_of_ble_eq_true rfl, Nat.le_of_ble_eq_true rfl⟩ (Nat.le_of_ble_eq_true rfl) dX4_part_89 (fun s11 => ?_)
    refine g_iload_n E dX4_part_92 5 rfl ?_
    refine g_if_le E 126 dX4_part_93 (by decide) ?_ ?_
    · refine g_sub [6, 7, 5, 4, 3, 2, 0] rfl ?_
      exact w_X4_part_p126 E hap hN x1 r2 r4 r6 y7 y9 s11
    · refine g_aload_n E dX4_part_96 6 rfl ?_
      refine gg_4_9 E (hN 4 (by decide)) dX4_part_97 ?_
      refine g_iload E dX4_part_100 2 rfl ?_
      refine g_aload_n E dX4_part_102 6 rfl ?_
      refine gg_4_30 E (hN 4 (by decide)) dX4_part_103 ?_
      refine g_iadd E dX4_part_106 ?_
      refine g_iload E dX4_part_107 0 rfl ?_
      refine g_iadd E dX4_part_109 ?_
      refine g_iload E dX4_part_110 1 rfl ?_
      refine g_aload_n E dX4_part_112 6 rfl ?_
      refine gg_4_30 E (hN 4 (by decide)) dX4_part_113 ?_
      refine g_iadd E dX4_part_116 ?_
      refine g_iload_n E dX4_part_117 4 rfl ?_
      refine g_iconst E (v := 1) dX4_part_118 (by decide) ?_
      refine g_iadd E dX4_part_119 ?_
      refine g_iload E dX4_part_120 0 rfl ?_
      refine g_isub E dX4_part_122 ?_
      refine g_cVv E [.int ((y7 + (s11.2 404)) + y9), .int (y8 + (s11.2 404)), .int ((r4 + 1) - y9)] rfl (c_X2_copy hap (fun x h => hN x (ns_2_4 x h)) (((y7 + (s11.2 404)) + y9)) ((y8 + (s11.2 404))) (((r4 + 1) - y9)) s11) (hN 2 (by decide)) (by decide) rfl rfl mi_X2_copy msl_X2_copy mw_X2_copy rfl ml_4_75 ⟨Nat.le_of_ble_eq_true rfl, Nat.le_of_ble_eq_true rfl⟩ (Nat.le_of_ble_eq_true rfl) dX4_part_123 (fun s12 => ?_)
      refine g_sub [6, 7, 5, 4, 3, 2, 0] rfl ?_
      exact w_X4_part_p126 E hap hN x1 r2 r4 r6 y7 y9 s12
  · refine g_iconst E (v := (-1)) dX4_part_27 (by decide) ?_
    exact g_iret E dX4_part_28
end

theorem dX4_raise_0 : decode cX4_raise 0 = .ok (.aload_n 0, 1) := by decide +kernel
theorem dX4_raise_1 : decode cX4_raise 1 = .ok (.aload_n 0, 1) := by decide +kernel
theorem dX4_raise_2 : decode cX4_raise 2 = .ok (.iload_n 1, 1) := by decide +kernel
theorem dX4_raise_3 : decode cX4_raise 3 = .ok (.iconst 0, 1) := by decide +kernel
theorem dX4_raise_4 : decode cX4_raise 4 = .ok (.invokevirtual 58, 3) := by decide +kernel
theorem dX4_raise_7 : decode cX4_raise 7 = .ok (.iconst 1, 1) := by decide +kernel
theorem dX4_raise_8 : decode cX4_raise 8 = .ok (.iadd, 1) := by decide +kernel
theorem dX4_raise_9 : decode cX4_raise 9 = .ok (.invokevirtual 42, 3) := by decide +kernel
theorem dX4_raise_12 : decode cX4_raise 12 = .ok (.istore 4, 2) := by decide +kernel
theorem dX4_raise_14 : decode cX4_raise 14 = .ok (.iload 4, 2) := by decide +kernel
theorem dX4_raise_16 : decode cX4_raise 16 = .ok (.iconst (-1), 1) := by decide +kernel
theorem dX4_raise_17 : decode cX4_raise 17 = .ok (.if_icmp .ne 4, 3) := by decide +kernel
theorem dX4_raise_20 : decode cX4_raise 20 = .ok (.return_, 1) := by decide +kernel
theorem dX4_raise_21 : decode cX4_raise 21 = .ok (.aload_n 0, 1) := by decide +kernel
theorem dX4_raise_22 : decode cX4_raise 22 = .ok (.iload 4, 2) := by decide +kernel
theorem dX4_raise_24 : decode cX4_raise 24 = .ok (.iload_n 2, 1) := by decide +kernel
theorem dX4_raise_25 : decode cX4_raise 25 = .ok (.invokevirtual 78, 3) := by decide +kernel
theorem dX4_raise_28 : decode cX4_raise 28 = .ok (.aload_n 0, 1) := by decide +kernel
theorem dX4_raise_29 : decode cX4_raise 29 = .ok (.iload 4, 2) := by decide +kernel
theorem dX4_raise_31 : decode cX4_raise 31 = .ok (.iconst 0, 1) := by decide +kernel
theorem dX4_raise_32 : decode cX4_raise 32 = .ok (.iload_n 1, 1) := by decide +kernel
theorem dX4_raise_33 : decode cX4_raise 33 = .ok (.invokevirtual 81, 3) := by decide +kernel
theorem dX4_raise_36 : decode cX4_raise 36 = .ok (.aload_n 0, 1) := by decide +kernel
theorem dX4_raise_37 : decode cX4_raise 37 = .ok (.iload 4, 2) := by decide +kernel
theorem dX4_raise_39 : decode cX4_raise 39 = .ok (.iconst 1, 1) := by decide +kernel
theorem dX4_raise_40 : decode cX4_raise 40 = .ok (.iload_n 3, 1) := by decide +kernel
theorem dX4_raise_41 : decode cX4_raise 41 = .ok (.invokevirtual 81, 3) := by decide +kernel
theorem dX4_raise_44 : decode cX4_raise 44 = .ok (.aload_n 0, 1) := by decide +kernel
theorem dX4_raise_45 : decode cX4_raise 45 = .ok (.iload 4, 2) := by decide +kernel
theorem dX4_raise_47 : decode cX4_raise 47 = .ok (.invokevirtual 45, 3) := by decide +kernel
theorem dX4_raise_50 : decode cX4_raise 50 = .ok (.return_, 1) := by decide +kernel
def f_X4_raise (ln : Nat → Nat) (x1 : Int32) (x2 : Int32) (x3 : Int32) (s : dr_S) : Option (Int32 × dr_S) := dr_bnd (f_X4_get ln x1 0 s) (fun r2 s1 => dr_bnd (f_X4_open ln ((r2 + 1)) s1) (fun r4 s3 => (if r4 = (-1) then some (0, s3) else dr_bndv (f_X4_addHeading ln r4 x2 s3) (fun s5 => dr_bndv (f_X4_setChild ln r4 0 x1 s5) (fun s6 => dr_bndv (f_X4_setChild ln r4 1 x3 s6) (fun s7 => dr_bndv (f_X4_setTop ln r4 s7) (fun s8 => some (0, s8))))))))
section
variable {p : Program} {l : Launch} {e : Env} {s0 : State} {m : MethodId} {args : Array Value} {below : List Frame} {meth : Method} {c : Code} {A : Nat → Prop} {D : va_G} {cI cZ : ClassId} {ad ln : Nat → Nat} {L : List Nat}
set_option maxHeartbeats 4000000 in
set_option maxRecDepth 20000 in
theorem c_X4_raise (hap : dr_ap ad L) (hN : ∀ x ∈ nd_4, x ∈ L) (x1 : Int32) (x2 : Int32) (x3 : Int32) (s : dr_S) : dr_Mv l D cI cZ ad ln L yX4_raise cX4_raise 5 3 [.ref (ad 4), .int x1, .int x2, .int x3] s (f_X4_raise ln x1 x2 x3 s) := by
  refine dr_metv (own := RX4) (by decide) rfl (Nat.le_of_ble_eq_true rfl) hap ?_
  intro p e s0 m args below meth c A E
  unfold f_X4_raise
  refine g_eqL (lv' := [(0, .ref (ad 4)), (1, .int x1), (2, .int x2), (3, .int x3)]) rfl ?_
  refine g_aload_n E dX4_raise_0 0 rfl ?_
  refine g_aload_n E dX4_raise_1 0 rfl ?_
  refine g_iload_n E dX4_raise_2 1 rfl ?_
  refine g_iconst E (v := 0) dX4_raise_3 (by decide) ?_
  refine g_cVi E [.int x1, .int 0] rfl (c_X4_get hap hN x1 0 s) (hN 4 (by decide)) (by decide) rfl rfl mi_X4_get msl_X4_get mw_X4_get rfl ml_4_58 ⟨Nat.le_of_ble_eq_true rfl, Nat.le_of_ble_eq_true rfl⟩ (Nat.le_of_ble_eq_true rfl) dX4_raise_4 (fun r2 s1 => ?_)
  refine g_iconst E (v := 1) dX4_raise_7 (by decide) ?_
  refine g_iadd E dX4_raise_8 ?_
  refine g_cVi E [.int (r2 + 1)] rfl (c_X4_open hap hN ((r2 + 1)) s1) (hN 4 (by decide)) (by decide) rfl rfl mi_X4_open msl_X4_open mw_X4_open rfl ml_4_42 ⟨Nat.le_of_ble_eq_true rfl, Nat.le_of_ble_eq_true rfl⟩ (Nat.le_of_ble_eq_true rfl) dX4_raise_9 (fun r4 s3 => ?_)
  refine g_istore E (lv' := [(4, .int r4), (0, .ref (ad 4)), (1, .int x1), (2, .int x2), (3, .int x3)]) dX4_raise_12 (by decide) rfl ?_
  refine g_iload E dX4_raise_14 0 rfl ?_
  refine g_iconst E (v := (-1)) dX4_raise_16 (by decide) ?_
  refine g_icmp_ne E 21 dX4_raise_17 (by decide) ?_ ?_
  · refine g_aload_n E dX4_raise_21 1 rfl ?_
    refine g_iload E dX4_raise_22 0 rfl ?_
    refine g_iload_n E dX4_raise_24 3 rfl ?_
    refine g_cVv E [.int r4, .int x2] rfl (c_X4_addHeading hap hN r4 x2 s3) (hN 4 (by decide)) (by decide) rfl rfl mi_X4_addHeading msl_X4_addHeading mw_X4_addHeading rfl ml_4_78 ⟨Nat.le_of_ble_eq_true rfl, Nat.le_of_ble_eq_true rfl⟩ (Nat.le_of_ble_eq_true rfl) dX4_raise_25 (fun s5 => ?_)
    refine g_aload_n E dX4_raise_28 1 rfl ?_
    refine g_iload E dX4_raise_29 0 rfl ?_
    refine g_iconst E (v := 0) dX4_raise_31 (by decide) ?_
    refine g_iload_n E dX4_raise_32 2 rfl ?_
    refine g_cVv E [.int r4, .int 0, .int x1] rfl (c_X4_setChild hap hN r4 0 x1 s5) (hN 4 (by decide)) (by decide) rfl rfl mi_X4_setChild msl_X4_setChild mw_X4_setChild rfl ml_4_81 ⟨Nat.le_of_ble_eq_true rfl, Nat.le_of_ble_eq_true rfl⟩ (Nat.le_of_ble_eq_true rfl) dX4_raise_33 (fun s6 => ?_)
    refine g_aload_n E dX4_raise_36 1 rfl ?_
    refine g_iload E dX4_raise_37 0 rfl ?_
    refine g_iconst E (v := 1) dX4_raise_39 (by decide) ?_
    refine g_iload_n E dX4_raise_40 4 rfl ?_
    refine g_cVv E [.int r4, .int 1, .int x3] rfl (c_X4_setChild hap hN r4 1 x3 s6) (hN 4 (by decide)) (by decide) rfl rfl mi_X4_setChild msl_X4_setChild mw_X4_setChild rfl ml_4_81 ⟨Nat.le_of_ble_eq_true rfl, Nat.le_of_ble_eq_true rfl⟩ (Nat.le_of_ble_eq_true rfl) dX4_raise_41 (fun s7 => ?_)
    refine g_aload_n E dX4_raise_44 1 rfl ?_
    refine g_iload E dX4_raise_45 0 rfl ?_
    refine g_cVv E [.int r4] rfl (c_X4_setTop hap hN r4 s7) (hN 4 (by decide)) (by decide) rfl rfl mi_X4_setTop msl_X4_setTop mw_X4_setTop rfl ml_4_45 ⟨Nat.le_of_ble_eq_true rfl, Nat.le_of_ble_eq_true rfl⟩ (Nat.le_of_ble_eq_true rfl) dX4_raise_47 (fun s8 => ?_)
    exact g_vret E dX4_raise_50
  · exact g_vret E dX4_raise_20
end

theorem dX4_latched_0 : decode cX4_latched 0 = .ok (.iconst 0, 1) := by decide +kernel
theorem dX4_latched_1 : decode cX4_latched 1 = .ok (.istore_n 1, 1) := by decide +kernel
theorem dX4_latched_2 : decode cX4_latched 2 = .ok (.iconst 0, 1) := by decide +kernel
theorem dX4_latched_3 : decode cX4_latched 3 = .ok (.istore_n 2, 1) := by decide +kernel
theorem dX4_latched_4 : decode cX4_latched 4 = .ok (.iload_n 2, 1) := by decide +kernel
theorem dX4_latched_5 : decode cX4_latched 5 = .ok (.aload_n 0, 1) := by decide +kernel
theorem dX4_latched_6 : decode cX4_latched 6 = .ok (.invokevirtual 61, 3) := by decide +kernel
theorem dX4_latched_9 : decode cX4_latched 9 = .ok (.if_icmp .ge 22, 3) := by decide +kernel
theorem dX4_latched_12 : decode cX4_latched 12 = .ok (.aload_n 0, 1) := by decide +kernel
theorem dX4_latched_13 : decode cX4_latched 13 = .ok (.iload_n 2, 1) := by decide +kernel
theorem dX4_latched_14 : decode cX4_latched 14 = .ok (.iconst 4, 1) := by decide +kernel
theorem dX4_latched_15 : decode cX4_latched 15 = .ok (.invokevirtual 58, 3) := by decide +kernel
theorem dX4_latched_18 : decode cX4_latched 18 = .ok (.iconst (-1), 1) := by decide +kernel
theorem dX4_latched_19 : decode cX4_latched 19 = .ok (.if_icmp .eq 6, 3) := by decide +kernel
theorem dX4_latched_22 : decode cX4_latched 22 = .ok (.iinc 1 1, 3) := by decide +kernel
theorem dX4_latched_25 : decode cX4_latched 25 = .ok (.iinc 2 1, 3) := by decide +kernel
theorem dX4_latched_28 : decode cX4_latched 28 = .ok (.goto (-24), 3) := by decide +kernel
theorem dX4_latched_31 : decode cX4_latched 31 = .ok (.iload_n 1, 1) := by decide +kernel
theorem dX4_latched_32 : decode cX4_latched 32 = .ok (.ireturn, 1) := by decide +kernel
def f_X4_latched_p25 (ln : Nat → Nat) (kb4 : Int32 → Int32 → dr_S → Option (Int32 × dr_S)) (x1 : Int32) (x2 : Int32) (s : dr_S) : Option (Int32 × dr_S) := dr_let (x2 + 1) (fun y6 => (kb4 x1 y6 s))
def f_X4_latched_p4 (ln : Nat → Nat) : Nat → Int32 → Int32 → dr_S → Option (Int32 × dr_S)
  | 0, _, _, _ => none
  | n + 1, x1, x2, s => dr_bnd (f_X4_inUse ln  s) (fun r2 s1 => (if r2 ≤ x2 then some (x1, s1) else dr_bnd (f_X4_get ln x2 4 s1) (fun r4 s3 => (if r4 = (-1) then (f_X4_latched_p25 ln (f_X4_latched_p4 ln n) x1 x2 s3) else dr_let (x1 + 1) (fun y5 => (f_X4_latched_p25 ln (f_X4_latched_p4 ln n) y5 x2 s3))))))
def f_X4_latched (ln : Nat → Nat) (s : dr_S) : Option (Int32 × dr_S) := (f_X4_latched_p4 ln dr_N 0 0 s)
section
variable {p : Program} {l : Launch} {e : Env} {s0 : State} {m : MethodId} {args : Array Value} {below : List Frame} {meth : Method} {c : Code} {A : Nat → Prop} {D : va_G} {cI cZ : ClassId} {ad ln : Nat → Nat} {L : List Nat}
set_option maxHeartbeats 4000000 in
set_option maxRecDepth 20000 in
theorem w_X4_latched_p25 {kb4 : Int32 → Int32 → dr_S → Option (Int32 × dr_S)} (E : dr_E p (dr_rm 2) s0 m args meth c 0 0 A s0.heap D cI cZ ad L cX4_latched 3 RX4 (some .int)) (hap : dr_ap ad L) (hN : ∀ x ∈ nd_4, x ∈ L) (hkb4 : ∀ (x1 : Int32) (x2 : Int32) (s : dr_S), dr_G p l e (dr_rm 2) s0 m args below meth c 0 0 A s0.heap D cI cZ ad ln L 3 (dr_Zi D cI cZ ad ln L A below args s0 0 0) 4 [(0, .ref (ad 4)), (1, .int x1), (2, .int x2)] [] s (kb4 x1 x2 s)) : ∀ (x1 : Int32) (x2 : Int32) (s : dr_S), dr_G p l e (dr_rm 2) s0 m args below meth c 0 0 A s0.heap D cI cZ ad ln L 3 (dr_Zi D cI cZ ad ln L A below args s0 0 0) 25 [(0, .ref (ad 4)), (1, .int x1), (2, .int x2)] [] s (f_X4_latched_p25 ln kb4 x1 x2 s) := by
  intro x1 x2 s
  unfold f_X4_latched_p25
  refine g_iinc E (lv' := []) (lv'' := fun y6 => [(2, .int y6), (0, .ref (ad 4)), (1, .int x1)]) (v := 1) dX4_latched_25 2 rfl (by decide) (by decide) (fun _ => rfl) (fun y6 => ?_)
  refine g_goto E 4 dX4_latched_28 (by decide) ?_
  refine g_sub [1, 2, 0] rfl ?_
  exact hkb4 x1 y6 s
set_option maxHeartbeats 4000000 in
set_option maxRecDepth 20000 in
theorem w_X4_latched_p4 (E : dr_E p (dr_rm 2) s0 m args meth c 0 0 A s0.heap D cI cZ ad L cX4_latched 3 RX4 (some .int)) (hap : dr_ap ad L) (hN : ∀ x ∈ nd_4, x ∈ L) : ∀ (n : Nat) (x1 : Int32) (x2 : Int32) (s : dr_S), dr_G p l e (dr_rm 2) s0 m args below meth c 0 0 A s0.heap D cI cZ ad ln L 3 (dr_Zi D cI cZ ad ln L A below args s0 0 0) 4 [(0, .ref (ad 4)), (1, .int x1), (2, .int x2)] [] s (f_X4_latched_p4 ln n x1 x2 s) := by
  intro n
  induction n with
  | zero =>
    intro x1 x2 s
    rw [f_X4_latched_p4]
    exact g_none
  | succ n hkb4 =>
    intro x1 x2 s
    rw [f_X4_latched_p4]
    refine g_iload_n E dX4_latched_4 2 rfl ?_
    refine g_aload_n E dX4_latched_5 0 rfl ?_
    refine g_cVi E [] rfl (c_X4_inUse hap hN  s) (hN 4 (by decide)) (by decide) rfl rfl mi_X4_inUse msl_X4_inUse mw_X4_inUse rfl ml_4_61 ⟨Nat.le_of_ble_eq_true rfl, Nat.le_of_ble_eq_true rfl⟩ (Nat.le_of_ble_eq_true rfl) dX4_latched_6 (fun r2 s1 => ?_)
    refine g_icmp_ge E 31 dX4_latched_9 (by decide) ?_ ?_
    · refine g_iload_n E dX4_latched_31 1 rfl ?_
      exact g_iret E dX4_latched_32
    · refine g_aload_n E dX4_latched_12 0 rfl ?_
      refine g_iload_n E dX4_latched_13 2 rfl ?_
      refine g_iconst E (v := 4) dX4_latched_14 (by decide) ?_
      refine g_cVi E [.int x2, .int 4] rfl (c_X4_get hap hN x2 4 s1) (hN 4 (by decide)) (by decide) rfl rfl mi_X4_get msl_X4_get mw_X4_get rfl ml_4_58 ⟨Nat.le_of_ble_eq_true rfl, Nat.le_of_ble_eq_true rfl⟩ (Nat.le_of_ble_eq_true rfl) dX4_latched_15 (fun r4 s3 => ?_)
      refine g_iconst E (v := (-1)) dX4_latched_18 (by decide) ?_
      refine g_icmp_eq E 25 dX4_latched_19 (by decide) ?_ ?_
      · refine g_sub [0, 1, 2] rfl ?_
        exact w_X4_latched_p25 E hap hN hkb4 x1 x2 s3
      · refine g_iinc E (lv' := []) (lv'' := fun y5 => [(1, .int y5), (0, .ref (ad 4)), (2, .int x2)]) (v := 1) dX4_latched_22 1 rfl (by decide) (by decide) (fun _ => rfl) (fun y5 => ?_)
        refine g_sub [1, 0, 2] rfl ?_
        exact w_X4_latched_p25 E hap hN hkb4 y5 x2 s3
set_option maxHeartbeats 4000000 in
set_option maxRecDepth 20000 in
theorem c_X4_latched (hap : dr_ap ad L) (hN : ∀ x ∈ nd_4, x ∈ L) (s : dr_S) : dr_Mi l D cI cZ ad ln L yX4_latched cX4_latched 3 (some .int) 2 [.ref (ad 4)] s (f_X4_latched ln  s) := by
  refine dr_meti (own := RX4) (by decide) rfl (Nat.le_of_ble_eq_true rfl) hap ?_
  intro p e s0 m args below meth c A E
  unfold f_X4_latched
  refine g_eqL (lv' := [(0, .ref (ad 4))]) rfl ?_
  refine g_iconst E (v := 0) dX4_latched_0 (by decide) ?_
  refine g_istore_n E (lv' := [(1, .int 0), (0, .ref (ad 4))]) dX4_latched_1 (by decide) rfl ?_
  refine g_iconst E (v := 0) dX4_latched_2 (by decide) ?_
  refine g_istore_n E (lv' := [(2, .int 0), (1, .int 0), (0, .ref (ad 4))]) dX4_latched_3 (by decide) rfl ?_
  refine g_sub [2, 1, 0] rfl ?_
  exact w_X4_latched_p4 E hap hN dr_N 0 0 s
end

theorem dX4_letAllGo_0 : decode cX4_letAllGo 0 = .ok (.iconst 0, 1) := by decide +kernel
theorem dX4_letAllGo_1 : decode cX4_letAllGo 1 = .ok (.istore_n 1, 1) := by decide +kernel
theorem dX4_letAllGo_2 : decode cX4_letAllGo 2 = .ok (.iload_n 1, 1) := by decide +kernel
theorem dX4_letAllGo_3 : decode cX4_letAllGo 3 = .ok (.aload_n 0, 1) := by decide +kernel
theorem dX4_letAllGo_4 : decode cX4_letAllGo 4 = .ok (.invokevirtual 61, 3) := by decide +kernel
theorem dX4_letAllGo_7 : decode cX4_letAllGo 7 = .ok (.if_icmp .ge 16, 3) := by decide +kernel
theorem dX4_letAllGo_10 : decode cX4_letAllGo 10 = .ok (.aload_n 0, 1) := by decide +kernel
theorem dX4_letAllGo_11 : decode cX4_letAllGo 11 = .ok (.iload_n 1, 1) := by decide +kernel
theorem dX4_letAllGo_12 : decode cX4_letAllGo 12 = .ok (.iconst 4, 1) := by decide +kernel
theorem dX4_letAllGo_13 : decode cX4_letAllGo 13 = .ok (.iconst (-1), 1) := by decide +kernel
theorem dX4_letAllGo_14 : decode cX4_letAllGo 14 = .ok (.invokevirtual 65, 3) := by decide +kernel
theorem dX4_letAllGo_17 : decode cX4_letAllGo 17 = .ok (.iinc 1 1, 3) := by decide +kernel
theorem dX4_letAllGo_20 : decode cX4_letAllGo 20 = .ok (.goto (-18), 3) := by decide +kernel
theorem dX4_letAllGo_23 : decode cX4_letAllGo 23 = .ok (.return_, 1) := by decide +kernel
def f_X4_letAllGo_p2 (ln : Nat → Nat) : Nat → Int32 → dr_S → Option (Int32 × dr_S)
  | 0, _, _ => none
  | n + 1, x1, s => dr_bnd (f_X4_inUse ln  s) (fun r2 s1 => (if r2 ≤ x1 then some (0, s1) else dr_bndv (f_X4_set ln x1 4 ((-1)) s1) (fun s3 => dr_let (x1 + 1) (fun y4 => (f_X4_letAllGo_p2 ln n y4 s3)))))
def f_X4_letAllGo (ln : Nat → Nat) (s : dr_S) : Option (Int32 × dr_S) := (f_X4_letAllGo_p2 ln dr_N 0 s)
section
variable {p : Program} {l : Launch} {e : Env} {s0 : State} {m : MethodId} {args : Array Value} {below : List Frame} {meth : Method} {c : Code} {A : Nat → Prop} {D : va_G} {cI cZ : ClassId} {ad ln : Nat → Nat} {L : List Nat}
set_option maxHeartbeats 4000000 in
set_option maxRecDepth 20000 in
theorem w_X4_letAllGo_p2 (E : dr_E p (dr_rm 2) s0 m args meth c 0 0 A s0.heap D cI cZ ad L cX4_letAllGo 2 RX4 none) (hap : dr_ap ad L) (hN : ∀ x ∈ nd_4, x ∈ L) : ∀ (n : Nat) (x1 : Int32) (s : dr_S), dr_G p l e (dr_rm 2) s0 m args below meth c 0 0 A s0.heap D cI cZ ad ln L 2 (dr_Zv D cI cZ ad ln L A below args s0 0 0) 2 [(0, .ref (ad 4)), (1, .int x1)] [] s (f_X4_letAllGo_p2 ln n x1 s) := by
  intro n
  induction n with
  | zero =>
    intro x1 s
    rw [f_X4_letAllGo_p2]
    exact g_none
  | succ n hkb2 =>
    intro x1 s
    rw [f_X4_letAllGo_p2]
    refine g_iload_n E dX4_letAllGo_2 1 rfl ?_
    refine g_aload_n E dX4_letAllGo_3 0 rfl ?_
    refine g_cVi E [] rfl (c_X4_inUse hap hN  s) (hN 4 (by decide)) (by decide) rfl rfl mi_X4_inUse msl_X4_inUse mw_X4_inUse rfl ml_4_61 ⟨Nat.le_of_ble_eq_true rfl, Nat.le_of_ble_eq_true rfl⟩ (Nat.le_of_ble_eq_true rfl) dX4_letAllGo_4 (fun r2 s1 => ?_)
    refine g_icmp_ge E 23 dX4_letAllGo_7 (by decide) ?_ ?_
    · exact g_vret E dX4_letAllGo_23
    · refine g_aload_n E dX4_letAllGo_10 0 rfl ?_
      refine g_iload_n E dX4_letAllGo_11 1 rfl ?_
      refine g_iconst E (v := 4) dX4_letAllGo_12 (by decide) ?_
      refine g_iconst E (v := (-1)) dX4_letAllGo_13 (by decide) ?_
      refine g_cVv E [.int x1, .int 4, .int (-1)] rfl (c_X4_set hap hN x1 4 ((-1)) s1) (hN 4 (by decide)) (by decide) rfl rfl mi_X4_set msl_X4_set mw_X4_set rfl ml_4_65 ⟨Nat.le_of_ble_eq_true rfl, Nat.le_of_ble_eq_true rfl⟩ (Nat.le_of_ble_eq_true rfl) dX4_letAllGo_14 (fun s3 => ?_)
      refine g_iinc E (lv' := []) (lv'' := fun y4 => [(1, .int y4), (0, .ref (ad 4))]) (v := 1) dX4_letAllGo_17 1 rfl (by decide) (by decide) (fun _ => rfl) (fun y4 => ?_)
      refine g_goto E 2 dX4_letAllGo_20 (by decide) ?_
      refine g_sub [1, 0] rfl ?_
      exact hkb2 y4 s3
set_option maxHeartbeats 4000000 in
set_option maxRecDepth 20000 in
theorem c_X4_letAllGo (hap : dr_ap ad L) (hN : ∀ x ∈ nd_4, x ∈ L) (s : dr_S) : dr_Mv l D cI cZ ad ln L yX4_letAllGo cX4_letAllGo 2 2 [.ref (ad 4)] s (f_X4_letAllGo ln  s) := by
  refine dr_metv (own := RX4) (by decide) rfl (Nat.le_of_ble_eq_true rfl) hap ?_
  intro p e s0 m args below meth c A E
  unfold f_X4_letAllGo
  refine g_eqL (lv' := [(0, .ref (ad 4))]) rfl ?_
  refine g_iconst E (v := 0) dX4_letAllGo_0 (by decide) ?_
  refine g_istore_n E (lv' := [(1, .int 0), (0, .ref (ad 4))]) dX4_letAllGo_1 (by decide) rfl ?_
  refine g_sub [1, 0] rfl ?_
  exact w_X4_letAllGo_p2 E hap hN dr_N 0 s
end

theorem dX5_parts_0 : decode cX5_parts 0 = .ok (.aload_n 0, 1) := by decide +kernel
theorem dX5_parts_1 : decode cX5_parts 1 = .ok (.getfield 21, 3) := by decide +kernel
theorem dX5_parts_4 : decode cX5_parts 4 = .ok (.ireturn, 1) := by decide +kernel
def f_X5_parts (ln : Nat → Nat) (s : dr_S) : Option (Int32 × dr_S) := some ((s.2 503), s)
section
variable {p : Program} {l : Launch} {e : Env} {s0 : State} {m : MethodId} {args : Array Value} {below : List Frame} {meth : Method} {c : Code} {A : Nat → Prop} {D : va_G} {cI cZ : ClassId} {ad ln : Nat → Nat} {L : List Nat}
set_option maxHeartbeats 4000000 in
set_option maxRecDepth 20000 in
theorem c_X5_parts (hap : dr_ap ad L) (hN : ∀ x ∈ nd_5, x ∈ L) (s : dr_S) : dr_Mi l D cI cZ ad ln L yX5_parts cX5_parts 1 (some .int) 0 [.ref (ad 5)] s (f_X5_parts ln  s) := by
  refine dr_meti (own := RX5) (by decide) rfl (Nat.le_of_ble_eq_true rfl) hap ?_
  intro p e s0 m args below meth c A E
  unfold f_X5_parts
  refine g_eqL (lv' := [(0, .ref (ad 5))]) rfl ?_
  refine g_aload_n E dX5_parts_0 0 rfl ?_
  refine gg_5_21 E (hN 5 (by decide)) dX5_parts_1 ?_
  exact g_iret E dX5_parts_4
end

theorem dX5_hear_0 : decode cX5_hear 0 = .ok (.aload_n 0, 1) := by decide +kernel
theorem dX5_hear_1 : decode cX5_hear 1 = .ok (.getfield 11, 3) := by decide +kernel
theorem dX5_hear_4 : decode cX5_hear 4 = .ok (.iconst 0, 1) := by decide +kernel
theorem dX5_hear_5 : decode cX5_hear 5 = .ok (.iload_n 1, 1) := by decide +kernel
theorem dX5_hear_6 : decode cX5_hear 6 = .ok (.iastore, 1) := by decide +kernel
theorem dX5_hear_7 : decode cX5_hear 7 = .ok (.aload_n 0, 1) := by decide +kernel
theorem dX5_hear_8 : decode cX5_hear 8 = .ok (.getfield 11, 3) := by decide +kernel
theorem dX5_hear_11 : decode cX5_hear 11 = .ok (.iconst 1, 1) := by decide +kernel
theorem dX5_hear_12 : decode cX5_hear 12 = .ok (.iload_n 2, 1) := by decide +kernel
theorem dX5_hear_13 : decode cX5_hear 13 = .ok (.iastore, 1) := by decide +kernel
theorem dX5_hear_14 : decode cX5_hear 14 = .ok (.aload_n 0, 1) := by decide +kernel
theorem dX5_hear_15 : decode cX5_hear 15 = .ok (.getfield 11, 3) := by decide +kernel
theorem dX5_hear_18 : decode cX5_hear 18 = .ok (.iconst 2, 1) := by decide +kernel
theorem dX5_hear_19 : decode cX5_hear 19 = .ok (.iload_n 3, 1) := by decide +kernel
theorem dX5_hear_20 : decode cX5_hear 20 = .ok (.iastore, 1) := by decide +kernel
theorem dX5_hear_21 : decode cX5_hear 21 = .ok (.aload_n 0, 1) := by decide +kernel
theorem dX5_hear_22 : decode cX5_hear 22 = .ok (.getfield 11, 3) := by decide +kernel
theorem dX5_hear_25 : decode cX5_hear 25 = .ok (.iconst 3, 1) := by decide +kernel
theorem dX5_hear_26 : decode cX5_hear 26 = .ok (.iload 4, 2) := by decide +kernel
theorem dX5_hear_28 : decode cX5_hear 28 = .ok (.iastore, 1) := by decide +kernel
theorem dX5_hear_29 : decode cX5_hear 29 = .ok (.aload_n 0, 1) := by decide +kernel
theorem dX5_hear_30 : decode cX5_hear 30 = .ok (.getfield 11, 3) := by decide +kernel
theorem dX5_hear_33 : decode cX5_hear 33 = .ok (.iconst 4, 1) := by decide +kernel
theorem dX5_hear_34 : decode cX5_hear 34 = .ok (.iload 5, 2) := by decide +kernel
theorem dX5_hear_36 : decode cX5_hear 36 = .ok (.iastore, 1) := by decide +kernel
theorem dX5_hear_37 : decode cX5_hear 37 = .ok (.return_, 1) := by decide +kernel
def f_X5_hear (ln : Nat → Nat) (x1 : Int32) (x2 : Int32) (x3 : Int32) (x4 : Int32) (x5 : Int32) (s : dr_S) : Option (Int32 × dr_S) := (dr_wr ln s 17 0 x1).bind (fun s1 => (dr_wr ln s1 17 1 x2).bind (fun s2 => (dr_wr ln s2 17 2 x3).bind (fun s3 => (dr_wr ln s3 17 3 x4).bind (fun s4 => (dr_wr ln s4 17 4 x5).bind (fun s5 => some (0, s5))))))
section
variable {p : Program} {l : Launch} {e : Env} {s0 : State} {m : MethodId} {args : Array Value} {below : List Frame} {meth : Method} {c : Code} {A : Nat → Prop} {D : va_G} {cI cZ : ClassId} {ad ln : Nat → Nat} {L : List Nat}
set_option maxHeartbeats 4000000 in
set_option maxRecDepth 20000 in
theorem c_X5_hear (hap : dr_ap ad L) (hN : ∀ x ∈ nd_5, x ∈ L) (x1 : Int32) (x2 : Int32) (x3 : Int32) (x4 : Int32) (x5 : Int32) (s : dr_S) : dr_Mv l D cI cZ ad ln L yX5_hear cX5_hear 6 0 [.ref (ad 5), .int x1, .int x2, .int x3, .int x4, .int x5] s (f_X5_hear ln x1 x2 x3 x4 x5 s) := by
  refine dr_metv (own := RX5) (by decide) rfl (Nat.le_of_ble_eq_true rfl) hap ?_
  intro p e s0 m args below meth c A E
  unfold f_X5_hear
  refine g_eqL (lv' := [(0, .ref (ad 5)), (1, .int x1), (2, .int x2), (3, .int x3), (4, .int x4), (5, .int x5)]) rfl ?_
  refine g_aload_n E dX5_hear_0 0 rfl ?_
  refine gg_5_11 E (hN 5 (by decide)) dX5_hear_1 ?_
  refine g_iconst E (v := 0) dX5_hear_4 (by decide) ?_
  refine g_iload_n E dX5_hear_5 1 rfl ?_
  refine g_iastore E (hN 17 (by decide)) (by decide) rfl dX5_hear_6 (fun s1 => ?_)
  refine g_aload_n E dX5_hear_7 0 rfl ?_
  refine gg_5_11 E (hN 5 (by decide)) dX5_hear_8 ?_
  refine g_iconst E (v := 1) dX5_hear_11 (by decide) ?_
  refine g_iload_n E dX5_hear_12 2 rfl ?_
  refine g_iastore E (hN 17 (by decide)) (by decide) rfl dX5_hear_13 (fun s2 => ?_)
  refine g_aload_n E dX5_hear_14 0 rfl ?_
  refine gg_5_11 E (hN 5 (by decide)) dX5_hear_15 ?_
  refine g_iconst E (v := 2) dX5_hear_18 (by decide) ?_
  refine g_iload_n E dX5_hear_19 3 rfl ?_
  refine g_iastore E (hN 17 (by decide)) (by decide) rfl dX5_hear_20 (fun s3 => ?_)
  refine g_aload_n E dX5_hear_21 0 rfl ?_
  refine gg_5_11 E (hN 5 (by decide)) dX5_hear_22 ?_
  refine g_iconst E (v := 3) dX5_hear_25 (by decide) ?_
  refine g_iload E dX5_hear_26 4 rfl ?_
  refine g_iastore E (hN 17 (by decide)) (by decide) rfl dX5_hear_28 (fun s4 => ?_)
  refine g_aload_n E dX5_hear_29 0 rfl ?_
  refine gg_5_11 E (hN 5 (by decide)) dX5_hear_30 ?_
  refine g_iconst E (v := 4) dX5_hear_33 (by decide) ?_
  refine g_iload E dX5_hear_34 5 rfl ?_
  refine g_iastore E (hN 17 (by decide)) (by decide) rfl dX5_hear_36 (fun s5 => ?_)
  exact g_vret E dX5_hear_37
end

theorem dX5_byteAt_0 : decode cX5_byteAt 0 = .ok (.iload_n 1, 1) := by decide +kernel
theorem dX5_byteAt_1 : decode cX5_byteAt 1 = .ok (.iconst 4, 1) := by decide +kernel
theorem dX5_byteAt_2 : decode cX5_byteAt 2 = .ok (.idiv, 1) := by decide +kernel
theorem dX5_byteAt_3 : decode cX5_byteAt 3 = .ok (.istore_n 2, 1) := by decide +kernel
theorem dX5_byteAt_4 : decode cX5_byteAt 4 = .ok (.iload_n 2, 1) := by decide +kernel
theorem dX5_byteAt_5 : decode cX5_byteAt 5 = .ok (.ifCond .lt 12, 3) := by decide +kernel
theorem dX5_byteAt_8 : decode cX5_byteAt 8 = .ok (.iload_n 2, 1) := by decide +kernel
theorem dX5_byteAt_9 : decode cX5_byteAt 9 = .ok (.aload_n 0, 1) := by decide +kernel
theorem dX5_byteAt_10 : decode cX5_byteAt 10 = .ok (.getfield 11, 3) := by decide +kernel
theorem dX5_byteAt_13 : decode cX5_byteAt 13 = .ok (.arraylength, 1) := by decide +kernel
theorem dX5_byteAt_14 : decode cX5_byteAt 14 = .ok (.if_icmp .lt 5, 3) := by decide +kernel
theorem dX5_byteAt_17 : decode cX5_byteAt 17 = .ok (.iconst 0, 1) := by decide +kernel
theorem dX5_byteAt_18 : decode cX5_byteAt 18 = .ok (.ireturn, 1) := by decide +kernel
theorem dX5_byteAt_19 : decode cX5_byteAt 19 = .ok (.aload_n 0, 1) := by decide +kernel
theorem dX5_byteAt_20 : decode cX5_byteAt 20 = .ok (.getfield 11, 3) := by decide +kernel
theorem dX5_byteAt_23 : decode cX5_byteAt 23 = .ok (.iload_n 2, 1) := by decide +kernel
theorem dX5_byteAt_24 : decode cX5_byteAt 24 = .ok (.iaload, 1) := by decide +kernel
theorem dX5_byteAt_25 : decode cX5_byteAt 25 = .ok (.bipush 24, 2) := by decide +kernel
theorem dX5_byteAt_27 : decode cX5_byteAt 27 = .ok (.bipush 8, 2) := by decide +kernel
theorem dX5_byteAt_29 : decode cX5_byteAt 29 = .ok (.iload_n 1, 1) := by decide +kernel
theorem dX5_byteAt_30 : decode cX5_byteAt 30 = .ok (.iconst 4, 1) := by decide +kernel
theorem dX5_byteAt_31 : decode cX5_byteAt 31 = .ok (.irem, 1) := by decide +kernel
theorem dX5_byteAt_32 : decode cX5_byteAt 32 = .ok (.imul, 1) := by decide +kernel
theorem dX5_byteAt_33 : decode cX5_byteAt 33 = .ok (.isub, 1) := by decide +kernel
theorem dX5_byteAt_34 : decode cX5_byteAt 34 = .ok (.iushr, 1) := by decide +kernel
theorem dX5_byteAt_35 : decode cX5_byteAt 35 = .ok (.sipush 255, 3) := by decide +kernel
theorem dX5_byteAt_38 : decode cX5_byteAt 38 = .ok (.iand, 1) := by decide +kernel
theorem dX5_byteAt_39 : decode cX5_byteAt 39 = .ok (.ireturn, 1) := by decide +kernel
def f_X5_byteAt (ln : Nat → Nat) (x1 : Int32) (s : dr_S) : Option (Int32 × dr_S) := dr_let (x1 / 4) (fun y1 => (if y1 < 0 then some (0, s) else (if y1 < (Int32.ofNat (ln 17)) then (dr_rd ln s 17 y1).bind (fun v2 => some (((((v2).toUInt32 >>> (((24 - (8 * (x1 - x1 / 4 * 4))) : Int32).toUInt32 &&& Int32.toUInt32 31)).toInt32) &&& 255), s)) else some (0, s))))
section
variable {p : Program} {l : Launch} {e : Env} {s0 : State} {m : MethodId} {args : Array Value} {below : List Frame} {meth : Method} {c : Code} {A : Nat → Prop} {D : va_G} {cI cZ : ClassId} {ad ln : Nat → Nat} {L : List Nat}
set_option maxHeartbeats 4000000 in
set_option maxRecDepth 20000 in
theorem c_X5_byteAt (hap : dr_ap ad L) (hN : ∀ x ∈ nd_5, x ∈ L) (x1 : Int32) (s : dr_S) : dr_Mi l D cI cZ ad ln L yX5_byteAt cX5_byteAt 3 (some .int) 0 [.ref (ad 5), .int x1] s (f_X5_byteAt ln x1 s) := by
  refine dr_meti (own := RX5) (by decide) rfl (Nat.le_of_ble_eq_true rfl) hap ?_
  intro p e s0 m args below meth c A E
  unfold f_X5_byteAt
  refine g_eqL (lv' := [(0, .ref (ad 5)), (1, .int x1)]) rfl ?_
  refine g_iload_n E dX5_byteAt_0 1 rfl ?_
  refine g_iconst E (v := 4) dX5_byteAt_1 (by decide) ?_
  refine g_idiv E dX5_byteAt_2 (by decide) ?_
  refine g_let (fun y1 => ?_)
  refine g_istore_n E (lv' := [(2, .int y1), (0, .ref (ad 5)), (1, .int x1)]) dX5_byteAt_3 (by decide) rfl ?_
  refine g_iload_n E dX5_byteAt_4 0 rfl ?_
  refine g_if_lt E 17 dX5_byteAt_5 (by decide) ?_ ?_
  · refine g_iconst E (v := 0) dX5_byteAt_17 (by decide) ?_
    exact g_iret E dX5_byteAt_18
  · refine g_iload_n E dX5_byteAt_8 0 rfl ?_
    refine g_aload_n E dX5_byteAt_9 1 rfl ?_
    refine gg_5_11 E (hN 5 (by decide)) dX5_byteAt_10 ?_
    refine g_alen E (hN 17 (by decide)) (by decide) rfl dX5_byteAt_13 ?_
    refine g_icmp_lt E 19 dX5_byteAt_14 (by decide) ?_ ?_
    · refine g_aload_n E dX5_byteAt_19 1 rfl ?_
      refine gg_5_11 E (hN 5 (by decide)) dX5_byteAt_20 ?_
      refine g_iload_n E dX5_byteAt_23 0 rfl ?_
      refine g_iaload E (hN 17 (by decide)) (by decide) rfl dX5_byteAt_24 (fun v2 => ?_)
      refine g_bipush E (v := 24) dX5_byteAt_25 (by decide) ?_
      refine g_bipush E (v := 8) dX5_byteAt_27 (by decide) ?_
      refine g_iload_n E dX5_byteAt_29 2 rfl ?_
      refine g_iconst E (v := 4) dX5_byteAt_30 (by decide) ?_
      refine g_irem E dX5_byteAt_31 (by decide) ?_
      refine g_imul E dX5_byteAt_32 ?_
      refine g_isub E dX5_byteAt_33 ?_
      refine g_iushr E dX5_byteAt_34 ?_
      refine g_sipush E (v := 255) dX5_byteAt_35 (by decide) ?_
      refine g_iand E dX5_byteAt_38 ?_
      exact g_iret E dX5_byteAt_39
    · refine g_iconst E (v := 0) dX5_byteAt_17 (by decide) ?_
      exact g_iret E dX5_byteAt_18
end

theorem dX5_worthOf_0 : decode cX5_worthOf 0 = .ok (.iload_n 0, 1) := by decide +kernel
theorem dX5_worthOf_1 : decode cX5_worthOf 1 = .ok (.tableswitch 43 97 100 #[31, 35, 38, 41], 31) := by decide +kernel
theorem dX5_worthOf_32 : decode cX5_worthOf 32 = .ok (.sipush 1000, 3) := by decide +kernel
theorem dX5_worthOf_35 : decode cX5_worthOf 35 = .ok (.ireturn, 1) := by decide +kernel
theorem dX5_worthOf_36 : decode cX5_worthOf 36 = .ok (.bipush 100, 2) := by decide +kernel
theorem dX5_worthOf_38 : decode cX5_worthOf 38 = .ok (.ireturn, 1) := by decide +kernel
theorem dX5_worthOf_39 : decode cX5_worthOf 39 = .ok (.bipush 10, 2) := by decide +kernel
theorem dX5_worthOf_41 : decode cX5_worthOf 41 = .ok (.ireturn, 1) := by decide +kernel
theorem dX5_worthOf_42 : decode cX5_worthOf 42 = .ok (.iconst 1, 1) := by decide +kernel
theorem dX5_worthOf_43 : decode cX5_worthOf 43 = .ok (.ireturn, 1) := by decide +kernel
theorem dX5_worthOf_44 : decode cX5_worthOf 44 = .ok (.iconst 0, 1) := by decide +kernel
theorem dX5_worthOf_45 : decode cX5_worthOf 45 = .ok (.ireturn, 1) := by decide +kernel
def f_X5_worthOf (ln : Nat → Nat) (x0 : Int32) (s : dr_S) : Option (Int32 × dr_S) := dr_sw x0 97 100 [(some (1000, s)), (some (100, s)), (some (10, s)), (some (1, s))] (some (0, s))
section
variable {p : Program} {l : Launch} {e : Env} {s0 : State} {m : MethodId} {args : Array Value} {below : List Frame} {meth : Method} {c : Code} {A : Nat → Prop} {D : va_G} {cI cZ : ClassId} {ad ln : Nat → Nat} {L : List Nat}
set_option maxHeartbeats 4000000 in
set_option maxRecDepth 20000 in
theorem c_X5_worthOf (hap : dr_ap ad L) (hN : ∀ x ∈ nd_5, x ∈ L) (x0 : Int32) (s : dr_S) : dr_Mi l D cI cZ ad ln L yX5_worthOf cX5_worthOf 1 (some .int) 0 [.int x0] s (f_X5_worthOf ln x0 s) := by
  refine dr_meti (own := RX5) (by decide) rfl (Nat.le_of_ble_eq_true rfl) hap ?_
  intro p e s0 m args below meth c A E
  unfold f_X5_worthOf
  refine g_eqL (lv' := [(0, .int x0)]) rfl ?_
  refine g_iload_n E dX5_worthOf_0 0 rfl ?_
  refine g_tsw E [(some (1000, s)), (some (100, s)), (some (10, s)), (some (1, s))] (some (0, s)) [32, 36, 39, 42] 44 dX5_worthOf_1 (by decide) (by decide) (by decide) ?_ ?_
  · refine g_iconst E (v := 0) dX5_worthOf_44 (by decide) ?_
    exact g_iret E dX5_worthOf_45
  · refine dr_fc ?_ (dr_fc ?_ (dr_fc ?_ (dr_fc ?_ dr_fn)))
    · refine g_sipush E (v := 1000) dX5_worthOf_32 (by decide) ?_
      exact g_iret E dX5_worthOf_35
    · refine g_bipush E (v := 100) dX5_worthOf_36 (by decide) ?_
      exact g_iret E dX5_worthOf_38
    · refine g_bipush E (v := 10) dX5_worthOf_39 (by decide) ?_
      exact g_iret E dX5_worthOf_41
    · refine g_iconst E (v := 1) dX5_worthOf_42 (by decide) ?_
      exact g_iret E dX5_worthOf_43
end

theorem dX5_takesLetter_0 : decode cX5_takesLetter 0 = .ok (.iload_n 1, 1) := by decide +kernel
theorem dX5_takesLetter_1 : decode cX5_takesLetter 1 = .ok (.invokestatic 45, 3) := by decide +kernel
theorem dX5_takesLetter_4 : decode cX5_takesLetter 4 = .ok (.istore_n 2, 1) := by decide +kernel
theorem dX5_takesLetter_5 : decode cX5_takesLetter 5 = .ok (.iload_n 2, 1) := by decide +kernel
theorem dX5_takesLetter_6 : decode cX5_takesLetter 6 = .ok (.ifCond .eq 18, 3) := by decide +kernel
theorem dX5_takesLetter_9 : decode cX5_takesLetter 9 = .ok (.aload_n 0, 1) := by decide +kernel
theorem dX5_takesLetter_10 : decode cX5_takesLetter 10 = .ok (.getfield 25, 3) := by decide +kernel
theorem dX5_takesLetter_13 : decode cX5_takesLetter 13 = .ok (.ifCond .lt 11, 3) := by decide +kernel
theorem dX5_takesLetter_16 : decode cX5_takesLetter 16 = .ok (.aload_n 0, 1) := by decide +kernel
theorem dX5_takesLetter_17 : decode cX5_takesLetter 17 = .ok (.getfield 25, 3) := by decide +kernel
theorem dX5_takesLetter_20 : decode cX5_takesLetter 20 = .ok (.iconst 4, 1) := by decide +kernel
theorem dX5_takesLetter_21 : decode cX5_takesLetter 21 = .ok (.if_icmp .lt 5, 3) := by decide +kernel
theorem dX5_takesLetter_24 : decode cX5_takesLetter 24 = .ok (.iconst 0, 1) := by decide +kernel
theorem dX5_takesLetter_25 : decode cX5_takesLetter 25 = .ok (.ireturn, 1) := by decide +kernel
theorem dX5_takesLetter_26 : decode cX5_takesLetter 26 = .ok (.iconst 0, 1) := by decide +kernel
theorem dX5_takesLetter_27 : decode cX5_takesLetter 27 = .ok (.istore_n 3, 1) := by decide +kernel
theorem dX5_takesLetter_28 : decode cX5_takesLetter 28 = .ok (.iload_n 3, 1) := by decide +kernel
theorem dX5_takesLetter_29 : decode cX5_takesLetter 29 = .ok (.aload_n 0, 1) := by decide +kernel
theorem dX5_takesLetter_30 : decode cX5_takesLetter 30 = .ok (.getfield 25, 3) := by decide +kernel
theorem dX5_takesLetter_33 : decode cX5_takesLetter 33 = .ok (.if_icmp .ge 24, 3) := by decide +kernel
theorem dX5_takesLetter_36 : decode cX5_takesLetter 36 = .ok (.aload_n 0, 1) := by decide +kernel
theorem dX5_takesLetter_37 : decode cX5_takesLetter 37 = .ok (.getfield 18, 3) := by decide +kernel
theorem dX5_takesLetter_40 : decode cX5_takesLetter 40 = .ok (.iload_n 3, 1) := by decide +kernel
theorem dX5_takesLetter_41 : decode cX5_takesLetter 41 = .ok (.iaload, 1) := by decide +kernel
theorem dX5_takesLetter_42 : decode cX5_takesLetter 42 = .ok (.invokestatic 48, 3) := by decide +kernel
theorem dX5_takesLetter_45 : decode cX5_takesLetter 45 = .ok (.iload_n 2, 1) := by decide +kernel
theorem dX5_takesLetter_46 : decode cX5_takesLetter 46 = .ok (.if_icmp .ne 5, 3) := by decide +kernel
theorem dX5_takesLetter_49 : decode cX5_takesLetter 49 = .ok (.iconst 0, 1) := by decide +kernel
theorem dX5_takesLetter_50 : decode cX5_takesLetter 50 = .ok (.ireturn, 1) := by decide +kernel
theorem dX5_takesLetter_51 : decode cX5_takesLetter 51 = .ok (.iinc 3 1, 3) := by decide +kernel
theorem dX5_takesLetter_54 : decode cX5_takesLetter 54 = .ok (.goto (-26), 3) := by decide +kernel
theorem dX5_takesLetter_57 : decode cX5_takesLetter 57 = .ok (.aload_n 0, 1) := by decide +kernel
theorem dX5_takesLetter_58 : decode cX5_takesLetter 58 = .ok (.getfield 18, 3) := by decide +kernel
theorem dX5_takesLetter_61 : decode cX5_takesLetter 61 = .ok (.aload_n 0, 1) := by decide +kernel
theorem dX5_takesLetter_62 : decode cX5_takesLetter 62 = .ok (.getfield 25, 3) := by decide +kernel
theorem dX5_takesLetter_65 : decode cX5_takesLetter 65 = .ok (.iload_n 2, 1) := by decide +kernel
theorem dX5_takesLetter_66 : decode cX5_takesLetter 66 = .ok (.iastore, 1) := by decide +kernel
theorem dX5_takesLetter_67 : decode cX5_takesLetter 67 = .ok (.aload_n 0, 1) := by decide +kernel
theorem dX5_takesLetter_68 : decode cX5_takesLetter 68 = .ok (.dup, 1) := by decide +kernel
theorem dX5_takesLetter_69 : decode cX5_takesLetter 69 = .ok (.getfield 25, 3) := by decide +kernel
theorem dX5_takesLetter_72 : decode cX5_takesLetter 72 = .ok (.iconst 1, 1) := by decide +kernel
theorem dX5_takesLetter_73 : decode cX5_takesLetter 73 = .ok (.iadd, 1) := by decide +kernel
theorem dX5_takesLetter_74 : decode cX5_takesLetter 74 = .ok (.putfield 25, 3) := by decide +kernel
theorem dX5_takesLetter_77 : decode cX5_takesLetter 77 = .ok (.iconst 1, 1) := by decide +kernel
theorem dX5_takesLetter_78 : decode cX5_takesLetter 78 = .ok (.ireturn, 1) := by decide +kernel
def f_X5_takesLetter_p28 (ln : Nat → Nat) : Nat → Int32 → Int32 → dr_S → Option (Int32 × dr_S)
  | 0, _, _, _ => none
  | n + 1, x2, x3, s => (if (s.2 504) ≤ x3 then (dr_wr ln s 19 (s.2 504) x2).bind (fun s3 => dr_letS (dr_pf s3 504 ((s3.2 504) + 1)) (fun s4 => some (1, s4))) else (dr_rd ln s 19 x3).bind (fun v5 => (if (dr_abs v5) = x2 then some (0, s) else dr_let (x3 + 1) (fun y6 => (f_X5_takesLetter_p28 ln n x2 y6 s)))))
def f_X5_takesLetter (ln : Nat → Nat) (x1 : Int32) (s : dr_S) : Option (Int32 × dr_S) := dr_bnd (f_X5_worthOf ln x1 s) (fun r2 s1 => (if r2 = 0 then some (0, s1) else (if (s1.2 504) < 0 then some (0, s1) else (if (s1.2 504) < 4 then (f_X5_takesLetter_p28 ln dr_N r2 0 s1) else some (0, s1)))))
section
variable {p : Program} {l : Launch} {e : Env} {s0 : State} {m : MethodId} {args : Array Value} {below : List Frame} {meth : Method} {c : Code} {A : Nat → Prop} {D : va_G} {cI cZ : ClassId} {ad ln : Nat → Nat} {L : List Nat}
set_option maxHeartbeats 4000000 in
set_option maxRecDepth 20000 in
theorem w_X5_takesLetter_p28 (E : dr_E p (dr_rm 1) s0 m args meth c 0 0 A s0.heap D cI cZ ad L cX5_takesLetter 4 RX5 (some .boolean)) (hap : dr_ap ad L) (hN : ∀ x ∈ nd_5, x ∈ L) : ∀ (n : Nat) (x2 : Int32) (x3 : Int32) (s : dr_S), dr_G p l e (dr_rm 1) s0 m args below meth c 0 0 A s0.heap D cI cZ ad ln L 4 (dr_Zi D cI cZ ad ln L A below args s0 0 0) 28 [(0, .ref (ad 5)), (2, .int x2), (3, .int x3)] [] s (f_X5_takesLetter_p28 ln n x2 x3 s) := by
  intro n
  induction n with
  | zero =>
    intro x2 x3 s
    rw [f_X5_takesLetter_p28]
    exact g_none
  | succ n hkb28 =>
    intro x2 x3 s
    rw [f_X5_takesLetter_p28]
    refine g_iload_n E dX5_takesLetter_28 2 rfl ?_
    refine g_aload_n E dX5_takesLetter_29 0 rfl ?_
    refine gg_5_25 E (hN 5 (by decide)) dX5_takesLetter_30 ?_
    refine g_icmp_ge E 57 dX5_takesLetter_33 (by decide) ?_ ?_
    · refine g_aload_n E dX5_takesLetter_57 0 rfl ?_
      refine gg_5_18 E (hN 5 (by decide)) dX5_takesLetter_58 ?_
      refine g_aload_n E dX5_takesLetter_61 0 rfl ?_
      refine gg_5_25 E (hN 5 (by decide)) dX5_takesLetter_62 ?_
      refine g_iload_n E dX5_takesLetter_65 1 rfl ?_
      refine g_iastore E (hN 19 (by decide)) (by decide) rfl dX5_takesLetter_66 (fun s3 => ?_)
      refine g_aload_n E dX5_takesLetter_67 0 rfl ?_
      refine g_dup E dX5_takesLetter_68 rfl ?_
      refine gg_5_25 E (hN 5 (by decide)) dX5_takesLetter_69 ?_
      refine g_iconst E (v := 1) dX5_takesLetter_72 (by decide) ?_
      refine g_iadd E dX5_takesLetter_73 ?_
      refine gp_5_25 E (hN 5 (by decide)) dX5_takesLetter_74 (fun s4 => ?_)
      refine g_iconst E (v := 1) dX5_takesLetter_77 (by decide) ?_
      exact g_zret E dX5_takesLetter_78 (Or.inr rfl)
    · refine g_aload_n E dX5_takesLetter_36 0 rfl ?_
      refine gg_5_18 E (hN 5 (by decide)) dX5_takesLetter_37 ?_
      refine g_iload_n E dX5_takesLetter_40 2 rfl ?_
      refine g_iaload E (hN 19 (by decide)) (by decide) rfl dX5_takesLetter_41 (fun v5 => ?_)
      refine g_mabs E ml_5_48 ⟨Nat.le_of_ble_eq_true rfl, Nat.le_of_ble_eq_true rfl⟩ dX5_takesLetter_42 ?_
      refine g_iload_n E dX5_takesLetter_45 1 rfl ?_
      refine g_icmp_ne E 51 dX5_takesLetter_46 (by decide) ?_ ?_
      · refine g_iinc E (lv' := []) (lv'' := fun y6 => [(3, .int y6), (0, .ref (ad 5)), (2, .int x2)]) (v := 1) dX5_takesLetter_51 2 rfl (by decide) (by decide) (fun _ => rfl) (fun y6 => ?_)
        refine g_goto E 28 dX5_takesLetter_54 (by decide) ?_
        refine g_sub [1, 2, 0] rfl ?_
        exact hkb28 x2 y6 s
      · refine g_iconst E (v := 0) dX5_takesLetter_49 (by decide) ?_
        exact g_zret E dX5_takesLetter_50 (Or.inl rfl)
set_option maxHeartbeats 4000000 in
set_option maxRecDepth 20000 in
theorem c_X5_takesLetter (hap : dr_ap ad L) (hN : ∀ x ∈ nd_5, x ∈ L) (x1 : Int32) (s : dr_S) : dr_Mi l D cI cZ ad ln L yX5_takesLetter cX5_takesLetter 4 (some .boolean) 1 [.ref (ad 5), .int x1] s (f_X5_takesLetter ln x1 s) := by
  refine dr_meti (own := RX5) (by decide) rfl (Nat.le_of_ble_eq_true rfl) hap ?_
  intro p e s0 m args below meth c A E
  unfold f_X5_takesLetter
  refine g_eqL (lv' := [(0, .ref (ad 5)), (1, .int x1)]) rfl ?_
  refine g_iload_n E dX5_takesLetter_0 1 rfl ?_
  refine g_cSi E [.int x1] rfl (c_X5_worthOf hap hN x1 s) ms_X5_worthOf mw_X5_worthOf rfl ml_5_45 ⟨Nat.le_of_ble_eq_true rfl, Nat.le_of_ble_eq_true rfl⟩ (Nat.le_of_ble_eq_true rfl) dX5_takesLetter_1 (fun r2 s1 => ?_)
  refine g_istore_n E (lv' := [(2, .int r2), (0, .ref (ad 5)), (1, .int x1)]) dX5_takesLetter_4 (by decide) rfl ?_
  refine g_iload_n E dX5_takesLetter_5 0 rfl ?_
  refine g_if_eq E 24 dX5_takesLetter_6 (by decide) ?_ ?_
  · refine g_iconst E (v := 0) dX5_takesLetter_24 (by decide) ?_
    exact g_zret E dX5_takesLetter_25 (Or.inl rfl)
  · refine g_aload_n E dX5_takesLetter_9 1 rfl ?_
    refine gg_5_25 E (hN 5 (by decide)) dX5_takesLetter_10 ?_
    refine g_if_lt E 24 dX5_takesLetter_13 (by decide) ?_ ?_
    · refine g_iconst E (v := 0) dX5_takesLetter_24 (by decide) ?_
      exact g_zret E dX5_takesLetter_25 (Or.inl rfl)
    · refine g_aload_n E dX5_takesLetter_16 1 rfl ?_
      refine gg_5_25 E (hN 5 (by decide)) dX5_takesLetter_17 ?_
      refine g_iconst E (v := 4) dX5_takesLetter_20 (by decide) ?_
      refine g_icmp_lt E 26 dX5_takesLetter_21 (by decide) ?_ ?_
      · refine g_iconst E (v := 0) dX5_takesLetter_26 (by decide) ?_
        refine g_istore_n E (lv' := [(3, .int 0), (2, .int r2), (0, .ref (ad 5)), (1, .int x1)]) dX5_takesLetter_27 (by decide) rfl ?_
        refine g_sub [2, 1, 0] rfl ?_
        exact w_X5_takesLetter_p28 E hap hN dr_N r2 0 s1
      · refine g_iconst E (v := 0) dX5_takesLetter_24 (by decide) ?_
        exact g_zret E dX5_takesLetter_25 (Or.inl rfl)
end

theorem dX5_takesDirection_0 : decode cX5_takesDirection 0 = .ok (.iload_n 1, 1) := by decide +kernel
theorem dX5_takesDirection_1 : decode cX5_takesDirection 1 = .ok (.bipush 45, 2) := by decide +kernel
theorem dX5_takesDirection_3 : decode cX5_takesDirection 3 = .ok (.if_icmp .ne 41, 3) := by decide +kernel
theorem dX5_takesDirection_6 : decode cX5_takesDirection 6 = .ok (.aload_n 0, 1) := by decide +kernel
theorem dX5_takesDirection_7 : decode cX5_takesDirection 7 = .ok (.getfield 25, 3) := by decide +kernel
theorem dX5_takesDirection_10 : decode cX5_takesDirection 10 = .ok (.ifCond .le 34, 3) := by decide +kernel
theorem dX5_takesDirection_13 : decode cX5_takesDirection 13 = .ok (.aload_n 0, 1) := by decide +kernel
theorem dX5_takesDirection_14 : decode cX5_takesDirection 14 = .ok (.getfield 25, 3) := by decide +kernel
theorem dX5_takesDirection_17 : decode cX5_takesDirection 17 = .ok (.iconst 4, 1) := by decide +kernel
theorem dX5_takesDirection_18 : decode cX5_takesDirection 18 = .ok (.if_icmp .gt 26, 3) := by decide +kernel
theorem dX5_takesDirection_21 : decode cX5_takesDirection 21 = .ok (.aload_n 0, 1) := by decide +kernel
theorem dX5_takesDirection_22 : decode cX5_takesDirection 22 = .ok (.getfield 18, 3) := by decide +kernel
theorem dX5_takesDirection_25 : decode cX5_takesDirection 25 = .ok (.aload_n 0, 1) := by decide +kernel
theorem dX5_takesDirection_26 : decode cX5_takesDirection 26 = .ok (.getfield 25, 3) := by decide +kernel
theorem dX5_takesDirection_29 : decode cX5_takesDirection 29 = .ok (.iconst 1, 1) := by decide +kernel
theorem dX5_takesDirection_30 : decode cX5_takesDirection 30 = .ok (.isub, 1) := by decide +kernel
theorem dX5_takesDirection_31 : decode cX5_takesDirection 31 = .ok (.aload_n 0, 1) := by decide +kernel
theorem dX5_takesDirection_32 : decode cX5_takesDirection 32 = .ok (.getfield 18, 3) := by decide +kernel
theorem dX5_takesDirection_35 : decode cX5_takesDirection 35 = .ok (.aload_n 0, 1) := by decide +kernel
theorem dX5_takesDirection_36 : decode cX5_takesDirection 36 = .ok (.getfield 25, 3) := by decide +kernel
theorem dX5_takesDirection_39 : decode cX5_takesDirection 39 = .ok (.iconst 1, 1) := by decide +kernel
theorem dX5_takesDirection_40 : decode cX5_takesDirection 40 = .ok (.isub, 1) := by decide +kernel
theorem dX5_takesDirection_41 : decode cX5_takesDirection 41 = .ok (.iaload, 1) := by decide +kernel
theorem dX5_takesDirection_42 : decode cX5_takesDirection 42 = .ok (.ineg, 1) := by decide +kernel
theorem dX5_takesDirection_43 : decode cX5_takesDirection 43 = .ok (.iastore, 1) := by decide +kernel
theorem dX5_takesDirection_44 : decode cX5_takesDirection 44 = .ok (.iload_n 1, 1) := by decide +kernel
theorem dX5_takesDirection_45 : decode cX5_takesDirection 45 = .ok (.bipush 43, 2) := by decide +kernel
theorem dX5_takesDirection_47 : decode cX5_takesDirection 47 = .ok (.if_icmp .eq 9, 3) := by decide +kernel
theorem dX5_takesDirection_50 : decode cX5_takesDirection 50 = .ok (.iload_n 1, 1) := by decide +kernel
theorem dX5_takesDirection_51 : decode cX5_takesDirection 51 = .ok (.bipush 45, 2) := by decide +kernel
theorem dX5_takesDirection_53 : decode cX5_takesDirection 53 = .ok (.if_icmp .ne 7, 3) := by decide +kernel
theorem dX5_takesDirection_56 : decode cX5_takesDirection 56 = .ok (.iconst 1, 1) := by decide +kernel
theorem dX5_takesDirection_57 : decode cX5_takesDirection 57 = .ok (.goto 4, 3) := by decide +kernel
theorem dX5_takesDirection_60 : decode cX5_takesDirection 60 = .ok (.iconst 0, 1) := by decide +kernel
theorem dX5_takesDirection_61 : decode cX5_takesDirection 61 = .ok (.ireturn, 1) := by decide +kernel
def f_X5_takesDirection_p44 (ln : Nat → Nat) (x1 : Int32) (s : dr_S) : Option (Int32 × dr_S) := (if x1 = 43 then some (1, s) else (if x1 = 45 then some (1, s) else some (0, s)))
def f_X5_takesDirection (ln : Nat → Nat) (x1 : Int32) (s : dr_S) : Option (Int32 × dr_S) := (if x1 = 45 then (if (s.2 504) ≤ 0 then (f_X5_takesDirection_p44 ln x1 s) else (if ((4 : Int32) < (s.2 504) : Prop) then (f_X5_takesDirection_p44 ln x1 s) else (dr_rd ln s 19 ((s.2 504) - 1)).bind (fun v1 => (dr_wr ln s 19 ((s.2 504) - 1) (-v1)).bind (fun s2 => (f_X5_takesDirection_p44 ln x1 s2))))) else (f_X5_takesDirection_p44 ln x1 s))
section
variable {p : Program} {l : Launch} {e : Env} {s0 : State} {m : MethodId} {args : Array Value} {below : List Frame} {meth : Method} {c : Code} {A : Nat → Prop} {D : va_G} {cI cZ : ClassId} {ad ln : Nat → Nat} {L : List Nat}
set_option maxHeartbeats 4000000 in
set_option maxRecDepth 20000 in
theorem w_X5_takesDirection_p44 (E : dr_E p (dr_rm 0) s0 m args meth c 0 0 A s0.heap D cI cZ ad L cX5_takesDirection 2 RX5 (some .boolean)) (hap : dr_ap ad L) (hN : ∀ x ∈ nd_5, x ∈ L) : ∀ (x1 : Int32) (s : dr_S), dr_G p l e (dr_rm 0) s0 m args below meth c 0 0 A s0.heap D cI cZ ad ln L 2 (dr_Zi D cI cZ ad ln L A below args s0 0 0) 44 [(1, .int x1)] [] s (f_X5_takesDirection_p44 ln x1 s) := by
  intro x1 s
  unfold f_X5_takesDirection_p44
  refine g_iload_n E dX5_takesDirection_44 0 rfl ?_
  refine g_bipush E (v := 43) dX5_takesDirection_45 (by decide) ?_
  refine g_icmp_eq E 56 dX5_takesDirection_47 (by decide) ?_ ?_
  · refine g_iconst E (v := 1) dX5_takesDirection_56 (by decide) ?_
    refine g_goto E 61 dX5_takesDirection_57 (by decide) ?_
    exact g_zret E dX5_takesDirection_61 (Or.inr rfl)
  · refine g_iload_n E dX5_takesDirection_50 0 rfl ?_
    refine g_bipush E (v := 45) dX5_takesDirection_51 (by decide) ?_
    refine g_icmp_ne E 60 dX5_takesDirection_53 (by decide) ?_ ?_
    · refine g_iconst E (v := 0) dX5_takesDirection_60 (by decide) ?_
      exact g_zret E dX5_takesDirection_61 (Or.inl rfl)
    · refine g_iconst E (v := 1) dX5_takesDirection_56 (by decide) ?_
      refine g_goto E 61 dX5_takesDirection_57 (by decide) ?_
      exact g_zret E dX5_takesDirection_61 (Or.inr rfl)
set_option maxHeartbeats 4000000 in
set_option maxRecDepth 20000 in
theorem c_X5_takesDirection (hap : dr_ap ad L) (hN : ∀ x ∈ nd_5, x ∈ L) (x1 : Int32) (s : dr_S) : dr_Mi l D cI cZ ad ln L yX5_takesDirection cX5_takesDirection 2 (some .boolean) 0 [.ref (ad 5), .int x1] s (f_X5_takesDirection ln x1 s) := by
  refine dr_meti (own := RX5) (by decide) rfl (Nat.le_of_ble_eq_true rfl) hap ?_
  intro p e s0 m args below meth c A E
  unfold f_X5_takesDirection
  refine g_eqL (lv' := [(0, .ref (ad 5)), (1, .int x1)]) rfl ?_
  refine g_iload_n E dX5_takesDirection_0 1 rfl ?_
  refine g_bipush E (v := 45) dX5_takesDirection_1 (by decide) ?_
  refine g_icmp_ne E 44 dX5_takesDirection_3 (by decide) ?_ ?_
  · refine g_sub [1] rfl ?_
    exact w_X5_takesDirection_p44 E hap hN x1 s
  · refine g_aload_n E dX5_takesDirection_6 0 rfl ?_
    refine gg_5_25 E (hN 5 (by decide)) dX5_takesDirection_7 ?_
    refine g_if_le E 44 dX5_takesDirection_10 (by decide) ?_ ?_
    · refine g_sub [1] rfl ?_
      exact w_X5_takesDirection_p44 E hap hN x1 s
    · refine g_aload_n E dX5_takesDirection_13 0 rfl ?_
      refine gg_5_25 E (hN 5 (by decide)) dX5_takesDirection_14 ?_
      refine g_iconst E (v := 4) dX5_takesDirection_17 (by decide) ?_
      refine g_icmp_gt E 44 dX5_takesDirection_18 (by decide) ?_ ?_
      · refine g_sub [1] rfl ?_
        exact w_X5_takesDirection_p44 E hap hN x1 s
      · refine g_aload_n E dX5_takesDirection_21 0 rfl ?_
        refine gg_5_18 E (hN 5 (by decide)) dX5_takesDirection_22 ?_
        refine g_aload_n E dX5_takesDirection_25 0 rfl ?_
        refine gg_5_25 E (hN 5 (by decide)) dX5_takesDirection_26 ?_
        refine g_iconst E (v := 1) dX5_takesDirection_29 (by decide) ?_
        refine g_isub E dX5_takesDirection_30 ?_
        refine g_aload_n E dX5_takesDirection_31 0 rfl ?_
        refine gg_5_18 E (hN 5 (by decide)) dX5_takesDirection_32 ?_
        refine g_aload_n E dX5_takesDirection_35 0 rfl ?_
        refine gg_5_25 E (hN 5 (by decide)) dX5_takesDirection_36 ?_
        refine g_iconst E (v := 1) dX5_takesDirection_39 (by decide) ?_
        refine g_isub E dX5_takesDirection_40 ?_
        refine g_iaload E (hN 19 (by decide)) (by decide) rfl dX5_takesDirection_41 (fun v1 => ?_)
        refine g_ineg E dX5_takesDirection_42 ?_
        refine g_iastore E (hN 19 (by decide)) (by decide) rfl dX5_takesDirection_43 (fun s2 => ?_)
        refine g_sub [1] rfl ?_
        exact w_X5_takesDirection_p44 E hap hN x1 s2
end

theorem dX5_faultOf_0 : decode cX5_faultOf 0 = .ok (.aload_n 0, 1) := by decide +kernel
theorem dX5_faultOf_1 : decode cX5_faultOf 1 = .ok (.iconst 0, 1) := by decide +kernel
theorem dX5_faultOf_2 : decode cX5_faultOf 2 = .ok (.putfield 25, 3) := by decide +kernel
theorem dX5_faultOf_5 : decode cX5_faultOf 5 = .ok (.iconst 0, 1) := by decide +kernel
theorem dX5_faultOf_6 : decode cX5_faultOf 6 = .ok (.istore_n 2, 1) := by decide +kernel
theorem dX5_faultOf_7 : decode cX5_faultOf 7 = .ok (.iconst 0, 1) := by decide +kernel
theorem dX5_faultOf_8 : decode cX5_faultOf 8 = .ok (.istore_n 3, 1) := by decide +kernel
theorem dX5_faultOf_9 : decode cX5_faultOf 9 = .ok (.iload_n 3, 1) := by decide +kernel
theorem dX5_faultOf_10 : decode cX5_faultOf 10 = .ok (.iload_n 1, 1) := by decide +kernel
theorem dX5_faultOf_11 : decode cX5_faultOf 11 = .ok (.if_icmp .ge 87, 3) := by decide +kernel
theorem dX5_faultOf_14 : decode cX5_faultOf 14 = .ok (.iload_n 3, 1) := by decide +kernel
theorem dX5_faultOf_15 : decode cX5_faultOf 15 = .ok (.bipush 20, 2) := by decide +kernel
theorem dX5_faultOf_17 : decode cX5_faultOf 17 = .ok (.if_icmp .ge 81, 3) := by decide +kernel
theorem dX5_faultOf_20 : decode cX5_faultOf 20 = .ok (.aload_n 0, 1) := by decide +kernel
theorem dX5_faultOf_21 : decode cX5_faultOf 21 = .ok (.iload_n 3, 1) := by decide +kernel
theorem dX5_faultOf_22 : decode cX5_faultOf 22 = .ok (.invokevirtual 28, 3) := by decide +kernel
theorem dX5_faultOf_25 : decode cX5_faultOf 25 = .ok (.istore 4, 2) := by decide +kernel
theorem dX5_faultOf_27 : decode cX5_faultOf 27 = .ok (.iload 4, 2) := by decide +kernel
theorem dX5_faultOf_29 : decode cX5_faultOf 29 = .ok (.bipush 32, 2) := by decide +kernel
theorem dX5_faultOf_31 : decode cX5_faultOf 31 = .ok (.if_icmp .ne 6, 3) := by decide +kernel
theorem dX5_faultOf_34 : decode cX5_faultOf 34 = .ok (.goto 58, 3) := by decide +kernel
theorem dX5_faultOf_37 : decode cX5_faultOf 37 = .ok (.iload_n 2, 1) := by decide +kernel
theorem dX5_faultOf_38 : decode cX5_faultOf 38 = .ok (.ifCond .ne 15, 3) := by decide +kernel
theorem dX5_faultOf_41 : decode cX5_faultOf 41 = .ok (.iload 4, 2) := by decide +kernel
theorem dX5_faultOf_43 : decode cX5_faultOf 43 = .ok (.bipush 59, 2) := by decide +kernel
theorem dX5_faultOf_45 : decode cX5_faultOf 45 = .ok (.if_icmp .ne 8, 3) := by decide +kernel
theorem dX5_faultOf_48 : decode cX5_faultOf 48 = .ok (.iconst 2, 1) := by decide +kernel
theorem dX5_faultOf_49 : decode cX5_faultOf 49 = .ok (.istore_n 2, 1) := by decide +kernel
theorem dX5_faultOf_50 : decode cX5_faultOf 50 = .ok (.goto 42, 3) := by decide +kernel
theorem dX5_faultOf_53 : decode cX5_faultOf 53 = .ok (.iload_n 2, 1) := by decide +kernel
theorem dX5_faultOf_54 : decode cX5_faultOf 54 = .ok (.ifCond .ne 17, 3) := by decide +kernel
theorem dX5_faultOf_57 : decode cX5_faultOf 57 = .ok (.aload_n 0, 1) := by decide +kernel
theorem dX5_faultOf_58 : decode cX5_faultOf 58 = .ok (.iload 4, 2) := by decide +kernel
theorem dX5_faultOf_60 : decode cX5_faultOf 60 = .ok (.invokevirtual 32, 3) := by decide +kernel
theorem dX5_faultOf_63 : decode cX5_faultOf 63 = .ok (.ifCond .eq 8, 3) := by decide +kernel
theorem dX5_faultOf_66 : decode cX5_faultOf 66 = .ok (.iconst 1, 1) := by decide +kernel
theorem dX5_faultOf_67 : decode cX5_faultOf 67 = .ok (.istore_n 2, 1) := by decide +kernel
theorem dX5_faultOf_68 : decode cX5_faultOf 68 = .ok (.goto 24, 3) := by decide +kernel
theorem dX5_faultOf_71 : decode cX5_faultOf 71 = .ok (.iload_n 2, 1) := by decide +kernel
theorem dX5_faultOf_72 : decode cX5_faultOf 72 = .ok (.iconst 1, 1) := by decide +kernel
theorem dX5_faultOf_73 : decode cX5_faultOf 73 = .ok (.if_icmp .ne 17, 3) := by decide +kernel
theorem dX5_faultOf_76 : decode cX5_faultOf 76 = .ok (.aload_n 0, 1) := by decide +kernel
theorem dX5_faultOf_77 : decode cX5_faultOf 77 = .ok (.iload 4, 2) := by decide +kernel
theorem dX5_faultOf_79 : decode cX5_faultOf 79 = .ok (.invokevirtual 36, 3) := by decide +kernel
theorem dX5_faultOf_82 : decode cX5_faultOf 82 = .ok (.ifCond .eq 8, 3) := by decide +kernel
theorem dX5_faultOf_85 : decode cX5_faultOf 85 = .ok (.iconst 0, 1) := by decide +kernel
theorem dX5_faultOf_86 : decode cX5_faultOf 86 = .ok (.istore_n 2, 1) := by decide +kernel
theorem dX5_faultOf_87 : decode cX5_faultOf 87 = .ok (.goto 5, 3) := by decide +kernel
theorem dX5_faultOf_90 : decode cX5_faultOf 90 = .ok (.iload_n 3, 1) := by decide +kernel
theorem dX5_faultOf_91 : decode cX5_faultOf 91 = .ok (.ireturn, 1) := by decide +kernel
theorem dX5_faultOf_92 : decode cX5_faultOf 92 = .ok (.iinc 3 1, 3) := by decide +kernel
theorem dX5_faultOf_95 : decode cX5_faultOf 95 = .ok (.goto (-86), 3) := by decide +kernel
theorem dX5_faultOf_98 : decode cX5_faultOf 98 = .ok (.iload_n 2, 1) := by decide +kernel
theorem dX5_faultOf_99 : decode cX5_faultOf 99 = .ok (.iconst 2, 1) := by decide +kernel
theorem dX5_faultOf_100 : decode cX5_faultOf 100 = .ok (.if_icmp .ne 7, 3) := by decide +kernel
theorem dX5_faultOf_103 : decode cX5_faultOf 103 = .ok (.iconst (-1), 1) := by decide +kernel
theorem dX5_faultOf_104 : decode cX5_faultOf 104 = .ok (.goto 4, 3) := by decide +kernel
theorem dX5_faultOf_107 : decode cX5_faultOf 107 = .ok (.iload_n 1, 1) := by decide +kernel
theorem dX5_faultOf_108 : decode cX5_faultOf 108 = .ok (.ireturn, 1) := by decide +kernel
def f_X5_faultOf_p98 (ln : Nat → Nat) (x1 : Int32) (x2 : Int32) (s : dr_S) : Option (Int32 × dr_S) := (if x2 = 2 then some ((-1), s) else some (x1, s))
def f_X5_faultOf_p92 (ln : Nat → Nat) (kb9 : Int32 → Int32 → Int32 → dr_S → Option (Int32 × dr_S)) (x1 : Int32) (x2 : Int32) (x3 : Int32) (s : dr_S) : Option (Int32 × dr_S) := dr_let (x3 + 1) (fun y4 => (kb9 x1 x2 y4 s))
def f_X5_faultOf_p71 (ln : Nat → Nat) (kb9 : Int32 → Int32 → Int32 → dr_S → Option (Int32 × dr_S)) (x1 : Int32) (x2 : Int32) (x3 : Int32) (x4 : Int32) (s : dr_S) : Option (Int32 × dr_S) := (if x2 = 1 then dr_bnd (f_X5_takesDirection ln x4 s) (fun r8 s7 => (if r8 = 0 then some (x3, s7) else (f_X5_faultOf_p92 ln kb9 x1 0 x3 s7))) else some (x3, s))
def f_X5_faultOf_p53 (ln : Nat → Nat) (kb9 : Int32 → Int32 → Int32 → dr_S → Option (Int32 × dr_S)) (x1 : Int32) (x2 : Int32) (x3 : Int32) (x4 : Int32) (s : dr_S) : Option (Int32 × dr_S) := (if x2 = 0 then dr_bnd (f_X5_takesLetter ln x4 s) (fun r6 s5 => (if r6 = 0 then (f_X5_faultOf_p71 ln kb9 x1 x2 x3 x4 s5) else (f_X5_faultOf_p92 ln kb9 x1 1 x3 s5))) else (f_X5_faultOf_p71 ln kb9 x1 x2 x3 x4 s))
def f_X5_faultOf_p9 (ln : Nat → Nat) : Nat → Int32 → Int32 → Int32 → dr_S → Option (Int32 × dr_S)
  | 0, _, _, _, _ => none
  | n + 1, x1, x2, x3, s => (if x1 ≤ x3 then (f_X5_faultOf_p98 ln x1 x2 s) else (if ((20 : Int32) ≤ x3 : Prop) then (f_X5_faultOf_p98 ln x1 x2 s) else dr_bnd (f_X5_byteAt ln x3 s) (fun r3 s2 => (if r3 = 32 then (f_X5_faultOf_p92 ln (f_X5_faultOf_p9 ln n) x1 x2 x3 s2) else (if x2 = 0 then (if r3 = 59 then (f_X5_faultOf_p92 ln (f_X5_faultOf_p9 ln n) x1 2 x3 s2) else (f_X5_faultOf_p53 ln (f_X5_faultOf_p9 ln n) x1 x2 x3 r3 s2)) else (f_X5_faultOf_p53 ln (f_X5_faultOf_p9 ln n) x1 x2 x3 r3 s2))))))
def f_X5_faultOf (ln : Nat → Nat) (x1 : Int32) (s : dr_S) : Option (Int32 × dr_S) := dr_letS (dr_pf s 504 0) (fun s1 => (f_X5_faultOf_p9 ln dr_N x1 0 0 s1))
section
variable {p : Program} {l : Launch} {e : Env} {s0 : State} {m : MethodId} {args : Array Value} {below : List Frame} {meth : Method} {c : Code} {A : Nat → Prop} {D : va_G} {cI cZ : ClassId} {ad ln : Nat → Nat} {L : List Nat}
set_option maxHeartbeats 4000000 in
set_option maxRecDepth 20000 in
theorem w_X5_faultOf_p98 (E : dr_E p (dr_rm 2) s0 m args meth c 0 0 A s0.heap D cI cZ ad L cX5_faultOf 5 RX5 (some .int)) (hap : dr_ap ad L) (hN : ∀ x ∈ nd_5, x ∈ L) : ∀ (x1 : Int32) (x2 : Int32) (s : dr_S), dr_G p l e (dr_rm 2) s0 m args below meth c 0 0 A s0.heap D cI cZ ad ln L 5 (dr_Zi D cI cZ ad ln L A below args s0 0 0) 98 [(1, .int x1), (2, .int x2)] [] s (f_X5_faultOf_p98 ln x1 x2 s) := by
  intro x1 x2 s
  unfold f_X5_faultOf_p98
  refine g_iload_n E dX5_faultOf_98 1 rfl ?_
  refine g_iconst E (v := 2) dX5_faultOf_99 (by decide) ?_
  refine g_icmp_ne E 107 dX5_faultOf_100 (by decide) ?_ ?_
  · refine g_iload_n E dX5_faultOf_107 0 rfl ?_
    exact g_iret E dX5_faultOf_108
  · refine g_iconst E (v := (-1)) dX5_faultOf_103 (by decide) ?_
    refine g_goto E 108 dX5_faultOf_104 (by decide) ?_
    exact g_iret E dX5_faultOf_108
set_option maxHeartbeats 4000000 in
set_option maxRecDepth 20000 in
theorem w_X5_faultOf_p92 {kb9 : Int32 → Int32 → Int32 → dr_S → Option (Int32 × dr_S)} (E : dr_E p (dr_rm 2) s0 m args meth c 0 0 A s0.heap D cI cZ ad L cX5_faultOf 5 RX5 (some .int)) (hap : dr_ap ad L) (hN : ∀ x ∈ nd_5, x ∈ L) (hkb9 : ∀ (x1 : Int32) (x2 : Int32) (x3 : Int32) (s : dr_S), dr_G p l e (dr_rm 2) s0 m args below meth c 0 0 A s0.heap D cI cZ ad ln L 5 (dr_Zi D cI cZ ad ln L A below args s0 0 0) 9 [(0, .ref (ad 5)), (1, .int x1), (2, .int x2), (3, .int x3)] [] s (kb9 x1 x2 x3 s)) : ∀ (x1 : Int32) (x2 : Int32) (x3 : Int32) (s : dr_S), dr_G p l e (dr_rm 2) s0 m args below meth c 0 0 A s0.heap D cI cZ ad ln L 5 (dr_Zi D cI cZ ad ln L A below args s0 0 0) 92 [(0, .ref (ad 5)), (1, .int x1), (2, .int x2), (3, .int x3)] [] s (f_X5_faultOf_p92 ln kb9 x1 x2 x3 s) := by
  intro x1 x2 x3 s
  unfold f_X5_faultOf_p92
  refine g_iinc E (lv' := []) (lv'' := fun y4 => [(3, .int y4), (0, .ref (ad 5)), (1, .int x1), (2, .int x2)]) (v := 1) dX5_faultOf_92 3 rfl (by decide) (by decide) (fun _ => rfl) (fun y4 => ?_)
  refine g_goto E 9 dX5_faultOf_95 (by decide) ?_
  refine g_sub [1, 2, 3, 0] rfl ?_
  exact hkb9 x1 x2 y4 s
set_option maxHeartbeats 4000000 in
set_option maxRecDepth 20000 in
theorem w_X5_faultOf_p71 {kb9 : Int32 → Int32 → Int32 → dr_S → Option (Int32 × dr_S)} (E : dr_E p (dr_rm 2) s0 m args meth c 0 0 A s0.heap D cI cZ ad L cX5_faultOf 5 RX5 (some .int)) (hap : dr_ap ad L) (hN : ∀ x ∈ nd_5, x ∈ L) (hkb9 : ∀ (x1 : Int32) (x2 : Int32) (x3 : Int32) (s : dr_S), dr_G p l e (dr_rm 2) s0 m args below meth c 0 0 A s0.heap D cI cZ ad ln L 5 (dr_Zi D cI cZ ad ln L A below args s0 0 0) 9 [(0, .ref (ad 5)), (1, .int x1), (2, .int x2), (3, .int x3)] [] s (kb9 x1 x2 x3 s)) : ∀ (x1 : Int32) (x2 : Int32) (x3 : Int32) (x4 : Int32) (s : dr_S), dr_G p l e (dr_rm 2) s0 m args below meth c 0 0 A s0.heap D cI cZ ad ln L 5 (dr_Zi D cI cZ ad ln L A below args s0 0 0) 71 [(0, .ref (ad 5)), (1, .int x1), (2, .int x2), (3, .int x3), (4, .int x4)] [] s (f_X5_faultOf_p71 ln kb9 x1 x2 x3 x4 s) := by
  intro x1 x2 x3 x4 s
  unfold f_X5_faultOf_p71
  refine g_iload_n E dX5_faultOf_71 2 rfl ?_
  refine g_iconst E (v := 1) dX5_faultOf_72 (by decide) ?_
  refine g_icmp_ne E 90 dX5_faultOf_73 (by decide) ?_ ?_
  · refine g_iload_n E dX5_faultOf_90 3 rfl ?_
    exact g_iret E dX5_faultOf_91
  · refine g_aload_n E dX5_faultOf_76 0 rfl ?_
    refine g_iload E dX5_faultOf_77 4 rfl ?_
    refine g_cVi E [.int x4] rfl (c_X5_takesDirection hap hN x4 s) (hN 5 (by decide)) (by decide) rfl rfl mi_X5_takesDirection msl_X5_takesDirection mw_X5_takesDirection rfl ml_5_36 ⟨Nat.le_of_ble_eq_true rfl, Nat.le_of_ble_eq_true rfl⟩ (Nat.le_of_ble_eq_true rfl) dX5_faultOf_79 (fun r8 s7 => ?_)
    refine g_if_eq E 90 dX5_faultOf_82 (by decide) ?_ ?_
    · refine g_iload_n E dX5_faultOf_90 3 rfl ?_
      exact g_iret E dX5_faultOf_91
    · refine g_iconst E (v := 0) dX5_faultOf_85 (by decide) ?_
      refine g_istore_n E (lv' := [(2, .int 0), (0, .ref (ad 5)), (1, .int x1), (3, .int x3), (4, .int x4)]) dX5_faultOf_86 (by decide) rfl ?_
      refine g_goto E 92 dX5_faultOf_87 (by decide) ?_
      refine g_sub [1, 2, 0, 3] rfl ?_
      exact w_X5_faultOf_p92 E hap hN hkb9 x1 0 x3 s7
set_option maxHeartbeats 4000000 in
set_option maxRecDepth 20000 in
theorem w_X5_faultOf_p53 {kb9 : Int32 → Int32 → Int32 → dr_S → Option (Int32 × dr_S)} (E : dr_E p (dr_rm 2) s0 m args meth c 0 0 A s0.heap D cI cZ ad L cX5_faultOf 5 RX5 (some .int)) (hap : dr_ap ad L) (hN : ∀ x ∈ nd_5, x ∈ L) (hkb9 : ∀ (x1 : Int32) (x2 : Int32) (x3 : Int32) (s : dr_S), dr_G p l e (dr_rm 2) s0 m args below meth c 0 0 A s0.heap D cI cZ ad ln L 5 (dr_Zi D cI cZ ad ln L A below args s0 0 0) 9 [(0, .ref (ad 5)), (1, .int x1), (2, .int x2), (3, .int x3)] [] s (kb9 x1 x2 x3 s)) : ∀ (x1 : Int32) (x2 : Int32) (x3 : Int32) (x4 : Int32) (s : dr_S), dr_G p l e (dr_rm 2) s0 m args below meth c 0 0 A s0.heap D cI cZ ad ln L 5 (dr_Zi D cI cZ ad ln L A below args s0 0 0) 53 [(0, .ref (ad 5)), (1, .int x1), (2, .int x2), (3, .int x3), (4, .int x4)] [] s (f_X5_faultOf_p53 ln kb9 x1 x2 x3 x4 s) := by
  intro x1 x2 x3 x4 s
  unfold f_X5_faultOf_p53
  refine g_iload_n E dX5_faultOf_53 2 rfl ?_
  refine g_if_ne E 71 dX5_faultOf_54 (by decide) ?_ ?_
  · refine g_sub [0, 1, 2, 3, 4] rfl ?_
    exact w_X5_faultOf_p71 E hap hN hkb9 x1 x2 x3 x4 s
  · refine g_aload_n E dX5_faultOf_57 0 rfl ?_
    refine g_iload E dX5_faultOf_58 4 rfl ?_
    refine g_cVi E [.int x4] rfl (c_X5_takesLetter hap hN x4 s) (hN 5 (by decide)) (by decide) rfl rfl mi_X5_takesLetter msl_X5_takesLetter mw_X5_takesLetter rfl ml_5_32 ⟨Nat.le_of_ble_eq_true rfl, Nat.le_of_ble_eq_true rfl⟩ (Nat.le_of_ble_eq_true rfl) dX5_faultOf_60 (fun r6 s5 => ?_)
    refine g_if_eq E 71 dX5_faultOf_63 (by decide) ?_ ?_
    · refine g_sub [0, 1, 2, 3, 4] rfl ?_
      exact w_X5_faultOf_p71 E hap hN hkb9 x1 x2 x3 x4 s5
    · refine g_iconst E (v := 1) dX5_faultOf_66 (by decide) ?_
      refine g_istore_n E (lv' := [(2, .int 1), (0, .ref (ad 5)), (1, .int x1), (3, .int x3), (4, .int x4)]) dX5_faultOf_67 (by decide) rfl ?_
      refine g_goto E 92 dX5_faultOf_68 (by decide) ?_
      refine g_sub [1, 2, 0, 3] rfl ?_
      exact w_X5_faultOf_p92 E hap hN hkb9 x1 1 x3 s5
set_option maxHeartbeats 4000000 in
set_option maxRecDepth 20000 in
theorem w_X5_faultOf_p9 (E : dr_E p (dr_rm 2) s0 m args meth c 0 0 A s0.heap D cI cZ ad L cX5_faultOf 5 RX5 (some .int)) (hap : dr_ap ad L) (hN : ∀ x ∈ nd_5, x ∈ L) : ∀ (n : Nat) (x1 : Int32) (x2 : Int32) (x3 : Int32) (s : dr_S), dr_G p l e (dr_rm 2) s0 m args below meth c 0 0 A s0.heap D cI cZ ad ln L 5 (dr_Zi D cI cZ ad ln L A below args s0 0 0) 9 [(0, .ref (ad 5)), (1, .int x1), (2, .int x2), (3, .int x3)] [] s (f_X5_faultOf_p9 ln n x1 x2 x3 s) := by
  intro n
  induction n with
  | zero =>
    intro x1 x2 x3 s
    rw [f_X5_faultOf_p9]
    exact g_none
  | succ n hkb9 =>
    intro x1 x2 x3 s
    rw [f_X5_faultOf_p9]
    refine g_iload_n E dX5_faultOf_9 3 rfl ?_
    refine g_iload_n E dX5_faultOf_10 1 rfl ?_
    refine g_icmp_ge E 98 dX5_faultOf_11 (by decide) ?_ ?_
    · refine g_sub [1, 2] rfl ?_
      exact w_X5_faultOf_p98 E hap hN x1 x2 s
    · refine g_iload_n E dX5_faultOf_14 3 rfl ?_
      refine g_bipush E (v := 20) dX5_faultOf_15 (by decide) ?_
      refine g_icmp_ge E 98 dX5_faultOf_17 (by decide) ?_ ?_
      · refine g_sub [1, 2] rfl ?_
        exact w_X5_faultOf_p98 E hap hN x1 x2 s
      · refine g_aload_n E dX5_faultOf_20 0 rfl ?_
        refine g_iload_n E dX5_faultOf_21 3 rfl ?_
        refine g_cVi E [.int x3] rfl (c_X5_byteAt hap hN x3 s) (hN 5 (by decide)) (by decide) rfl rfl mi_X5_byteAt msl_X5_byteAt mw_X5_byteAt rfl ml_5_28 ⟨Nat.le_of_ble_eq_true rfl, Nat.le_of_ble_eq_true rfl⟩ (Nat.le_of_ble_eq_true rfl) dX5_faultOf_22 (fun r3 s2 => ?_)
        refine g_istore E (lv' := [(4, .int r3), (0, .ref (ad 5)), (1, .int x1), (2, .int x2), (3, .int x3)]) dX5_faultOf_25 (by decide) rfl ?_
        refine g_iload E dX5_faultOf_27 0 rfl ?_
        refine g_bipush E (v := 32) dX5_faultOf_29 (by decide) ?_
        refine g_icmp_ne E 37 dX5_faultOf_31 (by decide) ?_ ?_
        · refine g_iload_n E dX5_faultOf_37 3 rfl ?_
          refine g_if_ne E 53 dX5_faultOf_38 (by decide) ?_ ?_
          · refine g_sub [1, 2, 3, 4, 0] rfl ?_
            exact w_X5_faultOf_p53 E hap hN hkb9 x1 x2 x3 r3 s2
          · refine g_iload E dX5_faultOf_41 0 rfl ?_
            refine g_bipush E (v := 59) dX5_faultOf_43 (by decide) ?_
            refine g_icmp_ne E 53 dX5_faultOf_45 (by decide) ?_ ?_
            · refine g_sub [1, 2, 3, 4, 0] rfl ?_
              exact w_X5_faultOf_p53 E hap hN hkb9 x1 x2 x3 r3 s2
            · refine g_iconst E (v := 2) dX5_faultOf_48 (by decide) ?_
              refine g_istore_n E (lv' := [(2, .int 2), (4, .int r3), (0, .ref (ad 5)), (1, .int x1), (3, .int x3)]) dX5_faultOf_49 (by decide) rfl ?_
              refine g_goto E 92 dX5_faultOf_50 (by decide) ?_
              refine g_sub [2, 3, 0, 4] rfl ?_
              exact w_X5_faultOf_p92 E hap hN hkb9 x1 2 x3 s2
        · refine g_goto E 92 dX5_faultOf_34 (by decide) ?_
          refine g_sub [1, 2, 3, 4] rfl ?_
          exact w_X5_faultOf_p92 E hap hN hkb9 x1 x2 x3 s2
set_option maxHeartbeats 4000000 in
set_option maxRecDepth 20000 in
theorem c_X5_faultOf (hap : dr_ap ad L) (hN : ∀ x ∈ nd_5, x ∈ L) (x1 : Int32) (s : dr_S) : dr_Mi l D cI cZ ad ln L yX5_faultOf cX5_faultOf 5 (some .int) 2 [.ref (ad 5), .int x1] s (f_X5_faultOf ln x1 s) := by
  refine dr_meti (own := RX5) (by decide) rfl (Nat.le_of_ble_eq_true rfl) hap ?_
  intro p e s0 m args below meth c A E
  unfold f_X5_faultOf
  refine g_eqL (lv' := [(0, .ref (ad 5)), (1, .int x1)]) rfl ?_
  refine g_aload_n E dX5_faultOf_0 0 rfl ?_
  refine g_iconst E (v := 0) dX5_faultOf_1 (by decide) ?_
  refine gp_5_25 E (hN 5 (by decide)) dX5_faultOf_2 (fun s1 => ?_)
  refine g_iconst E (v := 0) dX5_faultOf_5 (by decide) ?_
  refine g_istore_n E (lv' := [(2, .int 0), (0, .ref (ad 5)), (1, .int x1)]) dX5_faultOf_6 (by decide) rfl ?_
  refine g_iconst E (v := 0) dX5_faultOf_7 (by decide) ?_
  refine g_istore_n E (lv' := [(3, .int 0), (2, .int 0), (0, .ref (ad 5)), (1, .int x1)]) dX5_faultOf_8 (by decide) rfl ?_
  refine g_sub [2, 3, 1, 0] rfl ?_
  exact w_X5_faultOf_p9 E hap hN dr_N x1 0 0 s1
end

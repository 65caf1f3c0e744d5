theorem dX12_comes_0 : decode cX12_comes 0 = .ok (.aload_n 0, 1) := by decide +kernel
theorem dX12_comes_1 : decode cX12_comes 1 = .ok (.getfield 23, 3) := by decide +kernel
theorem dX12_comes_4 : decode cX12_comes 4 = .ok (.iload_n 1, 1) := by decide +kernel
theorem dX12_comes_5 : decode cX12_comes 5 = .ok (.iaload, 1) := by decide +kernel
theorem dX12_comes_6 : decode cX12_comes 6 = .ok (.istore 4, 2) := by decide +kernel
theorem dX12_comes_8 : decode cX12_comes 8 = .ok (.iload 4, 2) := by decide +kernel
theorem dX12_comes_10 : decode cX12_comes 10 = .ok (.iload_n 2, 1) := by decide +kernel
theorem dX12_comes_11 : decode cX12_comes 11 = .ok (.if_icmp .le 35, 3) := by decide +kernel
theorem dX12_comes_14 : decode cX12_comes 14 = .ok (.aload_n 0, 1) := by decide +kernel
theorem dX12_comes_15 : decode cX12_comes 15 = .ok (.getfield 26, 3) := by decide +kernel
theorem dX12_comes_18 : decode cX12_comes 18 = .ok (.bipush 14, 2) := by decide +kernel
theorem dX12_comes_20 : decode cX12_comes 20 = .ok (.iload_n 1, 1) := by decide +kernel
theorem dX12_comes_21 : decode cX12_comes 21 = .ok (.imul, 1) := by decide +kernel
theorem dX12_comes_22 : decode cX12_comes 22 = .ok (.iload 4, 2) := by decide +kernel
theorem dX12_comes_24 : decode cX12_comes 24 = .ok (.iadd, 1) := by decide +kernel
theorem dX12_comes_25 : decode cX12_comes 25 = .ok (.aload_n 0, 1) := by decide +kernel
theorem dX12_comes_26 : decode cX12_comes 26 = .ok (.getfield 26, 3) := by decide +kernel
theorem dX12_comes_29 : decode cX12_comes 29 = .ok (.bipush 14, 2) := by decide +kernel
theorem dX12_comes_31 : decode cX12_comes 31 = .ok (.iload_n 1, 1) := by decide +kernel
theorem dX12_comes_32 : decode cX12_comes 32 = .ok (.imul, 1) := by decide +kernel
theorem dX12_comes_33 : decode cX12_comes 33 = .ok (.iload 4, 2) := by decide +kernel
theorem dX12_comes_35 : decode cX12_comes 35 = .ok (.iadd, 1) := by decide +kernel
theorem dX12_comes_36 : decode cX12_comes 36 = .ok (.iconst 1, 1) := by decide +kernel
theorem dX12_comes_37 : decode cX12_comes 37 = .ok (.isub, 1) := by decide +kernel
theorem dX12_comes_38 : decode cX12_comes 38 = .ok (.iaload, 1) := by decide +kernel
theorem dX12_comes_39 : decode cX12_comes 39 = .ok (.iastore, 1) := by decide +kernel
theorem dX12_comes_40 : decode cX12_comes 40 = .ok (.iinc 4 (-1), 3) := by decide +kernel
theorem dX12_comes_43 : decode cX12_comes 43 = .ok (.goto (-35), 3) := by decide +kernel
theorem dX12_comes_46 : decode cX12_comes 46 = .ok (.aload_n 0, 1) := by decide +kernel
theorem dX12_comes_47 : decode cX12_comes 47 = .ok (.getfield 26, 3) := by decide +kernel
theorem dX12_comes_50 : decode cX12_comes 50 = .ok (.bipush 14, 2) := by decide +kernel
theorem dX12_comes_52 : decode cX12_comes 52 = .ok (.iload_n 1, 1) := by decide +kernel
theorem dX12_comes_53 : decode cX12_comes 53 = .ok (.imul, 1) := by decide +kernel
theorem dX12_comes_54 : decode cX12_comes 54 = .ok (.iload_n 2, 1) := by decide +kernel
theorem dX12_comes_55 : decode cX12_comes 55 = .ok (.iadd, 1) := by decide +kernel
theorem dX12_comes_56 : decode cX12_comes 56 = .ok (.iload_n 3, 1) := by decide +kernel
theorem dX12_comes_57 : decode cX12_comes 57 = .ok (.iastore, 1) := by decide +kernel
theorem dX12_comes_58 : decode cX12_comes 58 = .ok (.aload_n 0, 1) := by decide +kernel
theorem dX12_comes_59 : decode cX12_comes 59 = .ok (.getfield 23, 3) := by decide +kernel
theorem dX12_comes_62 : decode cX12_comes 62 = .ok (.iload_n 1, 1) := by decide +kernel
theorem dX12_comes_63 : decode cX12_comes 63 = .ok (.dup2, 1) := by decide +kernel
theorem dX12_comes_64 : decode cX12_comes 64 = .ok (.iaload, 1) := by decide +kernel
theorem dX12_comes_65 : decode cX12_comes 65 = .ok (.iconst 1, 1) := by decide +kernel
theorem dX12_comes_66 : decode cX12_comes 66 = .ok (.iadd, 1) := by decide +kernel
theorem dX12_comes_67 : decode cX12_comes 67 = .ok (.iastore, 1) := by decide +kernel
theorem dX12_comes_68 : decode cX12_comes 68 = .ok (.return_, 1) := by decide +kernel
def f_X12_comes_p8 (ln : Nat → Nat) : Nat → Int32 → Int32 → Int32 → Int32 → dr_S → Option (Int32 × dr_S)
  | 0, _, _, _, _, _ => none
  | n + 1, x1, x2, x3, x4, s => (if x4 ≤ x2 then (dr_wr ln s 33 ((14 * x1) + x2) x3).bind (fun s2 => (dr_rd ln s2 32 x1).bind (fun v3 => (dr_wr ln s2 32 x1 (v3 + 1)).bind (fun s4 => some (0, s4)))) else (dr_rd ln s 33 (((14 * x1) + x4) - 1)).bind (fun v5 => (dr_wr ln s 33 ((14 * x1) + x4) v5).bind (fun s6 => dr_let (x4 + (-1)) (fun y7 => (f_X12_comes_p8 ln n x1 x2 x3 y7 s6)))))
def f_X12_comes (ln : Nat → Nat) (x1 : Int32) (x2 : Int32) (x3 : Int32) (s : dr_S) : Option (Int32 × dr_S) := (dr_rd ln s 32 x1).bind (fun v1 => (f_X12_comes_p8 ln dr_N x1 x2 x3 v1 s))
section
variable {p : Program} {l : Launch} {e : Env} {s0 : State} {m : MethodId} {args : Array Value} {below : List Frame} {meth : Method} {c : Code} {A : Nat → Prop} {D : va_G} {cI cZ : ClassId} {ad ln : Nat → Nat} {L : List Nat}
set_option maxHeartbeats 4000000 in
set_option maxRecDepth 20000 in
theorem w_X12_comes_p8 (E : dr_E p (dr_rm 0) s0 m args meth c 0 0 A s0.heap D cI cZ ad L cX12_comes 5 RX12 none) (hap : dr_ap ad L) (hN : ∀ x ∈ nd_12, x ∈ L) : ∀ (n : Nat) (x1 : Int32) (x2 : Int32) (x3 : Int32) (x4 : Int32) (s : dr_S), dr_G p l e (dr_rm 0) s0 m args below meth c 0 0 A s0.heap D cI cZ ad ln L 5 (dr_Zv D cI cZ ad ln L A below args s0 0 0) 8 [(0, .ref (ad 12)), (1, .int x1), (2, .int x2), (3, .int x3), (4, .int x4)] [] s (f_X12_comes_p8 ln n x1 x2 x3 x4 s) := by
  intro n
  induction n with
  | zero =>
    intro x1 x2 x3 x4 s
    rw [f_X12_comes_p8]
    exact g_none
  | succ n hkb8 =>
    intro x1 x2 x3 x4 s
    rw [f_X12_comes_p8]
    refine g_iload E dX12_comes_8 4 rfl ?_
    refine g_iload_n E dX12_comes_10 2 rfl ?_
    refine g_icmp_le E 46 dX12_comes_11 (by decide) ?_ ?_
    · refine g_aload_n E dX12_comes_46 0 rfl ?_
      refine gg_12_26 E (hN 12 (by decide)) dX12_comes_47 ?_
      refine g_bipush E (v := 14) dX12_comes_50 (by decide) ?_
      refine g_iload_n E dX12_comes_52 1 rfl ?_
      refine g_imul E dX12_comes_53 ?_
      refine g_iload_n E dX12_comes_54 2 rfl ?_
      refine g_iadd E dX12_comes_55 ?_
      refine g_iload_n E dX12_comes_56 3 rfl ?_
      refine g_iastore E (hN 33 (by decide)) (by decide) rfl dX12_comes_57 (fun s2 => ?_)
      refine g_aload_n E dX12_comes_58 0 rfl ?_
      refine gg_12_23 E (hN 12 (by decide)) dX12_comes_59 ?_
      refine g_iload_n E dX12_comes_62 1 rfl ?_
      refine g_dup2 E dX12_comes_63 rfl rfl ?_
      refine g_iaload E (hN 32 (by decide)) (by decide) rfl dX12_comes_64 (fun v3 => ?_)
      refine g_iconst E (v := 1) dX12_comes_65 (by decide) ?_
      refine g_iadd E dX12_comes_66 ?_
      refine g_iastore E (hN 32 (by decide)) (by decide) rfl dX12_comes_67 (fun s4 => ?_)
      exact g_vret E dX12_comes_68
    · refine g_aload_n E dX12_comes_14 0 rfl ?_
      refine gg_12_26 E (hN 12 (by decide)) dX12_comes_15 ?_
      refine g_bipush E (v := 14) dX12_comes_18 (by decide) ?_
      refine g_iload_n E dX12_comes_20 1 rfl ?_
      refine g_imul E dX12_comes_21 ?_
      refine g_iload E dX12_comes_22 4 rfl ?_
      refine g_iadd E dX12_comes_24 ?_
      refine g_aload_n E dX12_comes_25 0 rfl ?_
      refine gg_12_26 E (hN 12 (by decide)) dX12_comes_26 ?_
      refine g_bipush E (v := 14) dX12_comes_29 (by decide) ?_
      refine g_iload_n E dX12_comes_31 1 rfl ?_
      refine g_imul E dX12_comes_32 ?_
      refine g_iload E dX12_comes_33 4 rfl ?_
      refine g_iadd E dX12_comes_35 ?_
      refine g_iconst E (v := 1) dX12_comes_36 (by decide) ?_
      refine g_isub E dX12_comes_37 ?_
      refine g_iaload E (hN 33 (by decide)) (by decide) rfl dX12_comes_38 (fun v5 => ?_)
      refine g_iastore E (hN 33 (by decide)) (by decide) rfl dX12_comes_39 (fun s6 => ?_)
      refine g_iinc E (lv' := []) (lv'' := fun y7 => [(4, .int y7), (0, .ref (ad 12)), (1, .int x1), (2, .int x2), (3, .int x3)]) (v := (-1)) dX12_comes_40 4 rfl (by decide) (by decide) (fun _ => rfl) (fun y7 => ?_)
      refine g_goto E 8 dX12_comes_43 (by decide) ?_
      refine g_sub [1, 2, 3, 4, 0] rfl ?_
      exact hkb8 x1 x2 x3 y7 s6
set_option maxHeartbeats 4000000 in
set_option maxRecDepth 20000 in
theorem c_X12_comes (hap : dr_ap ad L) (hN : ∀ x ∈ nd_12, x ∈ L) (x1 : Int32) (x2 : Int32) (x3 : Int32) (s : dr_S) : dr_Mv l D cI cZ ad ln L yX12_comes cX12_comes 5 0 [.ref (ad 12), .int x1, .int x2, .int x3] s (f_X12_comes ln x1 x2 x3 s) := by
  refine dr_metv (own := RX12) (by decide) rfl (Nat.le_of_ble_eq_true rfl) hap ?_
  intro p e s0 m args below meth c A E
  unfold f_X12_comes
  refine g_eqL (lv' := [(0, .ref (ad 12)), (1, .int x1), (2, .int x2), (3, .int x3)]) rfl ?_
  refine g_aload_n E dX12_comes_0 0 rfl ?_
  refine gg_12_23 E (hN 12 (by decide)) dX12_comes_1 ?_
  refine g_iload_n E dX12_comes_4 1 rfl ?_
  refine g_iaload E (hN 32 (by decide)) (by decide) rfl dX12_comes_5 (fun v1 => ?_)
  refine g_istore E (lv' := [(4, .int v1), (0, .ref (ad 12)), (1, .int x1), (2, .int x2), (3, .int x3)]) dX12_comes_6 (by decide) rfl ?_
  refine g_sub [1, 2, 3, 4, 0] rfl ?_
  exact w_X12_comes_p8 E hap hN dr_N x1 x2 x3 v1 s
end

theorem dX12_writes_0 : decode cX12_writes 0 = .ok (.aload_n 0, 1) := by decide +kernel
theorem dX12_writes_1 : decode cX12_writes 1 = .ok (.getfield 47, 3) := by decide +kernel
theorem dX12_writes_4 : decode cX12_writes 4 = .ok (.iload_n 1, 1) := by decide +kernel
theorem dX12_writes_5 : decode cX12_writes 5 = .ok (.iaload, 1) := by decide +kernel
theorem dX12_writes_6 : decode cX12_writes 6 = .ok (.istore_n 2, 1) := by decide +kernel
theorem dX12_writes_7 : decode cX12_writes 7 = .ok (.aload_n 0, 1) := by decide +kernel
theorem dX12_writes_8 : decode cX12_writes 8 = .ok (.iload_n 1, 1) := by decide +kernel
theorem dX12_writes_9 : decode cX12_writes 9 = .ok (.invokevirtual 227, 3) := by decide +kernel
theorem dX12_writes_12 : decode cX12_writes 12 = .ok (.istore_n 3, 1) := by decide +kernel
theorem dX12_writes_13 : decode cX12_writes 13 = .ok (.aload_n 0, 1) := by decide +kernel
theorem dX12_writes_14 : decode cX12_writes 14 = .ok (.iload_n 1, 1) := by decide +kernel
theorem dX12_writes_15 : decode cX12_writes 15 = .ok (.iload_n 3, 1) := by decide +kernel
theorem dX12_writes_16 : decode cX12_writes 16 = .ok (.invokevirtual 234, 3) := by decide +kernel
theorem dX12_writes_19 : decode cX12_writes 19 = .ok (.istore 4, 2) := by decide +kernel
theorem dX12_writes_21 : decode cX12_writes 21 = .ok (.iload 4, 2) := by decide +kernel
theorem dX12_writes_23 : decode cX12_writes 23 = .ok (.ifCond .eq 7, 3) := by decide +kernel
theorem dX12_writes_26 : decode cX12_writes 26 = .ok (.iconst 0, 1) := by decide +kernel
theorem dX12_writes_27 : decode cX12_writes 27 = .ok (.goto 9, 3) := by decide +kernel
theorem dX12_writes_30 : decode cX12_writes 30 = .ok (.aload_n 0, 1) := by decide +kernel
theorem dX12_writes_31 : decode cX12_writes 31 = .ok (.iload_n 1, 1) := by decide +kernel
theorem dX12_writes_32 : decode cX12_writes 32 = .ok (.iload_n 3, 1) := by decide +kernel
theorem dX12_writes_33 : decode cX12_writes 33 = .ok (.invokevirtual 237, 3) := by decide +kernel
theorem dX12_writes_36 : decode cX12_writes 36 = .ok (.istore 5, 2) := by decide +kernel
theorem dX12_writes_38 : decode cX12_writes 38 = .ok (.iload 4, 2) := by decide +kernel
theorem dX12_writes_40 : decode cX12_writes 40 = .ok (.ifCond .eq 25, 3) := by decide +kernel
theorem dX12_writes_43 : decode cX12_writes 43 = .ok (.aload_n 0, 1) := by decide +kernel
theorem dX12_writes_44 : decode cX12_writes 44 = .ok (.getfield 65, 3) := by decide +kernel
theorem dX12_writes_47 : decode cX12_writes 47 = .ok (.bipush 14, 2) := by decide +kernel
theorem dX12_writes_49 : decode cX12_writes 49 = .ok (.iload_n 1, 1) := by decide +kernel
theorem dX12_writes_50 : decode cX12_writes 50 = .ok (.imul, 1) := by decide +kernel
theorem dX12_writes_51 : decode cX12_writes 51 = .ok (.iload 5, 2) := by decide +kernel
theorem dX12_writes_53 : decode cX12_writes 53 = .ok (.iadd, 1) := by decide +kernel
theorem dX12_writes_54 : decode cX12_writes 54 = .ok (.iaload, 1) := by decide +kernel
theorem dX12_writes_55 : decode cX12_writes 55 = .ok (.iload_n 3, 1) := by decide +kernel
theorem dX12_writes_56 : decode cX12_writes 56 = .ok (.if_icmp .eq 9, 3) := by decide +kernel
theorem dX12_writes_59 : decode cX12_writes 59 = .ok (.iinc 5 1, 3) := by decide +kernel
theorem dX12_writes_62 : decode cX12_writes 62 = .ok (.goto (-24), 3) := by decide +kernel
theorem dX12_writes_65 : decode cX12_writes 65 = .ok (.aload_n 0, 1) := by decide +kernel
theorem dX12_writes_66 : decode cX12_writes 66 = .ok (.getfield 20, 3) := by decide +kernel
theorem dX12_writes_69 : decode cX12_writes 69 = .ok (.iload_n 2, 1) := by decide +kernel
theorem dX12_writes_70 : decode cX12_writes 70 = .ok (.iaload, 1) := by decide +kernel
theorem dX12_writes_71 : decode cX12_writes 71 = .ok (.ifCond .ne 170, 3) := by decide +kernel
theorem dX12_writes_74 : decode cX12_writes 74 = .ok (.aload_n 0, 1) := by decide +kernel
theorem dX12_writes_75 : decode cX12_writes 75 = .ok (.getfield 77, 3) := by decide +kernel
theorem dX12_writes_78 : decode cX12_writes 78 = .ok (.aload_n 0, 1) := by decide +kernel
theorem dX12_writes_79 : decode cX12_writes 79 = .ok (.getfield 50, 3) := by decide +kernel
theorem dX12_writes_82 : decode cX12_writes 82 = .ok (.iload_n 1, 1) := by decide +kernel
theorem dX12_writes_83 : decode cX12_writes 83 = .ok (.iaload, 1) := by decide +kernel
theorem dX12_writes_84 : decode cX12_writes 84 = .ok (.iaload, 1) := by decide +kernel
theorem dX12_writes_85 : decode cX12_writes 85 = .ok (.iconst 1, 1) := by decide +kernel
theorem dX12_writes_86 : decode cX12_writes 86 = .ok (.if_icmp .ne 7, 3) := by decide +kernel
theorem dX12_writes_89 : decode cX12_writes 89 = .ok (.iconst 1, 1) := by decide +kernel
theorem dX12_writes_90 : decode cX12_writes 90 = .ok (.goto 4, 3) := by decide +kernel
theorem dX12_writes_93 : decode cX12_writes 93 = .ok (.iconst 0, 1) := by decide +kernel
theorem dX12_writes_94 : decode cX12_writes 94 = .ok (.istore 6, 2) := by decide +kernel
theorem dX12_writes_96 : decode cX12_writes 96 = .ok (.iload 6, 2) := by decide +kernel
theorem dX12_writes_98 : decode cX12_writes 98 = .ok (.iload 4, 2) := by decide +kernel
theorem dX12_writes_100 : decode cX12_writes 100 = .ok (.if_icmp .ne 16, 3) := by decide +kernel
theorem dX12_writes_103 : decode cX12_writes 103 = .ok (.aload_n 0, 1) := by decide +kernel
theorem dX12_writes_104 : decode cX12_writes 104 = .ok (.iload_n 1, 1) := by decide +kernel
theorem dX12_writes_105 : decode cX12_writes 105 = .ok (.iload_n 2, 1) := by decide +kernel
theorem dX12_writes_106 : decode cX12_writes 106 = .ok (.invokevirtual 231, 3) := by decide +kernel
theorem dX12_writes_109 : decode cX12_writes 109 = .ok (.aload_n 0, 1) := by decide +kernel
theorem dX12_writes_110 : decode cX12_writes 110 = .ok (.iload_n 1, 1) := by decide +kernel
theorem dX12_writes_111 : decode cX12_writes 111 = .ok (.iconst 0, 1) := by decide +kernel
theorem dX12_writes_112 : decode cX12_writes 112 = .ok (.invokevirtual 217, 3) := by decide +kernel
theorem dX12_writes_115 : decode cX12_writes 115 = .ok (.return_, 1) := by decide +kernel
theorem dX12_writes_116 : decode cX12_writes 116 = .ok (.aload_n 0, 1) := by decide +kernel
theorem dX12_writes_117 : decode cX12_writes 117 = .ok (.iload_n 1, 1) := by decide +kernel
theorem dX12_writes_118 : decode cX12_writes 118 = .ok (.invokevirtual 240, 3) := by decide +kernel
theorem dX12_writes_121 : decode cX12_writes 121 = .ok (.iload 6, 2) := by decide +kernel
theorem dX12_writes_123 : decode cX12_writes 123 = .ok (.ifCond .eq 14, 3) := by decide +kernel
theorem dX12_writes_126 : decode cX12_writes 126 = .ok (.aload_n 0, 1) := by decide +kernel
theorem dX12_writes_127 : decode cX12_writes 127 = .ok (.iload_n 2, 1) := by decide +kernel
theorem dX12_writes_128 : decode cX12_writes 128 = .ok (.iload 5, 2) := by decide +kernel
theorem dX12_writes_130 : decode cX12_writes 130 = .ok (.iload_n 3, 1) := by decide +kernel
theorem dX12_writes_131 : decode cX12_writes 131 = .ok (.invokevirtual 243, 3) := by decide +kernel
theorem dX12_writes_134 : decode cX12_writes 134 = .ok (.goto 60, 3) := by decide +kernel
theorem dX12_writes_137 : decode cX12_writes 137 = .ok (.aload_n 0, 1) := by decide +kernel
theorem dX12_writes_138 : decode cX12_writes 138 = .ok (.getfield 23, 3) := by decide +kernel
theorem dX12_writes_141 : decode cX12_writes 141 = .ok (.iload_n 2, 1) := by decide +kernel
theorem dX12_writes_142 : decode cX12_writes 142 = .ok (.dup2, 1) := by decide +kernel
theorem dX12_writes_143 : decode cX12_writes 143 = .ok (.iaload, 1) := by decide +kernel
theorem dX12_writes_144 : decode cX12_writes 144 = .ok (.iconst 1, 1) := by decide +kernel
theorem dX12_writes_145 : decode cX12_writes 145 = .ok (.isub, 1) := by decide +kernel
theorem dX12_writes_146 : decode cX12_writes 146 = .ok (.iastore, 1) := by decide +kernel
theorem dX12_writes_147 : decode cX12_writes 147 = .ok (.iload 5, 2) := by decide +kernel
theorem dX12_writes_149 : decode cX12_writes 149 = .ok (.istore 7, 2) := by decide +kernel
theorem dX12_writes_151 : decode cX12_writes 151 = .ok (.iload 7, 2) := by decide +kernel
theorem dX12_writes_153 : decode cX12_writes 153 = .ok (.aload_n 0, 1) := by decide +kernel
theorem dX12_writes_154 : decode cX12_writes 154 = .ok (.getfield 23, 3) := by decide +kernel
theorem dX12_writes_157 : decode cX12_writes 157 = .ok (.iload_n 2, 1) := by decide +kernel
theorem dX12_writes_158 : decode cX12_writes 158 = .ok (.iaload, 1) := by decide +kernel
theorem dX12_writes_159 : decode cX12_writes 159 = .ok (.if_icmp .ge 35, 3) := by decide +kernel
theorem dX12_writes_162 : decode cX12_writes 162 = .ok (.aload_n 0, 1) := by decide +kernel
theorem dX12_writes_163 : decode cX12_writes 163 = .ok (.getfield 26, 3) := by decide +kernel
theorem dX12_writes_166 : decode cX12_writes 166 = .ok (.bipush 14, 2) := by decide +kernel
theorem dX12_writes_168 : decode cX12_writes 168 = .ok (.iload_n 2, 1) := by decide +kernel
theorem dX12_writes_169 : decode cX12_writes 169 = .ok (.imul, 1) := by decide +kernel
theorem dX12_writes_170 : decode cX12_writes 170 = .ok (.iload 7, 2) := by decide +kernel
theorem dX12_writes_172 : decode cX12_writes 172 = .ok (.iadd, 1) := by decide +kernel
theorem dX12_writes_173 : decode cX12_writes 173 = .ok (.aload_n 0, 1) := by decide +kernel
theorem dX12_writes_174 : decode cX12_writes 174 = .ok (.getfield 26, 3) := by decide +kernel
theorem dX12_writes_177 : decode cX12_writes 177 = .ok (.bipush 14, 2) := by decide +kernel
theorem dX12_writes_179 : decode cX12_writes 179 = .ok (.iload_n 2, 1) := by decide +kernel
theorem dX12_writes_180 : decode cX12_writes 180 = .ok (.imul, 1) := by decide +kernel
theorem dX12_writes_181 : decode cX12_writes 181 = .ok (.iload 7, 2) := by decide +kernel
theorem dX12_writes_183 : decode cX12_writes 183 = .ok (.iadd, 1) := by decide +kernel
theorem dX12_writes_184 : decode cX12_writes 184 = .ok (.iconst 1, 1) := by decide +kernel
theorem dX12_writes_185 : decode cX12_writes 185 = .ok (.iadd, 1) := by decide +kernel
theorem dX12_writes_186 : decode cX12_writes 186 = .ok (.iaload, 1) := by decide +kernel
theorem dX12_writes_187 : decode cX12_writes 187 = .ok (.iastore, 1) := by decide +kernel
theorem dX12_writes_188 : decode cX12_writes 188 = .ok (.iinc 7 1, 3) := by decide +kernel
theorem dX12_writes_191 : decode cX12_writes 191 = .ok (.goto (-40), 3) := by decide +kernel
theorem dX12_writes_194 : decode cX12_writes 194 = .ok (.aload_n 0, 1) := by decide +kernel
theorem dX12_writes_195 : decode cX12_writes 195 = .ok (.getfield 98, 3) := by decide +kernel
theorem dX12_writes_198 : decode cX12_writes 198 = .ok (.aload_n 0, 1) := by decide +kernel
theorem dX12_writes_199 : decode cX12_writes 199 = .ok (.getfield 247, 3) := by decide +kernel
theorem dX12_writes_202 : decode cX12_writes 202 = .ok (.aload_n 0, 1) := by decide +kernel
theorem dX12_writes_203 : decode cX12_writes 203 = .ok (.getfield 199, 3) := by decide +kernel
theorem dX12_writes_206 : decode cX12_writes 206 = .ok (.iastore, 1) := by decide +kernel
theorem dX12_writes_207 : decode cX12_writes 207 = .ok (.aload_n 0, 1) := by decide +kernel
theorem dX12_writes_208 : decode cX12_writes 208 = .ok (.getfield 101, 3) := by decide +kernel
theorem dX12_writes_211 : decode cX12_writes 211 = .ok (.aload_n 0, 1) := by decide +kernel
theorem dX12_writes_212 : decode cX12_writes 212 = .ok (.getfield 247, 3) := by decide +kernel
theorem dX12_writes_215 : decode cX12_writes 215 = .ok (.iload_n 3, 1) := by decide +kernel
theorem dX12_writes_216 : decode cX12_writes 216 = .ok (.iastore, 1) := by decide +kernel
theorem dX12_writes_217 : decode cX12_writes 217 = .ok (.aload_n 0, 1) := by decide +kernel
theorem dX12_writes_218 : decode cX12_writes 218 = .ok (.getfield 104, 3) := by decide +kernel
theorem dX12_writes_221 : decode cX12_writes 221 = .ok (.aload_n 0, 1) := by decide +kernel
theorem dX12_writes_222 : decode cX12_writes 222 = .ok (.getfield 247, 3) := by decide +kernel
theorem dX12_writes_225 : decode cX12_writes 225 = .ok (.iload 6, 2) := by decide +kernel
theorem dX12_writes_227 : decode cX12_writes 227 = .ok (.bastore, 1) := by decide +kernel
theorem dX12_writes_228 : decode cX12_writes 228 = .ok (.aload_n 0, 1) := by decide +kernel
theorem dX12_writes_229 : decode cX12_writes 229 = .ok (.dup, 1) := by decide +kernel
theorem dX12_writes_230 : decode cX12_writes 230 = .ok (.getfield 247, 3) := by decide +kernel
theorem dX12_writes_233 : decode cX12_writes 233 = .ok (.iconst 1, 1) := by decide +kernel
theorem dX12_writes_234 : decode cX12_writes 234 = .ok (.iadd, 1) := by decide +kernel
theorem dX12_writes_235 : decode cX12_writes 235 = .ok (.putfield 247, 3) := by decide +kernel
theorem dX12_writes_238 : decode cX12_writes 238 = .ok (.goto 115, 3) := by decide +kernel
theorem dX12_writes_241 : decode cX12_writes 241 = .ok (.aload_n 0, 1) := by decide +kernel
theorem dX12_writes_242 : decode cX12_writes 242 = .ok (.iload_n 1, 1) := by decide +kernel
theorem dX12_writes_243 : decode cX12_writes 243 = .ok (.invokevirtual 240, 3) := by decide +kernel
theorem dX12_writes_246 : decode cX12_writes 246 = .ok (.iload 4, 2) := by decide +kernel
theorem dX12_writes_248 : decode cX12_writes 248 = .ok (.ifCond .eq 26, 3) := by decide +kernel
theorem dX12_writes_251 : decode cX12_writes 251 = .ok (.aload_n 0, 1) := by decide +kernel
theorem dX12_writes_252 : decode cX12_writes 252 = .ok (.getfield 29, 3) := by decide +kernel
theorem dX12_writes_255 : decode cX12_writes 255 = .ok (.bipush 14, 2) := by decide +kernel
theorem dX12_writes_257 : decode cX12_writes 257 = .ok (.iload_n 2, 1) := by decide +kernel
theorem dX12_writes_258 : decode cX12_writes 258 = .ok (.imul, 1) := by decide +kernel
theorem dX12_writes_259 : decode cX12_writes 259 = .ok (.iload 5, 2) := by decide +kernel
theorem dX12_writes_261 : decode cX12_writes 261 = .ok (.iadd, 1) := by decide +kernel
theorem dX12_writes_262 : decode cX12_writes 262 = .ok (.iconst 1, 1) := by decide +kernel
theorem dX12_writes_263 : decode cX12_writes 263 = .ok (.iadd, 1) := by decide +kernel
theorem dX12_writes_264 : decode cX12_writes 264 = .ok (.aload_n 0, 1) := by decide +kernel
theorem dX12_writes_265 : decode cX12_writes 265 = .ok (.getfield 56, 3) := by decide +kernel
theorem dX12_writes_268 : decode cX12_writes 268 = .ok (.iload_n 1, 1) := by decide +kernel
theorem dX12_writes_269 : decode cX12_writes 269 = .ok (.iaload, 1) := by decide +kernel
theorem dX12_writes_270 : decode cX12_writes 270 = .ok (.iastore, 1) := by decide +kernel
theorem dX12_writes_271 : decode cX12_writes 271 = .ok (.goto 82, 3) := by decide +kernel
theorem dX12_writes_274 : decode cX12_writes 274 = .ok (.aload_n 0, 1) := by decide +kernel
theorem dX12_writes_275 : decode cX12_writes 275 = .ok (.getfield 23, 3) := by decide +kernel
theorem dX12_writes_278 : decode cX12_writes 278 = .ok (.iload_n 2, 1) := by decide +kernel
theorem dX12_writes_279 : decode cX12_writes 279 = .ok (.iaload, 1) := by decide +kernel
theorem dX12_writes_280 : decode cX12_writes 280 = .ok (.iconst 1, 1) := by decide +kernel
theorem dX12_writes_281 : decode cX12_writes 281 = .ok (.iadd, 1) := by decide +kernel
theorem dX12_writes_282 : decode cX12_writes 282 = .ok (.istore 6, 2) := by decide +kernel
theorem dX12_writes_284 : decode cX12_writes 284 = .ok (.iload 6, 2) := by decide +kernel
theorem dX12_writes_286 : decode cX12_writes 286 = .ok (.iload 5, 2) := by decide +kernel
theorem dX12_writes_288 : decode cX12_writes 288 = .ok (.iconst 1, 1) := by decide +kernel
theorem dX12_writes_289 : decode cX12_writes 289 = .ok (.iadd, 1) := by decide +kernel
theorem dX12_writes_290 : decode cX12_writes 290 = .ok (.if_icmp .le 35, 3) := by decide +kernel
theorem dX12_writes_293 : decode cX12_writes 293 = .ok (.aload_n 0, 1) := by decide +kernel
theorem dX12_writes_294 : decode cX12_writes 294 = .ok (.getfield 29, 3) := by decide +kernel
theorem dX12_writes_297 : decode cX12_writes 297 = .ok (.bipush 14, 2) := by decide +kernel
theorem dX12_writes_299 : decode cX12_writes 299 = .ok (.iload_n 2, 1) := by decide +kernel
theorem dX12_writes_300 : decode cX12_writes 300 = .ok (.imul, 1) := by decide +kernel
theorem dX12_writes_301 : decode cX12_writes 301 = .ok (.iload 6, 2) := by decide +kernel
theorem dX12_writes_303 : decode cX12_writes 303 = .ok (.iadd, 1) := by decide +kernel
theorem dX12_writes_304 : decode cX12_writes 304 = .ok (.aload_n 0, 1) := by decide +kernel
theorem dX12_writes_305 : decode cX12_writes 305 = .ok (.getfield 29, 3) := by decide +kernel
theorem dX12_writes_308 : decode cX12_writes 308 = .ok (.bipush 14, 2) := by decide +kernel
theorem dX12_writes_310 : decode cX12_writes 310 = .ok (.iload_n 2, 1) := by decide +kernel
theorem dX12_writes_311 : decode cX12_writes 311 = .ok (.imul, 1) := by decide +kernel
theorem dX12_writes_312 : decode cX12_writes 312 = .ok (.iload 6, 2) := by decide +kernel
theorem dX12_writes_314 : decode cX12_writes 314 = .ok (.iadd, 1) := by decide +kernel
theorem dX12_writes_315 : decode cX12_writes 315 = .ok (.iconst 1, 1) := by decide +kernel
theorem dX12_writes_316 : decode cX12_writes 316 = .ok (.isub, 1) := by decide +kernel
theorem dX12_writes_317 : decode cX12_writes 317 = .ok (.iaload, 1) := by decide +kernel
theorem dX12_writes_318 : decode cX12_writes 318 = .ok (.iastore, 1) := by decide +kernel
theorem dX12_writes_319 : decode cX12_writes 319 = .ok (.iinc 6 (-1), 3) := by decide +kernel
theorem dX12_writes_322 : decode cX12_writes 322 = .ok (.goto (-38), 3) := by decide +kernel
theorem dX12_writes_325 : decode cX12_writes 325 = .ok (.aload_n 0, 1) := by decide +kernel
theorem dX12_writes_326 : decode cX12_writes 326 = .ok (.getfield 29, 3) := by decide +kernel
theorem dX12_writes_329 : decode cX12_writes 329 = .ok (.bipush 14, 2) := by decide +kernel
theorem dX12_writes_331 : decode cX12_writes 331 = .ok (.iload_n 2, 1) := by decide +kernel
theorem dX12_writes_332 : decode cX12_writes 332 = .ok (.imul, 1) := by decide +kernel
theorem dX12_writes_333 : decode cX12_writes 333 = .ok (.iload 5, 2) := by decide +kernel
theorem dX12_writes_335 : decode cX12_writes 335 = .ok (.iadd, 1) := by decide +kernel
theorem dX12_writes_336 : decode cX12_writes 336 = .ok (.iconst 1, 1) := by decide +kernel
theorem dX12_writes_337 : decode cX12_writes 337 = .ok (.iadd, 1) := by decide +kernel
theorem dX12_writes_338 : decode cX12_writes 338 = .ok (.aload_n 0, 1) := by decide +kernel
theorem dX12_writes_339 : decode cX12_writes 339 = .ok (.getfield 56, 3) := by decide +kernel
theorem dX12_writes_342 : decode cX12_writes 342 = .ok (.iload_n 1, 1) := by decide +kernel
theorem dX12_writes_343 : decode cX12_writes 343 = .ok (.iaload, 1) := by decide +kernel
theorem dX12_writes_344 : decode cX12_writes 344 = .ok (.iastore, 1) := by decide +kernel
theorem dX12_writes_345 : decode cX12_writes 345 = .ok (.aload_n 0, 1) := by decide +kernel
theorem dX12_writes_346 : decode cX12_writes 346 = .ok (.iload_n 2, 1) := by decide +kernel
theorem dX12_writes_347 : decode cX12_writes 347 = .ok (.iload 5, 2) := by decide +kernel
theorem dX12_writes_349 : decode cX12_writes 349 = .ok (.iload_n 3, 1) := by decide +kernel
theorem dX12_writes_350 : decode cX12_writes 350 = .ok (.invokevirtual 243, 3) := by decide +kernel
theorem dX12_writes_353 : decode cX12_writes 353 = .ok (.aload_n 0, 1) := by decide +kernel
theorem dX12_writes_354 : decode cX12_writes 354 = .ok (.getfield 23, 3) := by decide +kernel
theorem dX12_writes_357 : decode cX12_writes 357 = .ok (.iload_n 2, 1) := by decide +kernel
theorem dX12_writes_358 : decode cX12_writes 358 = .ok (.iaload, 1) := by decide +kernel
theorem dX12_writes_359 : decode cX12_writes 359 = .ok (.iconst 2, 1) := by decide +kernel
theorem dX12_writes_360 : decode cX12_writes 360 = .ok (.aload_n 0, 1) := by decide +kernel
theorem dX12_writes_361 : decode cX12_writes 361 = .ok (.getfield 152, 3) := by decide +kernel
theorem dX12_writes_364 : decode cX12_writes 364 = .ok (.imul, 1) := by decide +kernel
theorem dX12_writes_365 : decode cX12_writes 365 = .ok (.if_icmp .gt 16, 3) := by decide +kernel
theorem dX12_writes_368 : decode cX12_writes 368 = .ok (.aload_n 0, 1) := by decide +kernel
theorem dX12_writes_369 : decode cX12_writes 369 = .ok (.iload_n 1, 1) := by decide +kernel
theorem dX12_writes_370 : decode cX12_writes 370 = .ok (.iload_n 2, 1) := by decide +kernel
theorem dX12_writes_371 : decode cX12_writes 371 = .ok (.invokevirtual 231, 3) := by decide +kernel
theorem dX12_writes_374 : decode cX12_writes 374 = .ok (.aload_n 0, 1) := by decide +kernel
theorem dX12_writes_375 : decode cX12_writes 375 = .ok (.iload_n 1, 1) := by decide +kernel
theorem dX12_writes_376 : decode cX12_writes 376 = .ok (.iconst 1, 1) := by decide +kernel
theorem dX12_writes_377 : decode cX12_writes 377 = .ok (.invokevirtual 217, 3) := by decide +kernel
theorem dX12_writes_380 : decode cX12_writes 380 = .ok (.return_, 1) := by decide +kernel
theorem dX12_writes_381 : decode cX12_writes 381 = .ok (.aload_n 0, 1) := by decide +kernel
theorem dX12_writes_382 : decode cX12_writes 382 = .ok (.getfield 56, 3) := by decide +kernel
theorem dX12_writes_385 : decode cX12_writes 385 = .ok (.iload_n 1, 1) := by decide +kernel
theorem dX12_writes_386 : decode cX12_writes 386 = .ok (.aload_n 0, 1) := by decide +kernel
theorem dX12_writes_387 : decode cX12_writes 387 = .ok (.iload_n 2, 1) := by decide +kernel
theorem dX12_writes_388 : decode cX12_writes 388 = .ok (.invokevirtual 250, 3) := by decide +kernel
theorem dX12_writes_391 : decode cX12_writes 391 = .ok (.iastore, 1) := by decide +kernel
theorem dX12_writes_392 : decode cX12_writes 392 = .ok (.aload_n 0, 1) := by decide +kernel
theorem dX12_writes_393 : decode cX12_writes 393 = .ok (.getfield 53, 3) := by decide +kernel
theorem dX12_writes_396 : decode cX12_writes 396 = .ok (.iload_n 1, 1) := by decide +kernel
theorem dX12_writes_397 : decode cX12_writes 397 = .ok (.aload_n 0, 1) := by decide +kernel
theorem dX12_writes_398 : decode cX12_writes 398 = .ok (.getfield 32, 3) := by decide +kernel
theorem dX12_writes_401 : decode cX12_writes 401 = .ok (.iload_n 2, 1) := by decide +kernel
theorem dX12_writes_402 : decode cX12_writes 402 = .ok (.iaload, 1) := by decide +kernel
theorem dX12_writes_403 : decode cX12_writes 403 = .ok (.iastore, 1) := by decide +kernel
theorem dX12_writes_404 : decode cX12_writes 404 = .ok (.aload_n 0, 1) := by decide +kernel
theorem dX12_writes_405 : decode cX12_writes 405 = .ok (.getfield 44, 3) := by decide +kernel
theorem dX12_writes_408 : decode cX12_writes 408 = .ok (.iload_n 1, 1) := by decide +kernel
theorem dX12_writes_409 : decode cX12_writes 409 = .ok (.iconst 4, 1) := by decide +kernel
theorem dX12_writes_410 : decode cX12_writes 410 = .ok (.iastore, 1) := by decide +kernel
theorem dX12_writes_411 : decode cX12_writes 411 = .ok (.return_, 1) := by decide +kernel
def f_X12_writes_p353 (ln : Nat → Nat) (x1 : Int32) (x2 : Int32) (s : dr_S) : Option (Int32 × dr_S) := (dr_rd ln s 32 x2).bind (fun v28 => (if (2 * (s.2 1200)) < v28 then dr_bnd (f_X12_parted ln x2 s) (fun r30 s29 => (dr_wr ln s29 43 x1 r30).bind (fun s31 => (dr_rd ln s31 35 x2).bind (fun v32 => (dr_wr ln s31 42 x1 v32).bind (fun s33 => (dr_wr ln s33 39 x1 4).bind (fun s34 => some (0, s34)))))) else dr_bndv (f_X12_letsGo ln x1 x2 s) (fun s35 => dr_bndv (f_X12_ends ln x1 1 s35) (fun s36 => some (0, s36)))))
def f_X12_writes_p284 (ln : Nat → Nat) : Nat → Int32 → Int32 → Int32 → Int32 → Int32 → dr_S → Option (Int32 × dr_S)
  | 0, _, _, _, _, _, _ => none
  | n + 1, x1, x2, x3, x5, x6, s => (if x6 ≤ (x5 + 1) then (dr_rd ln s 43 x1).bind (fun v41 => (dr_wr ln s 34 (((14 * x2) + x5) + 1) v41).bind (fun s42 => dr_bndv (f_X12_comes ln x2 x5 x3 s42) (fun s43 => (f_X12_writes_p353 ln x1 x2 s43)))) else (dr_rd ln s 34 (((14 * x2) + x6) - 1)).bind (fun v44 => (dr_wr ln s 34 ((14 * x2) + x6) v44).bind (fun s45 => dr_let (x6 + (-1)) (fun y46 => (f_X12_writes_p284 ln n x1 x2 x3 x5 y46 s45)))))
def f_X12_writes_p194 (ln : Nat → Nat) (x1 : Int32) (x2 : Int32) (x3 : Int32) (x6 : Int32) (s : dr_S) : Option (Int32 × dr_S) := (dr_wr ln s 57 (s.2 1234) (s.2 1204)).bind (fun s24 => (dr_wr ln s24 58 (s24.2 1234) x3).bind (fun s25 => (dr_wz ln s25 59 (s25.2 1234) x6).bind (fun s26 => dr_letS (dr_pf s26 1234 ((s26.2 1234) + 1)) (fun s27 => (f_X12_writes_p353 ln x1 x2 s27)))))
def f_X12_writes_p151 (ln : Nat → Nat) : Nat → Int32 → Int32 → Int32 → Int32 → Int32 → dr_S → Option (Int32 × dr_S)
  | 0, _, _, _, _, _, _ => none
  | n + 1, x1, x2, x3, x6, x7, s => (dr_rd ln s 32 x2).bind (fun v37 => (if v37 ≤ x7 then (f_X12_writes_p194 ln x1 x2 x3 x6 s) else (dr_rd ln s 33 (((14 * x2) + x7) + 1)).bind (fun v38 => (dr_wr ln s 33 ((14 * x2) + x7) v38).bind (fun s39 => dr_let (x7 + 1) (fun y40 => (f_X12_writes_p151 ln n x1 x2 x3 x6 y40 s39))))))
def f_X12_writes_p94 (ln : Nat → Nat) (x1 : Int32) (x2 : Int32) (x3 : Int32) (x4 : Int32) (x5 : Int32) (z0 : Int32) (s : dr_S) : Option (Int32 × dr_S) := (if z0 = x4 then dr_bndv (f_X12_letsGo ln x1 x2 s) (fun s22 => dr_bndv (f_X12_ends ln x1 0 s22) (fun s23 => some (0, s23))) else dr_bndv (f_X12_becomes ln x1 s) (fun s18 => (if z0 = 0 then (dr_rd ln s18 32 x2).bind (fun v19 => (dr_wr ln s18 32 x2 (v19 - 1)).bind (fun s20 => (f_X12_writes_p151 ln dr_N x1 x2 x3 z0 x5 s20))) else dr_bndv (f_X12_comes ln x2 x5 x3 s18) (fun s21 => (f_X12_writes_p194 ln x1 x2 x3 z0 s21)))))
def f_X12_writes_p65 (ln : Nat → Nat) (x1 : Int32) (x2 : Int32) (x3 : Int32) (x4 : Int32) (x5 : Int32) (s : dr_S) : Option (Int32 × dr_S) := (dr_rd ln s 31 x2).bind (fun v10 => (if v10 = 0 then (dr_rd ln s 41 x1).bind (fun v16 => (dr_rd ln s 50 v16).bind (fun v17 => (if v17 = 1 then (f_X12_writes_p94 ln x1 x2 x3 x4 x5 1 s) else (f_X12_writes_p94 ln x1 x2 x3 x4 x5 0 s)))) else dr_bndv (f_X12_becomes ln x1 s) (fun s11 => (if x4 = 0 then (dr_rd ln s11 32 x2).bind (fun v12 => dr_let (v12 + 1) (fun y13 => (f_X12_writes_p284 ln dr_N x1 x2 x3 x5 y13 s11))) else (dr_rd ln s11 43 x1).bind (fun v14 => (dr_wr ln s11 34 (((14 * x2) + x5) + 1) v14).bind (fun s15 => (f_X12_writes_p353 ln x1 x2 s15)))))))
def f_X12_writes_p38 (ln : Nat → Nat) : Nat → Int32 → Int32 → Int32 → Int32 → Int32 → dr_S → Option (Int32 × dr_S)
  | 0, _, _, _, _, _, _ => none
  | n + 1, x1, x2, x3, x4, x5, s => (if x4 = 0 then (f_X12_writes_p65 ln x1 x2 x3 x4 x5 s) else (dr_rd ln s 46 ((14 * x1) + x5)).bind (fun v8 => (if v8 = x3 then (f_X12_writes_p65 ln x1 x2 x3 x4 x5 s) else dr_let (x5 + 1) (fun y9 => (f_X12_writes_p38 ln n x1 x2 x3 x4 y9 s)))))
def f_X12_writes_p36 (ln : Nat → Nat) (x1 : Int32) (x2 : Int32) (x3 : Int32) (x4 : Int32) (z0 : Int32) (s : dr_S) : Option (Int32 × dr_S) := (f_X12_writes_p38 ln dr_N x1 x2 x3 x4 z0 s)
def f_X12_writes (ln : Nat → Nat) (x1 : Int32) (s : dr_S) : Option (Int32 × dr_S) := (dr_rd ln s 40 x1).bind (fun v1 => dr_bnd (f_X12_looksFor ln x1 s) (fun r3 s2 => dr_bnd (f_X12_hasCopy ln x1 r3 s2) (fun r5 s4 => (if r5 = 0 then dr_bnd (f_X12_placeIn ln x1 r3 s4) (fun r7 s6 => (f_X12_writes_p36 ln x1 v1 r3 r5 r7 s6)) else (f_X12_writes_p36 ln x1 v1 r3 r5 0 s4)))))
section
variable {p : Program} {l : Launch} {e : Env} {s0 : State} {m : MethodId} {args : Array Value} {below : List Frame} {meth : Method} {c : Code} {A : Nat → Prop} {D : va_G} {cI cZ : ClassId} {ad ln : Nat → Nat} {L : List Nat}
set_option maxHeartbeats 4000000 in
set_option maxRecDepth 20000 in
theorem w_X12_writes_p353 (E : dr_E p (dr_rm 3) s0 m args meth c 0 0 A s0.heap D cI cZ ad L cX12_writes 8 RX12 none) (hap : dr_ap ad L) (hN : ∀ x ∈ nd_12, x ∈ L) : ∀ (x1 : Int32) (x2 : Int32) (s : dr_S), dr_G p l e (dr_rm 3) s0 m args below meth c 0 0 A s0.heap D cI cZ ad ln L 8 (dr_Zv D cI cZ ad ln L A below args s0 0 0) 353 [(0, .ref (ad 12)), (1, .int x1), (2, .int x2)] [] s (f_X12_writes_p353 ln x1 x2 s) := by
  intro x1 x2 s
  unfold f_X12_writes_p353
  refine g_aload_n E dX12_writes_353 0 rfl ?_
  refine gg_12_23 E (hN 12 (by decide)) dX12_writes_354 ?_
  refine g_iload_n E dX12_writes_357 2 rfl ?_
  refine g_iaload E (hN 32 (by decide)) (by decide) rfl dX12_writes_358 (fun v28 => ?_)
  refine g_iconst E (v := 2) dX12_writes_359 (by decide) ?_
  refine g_aload_n E dX12_writes_360 0 rfl ?_
  refine gg_12_152 E (hN 12 (by decide)) dX12_writes_361 ?_
  refine g_imul E dX12_writes_364 ?_
  refine g_icmp_gt E 381 dX12_writes_365 (by decide) ?_ ?_
  · refine g_aload_n E dX12_writes_381 0 rfl ?_
    refine gg_12_56 E (hN 12 (by decide)) dX12_writes_382 ?_
    refine g_iload_n E dX12_writes_385 1 rfl ?_
    refine g_aload_n E dX12_writes_386 0 rfl ?_
    refine g_iload_n E dX12_writes_387 2 rfl ?_
    refine g_cVi E [.int x2] rfl (c_X12_parted hap hN x2 s) (hN 12 (by decide)) (by decide) rfl rfl mi_X12_parted msl_X12_parted mw_X12_parted rfl ml_12_250 ⟨Nat.le_of_ble_eq_true rfl, Nat.le_of_ble_eq_true rfl⟩ (Nat.le_of_ble_eq_true rfl) dX12_writes_388 (fun r30 s29 => ?_)
    refine g_iastore E (hN 43 (by decide)) (by decide) rfl dX12_writes_391 (fun s31 => ?_)
    refine g_aload_n E dX12_writes_392 0 rfl ?_
    refine gg_12_53 E (hN 12 (by decide)) dX12_writes_393 ?_
    refine g_iload_n E dX12_writes_396 1 rfl ?_
    refine g_aload_n E dX12_writes_397 0 rfl ?_
    refine gg_12_32 E (hN 12 (by decide)) dX12_writes_398 ?_
    refine g_iload_n E dX12_writes_401 2 rfl ?_
    refine g_iaload E (hN 35 (by decide)) (by decide) rfl dX12_writes_402 (fun v32 => ?_)
    refine g_iastore E (hN 42 (by decide)) (by decide) rfl dX12_writes_403 (fun s33 => ?_)
    refine g_aload_n E dX12_writes_404 0 rfl ?_
    refine gg_12_44 E (hN 12 (by decide)) dX12_writes_405 ?_
    refine g_iload_n E dX12_writes_408 1 rfl ?_
    refine g_iconst E (v := 4) dX12_writes_409 (by decide) ?_
    refine g_iastore E (hN 39 (by decide)) (by decide) rfl dX12_writes_410 (fun s34 => ?_)
    exact g_vret E dX12_writes_411
  · refine g_aload_n E dX12_writes_368 0 rfl ?_
    refine g_iload_n E dX12_writes_369 1 rfl ?_
    refine g_iload_n E dX12_writes_370 2 rfl ?_
    refine g_cVv E [.int x1, .int x2] rfl (c_X12_letsGo hap hN x1 x2 s) (hN 12 (by decide)) (by decide) rfl rfl mi_X12_letsGo msl_X12_letsGo mw_X12_letsGo rfl ml_12_231 ⟨Nat.le_of_ble_eq_true rfl, Nat.le_of_ble_eq_true rfl⟩ (Nat.le_of_ble_eq_true rfl) dX12_writes_371 (fun s35 => ?_)
    refine g_aload_n E dX12_writes_374 0 rfl ?_
    refine g_iload_n E dX12_writes_375 1 rfl ?_
    refine g_iconst E (v := 1) dX12_writes_376 (by decide) ?_
    refine g_cVv E [.int x1, .int 1] rfl (c_X12_ends hap hN x1 1 s35) (hN 12 (by decide)) (by decide) rfl rfl mi_X12_ends msl_X12_ends mw_X12_ends rfl ml_12_217 ⟨Nat.le_of_ble_eq_true rfl, Nat.le_of_ble_eq_true rfl⟩ (Nat.le_of_ble_eq_true rfl) dX12_writes_377 (fun s36 => ?_)
    exact g_vret E dX12_writes_380
set_option maxHeartbeats 4000000 in
set_option maxRecDepth 20000 in
theorem w_X12_writes_p284 (E : dr_E p (dr_rm 3) s0 m args meth c 0 0 A s0.heap D cI cZ ad L cX12_writes 8 RX12 none) (hap : dr_ap ad L) (hN : ∀ x ∈ nd_12, x ∈ L) : ∀ (n : Nat) (x1 : Int32) (x2 : Int32) (x3 : Int32) (x5 : Int32) (x6 : Int32) (s : dr_S), dr_G p l e (dr_rm 3) s0 m args below meth c 0 0 A s0.heap D cI cZ ad ln L 8 (dr_Zv D cI cZ ad ln L A below args s0 0 0) 284 [(0, .ref (ad 12)), (1, .int x1), (2, .int x2), (3, .int x3), (5, .int x5), (6, .int x6)] [] s (f_X12_writes_p284 ln n x1 x2 x3 x5 x6 s) := by
  intro n
  induction n with
  | zero =>
    intro x1 x2 x3 x5 x6 s
    rw [f_X12_writes_p284]
    exact g_none
  | succ n hkb284 =>
    intro x1 x2 x3 x5 x6 s
    rw [f_X12_writes_p284]
    refine g_iload E dX12_writes_284 5 rfl ?_
    refine g_iload E dX12_writes_286 4 rfl ?_
    refine g_iconst E (v := 1) dX12_writes_288 (by decide) ?_
    refine g_iadd E dX12_writes_289 ?_
    refine g_icmp_le E 325 dX12_writes_290 (by decide) ?_ ?_
    · refine g_aload_n E dX12_writes_325 0 rfl ?_
      refine gg_12_29 E (hN 12 (by decide)) dX12_writes_326 ?_
      refine g_bipush E (v := 14) dX12_writes_329 (by decide) ?_
      refine g_iload_n E dX12_writes_331 2 rfl ?_
      refine g_imul E dX12_writes_332 ?_
      refine g_iload E dX12_writes_333 4 rfl ?_
      refine g_iadd E dX12_writes_335 ?_
      refine g_iconst E (v := 1) dX12_writes_336 (by decide) ?_
      refine g_iadd E dX12_writes_337 ?_
      refine g_aload_n E dX12_writes_338 0 rfl ?_
      refine gg_12_56 E (hN 12 (by decide)) dX12_writes_339 ?_
      refine g_iload_n E dX12_writes_342 1 rfl ?_
      refine g_iaload E (hN 43 (by decide)) (by decide) rfl dX12_writes_343 (fun v41 => ?_)
      refine g_iastore E (hN 34 (by decide)) (by decide) rfl dX12_writes_344 (fun s42 => ?_)
      refine g_aload_n E dX12_writes_345 0 rfl ?_
      refine g_iload_n E dX12_writes_346 2 rfl ?_
      refine g_iload E dX12_writes_347 4 rfl ?_
      refine g_iload_n E dX12_writes_349 3 rfl ?_
      refine g_cVv E [.int x2, .int x5, .int x3] rfl (c_X12_comes hap hN x2 x5 x3 s42) (hN 12 (by decide)) (by decide) rfl rfl mi_X12_comes msl_X12_comes mw_X12_comes rfl ml_12_243 ⟨Nat.le_of_ble_eq_true rfl, Nat.le_of_ble_eq_true rfl⟩ (Nat.le_of_ble_eq_true rfl) dX12_writes_350 (fun s43 => ?_)
      refine g_sub [0, 1, 2] rfl ?_
      exact w_X12_writes_p353 E hap hN x1 x2 s43
    · refine g_aload_n E dX12_writes_293 0 rfl ?_
      refine gg_12_29 E (hN 12 (by decide)) dX12_writes_294 ?_
      refine g_bipush E (v := 14) dX12_writes_297 (by decide) ?_
      refine g_iload_n E dX12_writes_299 2 rfl ?_
      refine g_imul E dX12_writes_300 ?_
      refine g_iload E dX12_writes_301 5 rfl ?_
      refine g_iadd E dX12_writes_303 ?_
      refine g_aload_n E dX12_writes_304 0 rfl ?_
      refine gg_12_29 E (hN 12 (by decide)) dX12_writes_305 ?_
      refine g_bipush E (v := 14) dX12_writes_308 (by decide) ?_
      refine g_iload_n E dX12_writes_310 2 rfl ?_
      refine g_imul E dX12_writes_311 ?_
      refine g_iload E dX12_writes_312 5 rfl ?_
      refine g_iadd E dX12_writes_314 ?_
      refine g_iconst E (v := 1) dX12_writes_315 (by decide) ?_
      refine g_isub E dX12_writes_316 ?_
      refine g_iaload E (hN 34 (by decide)) (by decide) rfl dX12_writes_317 (fun v44 => ?_)
      refine g_iastore E (hN 34 (by decide)) (by decide) rfl dX12_writes_318 (fun s45 => ?_)
      refine g_iinc E (lv' := []) (lv'' := fun y46 => [(6, .int y46), (0, .ref (ad 12)), (1, .int x1), (2, .int x2), (3, .int x3), (5, .int x5)]) (v := (-1)) dX12_writes_319 5 rfl (by decide) (by decide) (fun _ => rfl) (fun y46 => ?_)
      refine g_goto E 284 dX12_writes_322 (by decide) ?_
      refine g_sub [1, 2, 3, 4, 5, 0] rfl ?_
      exact hkb284 x1 x2 x3 x5 y46 s45
set_option maxHeartbeats 4000000 in
set_option maxRecDepth 20000 in
theorem w_X12_writes_p194 (E : dr_E p (dr_rm 3) s0 m args meth c 0 0 A s0.heap D cI cZ ad L cX12_writes 8 RX12 none) (hap : dr_ap ad L) (hN : ∀ x ∈ nd_12, x ∈ L) : ∀ (x1 : Int32) (x2 : Int32) (x3 : Int32) (x6 : Int32) (s : dr_S), dr_G p l e (dr_rm 3) s0 m args below meth c 0 0 A s0.heap D cI cZ ad ln L 8 (dr_Zv D cI cZ ad ln L A below args s0 0 0) 194 [(0, .ref (ad 12)), (1, .int x1), (2, .int x2), (3, .int x3), (6, .int x6)] [] s (f_X12_writes_p194 ln x1 x2 x3 x6 s) := by
  intro x1 x2 x3 x6 s
  unfold f_X12_writes_p194
  refine g_aload_n E dX12_writes_194 0 rfl ?_
  refine gg_12_98 E (hN 12 (by decide)) dX12_writes_195 ?_
  refine g_aload_n E dX12_writes_198 0 rfl ?_
  refine gg_12_247 E (hN 12 (by decide)) dX12_writes_199 ?_
  refine g_aload_n E dX12_writes_202 0 rfl ?_
  refine gg_12_199 E (hN 12 (by decide)) dX12_writes_203 ?_
  refine g_iastore E (hN 57 (by decide)) (by decide) rfl dX12_writes_206 (fun s24 => ?_)
  refine g_aload_n E dX12_writes_207 0 rfl ?_
  refine gg_12_101 E (hN 12 (by decide)) dX12_writes_208 ?_
  refine g_aload_n E dX12_writes_211 0 rfl ?_
  refine gg_12_247 E (hN 12 (by decide)) dX12_writes_212 ?_
  refine g_iload_n E dX12_writes_215 3 rfl ?_
  refine g_iastore E (hN 58 (by decide)) (by decide) rfl dX12_writes_216 (fun s25 => ?_)
  refine g_aload_n E dX12_writes_217 0 rfl ?_
  refine gg_12_104 E (hN 12 (by decide)) dX12_writes_218 ?_
  refine g_aload_n E dX12_writes_221 0 rfl ?_
  refine gg_12_247 E (hN 12 (by decide)) dX12_writes_222 ?_
  refine g_iload E dX12_writes_225 4 rfl ?_
  refine g_bastore E (hN 59 (by decide)) (by decide) rfl dX12_writes_227 (fun s26 => ?_)
  refine g_aload_n E dX12_writes_228 0 rfl ?_
  refine g_dup E dX12_writes_229 rfl ?_
  refine gg_12_247 E (hN 12 (by decide)) dX12_writes_230 ?_
  refine g_iconst E (v := 1) dX12_writes_233 (by decide) ?_
  refine g_iadd E dX12_writes_234 ?_
  refine gp_12_247 E (hN 12 (by decide)) dX12_writes_235 (fun s27 => ?_)
  refine g_goto E 353 dX12_writes_238 (by decide) ?_
  refine g_sub [0, 1, 2] rfl ?_
  exact w_X12_writes_p353 E hap hN x1 x2 s27
set_option maxHeartbeats 4000000 in
set_option maxRecDepth 20000 in
theorem w_X12_writes_p151 (E : dr_E p (dr_rm 3) s0 m args meth c 0 0 A s0.heap D cI cZ ad L cX12_writes 8 RX12 none) (hap : dr_ap ad L) (hN : ∀ x ∈ nd_12, x ∈ L) : ∀ (n : Nat) (x1 : Int32) (x2 : Int32) (x3 : Int32) (x6 : Int32) (x7 : Int32) (s : dr_S), dr_G p l e (dr_rm 3) s0 m args below meth c 0 0 A s0.heap D cI cZ ad ln L 8 (dr_Zv D cI cZ ad ln L A below args s0 0 0) 151 [(0, .ref (ad 12)), (1, .int x1), (2, .int x2), (3, .int x3), (6, .int x6), (7, .int x7)] [] s (f_X12_writes_p151 ln n x1 x2 x3 x6 x7 s) := by
  intro n
  induction n with
  | zero =>
    intro x1 x2 x3 x6 x7 s
    rw [f_X12_writes_p151]
    exact g_none
  | succ n hkb151 =>
    intro x1 x2 x3 x6 x7 s
    rw [f_X12_writes_p151]
    refine g_iload E dX12_writes_151 5 rfl ?_
    refine g_aload_n E dX12_writes_153 0 rfl ?_
    refine gg_12_23 E (hN 12 (by decide)) dX12_writes_154 ?_
    refine g_iload_n E dX12_writes_157 2 rfl ?_
    refine g_iaload E (hN 32 (by decide)) (by decide) rfl dX12_writes_158 (fun v37 => ?_)
    refine g_icmp_ge E 194 dX12_writes_159 (by decide) ?_ ?_
    · refine g_sub [0, 1, 2, 3, 4] rfl ?_
      exact w_X12_writes_p194 E hap hN x1 x2 x3 x6 s
    · refine g_aload_n E dX12_writes_162 0 rfl ?_
      refine gg_12_26 E (hN 12 (by decide)) dX12_writes_163 ?_
      refine g_bipush E (v := 14) dX12_writes_166 (by decide) ?_
      refine g_iload_n E dX12_writes_168 2 rfl ?_
      refine g_imul E dX12_writes_169 ?_
      refine g_iload E dX12_writes_170 5 rfl ?_
      refine g_iadd E dX12_writes_172 ?_
      refine g_aload_n E dX12_writes_173 0 rfl ?_
      refine gg_12_26 E (hN 12 (by decide)) dX12_writes_174 ?_
      refine g_bipush E (v := 14) dX12_writes_177 (by decide) ?_
      refine g_iload_n E dX12_writes_179 2 rfl ?_
      refine g_imul E dX12_writes_180 ?_
      refine g_iload E dX12_writes_181 5 rfl ?_
      refine g_iadd E dX12_writes_183 ?_
      refine g_iconst E (v := 1) dX12_writes_184 (by decide) ?_
      refine g_iadd E dX12_writes_185 ?_
      refine g_iaload E (hN 33 (by decide)) (by decide) rfl dX12_writes_186 (fun v38 => ?_)
      refine g_iastore E (hN 33 (by decide)) (by decide) rfl dX12_writes_187 (fun s39 => ?_)
      refine g_iinc E (lv' := []) (lv'' := fun y40 => [(7, .int y40), (0, .ref (ad 12)), (1, .int x1), (2, .int x2), (3, .int x3), (6, .int x6)]) (v := 1) dX12_writes_188 5 rfl (by decide) (by decide) (fun _ => rfl) (fun y40 => ?_)
      refine g_goto E 151 dX12_writes_191 (by decide) ?_
      refine g_sub [1, 2, 3, 4, 5, 0] rfl ?_
      exact hkb151 x1 x2 x3 x6 y40 s39
set_option maxHeartbeats 4000000 in
set_option maxRecDepth 20000 in
theorem w_X12_writes_p94 (E : dr_E p (dr_rm 3) s0 m args meth c 0 0 A s0.heap D cI cZ ad L cX12_writes 8 RX12 none) (hap : dr_ap ad L) (hN : ∀ x ∈ nd_12, x ∈ L) : ∀ (x1 : Int32) (x2 : Int32) (x3 : Int32) (x4 : Int32) (x5 : Int32) (z0 : Int32) (s : dr_S), dr_G p l e (dr_rm 3) s0 m args below meth c 0 0 A s0.heap D cI cZ ad ln L 8 (dr_Zv D cI cZ ad ln L A below args s0 0 0) 94 [(0, .ref (ad 12)), (1, .int x1), (2, .int x2), (3, .int x3), (4, .int x4), (5, .int x5)] [.int z0] s (f_X12_writes_p94 ln x1 x2 x3 x4 x5 z0 s) := by
  intro x1 x2 x3 x4 x5 z0 s
  unfold f_X12_writes_p94
  refine g_istore E (lv' := [(6, .int z0), (0, .ref (ad 12)), (1, .int x1), (2, .int x2), (3, .int x3), (4, .int x4), (5, .int x5)]) dX12_writes_94 (by decide) rfl ?_
  refine g_iload E dX12_writes_96 0 rfl ?_
  refine g_iload E dX12_writes_98 5 rfl ?_
  refine g_icmp_ne E 116 dX12_writes_100 (by decide) ?_ ?_
  · refine g_aload_n E dX12_writes_116 1 rfl ?_
    refine g_iload_n E dX12_writes_117 2 rfl ?_
    refine g_cVv E [.int x1] rfl (c_X12_becomes hap hN x1 s) (hN 12 (by decide)) (by decide) rfl rfl mi_X12_becomes msl_X12_becomes mw_X12_becomes rfl ml_12_240 ⟨Nat.le_of_ble_eq_true rfl, Nat.le_of_ble_eq_true rfl⟩ (Nat.le_of_ble_eq_true rfl) dX12_writes_118 (fun s18 => ?_)
    refine g_iload E dX12_writes_121 0 rfl ?_
    refine g_if_eq E 137 dX12_writes_123 (by decide) ?_ ?_
    · refine g_aload_n E dX12_writes_137 1 rfl ?_
      refine gg_12_23 E (hN 12 (by decide)) dX12_writes_138 ?_
      refine g_iload_n E dX12_writes_141 3 rfl ?_
      refine g_dup2 E dX12_writes_142 rfl rfl ?_
      refine g_iaload E (hN 32 (by decide)) (by decide) rfl dX12_writes_143 (fun v19 => ?_)
      refine g_iconst E (v := 1) dX12_writes_144 (by decide) ?_
      refine g_isub E dX12_writes_145 ?_
      refine g_iastore E (hN 32 (by decide)) (by decide) rfl dX12_writes_146 (fun s20 => ?_)
      refine g_iload E dX12_writes_147 6 rfl ?_
      refine g_istore E (lv' := [(7, .int x5), (6, .int z0), (0, .ref (ad 12)), (1, .int x1), (2, .int x2), (3, .int x3), (4, .int x4), (5, .int x5)]) dX12_writes_149 (by decide) rfl ?_
      refine g_sub [2, 3, 4, 5, 1, 0] rfl ?_
      exact w_X12_writes_p151 E hap hN dr_N x1 x2 x3 z0 x5 s20
    · refine g_aload_n E dX12_writes_126 1 rfl ?_
      refine g_iload_n E dX12_writes_127 3 rfl ?_
      refine g_iload E dX12_writes_128 6 rfl ?_
      refine g_iload_n E dX12_writes_130 4 rfl ?_
      refine g_cVv E [.int x2, .int x5, .int x3] rfl (c_X12_comes hap hN x2 x5 x3 s18) (hN 12 (by decide)) (by decide) rfl rfl mi_X12_comes msl_X12_comes mw_X12_comes rfl ml_12_243 ⟨Nat.le_of_ble_eq_true rfl, Nat.le_of_ble_eq_true rfl⟩ (Nat.le_of_ble_eq_true rfl) dX12_writes_131 (fun s21 => ?_)
      refine g_goto E 194 dX12_writes_134 (by decide) ?_
      refine g_sub [1, 2, 3, 4, 0] rfl ?_
      exact w_X12_writes_p194 E hap hN x1 x2 x3 z0 s21
  · refine g_aload_n E dX12_writes_103 1 rfl ?_
    refine g_iload_n E dX12_writes_104 2 rfl ?_
    refine g_iload_n E dX12_writes_105 3 rfl ?_
    refine g_cVv E [.int x1, .int x2] rfl (c_X12_letsGo hap hN x1 x2 s) (hN 12 (by decide)) (by decide) rfl rfl mi_X12_letsGo msl_X12_letsGo mw_X12_letsGo rfl ml_12_231 ⟨Nat.le_of_ble_eq_true rfl, Nat.le_of_ble_eq_true rfl⟩ (Nat.le_of_ble_eq_true rfl) dX12_writes_106 (fun s22 => ?_)
    refine g_aload_n E dX12_writes_109 1 rfl ?_
    refine g_iload_n E dX12_writes_110 2 rfl ?_
    refine g_iconst E (v := 0) dX12_writes_111 (by decide) ?_
    refine g_cVv E [.int x1, .int 0] rfl (c_X12_ends hap hN x1 0 s22) (hN 12 (by decide)) (by decide) rfl rfl mi_X12_ends msl_X12_ends mw_X12_ends rfl ml_12_217 ⟨Nat.le_of_ble_eq_true rfl, Nat.le_of_ble_eq_true rfl⟩ (Nat.le_of_ble_eq_true rfl) dX12_writes_112 (fun s23 => ?_)
    exact g_vret E dX12_writes_115
set_option maxHeartbeats 4000000 in
set_option maxRecDepth 20000 in
theorem w_X12_writes_p65 (E : dr_E p (dr_rm 3) s0 m args meth c 0 0 A s0.heap D cI cZ ad L cX12_writes 8 RX12 none) (hap : dr_ap ad L) (hN : ∀ x ∈ nd_12, x ∈ L) : ∀ (x1 : Int32) (x2 : Int32) (x3 : Int32) (x4 : Int32) (x5 : Int32) (s : dr_S), dr_G p l e (dr_rm 3) s0 m args below meth c 0 0 A s0.heap D cI cZ ad ln L 8 (dr_Zv D cI cZ ad ln L A below args s0 0 0) 65 [(0, .ref (ad 12)), (1, .int x1), (2, .int x2), (3, .int x3), (4, .int x4), (5, .int x5)] [] s (f_X12_writes_p65 ln x1 x2 x3 x4 x5 s) := by
  intro x1 x2 x3 x4 x5 s
  unfold f_X12_writes_p65
  refine g_aload_n E dX12_writes_65 0 rfl ?_
  refine gg_12_20 E (hN 12 (by decide)) dX12_writes_66 ?_
  refine g_iload_n E dX12_writes_69 2 rfl ?_
  refine g_iaload E (hN 31 (by decide)) (by decide) rfl dX12_writes_70 (fun v10 => ?_)
  refine g_if_ne E 241 dX12_writes_71 (by decide) ?_ ?_
  · refine g_aload_n E dX12_writes_241 0 rfl ?_
    refine g_iload_n E dX12_writes_242 1 rfl ?_
    refine g_cVv E [.int x1] rfl (c_X12_becomes hap hN x1 s) (hN 12 (by decide)) (by decide) rfl rfl mi_X12_becomes msl_X12_becomes mw_X12_becomes rfl ml_12_240 ⟨Nat.le_of_ble_eq_true rfl, Nat.le_of_ble_eq_true rfl⟩ (Nat.le_of_ble_eq_true rfl) dX12_writes_243 (fun s11 => ?_)
    refine g_iload E dX12_writes_246 4 rfl ?_
    refine g_if_eq E 274 dX12_writes_248 (by decide) ?_ ?_
    · refine g_aload_n E dX12_writes_274 0 rfl ?_
      refine gg_12_23 E (hN 12 (by decide)) dX12_writes_275 ?_
      refine g_iload_n E dX12_writes_278 2 rfl ?_
      refine g_iaload E (hN 32 (by decide)) (by decide) rfl dX12_writes_279 (fun v12 => ?_)
      refine g_iconst E (v := 1) dX12_writes_280 (by decide) ?_
      refine g_iadd E dX12_writes_281 ?_
      refine g_let (fun y13 => ?_)
      refine g_istore E (lv' := [(6, .int y13), (0, .ref (ad 12)), (1, .int x1), (2, .int x2), (3, .int x3), (4, .int x4), (5, .int x5)]) dX12_writes_282 (by decide) rfl ?_
      refine g_sub [1, 2, 3, 4, 6, 0] rfl ?_
      exact w_X12_writes_p284 E hap hN dr_N x1 x2 x3 x5 y13 s11
    · refine g_aload_n E dX12_writes_251 0 rfl ?_
      refine gg_12_29 E (hN 12 (by decide)) dX12_writes_252 ?_
      refine g_bipush E (v := 14) dX12_writes_255 (by decide) ?_
      refine g_iload_n E dX12_writes_257 2 rfl ?_
      refine g_imul E dX12_writes_258 ?_
      refine g_iload E dX12_writes_259 5 rfl ?_
      refine g_iadd E dX12_writes_261 ?_
      refine g_iconst E (v := 1) dX12_writes_262 (by decide) ?_
      refine g_iadd E dX12_writes_263 ?_
      refine g_aload_n E dX12_writes_264 0 rfl ?_
      refine gg_12_56 E (hN 12 (by decide)) dX12_writes_265 ?_
      refine g_iload_n E dX12_writes_268 1 rfl ?_
      refine g_iaload E (hN 43 (by decide)) (by decide) rfl dX12_writes_269 (fun v14 => ?_)
      refine g_iastore E (hN 34 (by decide)) (by decide) rfl dX12_writes_270 (fun s15 => ?_)
      refine g_goto E 353 dX12_writes_271 (by decide) ?_
      refine g_sub [0, 1, 2] rfl ?_
      exact w_X12_writes_p353 E hap hN x1 x2 s15
  · refine g_aload_n E dX12_writes_74 0 rfl ?_
    refine gg_12_77 E (hN 12 (by decide)) dX12_writes_75 ?_
    refine g_aload_n E dX12_writes_78 0 rfl ?_
    refine gg_12_50 E (hN 12 (by decide)) dX12_writes_79 ?_
    refine g_iload_n E dX12_writes_82 1 rfl ?_
    refine g_iaload E (hN 41 (by decide)) (by decide) rfl dX12_writes_83 (fun v16 => ?_)
    refine g_iaload E (hN 50 (by decide)) (by decide) rfl dX12_writes_84 (fun v17 => ?_)
    refine g_iconst E (v := 1) dX12_writes_85 (by decide) ?_
    refine g_icmp_ne E 93 dX12_writes_86 (by decide) ?_ ?_
    · refine g_iconst E (v := 0) dX12_writes_93 (by decide) ?_
      refine g_sub [0, 1, 2, 3, 4, 5] rfl ?_
      exact w_X12_writes_p94 E hap hN x1 x2 x3 x4 x5 0 s
    · refine g_iconst E (v := 1) dX12_writes_89 (by decide) ?_
      refine g_goto E 94 dX12_writes_90 (by decide) ?_
      refine g_sub [0, 1, 2, 3, 4, 5] rfl ?_
      exact w_X12_writes_p94 E hap hN x1 x2 x3 x4 x5 1 s
set_option maxHeartbeats 4000000 in
set_option maxRecDepth 20000 in
theorem w_X12_writes_p38 (E : dr_E p (dr_rm 3) s0 m args meth c 0 0 A s0.heap D cI cZ ad L cX12_writes 8 RX12 none) (hap : dr_ap ad L) (hN : ∀ x ∈ nd_12, x ∈ L) : ∀ (n : Nat) (x1 : Int32) (x2 : Int32) (x3 : Int32) (x4 : Int32) (x5 : Int32) (s : dr_S), dr_G p l e (dr_rm 3) s0 m args below meth c 0 0 A s0.heap D cI cZ ad ln L 8 (dr_Zv D cI cZ ad ln L A below args s0 0 0) 38 [(0, .ref (ad 12)), (1, .int x1), (2, .int x2), (3, .int x3), (4, .int x4), (5, .int x5)] [] s (f_X12_writes_p38 ln n x1 x2 x3 x4 x5 s) := by
  intro n
  induction n with
  | zero =>
    intro x1 x2 x3 x4 x5 s
    rw [f_X12_writes_p38]
    exact g_none
  | succ n hkb38 =>
    intro x1 x2 x3 x4 x5 s
    rw [f_X12_writes_p38]
    refine g_iload E dX12_writes_38 4 rfl ?_
    refine g_if_eq E 65 dX12_writes_40 (by decide) ?_ ?_
    · refine g_sub [0, 1, 2, 3, 4, 5] rfl ?_
      exact w_X12_writes_p65 E hap hN x1 x2 x3 x4 x5 s
    · refine g_aload_n E dX12_writes_43 0 rfl ?_
      refine gg_12_65 E (hN 12 (by decide)) dX12_writes_44 ?_
      refine g_bipush E (v := 14) dX12_writes_47 (by decide) ?_
      refine g_iload_n E dX12_writes_49 1 rfl ?_
      refine g_imul E dX12_writes_50 ?_
      refine g_iload E dX12_writes_51 5 rfl ?_
      refine g_iadd E dX12_writes_53 ?_
      refine g_iaload E (hN 46 (by decide)) (by decide) rfl dX12_writes_54 (fun v8 => ?_)
      refine g_iload_n E dX12_writes_55 3 rfl ?_
      refine g_icmp_eq E 65 dX12_writes_56 (by decide) ?_ ?_
      · refine g_sub [0, 1, 2, 3, 4, 5] rfl ?_
        exact w_X12_writes_p65 E hap hN x1 x2 x3 x4 x5 s
      · refine g_iinc E (lv' := []) (lv'' := fun y9 => [(5, .int y9), (0, .ref (ad 12)), (1, .int x1), (2, .int x2), (3, .int x3), (4, .int x4)]) (v := 1) dX12_writes_59 5 rfl (by decide) (by decide) (fun _ => rfl) (fun y9 => ?_)
        refine g_goto E 38 dX12_writes_62 (by decide) ?_
        refine g_sub [1, 2, 3, 4, 5, 0] rfl ?_
        exact hkb38 x1 x2 x3 x4 y9 s
set_option maxHeartbeats 4000000 in
set_option maxRecDepth 20000 in
theorem w_X12_writes_p36 (E : dr_E p (dr_rm 3) s0 m args meth c 0 0 A s0.heap D cI cZ ad L cX12_writes 8 RX12 none) (hap : dr_ap ad L) (hN : ∀ x ∈ nd_12, x ∈ L) : ∀ (x1 : Int32) (x2 : Int32) (x3 : Int32) (x4 : Int32) (z0 : Int32) (s : dr_S), dr_G p l e (dr_rm 3) s0 m args below meth c 0 0 A s0.heap D cI cZ ad ln L 8 (dr_Zv D cI cZ ad ln L A below args s0 0 0) 36 [(0, .ref (ad 12)), (1, .int x1), (2, .int x2), (3, .int x3), (4, .int x4)] [.int z0] s (f_X12_writes_p36 ln x1 x2 x3 x4 z0 s) := by
  intro x1 x2 x3 x4 z0 s
  unfold f_X12_writes_p36
  refine g_istore E (lv' := [(5, .int z0), (0, .ref (ad 12)), (1, .int x1), (2, .int x2), (3, .int x3), (4, .int x4)]) dX12_writes_36 (by decide) rfl ?_
  refine g_sub [1, 2, 3, 4, 5, 0] rfl ?_
  exact w_X12_writes_p38 E hap hN dr_N x1 x2 x3 x4 z0 s
set_option maxHeartbeats 4000000 in
set_option maxRecDepth 20000 in
theorem c_X12_writes (hap : dr_ap ad L) (hN : ∀ x ∈ nd_12, x ∈ L) (x1 : Int32) (s : dr_S) : dr_Mv l D cI cZ ad ln L yX12_writes cX12_writes 8 3 [.ref (ad 12), .int x1] s (f_X12_writes ln x1 s) := by
  refine dr_metv (own := RX12) (by decide) rfl (Nat.le_of_ble_eq_true rfl) hap ?_
  intro p e s0 m args below meth c A E
  unfold f_X12_writes
  refine g_eqL (lv' := [(0, .ref (ad 12)), (1, .int x1)]) rfl ?_
  refine g_aload_n E dX12_writes_0 0 rfl ?_
  refine gg_12_47 E (hN 12 (by decide)) dX12_writes_1 ?_
  refine g_iload_n E dX12_writes_4 1 rfl ?_
  refine g_iaload E (hN 40 (by decide)) (by decide) rfl dX12_writes_5 (fun v1 => ?_)
  refine g_istore_n E (lv' := [(2, .int v1), (0, .ref (ad 12)), (1, .int x1)]) dX12_writes_6 (by decide) rfl ?_
  refine g_aload_n E dX12_writes_7 1 rfl ?_
  refine g_iload_n E dX12_writes_8 2 rfl ?_
  refine g_cVi E [.int x1] rfl (c_X12_looksFor hap hN x1 s) (hN 12 (by decide)) (by decide) rfl rfl mi_X12_looksFor msl_X12_looksFor mw_X12_looksFor rfl ml_12_227 ⟨Nat.le_of_ble_eq_true rfl, Nat.le_of_ble_eq_true rfl⟩ (Nat.le_of_ble_eq_true rfl) dX12_writes_9 (fun r3 s2 => ?_)
  refine g_istore_n E (lv' := [(3, .int r3), (2, .int v1), (0, .ref (ad 12)), (1, .int x1)]) dX12_writes_12 (by decide) rfl ?_
  refine g_aload_n E dX12_writes_13 2 rfl ?_
  refine g_iload_n E dX12_writes_14 3 rfl ?_
  refine g_iload_n E dX12_writes_15 0 rfl ?_
  refine g_cVi E [.int x1, .int r3] rfl (c_X12_hasCopy hap hN x1 r3 s2) (hN 12 (by decide)) (by decide) rfl rfl mi_X12_hasCopy msl_X12_hasCopy mw_X12_hasCopy rfl ml_12_234 ⟨Nat.le_of_ble_eq_true rfl, Nat.le_of_ble_eq_true rfl⟩ (Nat.le_of_ble_eq_true rfl) dX12_writes_16 (fun r5 s4 => ?_)
  refine g_istore E (lv' := [(4, .int r5), (3, .int r3), (2, .int v1), (0, .ref (ad 12)), (1, .int x1)]) dX12_writes_19 (by decide) rfl ?_
  refine g_iload E dX12_writes_21 0 rfl ?_
  refine g_if_eq E 30 dX12_writes_23 (by decide) ?_ ?_
  · refine g_aload_n E dX12_writes_30 3 rfl ?_
    refine g_iload_n E dX12_writes_31 4 rfl ?_
    refine g_iload_n E dX12_writes_32 1 rfl ?_
    refine g_cVi E [.int x1, .int r3] rfl (c_X12_placeIn hap hN x1 r3 s4) (hN 12 (by decide)) (by decide) rfl rfl mi_X12_placeIn msl_X12_placeIn mw_X12_placeIn rfl ml_12_237 ⟨Nat.le_of_ble_eq_true rfl, Nat.le_of_ble_eq_true rfl⟩ (Nat.le_of_ble_eq_true rfl) dX12_writes_33 (fun r7 s6 => ?_)
    refine g_sub [3, 4, 2, 1, 0] rfl ?_
    exact w_X12_writes_p36 E hap hN x1 v1 r3 r5 r7 s6
  · refine g_iconst E (v := 0) dX12_writes_26 (by decide) ?_
    refine g_goto E 36 dX12_writes_27 (by decide) ?_
    refine g_sub [3, 4, 2, 1, 0] rfl ?_
    exact w_X12_writes_p36 E hap hN x1 v1 r3 r5 0 s4
end

theorem dX12_firstOf_0 : decode cX12_firstOf 0 = .ok (.aload_n 0, 1) := by decide +kernel
theorem dX12_firstOf_1 : decode cX12_firstOf 1 = .ok (.getfield 202, 3) := by decide +kernel
theorem dX12_firstOf_4 : decode cX12_firstOf 4 = .ok (.istore_n 2, 1) := by decide +kernel
theorem dX12_firstOf_5 : decode cX12_firstOf 5 = .ok (.aload_n 0, 1) := by decide +kernel
theorem dX12_firstOf_6 : decode cX12_firstOf 6 = .ok (.getfield 20, 3) := by decide +kernel
theorem dX12_firstOf_9 : decode cX12_firstOf 9 = .ok (.iload_n 2, 1) := by decide +kernel
theorem dX12_firstOf_10 : decode cX12_firstOf 10 = .ok (.iaload, 1) := by decide +kernel
theorem dX12_firstOf_11 : decode cX12_firstOf 11 = .ok (.iload_n 1, 1) := by decide +kernel
theorem dX12_firstOf_12 : decode cX12_firstOf 12 = .ok (.if_icmp .le 16, 3) := by decide +kernel
theorem dX12_firstOf_15 : decode cX12_firstOf 15 = .ok (.aload_n 0, 1) := by decide +kernel
theorem dX12_firstOf_16 : decode cX12_firstOf 16 = .ok (.getfield 29, 3) := by decide +kernel
theorem dX12_firstOf_19 : decode cX12_firstOf 19 = .ok (.bipush 14, 2) := by decide +kernel
theorem dX12_firstOf_21 : decode cX12_firstOf 21 = .ok (.iload_n 2, 1) := by decide +kernel
theorem dX12_firstOf_22 : decode cX12_firstOf 22 = .ok (.imul, 1) := by decide +kernel
theorem dX12_firstOf_23 : decode cX12_firstOf 23 = .ok (.iaload, 1) := by decide +kernel
theorem dX12_firstOf_24 : decode cX12_firstOf 24 = .ok (.istore_n 2, 1) := by decide +kernel
theorem dX12_firstOf_25 : decode cX12_firstOf 25 = .ok (.goto (-20), 3) := by decide +kernel
theorem dX12_firstOf_28 : decode cX12_firstOf 28 = .ok (.aload_n 0, 1) := by decide +kernel
theorem dX12_firstOf_29 : decode cX12_firstOf 29 = .ok (.getfield 20, 3) := by decide +kernel
theorem dX12_firstOf_32 : decode cX12_firstOf 32 = .ok (.iload_n 2, 1) := by decide +kernel
theorem dX12_firstOf_33 : decode cX12_firstOf 33 = .ok (.iaload, 1) := by decide +kernel
theorem dX12_firstOf_34 : decode cX12_firstOf 34 = .ok (.iload_n 1, 1) := by decide +kernel
theorem dX12_firstOf_35 : decode cX12_firstOf 35 = .ok (.if_icmp .ne 7, 3) := by decide +kernel
theorem dX12_firstOf_38 : decode cX12_firstOf 38 = .ok (.iload_n 2, 1) := by decide +kernel
theorem dX12_firstOf_39 : decode cX12_firstOf 39 = .ok (.goto 4, 3) := by decide +kernel
theorem dX12_firstOf_42 : decode cX12_firstOf 42 = .ok (.iconst (-1), 1) := by decide +kernel
theorem dX12_firstOf_43 : decode cX12_firstOf 43 = .ok (.ireturn, 1) := by decide +kernel
def f_X12_firstOf_p5 (ln : Nat → Nat) : Nat → Int32 → Int32 → dr_S → Option (Int32 × dr_S)
  | 0, _, _, _ => none
  | n + 1, x1, x2, s => (dr_rd ln s 31 x2).bind (fun v2 => (if v2 ≤ x1 then (dr_rd ln s 31 x2).bind (fun v3 => (if v3 = x1 then some (x2, s) else some ((-1), s))) else (dr_rd ln s 34 (14 * x2)).bind (fun v4 => (f_X12_firstOf_p5 ln n x1 v4 s))))
def f_X12_firstOf (ln : Nat → Nat) (x1 : Int32) (s : dr_S) : Option (Int32 × dr_S) := dr_let (s.2 1205) (fun y1 => (f_X12_firstOf_p5 ln dr_N x1 y1 s))
section
variable {p : Program} {l : Launch} {e : Env} {s0 : State} {m : MethodId} {args : Array Value} {below : List Frame} {meth : Method} {c : Code} {A : Nat → Prop} {D : va_G} {cI cZ : ClassId} {ad ln : Nat → Nat} {L : List Nat}
set_option maxHeartbeats 4000000 in
set_option maxRecDepth 20000 in
theorem w_X12_firstOf_p5 (E : dr_E p (dr_rm 0) s0 m args meth c 0 0 A s0.heap D cI cZ ad L cX12_firstOf 3 RX12 (some .int)) (hap : dr_ap ad L) (hN : ∀ x ∈ nd_12, x ∈ L) : ∀ (n : Nat) (x1 : Int32) (x2 : Int32) (s : dr_S), dr_G p l e (dr_rm 0) s0 m args below meth c 0 0 A s0.heap D cI cZ ad ln L 3 (dr_Zi D cI cZ ad ln L A below args s0 0 0) 5 [(0, .ref (ad 12)), (1, .int x1), (2, .int x2)] [] s (f_X12_firstOf_p5 ln n x1 x2 s) := by
  intro n
  induction n with
  | zero =>
    intro x1 x2 s
    rw [f_X12_firstOf_p5]
    exact g_none
  | succ n hkb5 =>
    intro x1 x2 s
    rw [f_X12_firstOf_p5]
    refine g_aload_n E dX12_firstOf_5 0 rfl ?_
    refine gg_12_20 E (hN 12 (by decide)) dX12_firstOf_6 ?_
    refine g_iload_n E dX12_firstOf_9 2 rfl ?_
    refine g_iaload E (hN 31 (by decide)) (by decide) rfl dX12_firstOf_10 (fun v2 => ?_)
    refine g_iload_n E dX12_firstOf_11 1 rfl ?_
    refine g_icmp_le E 28 dX12_firstOf_12 (by decide) ?_ ?_
    · refine g_aload_n E dX12_firstOf_28 0 rfl ?_
      refine gg_12_20 E (hN 12 (by decide)) dX12_firstOf_29 ?_
      refine g_iload_n E dX12_firstOf_32 2 rfl ?_
      refine g_iaload E (hN 31 (by decide)) (by decide) rfl dX12_firstOf_33 (fun v3 => ?_)
      refine g_iload_n E dX12_firstOf_34 1 rfl ?_
      refine g_icmp_ne E 42 dX12_firstOf_35 (by decide) ?_ ?_
      · refine g_iconst E (v := (-1)) dX12_firstOf_42 (by decide) ?_
        exact g_iret E dX12_firstOf_43
      · refine g_iload_n E dX12_firstOf_38 2 rfl ?_
        refine g_goto E 43 dX12_firstOf_39 (by decide) ?_
        exact g_iret E dX12_firstOf_43
    · refine g_aload_n E dX12_firstOf_15 0 rfl ?_
      refine gg_12_29 E (hN 12 (by decide)) dX12_firstOf_16 ?_
      refine g_bipush E (v := 14) dX12_firstOf_19 (by decide) ?_
      refine g_iload_n E dX12_firstOf_21 2 rfl ?_
      refine g_imul E dX12_firstOf_22 ?_
      refine g_iaload E (hN 34 (by decide)) (by decide) rfl dX12_firstOf_23 (fun v4 => ?_)
      refine g_istore_n E (lv' := [(2, .int v4), (0, .ref (ad 12)), (1, .int x1)]) dX12_firstOf_24 (by decide) rfl ?_
      refine g_goto E 5 dX12_firstOf_25 (by decide) ?_
      refine g_sub [1, 2, 0] rfl ?_
      exact hkb5 x1 v4 s
set_option maxHeartbeats 4000000 in
set_option maxRecDepth 20000 in
theorem c_X12_firstOf (hap : dr_ap ad L) (hN : ∀ x ∈ nd_12, x ∈ L) (x1 : Int32) (s : dr_S) : dr_Mi l D cI cZ ad ln L yX12_firstOf cX12_firstOf 3 (some .int) 0 [.ref (ad 12), .int x1] s (f_X12_firstOf ln x1 s) := by
  refine dr_meti (own := RX12) (by decide) rfl (Nat.le_of_ble_eq_true rfl) hap ?_
  intro p e s0 m args below meth c A E
  unfold f_X12_firstOf
  refine g_eqL (lv' := [(0, .ref (ad 12)), (1, .int x1)]) rfl ?_
  refine g_aload_n E dX12_firstOf_0 0 rfl ?_
  refine gg_12_202 E (hN 12 (by decide)) dX12_firstOf_1 ?_
  refine g_let (fun y1 => ?_)
  refine g_istore_n E (lv' := [(2, .int y1), (0, .ref (ad 12)), (1, .int x1)]) dX12_firstOf_4 (by decide) rfl ?_
  refine g_sub [1, 2, 0] rfl ?_
  exact w_X12_firstOf_p5 E hap hN dr_N x1 y1 s
end

theorem dX12_goesUp_0 : decode cX12_goesUp 0 = .ok (.aload_n 0, 1) := by decide +kernel
theorem dX12_goesUp_1 : decode cX12_goesUp 1 = .ok (.getfield 47, 3) := by decide +kernel
theorem dX12_goesUp_4 : decode cX12_goesUp 4 = .ok (.iload_n 1, 1) := by decide +kernel
theorem dX12_goesUp_5 : decode cX12_goesUp 5 = .ok (.iaload, 1) := by decide +kernel
theorem dX12_goesUp_6 : decode cX12_goesUp 6 = .ok (.istore_n 2, 1) := by decide +kernel
theorem dX12_goesUp_7 : decode cX12_goesUp 7 = .ok (.iload_n 2, 1) := by decide +kernel
theorem dX12_goesUp_8 : decode cX12_goesUp 8 = .ok (.aload_n 0, 1) := by decide +kernel
theorem dX12_goesUp_9 : decode cX12_goesUp 9 = .ok (.getfield 202, 3) := by decide +kernel
theorem dX12_goesUp_12 : decode cX12_goesUp 12 = .ok (.if_icmp .ne 101, 3) := by decide +kernel
theorem dX12_goesUp_15 : decode cX12_goesUp 15 = .ok (.aload_n 0, 1) := by decide +kernel
theorem dX12_goesUp_16 : decode cX12_goesUp 16 = .ok (.invokevirtual 192, 3) := by decide +kernel
theorem dX12_goesUp_19 : decode cX12_goesUp 19 = .ok (.istore_n 3, 1) := by decide +kernel
theorem dX12_goesUp_20 : decode cX12_goesUp 20 = .ok (.aload_n 0, 1) := by decide +kernel
theorem dX12_goesUp_21 : decode cX12_goesUp 21 = .ok (.iload_n 3, 1) := by decide +kernel
theorem dX12_goesUp_22 : decode cX12_goesUp 22 = .ok (.invokevirtual 156, 3) := by decide +kernel
theorem dX12_goesUp_25 : decode cX12_goesUp 25 = .ok (.aload_n 0, 1) := by decide +kernel
theorem dX12_goesUp_26 : decode cX12_goesUp 26 = .ok (.getfield 17, 3) := by decide +kernel
theorem dX12_goesUp_29 : decode cX12_goesUp 29 = .ok (.iload_n 3, 1) := by decide +kernel
theorem dX12_goesUp_30 : decode cX12_goesUp 30 = .ok (.iconst 1, 1) := by decide +kernel
theorem dX12_goesUp_31 : decode cX12_goesUp 31 = .ok (.bastore, 1) := by decide +kernel
theorem dX12_goesUp_32 : decode cX12_goesUp 32 = .ok (.aload_n 0, 1) := by decide +kernel
theorem dX12_goesUp_33 : decode cX12_goesUp 33 = .ok (.getfield 20, 3) := by decide +kernel
theorem dX12_goesUp_36 : decode cX12_goesUp 36 = .ok (.iload_n 3, 1) := by decide +kernel
theorem dX12_goesUp_37 : decode cX12_goesUp 37 = .ok (.aload_n 0, 1) := by decide +kernel
theorem dX12_goesUp_38 : decode cX12_goesUp 38 = .ok (.getfield 20, 3) := by decide +kernel
theorem dX12_goesUp_41 : decode cX12_goesUp 41 = .ok (.iload_n 2, 1) := by decide +kernel
theorem dX12_goesUp_42 : decode cX12_goesUp 42 = .ok (.iaload, 1) := by decide +kernel
theorem dX12_goesUp_43 : decode cX12_goesUp 43 = .ok (.iconst 1, 1) := by decide +kernel
theorem dX12_goesUp_44 : decode cX12_goesUp 44 = .ok (.iadd, 1) := by decide +kernel
theorem dX12_goesUp_45 : decode cX12_goesUp 45 = .ok (.iastore, 1) := by decide +kernel
theorem dX12_goesUp_46 : decode cX12_goesUp 46 = .ok (.aload_n 0, 1) := by decide +kernel
theorem dX12_goesUp_47 : decode cX12_goesUp 47 = .ok (.getfield 23, 3) := by decide +kernel
theorem dX12_goesUp_50 : decode cX12_goesUp 50 = .ok (.iload_n 3, 1) := by decide +kernel
theorem dX12_goesUp_51 : decode cX12_goesUp 51 = .ok (.iconst 1, 1) := by decide +kernel
theorem dX12_goesUp_52 : decode cX12_goesUp 52 = .ok (.iastore, 1) := by decide +kernel
theorem dX12_goesUp_53 : decode cX12_goesUp 53 = .ok (.aload_n 0, 1) := by decide +kernel
theorem dX12_goesUp_54 : decode cX12_goesUp 54 = .ok (.getfield 26, 3) := by decide +kernel
theorem dX12_goesUp_57 : decode cX12_goesUp 57 = .ok (.bipush 14, 2) := by decide +kernel
theorem dX12_goesUp_59 : decode cX12_goesUp 59 = .ok (.iload_n 3, 1) := by decide +kernel
theorem dX12_goesUp_60 : decode cX12_goesUp 60 = .ok (.imul, 1) := by decide +kernel
theorem dX12_goesUp_61 : decode cX12_goesUp 61 = .ok (.aload_n 0, 1) := by decide +kernel
theorem dX12_goesUp_62 : decode cX12_goesUp 62 = .ok (.getfield 53, 3) := by decide +kernel
theorem dX12_goesUp_65 : decode cX12_goesUp 65 = .ok (.iload_n 1, 1) := by decide +kernel
theorem dX12_goesUp_66 : decode cX12_goesUp 66 = .ok (.iaload, 1) := by decide +kernel
theorem dX12_goesUp_67 : decode cX12_goesUp 67 = .ok (.iastore, 1) := by decide +kernel
theorem dX12_goesUp_68 : decode cX12_goesUp 68 = .ok (.aload_n 0, 1) := by decide +kernel
theorem dX12_goesUp_69 : decode cX12_goesUp 69 = .ok (.getfield 29, 3) := by decide +kernel
theorem dX12_goesUp_72 : decode cX12_goesUp 72 = .ok (.bipush 14, 2) := by decide +kernel
theorem dX12_goesUp_74 : decode cX12_goesUp 74 = .ok (.iload_n 3, 1) := by decide +kernel
theorem dX12_goesUp_75 : decode cX12_goesUp 75 = .ok (.imul, 1) := by decide +kernel
theorem dX12_goesUp_76 : decode cX12_goesUp 76 = .ok (.iload_n 2, 1) := by decide +kernel
theorem dX12_goesUp_77 : decode cX12_goesUp 77 = .ok (.iastore, 1) := by decide +kernel
theorem dX12_goesUp_78 : decode cX12_goesUp 78 = .ok (.aload_n 0, 1) := by decide +kernel
theorem dX12_goesUp_79 : decode cX12_goesUp 79 = .ok (.getfield 29, 3) := by decide +kernel
theorem dX12_goesUp_82 : decode cX12_goesUp 82 = .ok (.bipush 14, 2) := by decide +kernel
theorem dX12_goesUp_84 : decode cX12_goesUp 84 = .ok (.iload_n 3, 1) := by decide +kernel
theorem dX12_goesUp_85 : decode cX12_goesUp 85 = .ok (.imul, 1) := by decide +kernel
theorem dX12_goesUp_86 : decode cX12_goesUp 86 = .ok (.iconst 1, 1) := by decide +kernel
theorem dX12_goesUp_87 : decode cX12_goesUp 87 = .ok (.iadd, 1) := by decide +kernel
theorem dX12_goesUp_88 : decode cX12_goesUp 88 = .ok (.aload_n 0, 1) := by decide +kernel
theorem dX12_goesUp_89 : decode cX12_goesUp 89 = .ok (.getfield 56, 3) := by decide +kernel
theorem dX12_goesUp_92 : decode cX12_goesUp 92 = .ok (.iload_n 1, 1) := by decide +kernel
theorem dX12_goesUp_93 : decode cX12_goesUp 93 = .ok (.iaload, 1) := by decide +kernel
theorem dX12_goesUp_94 : decode cX12_goesUp 94 = .ok (.iastore, 1) := by decide +kernel
theorem dX12_goesUp_95 : decode cX12_goesUp 95 = .ok (.aload_n 0, 1) := by decide +kernel
theorem dX12_goesUp_96 : decode cX12_goesUp 96 = .ok (.iload_n 3, 1) := by decide +kernel
theorem dX12_goesUp_97 : decode cX12_goesUp 97 = .ok (.putfield 202, 3) := by decide +kernel
theorem dX12_goesUp_100 : decode cX12_goesUp 100 = .ok (.aload_n 0, 1) := by decide +kernel
theorem dX12_goesUp_101 : decode cX12_goesUp 101 = .ok (.iload_n 1, 1) := by decide +kernel
theorem dX12_goesUp_102 : decode cX12_goesUp 102 = .ok (.iload_n 2, 1) := by decide +kernel
theorem dX12_goesUp_103 : decode cX12_goesUp 103 = .ok (.invokevirtual 231, 3) := by decide +kernel
theorem dX12_goesUp_106 : decode cX12_goesUp 106 = .ok (.aload_n 0, 1) := by decide +kernel
theorem dX12_goesUp_107 : decode cX12_goesUp 107 = .ok (.iload_n 1, 1) := by decide +kernel
theorem dX12_goesUp_108 : decode cX12_goesUp 108 = .ok (.iconst 1, 1) := by decide +kernel
theorem dX12_goesUp_109 : decode cX12_goesUp 109 = .ok (.invokevirtual 217, 3) := by decide +kernel
theorem dX12_goesUp_112 : decode cX12_goesUp 112 = .ok (.return_, 1) := by decide +kernel
theorem dX12_goesUp_113 : decode cX12_goesUp 113 = .ok (.aload_n 0, 1) := by decide +kernel
theorem dX12_goesUp_114 : decode cX12_goesUp 114 = .ok (.getfield 59, 3) := by decide +kernel
theorem dX12_goesUp_117 : decode cX12_goesUp 117 = .ok (.bipush 64, 2) := by decide +kernel
theorem dX12_goesUp_119 : decode cX12_goesUp 119 = .ok (.iload_n 1, 1) := by decide +kernel
theorem dX12_goesUp_120 : decode cX12_goesUp 120 = .ok (.imul, 1) := by decide +kernel
theorem dX12_goesUp_121 : decode cX12_goesUp 121 = .ok (.aload_n 0, 1) := by decide +kernel
theorem dX12_goesUp_122 : decode cX12_goesUp 122 = .ok (.getfield 20, 3) := by decide +kernel
theorem dX12_goesUp_125 : decode cX12_goesUp 125 = .ok (.iload_n 2, 1) := by decide +kernel
theorem dX12_goesUp_126 : decode cX12_goesUp 126 = .ok (.iaload, 1) := by decide +kernel
theorem dX12_goesUp_127 : decode cX12_goesUp 127 = .ok (.iadd, 1) := by decide +kernel
theorem dX12_goesUp_128 : decode cX12_goesUp 128 = .ok (.iconst 1, 1) := by decide +kernel
theorem dX12_goesUp_129 : decode cX12_goesUp 129 = .ok (.iadd, 1) := by decide +kernel
theorem dX12_goesUp_130 : decode cX12_goesUp 130 = .ok (.iaload, 1) := by decide +kernel
theorem dX12_goesUp_131 : decode cX12_goesUp 131 = .ok (.istore_n 3, 1) := by decide +kernel
theorem dX12_goesUp_132 : decode cX12_goesUp 132 = .ok (.iload_n 3, 1) := by decide +kernel
theorem dX12_goesUp_133 : decode cX12_goesUp 133 = .ok (.iconst (-1), 1) := by decide +kernel
theorem dX12_goesUp_134 : decode cX12_goesUp 134 = .ok (.if_icmp .ne 16, 3) := by decide +kernel
theorem dX12_goesUp_137 : decode cX12_goesUp 137 = .ok (.aload_n 0, 1) := by decide +kernel
theorem dX12_goesUp_138 : decode cX12_goesUp 138 = .ok (.aload_n 0, 1) := by decide +kernel
theorem dX12_goesUp_139 : decode cX12_goesUp 139 = .ok (.getfield 20, 3) := by decide +kernel
theorem dX12_goesUp_142 : decode cX12_goesUp 142 = .ok (.iload_n 2, 1) := by decide +kernel
theorem dX12_goesUp_143 : decode cX12_goesUp 143 = .ok (.iaload, 1) := by decide +kernel
theorem dX12_goesUp_144 : decode cX12_goesUp 144 = .ok (.iconst 1, 1) := by decide +kernel
theorem dX12_goesUp_145 : decode cX12_goesUp 145 = .ok (.iadd, 1) := by decide +kernel
theorem dX12_goesUp_146 : decode cX12_goesUp 146 = .ok (.invokevirtual 253, 3) := by decide +kernel
theorem dX12_goesUp_149 : decode cX12_goesUp 149 = .ok (.istore_n 3, 1) := by decide +kernel
theorem dX12_goesUp_150 : decode cX12_goesUp 150 = .ok (.iload_n 3, 1) := by decide +kernel
theorem dX12_goesUp_151 : decode cX12_goesUp 151 = .ok (.iconst (-1), 1) := by decide +kernel
theorem dX12_goesUp_152 : decode cX12_goesUp 152 = .ok (.if_icmp .eq 12, 3) := by decide +kernel
theorem dX12_goesUp_155 : decode cX12_goesUp 155 = .ok (.aload_n 0, 1) := by decide +kernel
theorem dX12_goesUp_156 : decode cX12_goesUp 156 = .ok (.iload_n 1, 1) := by decide +kernel
theorem dX12_goesUp_157 : decode cX12_goesUp 157 = .ok (.iload_n 3, 1) := by decide +kernel
theorem dX12_goesUp_158 : decode cX12_goesUp 158 = .ok (.invokevirtual 221, 3) := by decide +kernel
theorem dX12_goesUp_161 : decode cX12_goesUp 161 = .ok (.ifCond .eq 4, 3) := by decide +kernel
theorem dX12_goesUp_164 : decode cX12_goesUp 164 = .ok (.return_, 1) := by decide +kernel
theorem dX12_goesUp_165 : decode cX12_goesUp 165 = .ok (.aload_n 0, 1) := by decide +kernel
theorem dX12_goesUp_166 : decode cX12_goesUp 166 = .ok (.iload_n 1, 1) := by decide +kernel
theorem dX12_goesUp_167 : decode cX12_goesUp 167 = .ok (.iload_n 3, 1) := by decide +kernel
theorem dX12_goesUp_168 : decode cX12_goesUp 168 = .ok (.invokevirtual 224, 3) := by decide +kernel
theorem dX12_goesUp_171 : decode cX12_goesUp 171 = .ok (.aload_n 0, 1) := by decide +kernel
theorem dX12_goesUp_172 : decode cX12_goesUp 172 = .ok (.iload_n 1, 1) := by decide +kernel
theorem dX12_goesUp_173 : decode cX12_goesUp 173 = .ok (.iload_n 2, 1) := by decide +kernel
theorem dX12_goesUp_174 : decode cX12_goesUp 174 = .ok (.invokevirtual 231, 3) := by decide +kernel
theorem dX12_goesUp_177 : decode cX12_goesUp 177 = .ok (.aload_n 0, 1) := by decide +kernel
theorem dX12_goesUp_178 : decode cX12_goesUp 178 = .ok (.getfield 47, 3) := by decide +kernel
theorem dX12_goesUp_181 : decode cX12_goesUp 181 = .ok (.iload_n 1, 1) := by decide +kernel
theorem dX12_goesUp_182 : decode cX12_goesUp 182 = .ok (.iload_n 3, 1) := by decide +kernel
theorem dX12_goesUp_183 : decode cX12_goesUp 183 = .ok (.iastore, 1) := by decide +kernel
theorem dX12_goesUp_184 : decode cX12_goesUp 184 = .ok (.aload_n 0, 1) := by decide +kernel
theorem dX12_goesUp_185 : decode cX12_goesUp 185 = .ok (.getfield 44, 3) := by decide +kernel
theorem dX12_goesUp_188 : decode cX12_goesUp 188 = .ok (.iload_n 1, 1) := by decide +kernel
theorem dX12_goesUp_189 : decode cX12_goesUp 189 = .ok (.iconst 2, 1) := by decide +kernel
theorem dX12_goesUp_190 : decode cX12_goesUp 190 = .ok (.iastore, 1) := by decide +kernel
theorem dX12_goesUp_191 : decode cX12_goesUp 191 = .ok (.return_, 1) := by decide +kernel
def f_X12_goesUp_p150 (ln : Nat → Nat) (x1 : Int32) (x2 : Int32) (x3 : Int32) (s : dr_S) : Option (Int32 × dr_S) := (if x3 = (-1) then some (0, s) else dr_bnd (f_X12_isOthers ln x1 x3 s) (fun r23 s22 => (if r23 = 0 then dr_bndv (f_X12_latches ln x1 x3 s22) (fun s24 => dr_bndv (f_X12_letsGo ln x1 x2 s24) (fun s25 => (dr_wr ln s25 40 x1 x3).bind (fun s26 => (dr_wr ln s26 39 x1 2).bind (fun s27 => some (0, s27))))) else some (0, s22))))
def f_X12_goesUp (ln : Nat → Nat) (x1 : Int32) (s : dr_S) : Option (Int32 × dr_S) := (dr_rd ln s 40 x1).bind (fun v1 => (if v1 = (s.2 1205) then dr_bnd (f_X12_spare ln  s) (fun r8 s7 => dr_bndv (f_X12_clears ln r8 s7) (fun s9 => (dr_wz ln s9 30 r8 1).bind (fun s10 => (dr_rd ln s10 31 v1).bind (fun v11 => (dr_wr ln s10 31 r8 (v11 + 1)).bind (fun s12 => (dr_wr ln s12 32 r8 1).bind (fun s13 => (dr_rd ln s13 42 x1).bind (fun v14 => (dr_wr ln s13 33 (14 * r8) v14).bind (fun s15 => (dr_wr ln s15 34 (14 * r8) v1).bind (fun s16 => (dr_rd ln s16 43 x1).bind (fun v17 => (dr_wr ln s16 34 ((14 * r8) + 1) v17).bind (fun s18 => dr_letS (dr_pf s18 1205 r8) (fun s19 => dr_bndv (f_X12_letsGo ln x1 v1 s19) (fun s20 => dr_bndv (f_X12_ends ln x1 1 s20) (fun s21 => some (0, s21))))))))))))))) else (dr_rd ln s 31 v1).bind (fun v2 => (dr_rd ln s 44 (((64 * x1) + v2) + 1)).bind (fun v3 => (if v3 = (-1) then (dr_rd ln s 31 v1).bind (fun v4 => dr_bnd (f_X12_firstOf ln ((v4 + 1)) s) (fun r6 s5 => (f_X12_goesUp_p150 ln x1 v1 r6 s5))) else (f_X12_goesUp_p150 ln x1 v1 v3 s))))))
section
variable {p : Program} {l : Launch} {e : Env} {s0 : State} {m : MethodId} {args : Array Value} {below : List Frame} {meth : Method} {c : Code} {A : Nat → Prop} {D : va_G} {cI cZ : ClassId} {ad ln : Nat → Nat} {L : List Nat}
set_option maxHeartbeats 4000000 in
set_option maxRecDepth 20000 in
theorem w_X12_goesUp_p150 (E : dr_E p (dr_rm 1) s0 m args meth c 0 0 A s0.heap D cI cZ ad L cX12_goesUp 4 RX12 none) (hap : dr_ap ad L) (hN : ∀ x ∈ nd_12, x ∈ L) : ∀ (x1 : Int32) (x2 : Int32) (x3 : Int32) (s : dr_S), dr_G p l e (dr_rm 1) s0 m args below meth c 0 0 A s0.heap D cI cZ ad ln L 4 (dr_Zv D cI cZ ad ln L A below args s0 0 0) 150 [(0, .ref (ad 12)), (1, .int x1), (2, .int x2), (3, .int x3)] [] s (f_X12_goesUp_p150 ln x1 x2 x3 s) := by
  intro x1 x2 x3 s
  unfold f_X12_goesUp_p150
  refine g_iload_n E dX12_goesUp_150 3 rfl ?_
  refine g_iconst E (v := (-1)) dX12_goesUp_151 (by decide) ?_
  refine g_icmp_eq E 164 dX12_goesUp_152 (by decide) ?_ ?_
  · exact g_vret E dX12_goesUp_164
  · refine g_aload_n E dX12_goesUp_155 0 rfl ?_
    refine g_iload_n E dX12_goesUp_156 1 rfl ?_
    refine g_iload_n E dX12_goesUp_157 3 rfl ?_
    refine g_cVi E [.int x1, .int x3] rfl (c_X12_isOthers hap hN x1 x3 s) (hN 12 (by decide)) (by decide) rfl rfl mi_X12_isOthers msl_X12_isOthers mw_X12_isOthers rfl ml_12_221 ⟨Nat.le_of_ble_eq_true rfl, Nat.le_of_ble_eq_true rfl⟩ (Nat.le_of_ble_eq_true rfl) dX12_goesUp_158 (fun r23 s22 => ?_)
    refine g_if_eq E 165 dX12_goesUp_161 (by decide) ?_ ?_
    · refine g_aload_n E dX12_goesUp_165 0 rfl ?_
      refine g_iload_n E dX12_goesUp_166 1 rfl ?_
      refine g_iload_n E dX12_goesUp_167 3 rfl ?_
      refine g_cVv E [.int x1, .int x3] rfl (c_X12_latches hap hN x1 x3 s22) (hN 12 (by decide)) (by decide) rfl rfl mi_X12_latches msl_X12_latches mw_X12_latches rfl ml_12_224 ⟨Nat.le_of_ble_eq_true rfl, Nat.le_of_ble_eq_true rfl⟩ (Nat.le_of_ble_eq_true rfl) dX12_goesUp_168 (fun s24 => ?_)
      refine g_aload_n E dX12_goesUp_171 0 rfl ?_
      refine g_iload_n E dX12_goesUp_172 1 rfl ?_
      refine g_iload_n E dX12_goesUp_173 2 rfl ?_
      refine g_cVv E [.int x1, .int x2] rfl (c_X12_letsGo hap hN x1 x2 s24) (hN 12 (by decide)) (by decide) rfl rfl mi_X12_letsGo msl_X12_letsGo mw_X12_letsGo rfl ml_12_231 ⟨Nat.le_of_ble_eq_true rfl, Nat.le_of_ble_eq_true rfl⟩ (Nat.le_of_ble_eq_true rfl) dX12_goesUp_174 (fun s25 => ?_)
      refine g_aload_n E dX12_goesUp_177 0 rfl ?_
      refine gg_12_47 E (hN 12 (by decide)) dX12_goesUp_178 ?_
      refine g_iload_n E dX12_goesUp_181 1 rfl ?_
      refine g_iload_n E dX12_goesUp_182 3 rfl ?_
      refine g_iastore E (hN 40 (by decide)) (by decide) rfl dX12_goesUp_183 (fun s26 => ?_)
      refine g_aload_n E dX12_goesUp_184 0 rfl ?_
      refine gg_12_44 E (hN 12 (by decide)) dX12_goesUp_185 ?_
      refine g_iload_n E dX12_goesUp_188 1 rfl ?_
      refine g_iconst E (v := 2) dX12_goesUp_189 (by decide) ?_
      refine g_iastore E (hN 39 (by decide)) (by decide) rfl dX12_goesUp_190 (fun s27 => ?_)
      exact g_vret E dX12_goesUp_191
    · exact g_vret E dX12_goesUp_164
set_option maxHeartbeats 4000000 in
set_option maxRecDepth 20000 in
theorem c_X12_goesUp (hap : dr_ap ad L) (hN : ∀ x ∈ nd_12, x ∈ L) (x1 : Int32) (s : dr_S) : dr_Mv l D cI cZ ad ln L yX12_goesUp cX12_goesUp 4 1 [.ref (ad 12), .int x1] s (f_X12_goesUp ln x1 s) := by
  refine dr_metv (own := RX12) (by decide) rfl (Nat.le_of_ble_eq_true rfl) hap ?_
  intro p e s0 m args below meth c A E
  unfold f_X12_goesUp
  refine g_eqL (lv' := [(0, .ref (ad 12)), (1, .int x1)]) rfl ?_
  refine g_aload_n E dX12_goesUp_0 0 rfl ?_
  refine gg_12_47 E (hN 12 (by decide)) dX12_goesUp_1 ?_
  refine g_iload_n E dX12_goesUp_4 1 rfl ?_
  refine g_iaload E (hN 40 (by decide)) (by decide) rfl dX12_goesUp_5 (fun v1 => ?_)
  refine g_istore_n E (lv' := [(2, .int v1), (0, .ref (ad 12)), (1, .int x1)]) dX12_goesUp_6 (by decide) rfl ?_
  refine g_iload_n E dX12_goesUp_7 0 rfl ?_
  refine g_aload_n E dX12_goesUp_8 1 rfl ?_
  refine gg_12_202 E (hN 12 (by decide)) dX12_goesUp_9 ?_
  refine g_icmp_ne E 113 dX12_goesUp_12 (by decide) ?_ ?_
  · refine g_aload_n E dX12_goesUp_113 1 rfl ?_
    refine gg_12_59 E (hN 12 (by decide)) dX12_goesUp_114 ?_
    refine g_bipush E (v := 64) dX12_goesUp_117 (by decide) ?_
    refine g_iload_n E dX12_goesUp_119 2 rfl ?_
    refine g_imul E dX12_goesUp_120 ?_
    refine g_aload_n E dX12_goesUp_121 1 rfl ?_
    refine gg_12_20 E (hN 12 (by decide)) dX12_goesUp_122 ?_
    refine g_iload_n E dX12_goesUp_125 0 rfl ?_
    refine g_iaload E (hN 31 (by decide)) (by decide) rfl dX12_goesUp_126 (fun v2 => ?_)
    refine g_iadd E dX12_goesUp_127 ?_
    refine g_iconst E (v := 1) dX12_goesUp_128 (by decide) ?_
    refine g_iadd E dX12_goesUp_129 ?_
    refine g_iaload E (hN 44 (by decide)) (by decide) rfl dX12_goesUp_130 (fun v3 => ?_)
    refine g_istore_n E (lv' := [(3, .int v3), (2, .int v1), (0, .ref (ad 12)), (1, .int x1)]) dX12_goesUp_131 (by decide) rfl ?_
    refine g_iload_n E dX12_goesUp_132 0 rfl ?_
    refine g_iconst E (v := (-1)) dX12_goesUp_133 (by decide) ?_
    refine g_icmp_ne E 150 dX12_goesUp_134 (by decide) ?_ ?_
    · refine g_sub [2, 3, 1, 0] rfl ?_
      exact w_X12_goesUp_p150 E hap hN x1 v1 v3 s
    · refine g_aload_n E dX12_goesUp_137 2 rfl ?_
      refine g_aload_n E dX12_goesUp_138 2 rfl ?_
      refine gg_12_20 E (hN 12 (by decide)) dX12_goesUp_139 ?_
      refine g_iload_n E dX12_goesUp_142 1 rfl ?_
      refine g_iaload E (hN 31 (by decide)) (by decide) rfl dX12_goesUp_143 (fun v4 => ?_)
      refine g_iconst E (v := 1) dX12_goesUp_144 (by decide) ?_
      refine g_iadd E dX12_goesUp_145 ?_
      refine g_cVi E [.int (v4 + 1)] rfl (c_X12_firstOf hap hN ((v4 + 1)) s) (hN 12 (by decide)) (by decide) rfl rfl mi_X12_firstOf msl_X12_firstOf mw_X12_firstOf rfl ml_12_253 ⟨Nat.le_of_ble_eq_true rfl, Nat.le_of_ble_eq_true rfl⟩ (Nat.le_of_ble_eq_true rfl) dX12_goesUp_146 (fun r6 s5 => ?_)
      refine g_istore_n E (lv' := [(3, .int r6), (2, .int v1), (0, .ref (ad 12)), (1, .int x1)]) dX12_goesUp_149 (by decide) rfl ?_
      refine g_sub [2, 3, 1, 0] rfl ?_
      exact w_X12_goesUp_p150 E hap hN x1 v1 r6 s5
  · refine g_aload_n E dX12_goesUp_15 1 rfl ?_
    refine g_cVi E [] rfl (c_X12_spare hap hN  s) (hN 12 (by decide)) (by decide) rfl rfl mi_X12_spare msl_X12_spare mw_X12_spare rfl ml_12_192 ⟨Nat.le_of_ble_eq_true rfl, Nat.le_of_ble_eq_true rfl⟩ (Nat.le_of_ble_eq_true rfl) dX12_goesUp_16 (fun r8 s7 => ?_)
    refine g_istore_n E (lv' := [(3, .int r8), (2, .int v1), (0, .ref (ad 12)), (1, .int x1)]) dX12_goesUp_19 (by decide) rfl ?_
    refine g_aload_n E dX12_goesUp_20 2 rfl ?_
    refine g_iload_n E dX12_goesUp_21 0 rfl ?_
    refine g_cVv E [.int r8] rfl (c_X12_clears hap hN r8 s7) (hN 12 (by decide)) (by decide) rfl rfl mi_X12_clears msl_X12_clears mw_X12_clears rfl ml_12_156 ⟨Nat.le_of_ble_eq_true rfl, Nat.le_of_ble_eq_true rfl⟩ (Nat.le_of_ble_eq_true rfl) dX12_goesUp_22 (fun s9 => ?_)
    refine g_aload_n E dX12_goesUp_25 2 rfl ?_
    refine gg_12_17 E (hN 12 (by decide)) dX12_goesUp_26 ?_
    refine g_iload_n E dX12_goesUp_29 0 rfl ?_
    refine g_iconst E (v := 1) dX12_goesUp_30 (by decide) ?_
    refine g_bastore E (hN 30 (by decide)) (by decide) rfl dX12_goesUp_31 (fun s10 => ?_)
    refine g_aload_n E dX12_goesUp_32 2 rfl ?_
    refine gg_12_20 E (hN 12 (by decide)) dX12_goesUp_33 ?_
    refine g_iload_n E dX12_goesUp_36 0 rfl ?_
    refine g_aload_n E dX12_goesUp_37 2 rfl ?_
    refine gg_12_20 E (hN 12 (by decide)) dX12_goesUp_38 ?_
    refine g_iload_n E dX12_goesUp_41 1 rfl ?_
    refine g_iaload E (hN 31 (by decide)) (by decide) rfl dX12_goesUp_42 (fun v11 => ?_)
    refine g_iconst E (v := 1) dX12_goesUp_43 (by decide) ?_
    refine g_iadd E dX12_goesUp_44 ?_
    refine g_iastore E (hN 31 (by decide)) (by decide) rfl dX12_goesUp_45 (fun s12 => ?_)
    refine g_aload_n E dX12_goesUp_46 2 rfl ?_
    refine gg_12_23 E (hN 12 (by decide)) dX12_goesUp_47 ?_
    refine g_iload_n E dX12_goesUp_50 0 rfl ?_
    refine g_iconst E (v := 1) dX12_goesUp_51 (by decide) ?_
    refine g_iastore E (hN 32 (by decide)) (by decide) rfl dX12_goesUp_52 (fun s13 => ?_)
    refine g_aload_n E dX12_goesUp_53 2 rfl ?_
    refine gg_12_26 E (hN 12 (by decide)) dX12_goesUp_54 ?_
    refine g_bipush E (v := 14) dX12_goesUp_57 (by decide) ?_
    refine g_iload_n E dX12_goesUp_59 0 rfl ?_
    refine g_imul E dX12_goesUp_60 ?_
    refine g_aload_n E dX12_goesUp_61 2 rfl ?_
    refine gg_12_53 E (hN 12 (by decide)) dX12_goesUp_62 ?_
    refine g_iload_n E dX12_goesUp_65 3 rfl ?_
    refine g_iaload E (hN 42 (by decide)) (by decide) rfl dX12_goesUp_66 (fun v14 => ?_)
    refine g_iastore E (hN 33 (by decide)) (by decide) rfl dX12_goesUp_67 (fun s15 => ?_)
    refine g_aload_n E dX12_goesUp_68 2 rfl ?_
    refine gg_12_29 E (hN 12 (by decide)) dX12_goesUp_69 ?_
    refine g_bipush E (v := 14) dX12_goesUp_72 (by decide) ?_
    refine g_iload_n E dX12_goesUp_74 0 rfl ?_
    refine g_imul E dX12_goesUp_75 ?_
    refine g_iload_n E dX12_goesUp_76 1 rfl ?_
    refine g_iastore E (hN 34 (by decide)) (by decide) rfl dX12_goesUp_77 (fun s16 => ?_)
    refine g_aload_n E dX12_goesUp_78 2 rfl ?_
    refine gg_12_29 E (hN 12 (by decide)) dX12_goesUp_79 ?_
    refine g_bipush E (v := 14) dX12_goesUp_82 (by decide) ?_
    refine g_iload_n E dX12_goesUp_84 0 rfl ?_
    refine g_imul E dX12_goesUp_85 ?_
    refine g_iconst E (v := 1) dX12_goesUp_86 (by decide) ?_
    refine g_iadd E dX12_goesUp_87 ?_
    refine g_aload_n E dX12_goesUp_88 2 rfl ?_
    refine gg_12_56 E (hN 12 (by decide)) dX12_goesUp_89 ?_
    refine g_iload_n E dX12_goesUp_92 3 rfl ?_
    refine g_iaload E (hN 43 (by decide)) (by decide) rfl dX12_goesUp_93 (fun v17 => ?_)
    refine g_iastore E (hN 34 (by decide)) (by decide) rfl dX12_goesUp_94 (fun s18 => ?_)
    refine g_aload_n E dX12_goesUp_95 2 rfl ?_
    refine g_iload_n E dX12_goesUp_96 0 rfl ?_
    refine gp_12_202 E (hN 12 (by decide)) dX12_goesUp_97 (fun s19 => ?_)
    refine g_aload_n E dX12_goesUp_100 2 rfl ?_
    refine g_iload_n E dX12_goesUp_101 3 rfl ?_
    refine g_iload_n E dX12_goesUp_102 1 rfl ?_
    refine g_cVv E [.int x1, .int v1] rfl (c_X12_letsGo hap hN x1 v1 s19) (hN 12 (by decide)) (by decide) rfl rfl mi_X12_letsGo msl_X12_letsGo mw_X12_letsGo rfl ml_12_231 ⟨Nat.le_of_ble_eq_true rfl, Nat.le_of_ble_eq_true rfl⟩ (Nat.le_of_ble_eq_true rfl) dX12_goesUp_103 (fun s20 => ?_)
    refine g_aload_n E dX12_goesUp_106 2 rfl ?_
    refine g_iload_n E dX12_goesUp_107 3 rfl ?_
    refine g_iconst E (v := 1) dX12_goesUp_108 (by decide) ?_
    refine g_cVv E [.int x1, .int 1] rfl (c_X12_ends hap hN x1 1 s20) (hN 12 (by decide)) (by decide) rfl rfl mi_X12_ends msl_X12_ends mw_X12_ends rfl ml_12_217 ⟨Nat.le_of_ble_eq_true rfl, Nat.le_of_ble_eq_true rfl⟩ (Nat.le_of_ble_eq_true rfl) dX12_goesUp_109 (fun s21 => ?_)
    exact g_vret E dX12_goesUp_112
end

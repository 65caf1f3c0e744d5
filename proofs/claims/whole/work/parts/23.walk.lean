theorem dX12_firstOf_0 : decode cX12_firstOf 0 = .ok (.aload_n 0, 1) := by decide +kernel
theorem dX12_firstOf_1 : decode cX12_firstOf 1 = .ok (.getfield 202, 3) := by decide +kernel
theorem dX12_firstOf_4 : decode cX12_firstOf 4 = .ok (.istore_n 2, 1) := by decide +kernel
theorem dX12_firstOf_5 : decode cX12_firstOf 5 = .ok (.aload_n 0, 1) := by decide +kernel
theorem dX12_firstOf_6 : decode cX12_firstOf 6 = .ok (.getfield 20, 3) := by decide +kernel
theorem dX12_firstOf_9 : decode cX12_firstOf 9 = .ok (.iload_n 2, 1) := by decide +kernel
theorem dX12_firstOf_10 : decode cX12_firstOf 10 = .ok (.iaload, 1) := by decide +kernel
theorem dX12_firstOf_11 : decode cX12_firstOf 11 = .ok (.iload_n 1, 1) := by decide +kernel
theorem dX12_firstOf_12 : decode cX12_firstOf 12 = .ok (.if_icmp .le 16, 3) := by decide +kernel
theorem dX12_firstOf_15 : decode cX12_firstOf 15 = .ok (.aload_n 0, 1) := by decide +kernel
theorem dX12_firstOf_16 : decode cX12_firstOf 16 = .ok (.getfield 29, 3) := by decide +kernel
theorem dX12_firstOf_19 : decode cX12_firstOf 19 = .ok (.bipush 14, 2) := by decide +kernel
theorem dX12_firstOf_21 : decode cX12_firstOf 21 = .ok (.iload_n 2, 1) := by decide +kernel
theorem dX12_firstOf_22 : decode cX12_firstOf 22 = .ok (.imul, 1) := by decide +kernel
theorem dX12_firstOf_23 : decode cX12_firstOf 23 = .ok (.iaload, 1) := by decide +kernel
theorem dX12_firstOf_24 : decode cX12_firstOf 24 = .ok (.istore_n 2, 1) := by decide +kernel
theorem dX12_firstOf_25 : decode cX12_firstOf 25 = .ok (.goto (-20), 3) := by decide +kernel
theorem dX12_firstOf_28 : decode cX12_firstOf 28 = .ok (.aload_n 0, 1) := by decide +kernel
theorem dX12_firstOf_29 : decode cX12_firstOf 29 = .ok (.getfield 20, 3) := by decide +kernel
theorem dX12_firstOf_32 : decode cX12_firstOf 32 = .ok (.iload_n 2, 1) := by decide +kernel
theorem dX12_firstOf_33 : decode cX12_firstOf 33 = .ok (.iaload, 1) := by decide +kernel
theorem dX12_firstOf_34 : decode cX12_firstOf 34 = .ok (.iload_n 1, 1) := by decide +kernel
theorem dX12_firstOf_35 : decode cX12_firstOf 35 = .ok (.if_icmp .ne 7, 3) := by decide +kernel
theorem dX12_firstOf_38 : decode cX12_firstOf 38 = .ok (.iload_n 2, 1) := by decide +kernel
theorem dX12_firstOf_39 : decode cX12_firstOf 39 = .ok (.goto 4, 3) := by decide +kernel
theorem dX12_firstOf_42 : decode cX12_firstOf 42 = .ok (.iconst (-1), 1) := by decide +kernel
theorem dX12_firstOf_43 : decode cX12_firstOf 43 = .ok (.ireturn, 1) := by decide +kernel
def f_X12_firstOf_p5 (ln : Nat → Nat) : Nat → Int32 → Int32 → dr_S → Option (Int32 × dr_S)
  | 0, _, _, _ => none
  | n + 1, x1, x2, s => (dr_rd ln s 31 x2).bind (fun v2 => (if v2 ≤ x1 then (dr_rd ln s 31 x2).bind (fun v3 => (if v3 = x1 then some (x2, s) else some ((-1), s))) else (dr_rd ln s 34 (14 * x2)).bind (fun v4 => (f_X12_firstOf_p5 ln n x1 v4 s))))
def f_X12_firstOf (ln : Nat → Nat) (x1 : Int32) (s : dr_S) : Option (Int32 × dr_S) := dr_let (s.2 1205) (fun y1 => (f_X12_firstOf_p5 ln dr_N x1 y1 s))
section
variable {p : Program} {l : Launch} {e : Env} {s0 : State} {m : MethodId} {args : Array Value} {below : List Frame} {meth : Method} {c : Code} {A : Nat → Prop} {D : va_G} {cI cZ : ClassId} {ad ln : Nat → Nat} {L : List Nat}
set_option maxHeartbeats 4000000 in
set_option maxRecDepth 20000 in
theorem w_X12_firstOf_p5 (E : dr_E p (dr_rm 0) s0 m args meth c 0 0 A s0.heap D cI cZ ad L cX12_firstOf 3 RX12 (some .int)) (hap : dr_ap ad L) (hN : ∀ x ∈ nd_12, x ∈ L) : ∀ (n : Nat) (x1 : Int32) (x2 : Int32) (s : dr_S), dr_G p l e (dr_rm 0) s0 m args below meth c 0 0 A s0.heap D cI cZ ad ln L 3 (dr_Zi D cI cZ ad ln L A below args s0 0 0) 5 [(0, .ref (ad 12)), (1, .int x1), (2, .int x2)] [] s (f_X12_firstOf_p5 ln n x1 x2 s) := by
  intro n
  induction n with
  | zero =>
    intro x1 x2 s
    rw [f_X12_firstOf_p5]
    exact g_none
  | succ n hkb5 =>
    intro x1 x2 s
    rw [f_X12_firstOf_p5]
    refine g_aload_n E dX12_firstOf_5 0 rfl ?_
    refine gg_12_20 E (hN 12 (by decide)) dX12_firstOf_6 ?_
    refine g_iload_n E dX12_firstOf_9 2 rfl ?_
    refine g_iaload E (hN 31 (by decide)) (by decide) rfl dX12_firstOf_10 (fun v2 => ?_)
    refine g_iload_n E dX12_firstOf_11 1 rfl ?_
    refine g_icmp_le E 28 dX12_firstOf_12 (by decide) ?_ ?_
    · refine g_aload_n E dX12_firstOf_28 0 rfl ?_
      refine gg_12_20 E (hN 12 (by decide)) dX12_firstOf_29 ?_
      refine g_iload_n E dX12_firstOf_32 2 rfl ?_
      refine g_iaload E (hN 31 (by decide)) (by decide) rfl dX12_firstOf_33 (fun v3 => ?_)
      refine g_iload_n E dX12_firstOf_34 1 rfl ?_
      refine g_icmp_ne E 42 dX12_firstOf_35 (by decide) ?_ ?_
      · refine g_iconst E (v := (-1)) dX12_firstOf_42 (by decide) ?_
        exact g_iret E dX12_firstOf_43
      · refine g_iload_n E dX12_firstOf_38 2 rfl ?_
        refine g_goto E 43 dX12_firstOf_39 (by decide) ?_
        exact g_iret E dX12_firstOf_43
    · refine g_aload_n E dX12_firstOf_15 0 rfl ?_
      refine gg_12_29 E (hN 12 (by decide)) dX12_firstOf_16 ?_
      refine g_bipush E (v := 14) dX12_firstOf_19 (by decide) ?_
      refine g_iload_n E dX12_firstOf_21 2 rfl ?_
      refine g_imul E dX12_firstOf_22 ?_
      refine g_iaload E (hN 34 (by decide)) (by decide) rfl dX12_firstOf_23 (fun v4 => ?_)
      refine g_istore_n E (lv' := [(2, .int v4), (0, .ref (ad 12)), (1, .int x1)]) dX12_firstOf_24 (by decide) rfl ?_
      refine g_goto E 5 dX12_firstOf_25 (by decide) ?_
      refine g_sub [1, 2, 0] rfl ?_
      exact hkb5 x1 v4 s
set_option maxHeartbeats 4000000 in
set_option maxRecDepth 20000 in
theorem c_X12_firstOf (hap : dr_ap ad L) (hN : ∀ x ∈ nd_12, x ∈ L) (x1 : Int32) (s : dr_S) : dr_Mi l D cI cZ ad ln L yX12_firstOf cX12_firstOf 3 (some .int) 0 [.ref (ad 12), .int x1] s (f_X12_firstOf ln x1 s) := by
  refine dr_meti (own := RX12) (by decide) rfl (Nat.le_of_ble_eq_true rfl) hap ?_
  intro p e s0 m args below meth c A E
  unfold f_X12_firstOf
  refine g_eqL (lv' := [(0, .ref (ad 12)), (1, .int x1)]) rfl ?_
  refine g_aload_n E dX12_firstOf_0 0 rfl ?_
  refine gg_12_202 E (hN 12 (by decide)) dX12_firstOf_1 ?_
  refine g_let (fun y1 => ?_)
  refine g_istore_n E (lv' := [(2, .int y1), (0, .ref (ad 12)), (1, .int x1)]) dX12_firstOf_4 (by decide) rfl ?_
  refine g_sub [1, 2, 0] rfl ?_
  exact w_X12_firstOf_p5 E hap hN dr_N x1 y1 s
end

theorem dX12_goesUp_0 : decode cX12_goesUp 0 = .ok (.aload_n 0, 1) := by decide +kernel
theorem dX12_goesUp_1 : decode cX12_goesUp 1 = .ok (.getfield 47, 3) := by decide +kernel
theorem dX12_goesUp_4 : decode cX12_goesUp 4 = .ok (.iload_n 1, 1) := by decide +kernel
theorem dX12_goesUp_5 : decode cX12_goesUp 5 = .ok (.iaload, 1) := by decide +kernel
theorem dX12_goesUp_6 : decode cX12_goesUp 6 = .ok (.istore_n 2, 1) := by decide +kernel
theorem dX12_goesUp_7 : decode cX12_goesUp 7 = .ok (.iload_n 2, 1) := by decide +kernel
theorem dX12_goesUp_8 : decode cX12_goesUp 8 = .ok (.aload_n 0, 1) := by decide +kernel
theorem dX12_goesUp_9 : decode cX12_goesUp 9 = .ok (.getfield 202, 3) := by decide +kernel
theorem dX12_goesUp_12 : decode cX12_goesUp 12 = .ok (.if_icmp .ne 101, 3) := by decide +kernel
theorem dX12_goesUp_15 : decode cX12_goesUp 15 = .ok (.aload_n 0, 1) := by decide +kernel
theorem dX12_goesUp_16 : decode cX12_goesUp 16 = .ok (.invokevirtual 192, 3) := by decide +kernel
theorem dX12_goesUp_19 : decode cX12_goesUp 19 = .ok (.istore_n 3, 1) := by decide +kernel
theorem dX12_goesUp_20 : decode cX12_goesUp 20 = .ok (.aload_n 0, 1) := by decide +kernel
theorem dX12_goesUp_21 : decode cX12_goesUp 21 = .ok (.iload_n 3, 1) := by decide +kernel
theorem dX12_goesUp_22 : decode cX12_goesUp 22 = .ok (.invokevirtual 156, 3) := by decide +kernel
theorem dX12_goesUp_25 : decode cX12_goesUp 25 = .ok (.aload_n 0, 1) := by decide +kernel
theorem dX12_goesUp_26 : decode cX12_goesUp 26 = .ok (.getfield 17, 3) := by decide +kernel
theorem dX12_goesUp_29 : decode cX12_goesUp 29 = .ok (.iload_n 3, 1) := by decide +kernel
theorem dX12_goesUp_30 : decode cX12_goesUp 30 = .ok (.iconst 1, 1) := by decide +kernel
theorem dX12_goesUp_31 : decode cX12_goesUp 31 = .ok (.bastore, 1) := by decide +kernel
theorem dX12_goesUp_32 : decode cX12_goesUp 32 = .ok (.aload_n 0, 1) := by decide +kernel
theorem dX12_goesUp_33 : decode cX12_goesUp 33 = .ok (.getfield 20, 3) := by decide +kernel
theorem dX12_goesUp_36 : decode cX12_goesUp 36 = .ok (.iload_n 3, 1) := by decide +kernel
theorem dX12_goesUp_37 : decode cX12_goesUp 37 = .ok (.aload_n 0, 1) := by decide +kernel
theorem dX12_goesUp_38 : decode cX12_goesUp 38 = .ok (.getfield 20, 3) := by decide +kernel
theorem dX12_goesUp_41 : decode cX12_goesUp 41 = .ok (.iload_n 2, 1) := by decide +kernel
theorem dX12_goesUp_42 : decode cX12_goesUp 42 = .ok (.iaload, 1) := by decide +kernel
theorem dX12_goesUp_43 : decode cX12_goesUp 43 = .ok (.iconst 1, 1) := by decide +kernel
theorem dX12_goesUp_44 : decode cX12_goesUp 44 = .ok (.iadd, 1) := by decide +kernel
theorem dX12_goesUp_45 : decode cX12_goesUp 45 = .ok (.iastore, 1) := by decide +kernel
theorem dX12_goesUp_46 : decode cX12_goesUp 46 = .ok (.aload_n 0, 1) := by decide +kernel
theorem dX12_goesUp_47 : decode cX12_goesUp 47 = .ok (.getfield 23, 3) := by decide +kernel
theorem dX12_goesUp_50 : decode cX12_goesUp 50 = .ok (.iload_n 3, 1) := by decide +kernel
theorem dX12_goesUp_51 : decode cX12_goesUp 51 = .ok (.iconst 1, 1) := by decide +kernel
theorem dX12_goesUp_52 : decode cX12_goesUp 52 = .ok (.iastore, 1) := by decide +kernel
theorem dX12_goesUp_53 : decode cX12_goesUp 53 = .ok (.aload_n 0, 1) := by decide +kernel
theorem dX12_goesUp_54 : decode cX12_goesUp 54 = .ok (.getfield 26, 3) := by decide +kernel
theorem dX12_goesUp_57 : decode cX12_goesUp 57 = .ok (.bipush 14, 2) := by decide +kernel
theorem dX12_goesUp_59 : decode cX12_goesUp 59 = .ok (.iload_n 3, 1) := by decide +kernel
theorem dX12_goesUp_60 : decode cX12_goesUp 60 = .ok (.imul, 1) := by decide +kernel
theorem dX12_goesUp_61 : decode cX12_goesUp 61 = .ok (.aload_n 0, 1) := by decide +kernel
theorem dX12_goesUp_62 : decode cX12_goesUp 62 = .ok (.getfield 53, 3) := by decide +kernel
theorem dX12_goesUp_65 : decode cX12_goesUp 65 = .ok (.iload_n 1, 1) := by decide +kernel
theorem dX12_goesUp_66 : decode cX12_goesUp 66 = .ok (.iaload, 1) := by decide +kernel
theorem dX12_goesUp_67 : decode cX12_goesUp 67 = .ok (.iastore, 1) := by decide +kernel
theorem dX12_goesUp_68 : decode cX12_goesUp 68 = .ok (.aload_n 0, 1) := by decide +kernel
theorem dX12_goesUp_69 : decode cX12_goesUp 69 = .ok (.getfield 29, 3) := by decide +kernel
theorem dX12_goesUp_72 : decode cX12_goesUp 72 = .ok (.bipush 14, 2) := by decide +kernel
theorem dX12_goesUp_74 : decode cX12_goesUp 74 = .ok (.iload_n 3, 1) := by decide +kernel
theorem dX12_goesUp_75 : decode cX12_goesUp 75 = .ok (.imul, 1) := by decide +kernel
theorem dX12_goesUp_76 : decode cX12_goesUp 76 = .ok (.iload_n 2, 1) := by decide +kernel
theorem dX12_goesUp_77 : decode cX12_goesUp 77 = .ok (.iastore, 1) := by decide +kernel
theorem dX12_goesUp_78 : decode cX12_goesUp 78 = .ok (.aload_n 0, 1) := by decide +kernel
theorem dX12_goesUp_79 : decode cX12_goesUp 79 = .ok (.getfield 29, 3) := by decide +kernel
theorem dX12_goesUp_82 : decode cX12_goesUp 82 = .ok (.bipush 14, 2) := by decide +kernel
theorem dX12_goesUp_84 : decode cX12_goesUp 84 = .ok (.iload_n 3, 1) := by decide +kernel
theorem dX12_goesUp_85 : decode cX12_goesUp 85 = .ok (.imul, 1) := by decide +kernel
theorem dX12_goesUp_86 : decode cX12_goesUp 86 = .ok (.iconst 1, 1) := by decide +kernel
theorem dX12_goesUp_87 : decode cX12_goesUp 87 = .ok (.iadd, 1) := by decide +kernel
theorem dX12_goesUp_88 : decode cX12_goesUp 88 = .ok (.aload_n 0, 1) := by decide +kernel
theorem dX12_goesUp_89 : decode cX12_goesUp 89 = .ok (.getfield 56, 3) := by decide +kernel
theorem dX12_goesUp_92 : decode cX12_goesUp 92 = .ok (.iload_n 1, 1) := by decide +kernel
theorem dX12_goesUp_93 : decode cX12_goesUp 93 = .ok (.iaload, 1) := by decide +kernel
theorem dX12_goesUp_94 : decode cX12_goesUp 94 = .ok (.iastore, 1) := by decide +kernel
theorem dX12_goesUp_95 : decode cX12_goesUp 95 = .ok (.aload_n 0, 1) := by decide +kernel
theorem dX12_goesUp_96 : decode cX12_goesUp 96 = .ok (.iload_n 3, 1) := by decide +kernel
theorem dX12_goesUp_97 : decode cX12_goesUp 97 = .ok (.putfield 202, 3) := by decide +kernel
theorem dX12_goesUp_100 : decode cX12_goesUp 100 = .ok (.aload_n 0, 1) := by decide +kernel
theorem dX12_goesUp_101 : decode cX12_goesUp 101 = .ok (.iload_n 1, 1) := by decide +kernel
theorem dX12_goesUp_102 : decode cX12_goesUp 102 = .ok (.iload_n 2, 1) := by decide +kernel
theorem dX12_goesUp_103 : decode cX12_goesUp 103 = .ok (.invokevirtual 231, 3) := by decide +kernel
theorem dX12_goesUp_106 : decode cX12_goesUp 106 = .ok (.aload_n 0, 1) := by decide +kernel
theorem dX12_goesUp_107 : decode cX12_goesUp 107 = .ok (.iload_n 1, 1) := by decide +kernel
theorem dX12_goesUp_108 : decode cX12_goesUp 108 = .ok (.iconst 1, 1) := by decide +kernel
theorem dX12_goesUp_109 : decode cX12_goesUp 109 = .ok (.invokevirtual 217, 3) := by decide +kernel
theorem dX12_goesUp_112 : decode cX12_goesUp 112 = .ok (.return_, 1) := by decide +kernel
theorem dX12_goesUp_113 : decode cX12_goesUp 113 = .ok (.aload_n 0, 1) := by decide +kernel
theorem dX12_goesUp_114 : decode cX12_goesUp 114 = .ok (.getfield 59, 3) := by decide +kernel
theorem dX12_goesUp_117 : decode cX12_goesUp 117 = .ok (.bipush 64, 2) := by decide +kernel
theorem dX12_goesUp_119 : decode cX12_goesUp 119 = .ok (.iload_n 1, 1) := by decide +kernel
theorem dX12_goesUp_120 : decode cX12_goesUp 120 = .ok (.imul, 1) := by decide +kernel
theorem dX12_goesUp_121 : decode cX12_goesUp 121 = .ok (.aload_n 0, 1) := by decide +kernel
theorem dX12_goesUp_122 : decode cX12_goesUp 122 = .ok (.getfield 20, 3) := by decide +kernel
theorem dX12_goesUp_125 : decode cX12_goesUp 125 = .ok (.iload_n 2, 1) := by decide +kernel
theorem dX12_goesUp_126 : decode cX12_goesUp 126 = .ok (.iaload, 1) := by decide +kernel
theorem dX12_goesUp_127 : decode cX12_goesUp 127 = .ok (.iadd, 1) := by decide +kernel
theorem dX12_goesUp_128 : decode cX12_goesUp 128 = .ok (.iconst 1, 1) := by decide +kernel
theorem dX12_goesUp_129 : decode cX12_goesUp 129 = .ok (.iadd, 1) := by decide +kernel
theorem dX12_goesUp_130 : decode cX12_goesUp 130 = .ok (.iaload, 1) := by decide +kernel
theorem dX12_goesUp_131 : decode cX12_goesUp 131 = .ok (.istore_n 3, 1) := by decide +kernel
theorem dX12_goesUp_132 : decode cX12_goesUp 132 = .ok (.iload_n 3, 1) := by decide +kernel
theorem dX12_goesUp_133 : decode cX12_goesUp 133 = .ok (.iconst (-1), 1) := by decide +kernel
theorem dX12_goesUp_134 : decode cX12_goesUp 134 = .ok (.if_icmp .ne 16, 3) := by decide +kernel
theorem dX12_goesUp_137 : decode cX12_goesUp 137 = .ok (.aload_n 0, 1) := by decide +kernel
theorem dX12_goesUp_138 : decode cX12_goesUp 138 = .ok (.aload_n 0, 1) := by decide +kernel
theorem dX12_goesUp_139 : decode cX12_goesUp 139 = .ok (.getfield 20, 3) := by decide +kernel
theorem dX12_goesUp_142 : decode cX12_goesUp 142 = .ok (.iload_n 2, 1) := by decide +kernel
theorem dX12_goesUp_143 : decode cX12_goesUp 143 = .ok (.iaload, 1) := by decide +kernel
theorem dX12_goesUp_144 : decode cX12_goesUp 144 = .ok (.iconst 1, 1) := by decide +kernel
theorem dX12_goesUp_145 : decode cX12_goesUp 145 = .ok (.iadd, 1) := by decide +kernel
theorem dX12_goesUp_146 : decode cX12_goesUp 146 = .ok (.invokevirtual 253, 3) := by decide +kernel
theorem dX12_goesUp_149 : decode cX12_goesUp 149 = .ok (.istore_n 3, 1) := by decide +kernel
theorem dX12_goesUp_150 : decode cX12_goesUp 150 = .ok (.iload_n 3, 1) := by decide +kernel
theorem dX12_goesUp_151 : decode cX12_goesUp 151 = .ok (.iconst (-1), 1) := by decide +kernel
theorem dX12_goesUp_152 : decode cX12_goesUp 152 = .ok (.if_icmp .eq 12, 3) := by decide +kernel
theorem dX12_goesUp_155 : decode cX12_goesUp 155 = .ok (.aload_n 0, 1) := by decide +kernel
theorem dX12_goesUp_156 : decode cX12_goesUp 156 = .ok (.iload_n 1, 1) := by decide +kernel
theorem dX12_goesUp_157 : decode cX12_goesUp 157 = .ok (.iload_n 3, 1) := by decide +kernel
theorem dX12_goesUp_158 : decode cX12_goesUp 158 = .ok (.invokevirtual 221, 3) := by decide +kernel
theorem dX12_goesUp_161 : decode cX12_goesUp 161 = .ok (.ifCond .eq 4, 3) := by decide +kernel
theorem dX12_goesUp_164 : decode cX12_goesUp 164 = .ok (.return_, 1) := by decide +kernel
theorem dX12_goesUp_165 : decode cX12_goesUp 165 = .ok (.aload_n 0, 1) := by decide +kernel
theorem dX12_goesUp_166 : decode cX12_goesUp 166 = .ok (.iload_n 1, 1) := by decide +kernel
theorem dX12_goesUp_167 : decode cX12_goesUp 167 = .ok (.iload_n 3, 1) := by decide +kernel
theorem dX12_goesUp_168 : decode cX12_goesUp 168 = .ok (.invokevirtual 224, 3) := by decide +kernel
theorem dX12_goesUp_171 : decode cX12_goesUp 171 = .ok (.aload_n 0, 1) := by decide +kernel
theorem dX12_goesUp_172 : decode cX12_goesUp 172 = .ok (.iload_n 1, 1) := by decide +kernel
theorem dX12_goesUp_173 : decode cX12_goesUp 173 = .ok (.iload_n 2, 1) := by decide +kernel
theorem dX12_goesUp_174 : decode cX12_goesUp 174 = .ok (.invokevirtual 231, 3) := by decide +kernel
theorem dX12_goesUp_177 : decode cX12_goesUp 177 = .ok (.aload_n 0, 1) := by decide +kernel
theorem dX12_goesUp_178 : decode cX12_goesUp 178 = .ok (.getfield 47, 3) := by decide +kernel
theorem dX12_goesUp_181 : decode cX12_goesUp 181 = .ok (.iload_n 1, 1) := by decide +kernel
theorem dX12_goesUp_182 : decode cX12_goesUp 182 = .ok (.iload_n 3, 1) := by decide +kernel
theorem dX12_goesUp_183 : decode cX12_goesUp 183 = .ok (.iastore, 1) := by decide +kernel
theorem dX12_goesUp_184 : decode cX12_goesUp 184 = .ok (.aload_n 0, 1) := by decide +kernel
theorem dX12_goesUp_185 : decode cX12_goesUp 185 = .ok (.getfield 44, 3) := by decide +kernel
theorem dX12_goesUp_188 : decode cX12_goesUp 188 = .ok (.iload_n 1, 1) := by decide +kernel
theorem dX12_goesUp_189 : decode cX12_goesUp 189 = .ok (.iconst 2, 1) := by decide +kernel
theorem dX12_goesUp_190 : decode cX12_goesUp 190 = .ok (.iastore, 1) := by decide +kernel
theorem dX12_goesUp_191 : decode cX12_goesUp 191 = .ok (.return_, 1) := by decide +kernel
def f_X12_goesUp_p150 (ln : Nat → Nat) (x1 : Int32) (x2 : Int32) (x3 : Int32) (s : dr_S) : Option (Int32 × dr_S) := (if x3 = (-1) then some (0, s) else dr_bnd (f_X12_isOthers ln x1 x3 s) (fun r23 s22 => (if r23 = 0 then dr_bndv (f_X12_latches ln x1 x3 s22) (fun s24 => dr_bndv (f_X12_letsGo ln x1 x2 s24) (fun s25 => (dr_wr ln s25 40 x1 x3).bind (fun s26 => (dr_wr ln s26 39 x1 2).bind (fun s27 => some (0, s27))))) else some (0, s22))))
def f_X12_goesUp (ln : Nat → Nat) (x1 : Int32) (s : dr_S) : Option (Int32 × dr_S) := (dr_rd ln s 40 x1).bind (fun v1 => (if v1 = (s.2 1205) then dr_bnd (f_X12_spare ln  s) (fun r8 s7 => dr_bndv (f_X12_clears ln r8 s7) (fun s9 => (dr_wz ln s9 30 r8 1).bind (fun s10 => (dr_rd ln s10 31 v1).bind (fun v11 => (dr_wr ln s10 31 r8 (v11 + 1)).bind (fun s12 => (dr_wr ln s12 32 r8 1).bind (fun s13 => (dr_rd ln s13 42 x1).bind (fun v14 => (dr_wr ln s13 33 (14 * r8) v14).bind (fun s15 => (dr_wr ln s15 34 (14 * r8) v1).bind (fun s16 => (dr_rd ln s16 43 x1).bind (fun v17 => (dr_wr ln s16 34 ((14 * r8) + 1) v17).bind (fun s18 => dr_letS (dr_pf s18 1205 r8) (fun s19 => dr_bndv (f_X12_letsGo ln x1 v1 s19) (fun s20 => dr_bndv (f_X12_ends ln x1 1 s20) (fun s21 => some (0, s21))))))))))))))) else (dr_rd ln s 31 v1).bind (fun v2 => (dr_rd ln s 44 (((64 * x1) + v2) + 1)).bind (fun v3 => (if v3 = (-1) then (dr_rd ln s 31 v1).bind (fun v4 => dr_bnd (f_X12_firstOf ln ((v4 + 1)) s) (fun r6 s5 => (f_X12_goesUp_p150 ln x1 v1 r6 s5))) else (f_X12_goesUp_p150 ln x1 v1 v3 s))))))
section
variable {p : Program} {l : Launch} {e : Env} {s0 : State} {m : MethodId} {args : Array Value} {below : List Frame} {meth : Method} {c : Code} {A : Nat → Prop} {D : va_G} {cI cZ : ClassId} {ad ln : Nat → Nat} {L : List Nat}
set_option maxHeartbeats 4000000 in
set_option maxRecDepth 20000 in
theorem w_X12_goesUp_p150 (E : dr_E p (dr_rm 1) s0 m args meth c 0 0 A s0.heap D cI cZ ad L cX12_goesUp 4 RX12 none) (hap : dr_ap ad L) (hN : ∀ x ∈ nd_12, x ∈ L) : ∀ (x1 : Int32) (x2 : Int32) (x3 : Int32) (s : dr_S), dr_G p l e (dr_rm 1) s0 m args below meth c 0 0 A s0.heap D cI cZ ad ln L 4 (dr_Zv D cI cZ ad ln L A below args s0 0 0) 150 [(0, .ref (ad 12)), (1, .int x1), (2, .int x2), (3, .int x3)] [] s (f_X12_goesUp_p150 ln x1 x2 x3 s) := by
  intro x1 x2 x3 s
  unfold f_X12_goesUp_p150
  refine g_iload_n E dX12_goesUp_150 3 rfl ?_
  refine g_iconst E (v := (-1)) dX12_goesUp_151 (by decide) ?_
  refine g_icmp_eq E 164 dX12_goesUp_152 (by decide) ?_ ?_
  · exact g_vret E dX12_goesUp_164
  · refine g_aload_n E dX12_goesUp_155 0 rfl ?_
    refine g_iload_n E dX12_goesUp_156 1 rfl ?_
    refine g_iload_n E dX12_goesUp_157 3 rfl ?_
    refine g_cVi E [.int x1, .int x3] rfl (c_X12_isOthers hap hN x1 x3 s) (hN 12 (by decide)) (by decide) rfl rfl mi_X12_isOthers msl_X12_isOthers mw_X12_isOthers rfl ml_12_221 ⟨Nat.le_of_ble_eq_true rfl, Nat.le_of_ble_eq_true rfl⟩ (Nat.le_of_ble_eq_true rfl) dX12_goesUp_158 (fun r23 s22 => ?_)
    refine g_if_eq E 165 dX12_goesUp_161 (by decide) ?_ ?_
    · refine g_aload_n E dX12_goesUp_165 0 rfl ?_
      refine g_iload_n E dX12_goesUp_166 1 rfl ?_
      refine g_iload_n E dX12_goesUp_167 3 rfl ?_
      refine g_cVv E [.int x1, .int x3] rfl (c_X12_latches hap hN x1 x3 s22) (hN 12 (by decide)) (by decide) rfl rfl mi_X12_latches msl_X12_latches mw_X12_latches rfl ml_12_224 ⟨Nat.le_of_ble_eq_true rfl, Nat.le_of_ble_eq_true rfl⟩ (Nat.le_of_ble_eq_true rfl) dX12_goesUp_168 (fun s24 => ?_)
      refine g_aload_n E dX12_goesUp_171 0 rfl ?_
      refine g_iload_n E dX12_goesUp_172 1 rfl ?_
      refine g_iload_n E dX12_goesUp_173 2 rfl ?_
      refine g_cVv E [.int x1, .int x2] rfl (c_X12_letsGo hap hN x1 x2 s24) (hN 12 (by decide)) (by decide) rfl rfl mi_X12_letsGo msl_X12_letsGo mw_X12_letsGo rfl ml_12_231 ⟨Nat.le_of_ble_eq_true rfl, Nat.le_of_ble_eq_true rfl⟩ (Nat.le_of_ble_eq_true rfl) dX12_goesUp_174 (fun s25 => ?_)
      refine g_aload_n E dX12_goesUp_177 0 rfl ?_
      refine gg_12_47 E (hN 12 (by decide)) dX12_goesUp_178 ?_
      refine g_iload_n E dX12_goesUp_181 1 rfl ?_
      refine g_iload_n E dX12_goesUp_182 3 rfl ?_
      refine g_iastore E (hN 40 (by decide)) (by decide) rfl dX12_goesUp_183 (fun s26 => ?_)
      refine g_aload_n E dX12_goesUp_184 0 rfl ?_
      refine gg_12_44 E (hN 12 (by decide)) dX12_goesUp_185 ?_
      refine g_iload_n E dX12_goesUp_188 1 rfl ?_
      refine g_iconst E (v := 2) dX12_goesUp_189 (by decide) ?_
      refine g_iastore E (hN 39 (by decide)) (by decide) rfl dX12_goesUp_190 (fun s27 => ?_)
      exact g_vret E dX12_goesUp_191
    · exact g_vret E dX12_goesUp_164
set_option maxHeartbeats 4000000 in
set_option maxRecDepth 20000 in
theorem c_X12_goesUp (hap : dr_ap ad L) (hN : ∀ x ∈ nd_12, x ∈ L) (x1 : Int32) (s : dr_S) : dr_Mv l D cI cZ ad ln L yX12_goesUp cX12_goesUp 4 1 [.ref (ad 12), .int x1] s (f_X12_goesUp ln x1 s) := by
  refine dr_metv (own := RX12) (by decide) rfl (Nat.le_of_ble_eq_true rfl) hap ?_
  intro p e s0 m args below meth c A E
  unfold f_X12_goesUp
  refine g_eqL (lv' := [(0, .ref (ad 12)), (1, .int x1)]) rfl ?_
  refine g_aload_n E dX12_goesUp_0 0 rfl ?_
  refine gg_12_47 E (hN 12 (by decide)) dX12_goesUp_1 ?_
  refine g_iload_n E dX12_goesUp_4 1 rfl ?_
  refine g_iaload E (hN 40 (by decide)) (by decide) rfl dX12_goesUp_5 (fun v1 => ?_)
  refine g_istore_n E (lv' := [(2, .int v1), (0, .ref (ad 12)), (1, .int x1)]) dX12_goesUp_6 (by decide) rfl ?_
  refine g_iload_n E dX12_goesUp_7 0 rfl ?_
  refine g_aload_n E dX12_goesUp_8 1 rfl ?_
  refine gg_12_202 E (hN 12 (by decide)) dX12_goesUp_9 ?_
  refine g_icmp_ne E 113 dX12_goesUp_12 (by decide) ?_ ?_
  · refine g_aload_n E dX12_goesUp_113 1 rfl ?_
    refine gg_12_59 E (hN 12 (by decide)) dX12_goesUp_114 ?_
    refine g_bipush E (v := 64) dX12_goesUp_117 (by decide) ?_
    refine g_iload_n E dX12_goesUp_119 2 rfl ?_
    refine g_imul E dX12_goesUp_120 ?_
    refine g_aload_n E dX12_goesUp_121 1 rfl ?_
    refine gg_12_20 E (hN 12 (by decide)) dX12_goesUp_122 ?_
    refine g_iload_n E dX12_goesUp_125 0 rfl ?_
    refine g_iaload E (hN 31 (by decide)) (by decide) rfl dX12_goesUp_126 (fun v2 => ?_)
    refine g_iadd E dX12_goesUp_127 ?_
    refine g_iconst E (v := 1) dX12_goesUp_128 (by decide) ?_
    refine g_iadd E dX12_goesUp_129 ?_
    refine g_iaload E (hN 44 (by decide)) (by decide) rfl dX12_goesUp_130 (fun v3 => ?_)
    refine g_istore_n E (lv' := [(3, .int v3), (2, .int v1), (0, .ref (ad 12)), (1, .int x1)]) dX12_goesUp_131 (by decide) rfl ?_
    refine g_iload_n E dX12_goesUp_132 0 rfl ?_
    refine g_iconst E (v := (-1)) dX12_goesUp_133 (by decide) ?_
    refine g_icmp_ne E 150 dX12_goesUp_134 (by decide) ?_ ?_
    · refine g_sub [2, 3, 1, 0] rfl ?_
      exact w_X12_goesUp_p150 E hap hN x1 v1 v3 s
    · refine g_aload_n E dX12_goesUp_137 2 rfl ?_
      refine g_aload_n E dX12_goesUp_138 2 rfl ?_
      refine gg_12_20 E (hN 12 (by decide)) dX12_goesUp_139 ?_
      refine g_iload_n E dX12_goesUp_142 1 rfl ?_
      refine g_iaload E (hN 31 (by decide)) (by decide) rfl dX12_goesUp_143 (fun v4 => ?_)
      refine g_iconst E (v := 1) dX12_goesUp_144 (by decide) ?_
      refine g_iadd E dX12_goesUp_145 ?_
      refine g_cVi E [.int (v4 + 1)] rfl (c_X12_firstOf hap hN ((v4 + 1)) s) (hN 12 (by decide)) (by decide) rfl rfl mi_X12_firstOf msl_X12_firstOf mw_X12_firstOf rfl ml_12_253 ⟨Nat.le_of_ble_eq_true rfl, Nat.le_of_ble_eq_true rfl⟩ (Nat.le_of_ble_eq_true rfl) dX12_goesUp_146 (fun r6 s5 => ?_)
      refine g_istore_n E (lv' := [(3, .int r6), (2, .int v1), (0, .ref (ad 12)), (1, .int x1)]) dX12_goesUp_149 (by decide) rfl ?_
      refine g_sub [2, 3, 1, 0] rfl ?_
      exact w_X12_goesUp_p150 E hap hN x1 v1 r6 s5
  · refine g_aload_n E dX12_goesUp_15 1 rfl ?_
    refine g_cVi E [] rfl (c_X12_spare hap hN  s) (hN 12 (by decide)) (by decide) rfl rfl mi_X12_spare msl_X12_spare mw_X12_spare rfl ml_12_192 ⟨Nat.le_of_ble_eq_true rfl, Nat.le_of_ble_eq_true rfl⟩ (Nat.le_of_ble_eq_true rfl) dX12_goesUp_16 (fun r8 s7 => ?_)
    refine g_istore_n E (lv' := [(3, .int r8), (2, .int v1), (0, .ref (ad 12)), (1, .int x1)]) dX12_goesUp_19 (by decide) rfl ?_
    refine g_aload_n E dX12_goesUp_20 2 rfl ?_
    refine g_iload_n E dX12_goesUp_21 0 rfl ?_
    refine g_cVv E [.int r8] rfl (c_X12_clears hap hN r8 s7) (hN 12 (by decide)) (by decide) rfl rfl mi_X12_clears msl_X12_clears mw_X12_clears rfl ml_12_156 ⟨Nat.le_of_ble_eq_true rfl, Nat.le_of_ble_eq_true rfl⟩ (Nat.le_of_ble_eq_true rfl) dX12_goesUp_22 (fun s9 => ?_)
    refine g_aload_n E dX12_goesUp_25 2 rfl ?_
    refine gg_12_17 E (hN 12 (by decide)) dX12_goesUp_26 ?_
    refine g_iload_n E dX12_goesUp_29 0 rfl ?_
    refine g_iconst E (v := 1) dX12_goesUp_30 (by decide) ?_
    refine g_bastore E (hN 30 (by decide)) (by decide) rfl dX12_goesUp_31 (fun s10 => ?_)
    refine g_aload_n E dX12_goesUp_32 2 rfl ?_
    refine gg_12_20 E (hN 12 (by decide)) dX12_goesUp_33 ?_
    refine g_iload_n E dX12_goesUp_36 0 rfl ?_
    refine g_aload_n E dX12_goesUp_37 2 rfl ?_
    refine gg_12_20 E (hN 12 (by decide)) dX12_goesUp_38 ?_
    refine g_iload_n E dX12_goesUp_41 1 rfl ?_
    refine g_iaload E (hN 31 (by decide)) (by decide) rfl dX12_goesUp_42 (fun v11 => ?_)
    refine g_iconst E (v := 1) dX12_goesUp_43 (by decide) ?_
    refine g_iadd E dX12_goesUp_44 ?_
    refine g_iastore E (hN 31 (by decide)) (by decide) rfl dX12_goesUp_45 (fun s12 => ?_)
    refine g_aload_n E dX12_goesUp_46 2 rfl ?_
    refine gg_12_23 E (hN 12 (by decide)) dX12_goesUp_47 ?_
    refine g_iload_n E dX12_goesUp_50 0 rfl ?_
    refine g_iconst E (v := 1) dX12_goesUp_51 (by decide) ?_
    refine g_iastore E (hN 32 (by decide)) (by decide) rfl dX12_goesUp_52 (fun s13 => ?_)
    refine g_aload_n E dX12_goesUp_53 2 rfl ?_
    refine gg_12_26 E (hN 12 (by decide)) dX12_goesUp_54 ?_
    refine g_bipush E (v := 14) dX12_goesUp_57 (by decide) ?_
    refine g_iload_n E dX12_goesUp_59 0 rfl ?_
    refine g_imul E dX12_goesUp_60 ?_
    refine g_aload_n E dX12_goesUp_61 2 rfl ?_
    refine gg_12_53 E (hN 12 (by decide)) dX12_goesUp_62 ?_
    refine g_iload_n E dX12_goesUp_65 3 rfl ?_
    refine g_iaload E (hN 42 (by decide)) (by decide) rfl dX12_goesUp_66 (fun v14 => ?_)
    refine g_iastore E (hN 33 (by decide)) (by decide) rfl dX12_goesUp_67 (fun s15 => ?_)
    refine g_aload_n E dX12_goesUp_68 2 rfl ?_
    refine gg_12_29 E (hN 12 (by decide)) dX12_goesUp_69 ?_
    refine g_bipush E (v := 14) dX12_goesUp_72 (by decide) ?_
    refine g_iload_n E dX12_goesUp_74 0 rfl ?_
    refine g_imul E dX12_goesUp_75 ?_
    refine g_iload_n E dX12_goesUp_76 1 rfl ?_
    refine g_iastore E (hN 34 (by decide)) (by decide) rfl dX12_goesUp_77 (fun s16 => ?_)
    refine g_aload_n E dX12_goesUp_78 2 rfl ?_
    refine gg_12_29 E (hN 12 (by decide)) dX12_goesUp_79 ?_
    refine g_bipush E (v := 14) dX12_goesUp_82 (by decide) ?_
    refine g_iload_n E dX12_goesUp_84 0 rfl ?_
    refine g_imul E dX12_goesUp_85 ?_
    refine g_iconst E (v := 1) dX12_goesUp_86 (by decide) ?_
    refine g_iadd E dX12_goesUp_87 ?_
    refine g_aload_n E dX12_goesUp_88 2 rfl ?_
    refine gg_12_56 E (hN 12 (by decide)) dX12_goesUp_89 ?_
    refine g_iload_n E dX12_goesUp_92 3 rfl ?_
    refine g_iaload E (hN 43 (by decide)) (by decide) rfl dX12_goesUp_93 (fun v17 => ?_)
    refine g_iastore E (hN 34 (by decide)) (by decide) rfl dX12_goesUp_94 (fun s18 => ?_)
    refine g_aload_n E dX12_goesUp_95 2 rfl ?_
    refine g_iload_n E dX12_goesUp_96 0 rfl ?_
    refine gp_12_202 E (hN 12 (by decide)) dX12_goesUp_97 (fun s19 => ?_)
    refine g_aload_n E dX12_goesUp_100 2 rfl ?_
    refine g_iload_n E dX12_goesUp_101 3 rfl ?_
    refine g_iload_n E dX12_goesUp_102 1 rfl ?_
    refine g_cVv E [.int x1, .int v1] rfl (c_X12_letsGo hap hN x1 v1 s19) (hN 12 (by decide)) (by decide) rfl rfl mi_X12_letsGo msl_X12_letsGo mw_X12_letsGo rfl ml_12_231 ⟨Nat.le_of_ble_eq_true rfl, Nat.le_of_ble_eq_true rfl⟩ (Nat.le_of_ble_eq_true rfl) dX12_goesUp_103 (fun s20 => ?_)
    refine g_aload_n E dX12_goesUp_106 2 rfl ?_
    refine g_iload_n E dX12_goesUp_107 3 rfl ?_
    refine g_iconst E (v := 1) dX12_goesUp_108 (by decide) ?_
    refine g_cVv E [.int x1, .int 1] rfl (c_X12_ends hap hN x1 1 s20) (hN 12 (by decide)) (by decide) rfl rfl mi_X12_ends msl_X12_ends mw_X12_ends rfl ml_12_217 ⟨Nat.le_of_ble_eq_true rfl, Nat.le_of_ble_eq_true rfl⟩ (Nat.le_of_ble_eq_true rfl) dX12_goesUp_109 (fun s21 => ?_)
    exact g_vret E dX12_goesUp_112
end

theorem dX12_one_0 : decode cX12_one 0 = .ok (.aload_n 0, 1) := by decide +kernel
theorem dX12_one_1 : decode cX12_one 1 = .ok (.dup, 1) := by decide +kernel
theorem dX12_one_2 : decode cX12_one 2 = .ok (.getfield 199, 3) := by decide +kernel
theorem dX12_one_5 : decode cX12_one 5 = .ok (.iconst 1, 1) := by decide +kernel
theorem dX12_one_6 : decode cX12_one 6 = .ok (.iadd, 1) := by decide +kernel
theorem dX12_one_7 : decode cX12_one 7 = .ok (.putfield 199, 3) := by decide +kernel
theorem dX12_one_10 : decode cX12_one 10 = .ok (.aload_n 0, 1) := by decide +kernel
theorem dX12_one_11 : decode cX12_one 11 = .ok (.getfield 92, 3) := by decide +kernel
theorem dX12_one_14 : decode cX12_one 14 = .ok (.aload_n 0, 1) := by decide +kernel
theorem dX12_one_15 : decode cX12_one 15 = .ok (.getfield 50, 3) := by decide +kernel
theorem dX12_one_18 : decode cX12_one 18 = .ok (.iload_n 1, 1) := by decide +kernel
theorem dX12_one_19 : decode cX12_one 19 = .ok (.iaload, 1) := by decide +kernel
theorem dX12_one_20 : decode cX12_one 20 = .ok (.dup2, 1) := by decide +kernel
theorem dX12_one_21 : decode cX12_one 21 = .ok (.iaload, 1) := by decide +kernel
theorem dX12_one_22 : decode cX12_one 22 = .ok (.iconst 1, 1) := by decide +kernel
theorem dX12_one_23 : decode cX12_one 23 = .ok (.iadd, 1) := by decide +kernel
theorem dX12_one_24 : decode cX12_one 24 = .ok (.iastore, 1) := by decide +kernel
theorem dX12_one_25 : decode cX12_one 25 = .ok (.aload_n 0, 1) := by decide +kernel
theorem dX12_one_26 : decode cX12_one 26 = .ok (.getfield 44, 3) := by decide +kernel
theorem dX12_one_29 : decode cX12_one 29 = .ok (.iload_n 1, 1) := by decide +kernel
theorem dX12_one_30 : decode cX12_one 30 = .ok (.iaload, 1) := by decide +kernel
theorem dX12_one_31 : decode cX12_one 31 = .ok (.tableswitch 49 1 3 #[25, 33, 41], 25) := by decide +kernel
theorem dX12_one_56 : decode cX12_one 56 = .ok (.aload_n 0, 1) := by decide +kernel
theorem dX12_one_57 : decode cX12_one 57 = .ok (.iload_n 1, 1) := by decide +kernel
theorem dX12_one_58 : decode cX12_one 58 = .ok (.invokevirtual 256, 3) := by decide +kernel
theorem dX12_one_61 : decode cX12_one 61 = .ok (.goto 24, 3) := by decide +kernel
theorem dX12_one_64 : decode cX12_one 64 = .ok (.aload_n 0, 1) := by decide +kernel
theorem dX12_one_65 : decode cX12_one 65 = .ok (.iload_n 1, 1) := by decide +kernel
theorem dX12_one_66 : decode cX12_one 66 = .ok (.invokevirtual 259, 3) := by decide +kernel
theorem dX12_one_69 : decode cX12_one 69 = .ok (.goto 16, 3) := by decide +kernel
theorem dX12_one_72 : decode cX12_one 72 = .ok (.aload_n 0, 1) := by decide +kernel
theorem dX12_one_73 : decode cX12_one 73 = .ok (.iload_n 1, 1) := by decide +kernel
theorem dX12_one_74 : decode cX12_one 74 = .ok (.invokevirtual 262, 3) := by decide +kernel
theorem dX12_one_77 : decode cX12_one 77 = .ok (.goto 8, 3) := by decide +kernel
theorem dX12_one_80 : decode cX12_one 80 = .ok (.aload_n 0, 1) := by decide +kernel
theorem dX12_one_81 : decode cX12_one 81 = .ok (.iload_n 1, 1) := by decide +kernel
theorem dX12_one_82 : decode cX12_one 82 = .ok (.invokevirtual 265, 3) := by decide +kernel
theorem dX12_one_85 : decode cX12_one 85 = .ok (.return_, 1) := by decide +kernel
def f_X12_one (ln : Nat → Nat) (x1 : Int32) (s : dr_S) : Option (Int32 × dr_S) := dr_letS (dr_pf s 1204 ((s.2 1204) + 1)) (fun s1 => (dr_rd ln s1 41 x1).bind (fun v2 => (dr_rd ln s1 55 v2).bind (fun v3 => (dr_wr ln s1 55 v2 (v3 + 1)).bind (fun s4 => (dr_rd ln s4 39 x1).bind (fun v5 => dr_sw v5 1 3 [(dr_bndv (f_X12_reads ln x1 s4) (fun s7 => some (0, s7))), (dr_bndv (f_X12_holds ln x1 s4) (fun s8 => some (0, s8))), (dr_bndv (f_X12_writes ln x1 s4) (fun s9 => some (0, s9)))] (dr_bndv (f_X12_goesUp ln x1 s4) (fun s6 => some (0, s6))))))))
section
variable {p : Program} {l : Launch} {e : Env} {s0 : State} {m : MethodId} {args : Array Value} {below : List Frame} {meth : Method} {c : Code} {A : Nat → Prop} {D : va_G} {cI cZ : ClassId} {ad ln : Nat → Nat} {L : List Nat}
set_option maxHeartbeats 4000000 in
set_option maxRecDepth 20000 in
theorem c_X12_one (hap : dr_ap ad L) (hN : ∀ x ∈ nd_12, x ∈ L) (x1 : Int32) (s : dr_S) : dr_Mv l D cI cZ ad ln L yX12_one cX12_one 2 5 [.ref (ad 12), .int x1] s (f_X12_one ln x1 s) := by
  refine dr_metv (own := RX12) (by decide) rfl (Nat.le_of_ble_eq_true rfl) hap ?_
  intro p e s0 m args below meth c A E
  unfold f_X12_one
  refine g_eqL (lv' := [(0, .ref (ad 12)), (1, .int x1)]) rfl ?_
  refine g_aload_n E dX12_one_0 0 rfl ?_
  refine g_dup E dX12_one_1 rfl ?_
  refine gg_12_199 E (hN 12 (by decide)) dX12_one_2 ?_
  refine g_iconst E (v := 1) dX12_one_5 (by decide) ?_
  refine g_iadd E dX12_one_6 ?_
  refine gp_12_199 E (hN 12 (by decide)) dX12_one_7 (fun s1 => ?_)
  refine g_aload_n E dX12_one_10 0 rfl ?_
  refine gg_12_92 E (hN 12 (by decide)) dX12_one_11 ?_
  refine g_aload_n E dX12_one_14 0 rfl ?_
  refine gg_12_50 E (hN 12 (by decide)) dX12_one_15 ?_
  refine g_iload_n E dX12_one_18 1 rfl ?_
  refine g_iaload E (hN 41 (by decide)) (by decide) rfl dX12_one_19 (fun v2 => ?_)
  refine g_dup2 E dX12_one_20 rfl rfl ?_
  refine g_iaload E (hN 55 (by decide)) (by decide) rfl dX12_one_21 (fun v3 => ?_)
  refine g_iconst E (v := 1) dX12_one_22 (by decide) ?_
  refine g_iadd E dX12_one_23 ?_
  refine g_iastore E (hN 55 (by decide)) (by decide) rfl dX12_one_24 (fun s4 => ?_)
  refine g_aload_n E dX12_one_25 0 rfl ?_
  refine gg_12_44 E (hN 12 (by decide)) dX12_one_26 ?_
  refine g_iload_n E dX12_one_29 1 rfl ?_
  refine g_iaload E (hN 39 (by decide)) (by decide) rfl dX12_one_30 (fun v5 => ?_)
  refine g_tsw E [(dr_bndv (f_X12_reads ln x1 s4) (fun s7 => some (0, s7))), (dr_bndv (f_X12_holds ln x1 s4) (fun s8 => some (0, s8))), (dr_bndv (f_X12_writes ln x1 s4) (fun s9 => some (0, s9)))] (dr_bndv (f_X12_goesUp ln x1 s4) (fun s6 => some (0, s6))) [56, 64, 72] 80 dX12_one_31 (by decide) (by decide) (by decide) ?_ ?_
  · refine g_aload_n E dX12_one_80 0 rfl ?_
    refine g_iload_n E dX12_one_81 1 rfl ?_
    refine g_cVv E [.int x1] rfl (c_X12_goesUp hap hN x1 s4) (hN 12 (by decide)) (by decide) rfl rfl mi_X12_goesUp msl_X12_goesUp mw_X12_goesUp rfl ml_12_265 ⟨Nat.le_of_ble_eq_true rfl, Nat.le_of_ble_eq_true rfl⟩ (Nat.le_of_ble_eq_true rfl) dX12_one_82 (fun s6 => ?_)
    exact g_vret E dX12_one_85
  · intro j Fj t h1 h2
    match j, h1, h2 with
    | 0, h1, h2 =>
      cases h1
      cases h2
      refine g_aload_n E dX12_one_56 0 rfl ?_
      refine g_iload_n E dX12_one_57 1 rfl ?_
      refine g_cVv E [.int x1] rfl (c_X12_reads hap hN x1 s4) (hN 12 (by decide)) (by decide) rfl rfl mi_X12_reads msl_X12_reads mw_X12_reads rfl ml_12_256 ⟨Nat.le_of_ble_eq_true rfl, Nat.le_of_ble_eq_true rfl⟩ (Nat.le_of_ble_eq_true rfl) dX12_one_58 (fun s7 => ?_)
      refine g_goto E 85 dX12_one_61 (by decide) ?_
      exact g_vret E dX12_one_85
    | 1, h1, h2 =>
      cases h1
      cases h2
      refine g_aload_n E dX12_one_64 0 rfl ?_
      refine g_iload_n E dX12_one_65 1 rfl ?_
      refine g_cVv E [.int x1] rfl (c_X12_holds hap hN x1 s4) (hN 12 (by decide)) (by decide) rfl rfl mi_X12_holds msl_X12_holds mw_X12_holds rfl ml_12_259 ⟨Nat.le_of_ble_eq_true rfl, Nat.le_of_ble_eq_true rfl⟩ (Nat.le_of_ble_eq_true rfl) dX12_one_66 (fun s8 => ?_)
      refine g_goto E 85 dX12_one_69 (by decide) ?_
      exact g_vret E dX12_one_85
    | 2, h1, h2 =>
      cases h1
      cases h2
      refine g_aload_n E dX12_one_72 0 rfl ?_
      refine g_iload_n E dX12_one_73 1 rfl ?_
      refine g_cVv E [.int x1] rfl (c_X12_writes hap hN x1 s4) (hN 12 (by decide)) (by decide) rfl rfl mi_X12_writes msl_X12_writes mw_X12_writes rfl ml_12_262 ⟨Nat.le_of_ble_eq_true rfl, Nat.le_of_ble_eq_true rfl⟩ (Nat.le_of_ble_eq_true rfl) dX12_one_74 (fun s9 => ?_)
      refine g_goto E 85 dX12_one_77 (by decide) ?_
      exact g_vret E dX12_one_85
    | k + 3, h1, h2 =>
      simp at h1
end

theorem dX12_step_0 : decode cX12_step 0 = .ok (.iload_n 1, 1) := by decide +kernel
theorem dX12_step_1 : decode cX12_step 1 = .ok (.iconst 0, 1) := by decide +kernel
theorem dX12_step_2 : decode cX12_step 2 = .ok (.iconst 3, 1) := by decide +kernel
theorem dX12_step_3 : decode cX12_step 3 = .ok (.invokestatic 160, 3) := by decide +kernel
theorem dX12_step_6 : decode cX12_step 6 = .ok (.ifCond .eq 22, 3) := by decide +kernel
theorem dX12_step_9 : decode cX12_step 9 = .ok (.aload_n 0, 1) := by decide +kernel
theorem dX12_step_10 : decode cX12_step 10 = .ok (.getfield 44, 3) := by decide +kernel
theorem dX12_step_13 : decode cX12_step 13 = .ok (.iload_n 1, 1) := by decide +kernel
theorem dX12_step_14 : decode cX12_step 14 = .ok (.iaload, 1) := by decide +kernel
theorem dX12_step_15 : decode cX12_step 15 = .ok (.ifCond .eq 13, 3) := by decide +kernel
theorem dX12_step_18 : decode cX12_step 18 = .ok (.iload_n 2, 1) := by decide +kernel
theorem dX12_step_19 : decode cX12_step 19 = .ok (.iconst 1, 1) := by decide +kernel
theorem dX12_step_20 : decode cX12_step 20 = .ok (.bipush 30, 2) := by decide +kernel
theorem dX12_step_22 : decode cX12_step 22 = .ok (.invokestatic 160, 3) := by decide +kernel
theorem dX12_step_25 : decode cX12_step 25 = .ok (.ifCond .ne 5, 3) := by decide +kernel
theorem dX12_step_28 : decode cX12_step 28 = .ok (.iconst (-1), 1) := by decide +kernel
theorem dX12_step_29 : decode cX12_step 29 = .ok (.ireturn, 1) := by decide +kernel
theorem dX12_step_30 : decode cX12_step 30 = .ok (.iconst 0, 1) := by decide +kernel
theorem dX12_step_31 : decode cX12_step 31 = .ok (.istore_n 3, 1) := by decide +kernel
theorem dX12_step_32 : decode cX12_step 32 = .ok (.iload_n 3, 1) := by decide +kernel
theorem dX12_step_33 : decode cX12_step 33 = .ok (.iload_n 2, 1) := by decide +kernel
theorem dX12_step_34 : decode cX12_step 34 = .ok (.if_icmp .ge 23, 3) := by decide +kernel
theorem dX12_step_37 : decode cX12_step 37 = .ok (.aload_n 0, 1) := by decide +kernel
theorem dX12_step_38 : decode cX12_step 38 = .ok (.getfield 44, 3) := by decide +kernel
theorem dX12_step_41 : decode cX12_step 41 = .ok (.iload_n 1, 1) := by decide +kernel
theorem dX12_step_42 : decode cX12_step 42 = .ok (.iaload, 1) := by decide +kernel
theorem dX12_step_43 : decode cX12_step 43 = .ok (.ifCond .eq 14, 3) := by decide +kernel
theorem dX12_step_46 : decode cX12_step 46 = .ok (.aload_n 0, 1) := by decide +kernel
theorem dX12_step_47 : decode cX12_step 47 = .ok (.iload_n 1, 1) := by decide +kernel
theorem dX12_step_48 : decode cX12_step 48 = .ok (.invokevirtual 268, 3) := by decide +kernel
theorem dX12_step_51 : decode cX12_step 51 = .ok (.iinc 3 1, 3) := by decide +kernel
theorem dX12_step_54 : decode cX12_step 54 = .ok (.goto (-22), 3) := by decide +kernel
theorem dX12_step_57 : decode cX12_step 57 = .ok (.iload_n 3, 1) := by decide +kernel
theorem dX12_step_58 : decode cX12_step 58 = .ok (.ireturn, 1) := by decide +kernel
def f_X12_step_p32 (ln : Nat → Nat) : Nat → Int32 → Int32 → Int32 → dr_S → Option (Int32 × dr_S)
  | 0, _, _, _, _ => none
  | n + 1, x1, x2, x3, s => (if x2 ≤ x3 then some (x3, s) else (dr_rd ln s 39 x1).bind (fun v6 => (if v6 = 0 then some (x3, s) else dr_bndv (f_X12_one ln x1 s) (fun s7 => dr_let (x3 + 1) (fun y8 => (f_X12_step_p32 ln n x1 x2 y8 s7))))))
def f_X12_step (ln : Nat → Nat) (x1 : Int32) (x2 : Int32) (s : dr_S) : Option (Int32 × dr_S) := dr_bnd (f_X12_in ln x1 0 3 s) (fun r2 s1 => (if r2 = 0 then some ((-1), s1) else (dr_rd ln s1 39 x1).bind (fun v3 => (if v3 = 0 then some ((-1), s1) else dr_bnd (f_X12_in ln x2 1 30 s1) (fun r5 s4 => (if r5 = 0 then some ((-1), s4) else (f_X12_step_p32 ln dr_N x1 x2 0 s4)))))))
section
variable {p : Program} {l : Launch} {e : Env} {s0 : State} {m : MethodId} {args : Array Value} {below : List Frame} {meth : Method} {c : Code} {A : Nat → Prop} {D : va_G} {cI cZ : ClassId} {ad ln : Nat → Nat} {L : List Nat}
set_option maxHeartbeats 4000000 in
set_option maxRecDepth 20000 in
theorem w_X12_step_p32 (E : dr_E p (dr_rm 6) s0 m args meth c 0 0 A s0.heap D cI cZ ad L cX12_step 4 RX12 (some .int)) (hap : dr_ap ad L) (hN : ∀ x ∈ nd_12, x ∈ L) : ∀ (n : Nat) (x1 : Int32) (x2 : Int32) (x3 : Int32) (s : dr_S), dr_G p l e (dr_rm 6) s0 m args below meth c 0 0 A s0.heap D cI cZ ad ln L 4 (dr_Zi D cI cZ ad ln L A below args s0 0 0) 32 [(0, .ref (ad 12)), (1, .int x1), (2, .int x2), (3, .int x3)] [] s (f_X12_step_p32 ln n x1 x2 x3 s) := by
  intro n
  induction n with
  | zero =>
    intro x1 x2 x3 s
    rw [f_X12_step_p32]
    exact g_none
  | succ n hkb32 =>
    intro x1 x2 x3 s
    rw [f_X12_step_p32]
    refine g_iload_n E dX12_step_32 3 rfl ?_
    refine g_iload_n E dX12_step_33 2 rfl ?_
    refine g_icmp_ge E 57 dX12_step_34 (by decide) ?_ ?_
    · refine g_iload_n E dX12_step_57 3 rfl ?_
      exact g_iret E dX12_step_58
    · refine g_aload_n E dX12_step_37 0 rfl ?_
      refine gg_12_44 E (hN 12 (by decide)) dX12_step_38 ?_
      refine g_iload_n E dX12_step_41 1 rfl ?_
      refine g_iaload E (hN 39 (by decide)) (by decide) rfl dX12_step_42 (fun v6 => ?_)
      refine g_if_eq E 57 dX12_step_43 (by decide) ?_ ?_
      · refine g_iload_n E dX12_step_57 3 rfl ?_
        exact g_iret E dX12_step_58
      · refine g_aload_n E dX12_step_46 0 rfl ?_
        refine g_iload_n E dX12_step_47 1 rfl ?_
        refine g_cVv E [.int x1] rfl (c_X12_one hap hN x1 s) (hN 12 (by decide)) (by decide) rfl rfl mi_X12_one msl_X12_one mw_X12_one rfl ml_12_268 ⟨Nat.le_of_ble_eq_true rfl, Nat.le_of_ble_eq_true rfl⟩ (Nat.le_of_ble_eq_true rfl) dX12_step_48 (fun s7 => ?_)
        refine g_iinc E (lv' := []) (lv'' := fun y8 => [(3, .int y8), (0, .ref (ad 12)), (1, .int x1), (2, .int x2)]) (v := 1) dX12_step_51 3 rfl (by decide) (by decide) (fun _ => rfl) (fun y8 => ?_)
        refine g_goto E 32 dX12_step_54 (by decide) ?_
        refine g_sub [1, 2, 3, 0] rfl ?_
        exact hkb32 x1 x2 y8 s7
set_option maxHeartbeats 4000000 in
set_option maxRecDepth 20000 in
theorem c_X12_step (hap : dr_ap ad L) (hN : ∀ x ∈ nd_12, x ∈ L) (x1 : Int32) (x2 : Int32) (s : dr_S) : dr_Mi l D cI cZ ad ln L yX12_step cX12_step 4 (some .int) 6 [.ref (ad 12), .int x1, .int x2] s (f_X12_step ln x1 x2 s) := by
  refine dr_meti (own := RX12) (by decide) rfl (Nat.le_of_ble_eq_true rfl) hap ?_
  intro p e s0 m args below meth c A E
  unfold f_X12_step
  refine g_eqL (lv' := [(0, .ref (ad 12)), (1, .int x1), (2, .int x2)]) rfl ?_
  refine g_iload_n E dX12_step_0 1 rfl ?_
  refine g_iconst E (v := 0) dX12_step_1 (by decide) ?_
  refine g_iconst E (v := 3) dX12_step_2 (by decide) ?_
  refine g_cSi E [.int x1, .int 0, .int 3] rfl (c_X12_in hap hN x1 0 3 s) ms_X12_in mw_X12_in rfl ml_12_160 ⟨Nat.le_of_ble_eq_true rfl, Nat.le_of_ble_eq_true rfl⟩ (Nat.le_of_ble_eq_true rfl) dX12_step_3 (fun r2 s1 => ?_)
  refine g_if_eq E 28 dX12_step_6 (by decide) ?_ ?_
  · refine g_iconst E (v := (-1)) dX12_step_28 (by decide) ?_
    exact g_iret E dX12_step_29
  · refine g_aload_n E dX12_step_9 0 rfl ?_
    refine gg_12_44 E (hN 12 (by decide)) dX12_step_10 ?_
    refine g_iload_n E dX12_step_13 1 rfl ?_
    refine g_iaload E (hN 39 (by decide)) (by decide) rfl dX12_step_14 (fun v3 => ?_)
    refine g_if_eq E 28 dX12_step_15 (by decide) ?_ ?_
    · refine g_iconst E (v := (-1)) dX12_step_28 (by decide) ?_
      exact g_iret E dX12_step_29
    · refine g_iload_n E dX12_step_18 2 rfl ?_
      refine g_iconst E (v := 1) dX12_step_19 (by decide) ?_
      refine g_bipush E (v := 30) dX12_step_20 (by decide) ?_
      refine g_cSi E [.int x2, .int 1, .int 30] rfl (c_X12_in hap hN x2 1 30 s1) ms_X12_in mw_X12_in rfl ml_12_160 ⟨Nat.le_of_ble_eq_true rfl, Nat.le_of_ble_eq_true rfl⟩ (Nat.le_of_ble_eq_true rfl) dX12_step_22 (fun r5 s4 => ?_)
      refine g_if_ne E 30 dX12_step_25 (by decide) ?_ ?_
      · refine g_iconst E (v := 0) dX12_step_30 (by decide) ?_
        refine g_istore_n E (lv' := [(3, .int 0), (0, .ref (ad 12)), (1, .int x1), (2, .int x2)]) dX12_step_31 (by decide) rfl ?_
        refine g_sub [1, 2, 3, 0] rfl ?_
        exact w_X12_step_p32 E hap hN dr_N x1 x2 0 s4
      · refine g_iconst E (v := (-1)) dX12_step_28 (by decide) ?_
        exact g_iret E dX12_step_29
end

theorem dX12_clerk_0 : decode cX12_clerk 0 = .ok (.iload_n 1, 1) := by decide +kernel
theorem dX12_clerk_1 : decode cX12_clerk 1 = .ok (.iconst 0, 1) := by decide +kernel
theorem dX12_clerk_2 : decode cX12_clerk 2 = .ok (.iconst 3, 1) := by decide +kernel
theorem dX12_clerk_3 : decode cX12_clerk 3 = .ok (.invokestatic 160, 3) := by decide +kernel
theorem dX12_clerk_6 : decode cX12_clerk 6 = .ok (.ifCond .ne 5, 3) := by decide +kernel
theorem dX12_clerk_9 : decode cX12_clerk 9 = .ok (.iconst (-1), 1) := by decide +kernel
theorem dX12_clerk_10 : decode cX12_clerk 10 = .ok (.ireturn, 1) := by decide +kernel
theorem dX12_clerk_11 : decode cX12_clerk 11 = .ok (.iload_n 2, 1) := by decide +kernel
theorem dX12_clerk_12 : decode cX12_clerk 12 = .ok (.tableswitch 109 0 4 #[36, 43, 63, 70, 89], 36) := by decide +kernel
theorem dX12_clerk_48 : decode cX12_clerk 48 = .ok (.aload_n 0, 1) := by decide +kernel
theorem dX12_clerk_49 : decode cX12_clerk 49 = .ok (.getfield 44, 3) := by decide +kernel
theorem dX12_clerk_52 : decode cX12_clerk 52 = .ok (.iload_n 1, 1) := by decide +kernel
theorem dX12_clerk_53 : decode cX12_clerk 53 = .ok (.iaload, 1) := by decide +kernel
theorem dX12_clerk_54 : decode cX12_clerk 54 = .ok (.ireturn, 1) := by decide +kernel
theorem dX12_clerk_55 : decode cX12_clerk 55 = .ok (.aload_n 0, 1) := by decide +kernel
theorem dX12_clerk_56 : decode cX12_clerk 56 = .ok (.getfield 44, 3) := by decide +kernel
theorem dX12_clerk_59 : decode cX12_clerk 59 = .ok (.iload_n 1, 1) := by decide +kernel
theorem dX12_clerk_60 : decode cX12_clerk 60 = .ok (.iaload, 1) := by decide +kernel
theorem dX12_clerk_61 : decode cX12_clerk 61 = .ok (.ifCond .ne 7, 3) := by decide +kernel
theorem dX12_clerk_64 : decode cX12_clerk 64 = .ok (.iconst (-1), 1) := by decide +kernel
theorem dX12_clerk_65 : decode cX12_clerk 65 = .ok (.goto 9, 3) := by decide +kernel
theorem dX12_clerk_68 : decode cX12_clerk 68 = .ok (.aload_n 0, 1) := by decide +kernel
theorem dX12_clerk_69 : decode cX12_clerk 69 = .ok (.getfield 47, 3) := by decide +kernel
theorem dX12_clerk_72 : decode cX12_clerk 72 = .ok (.iload_n 1, 1) := by decide +kernel
theorem dX12_clerk_73 : decode cX12_clerk 73 = .ok (.iaload, 1) := by decide +kernel
theorem dX12_clerk_74 : decode cX12_clerk 74 = .ok (.ireturn, 1) := by decide +kernel
theorem dX12_clerk_75 : decode cX12_clerk 75 = .ok (.aload_n 0, 1) := by decide +kernel
theorem dX12_clerk_76 : decode cX12_clerk 76 = .ok (.getfield 50, 3) := by decide +kernel
theorem dX12_clerk_79 : decode cX12_clerk 79 = .ok (.iload_n 1, 1) := by decide +kernel
theorem dX12_clerk_80 : decode cX12_clerk 80 = .ok (.iaload, 1) := by decide +kernel
theorem dX12_clerk_81 : decode cX12_clerk 81 = .ok (.ireturn, 1) := by decide +kernel
theorem dX12_clerk_82 : decode cX12_clerk 82 = .ok (.aload_n 0, 1) := by decide +kernel
theorem dX12_clerk_83 : decode cX12_clerk 83 = .ok (.getfield 44, 3) := by decide +kernel
theorem dX12_clerk_86 : decode cX12_clerk 86 = .ok (.iload_n 1, 1) := by decide +kernel
theorem dX12_clerk_87 : decode cX12_clerk 87 = .ok (.iaload, 1) := by decide +kernel
theorem dX12_clerk_88 : decode cX12_clerk 88 = .ok (.ifCond .ne 7, 3) := by decide +kernel
theorem dX12_clerk_91 : decode cX12_clerk 91 = .ok (.iconst (-1), 1) := by decide +kernel
theorem dX12_clerk_92 : decode cX12_clerk 92 = .ok (.goto 8, 3) := by decide +kernel
theorem dX12_clerk_95 : decode cX12_clerk 95 = .ok (.aload_n 0, 1) := by decide +kernel
theorem dX12_clerk_96 : decode cX12_clerk 96 = .ok (.iload_n 1, 1) := by decide +kernel
theorem dX12_clerk_97 : decode cX12_clerk 97 = .ok (.invokevirtual 227, 3) := by decide +kernel
theorem dX12_clerk_100 : decode cX12_clerk 100 = .ok (.ireturn, 1) := by decide +kernel
theorem dX12_clerk_101 : decode cX12_clerk 101 = .ok (.aload_n 0, 1) := by decide +kernel
theorem dX12_clerk_102 : decode cX12_clerk 102 = .ok (.getfield 44, 3) := by decide +kernel
theorem dX12_clerk_105 : decode cX12_clerk 105 = .ok (.iload_n 1, 1) := by decide +kernel
theorem dX12_clerk_106 : decode cX12_clerk 106 = .ok (.iaload, 1) := by decide +kernel
theorem dX12_clerk_107 : decode cX12_clerk 107 = .ok (.ifCond .ne 7, 3) := by decide +kernel
theorem dX12_clerk_110 : decode cX12_clerk 110 = .ok (.iconst (-1), 1) := by decide +kernel
theorem dX12_clerk_111 : decode cX12_clerk 111 = .ok (.goto 9, 3) := by decide +kernel
theorem dX12_clerk_114 : decode cX12_clerk 114 = .ok (.aload_n 0, 1) := by decide +kernel
theorem dX12_clerk_115 : decode cX12_clerk 115 = .ok (.getfield 56, 3) := by decide +kernel
theorem dX12_clerk_118 : decode cX12_clerk 118 = .ok (.iload_n 1, 1) := by decide +kernel
theorem dX12_clerk_119 : decode cX12_clerk 119 = .ok (.iaload, 1) := by decide +kernel
theorem dX12_clerk_120 : decode cX12_clerk 120 = .ok (.ireturn, 1) := by decide +kernel
theorem dX12_clerk_121 : decode cX12_clerk 121 = .ok (.iconst (-1), 1) := by decide +kernel
theorem dX12_clerk_122 : decode cX12_clerk 122 = .ok (.ireturn, 1) := by decide +kernel
def f_X12_clerk (ln : Nat → Nat) (x1 : Int32) (x2 : Int32) (s : dr_S) : Option (Int32 × dr_S) := dr_bnd (f_X12_in ln x1 0 3 s) (fun r2 s1 => (if r2 = 0 then some ((-1), s1) else dr_sw x2 0 4 [((dr_rd ln s1 39 x1).bind (fun v3 => some (v3, s1))), ((dr_rd ln s1 39 x1).bind (fun v4 => (if v4 = 0 then some ((-1), s1) else (dr_rd ln s1 40 x1).bind (fun v5 => some (v5, s1))))), ((dr_rd ln s1 41 x1).bind (fun v6 => some (v6, s1))), ((dr_rd ln s1 39 x1).bind (fun v7 => (if v7 = 0 then some ((-1), s1) else dr_bnd (f_X12_looksFor ln x1 s1) (fun r9 s8 => some (r9, s8))))), ((dr_rd ln s1 39 x1).bind (fun v10 => (if v10 = 0 then some ((-1), s1) else (dr_rd ln s1 43 x1).bind (fun v11 => some (v11, s1)))))] (some ((-1), s1))))
section
variable {p : Program} {l : Launch} {e : Env} {s0 : State} {m : MethodId} {args : Array Value} {below : List Frame} {meth : Method} {c : Code} {A : Nat → Prop} {D : va_G} {cI cZ : ClassId} {ad ln : Nat → Nat} {L : List Nat}
set_option maxHeartbeats 4000000 in
set_option maxRecDepth 20000 in
theorem c_X12_clerk (hap : dr_ap ad L) (hN : ∀ x ∈ nd_12, x ∈ L) (x1 : Int32) (x2 : Int32) (s : dr_S) : dr_Mi l D cI cZ ad ln L yX12_clerk cX12_clerk 3 (some .int) 1 [.ref (ad 12), .int x1, .int x2] s (f_X12_clerk ln x1 x2 s) := by
  refine dr_meti (own := RX12) (by decide) rfl (Nat.le_of_ble_eq_true rfl) hap ?_
  intro p e s0 m args below meth c A E
  unfold f_X12_clerk
  refine g_eqL (lv' := [(0, .ref (ad 12)), (1, .int x1), (2, .int x2)]) rfl ?_
  refine g_iload_n E dX12_clerk_0 1 rfl ?_
  refine g_iconst E (v := 0) dX12_clerk_1 (by decide) ?_
  refine g_iconst E (v := 3) dX12_clerk_2 (by decide) ?_
  refine g_cSi E [.int x1, .int 0, .int 3] rfl (c_X12_in hap hN x1 0 3 s) ms_X12_in mw_X12_in rfl ml_12_160 ⟨Nat.le_of_ble_eq_true rfl, Nat.le_of_ble_eq_true rfl⟩ (Nat.le_of_ble_eq_true rfl) dX12_clerk_3 (fun r2 s1 => ?_)
  refine g_if_ne E 11 dX12_clerk_6 (by decide) ?_ ?_
  · refine g_iload_n E dX12_clerk_11 2 rfl ?_
    refine g_tsw E [((dr_rd ln s1 39 x1).bind (fun v3 => some (v3, s1))), ((dr_rd ln s1 39 x1).bind (fun v4 => (if v4 = 0 then some ((-1), s1) else (dr_rd ln s1 40 x1).bind (fun v5 => some (v5, s1))))), ((dr_rd ln s1 41 x1).bind (fun v6 => some (v6, s1))), ((dr_rd ln s1 39 x1).bind (fun v7 => (if v7 = 0 then some ((-1), s1) else dr_bnd (f_X12_looksFor ln x1 s1) (fun r9 s8 => some (r9, s8))))), ((dr_rd ln s1 39 x1).bind (fun v10 => (if v10 = 0 then some ((-1), s1) else (dr_rd ln s1 43 x1).bind (fun v11 => some (v11, s1)))))] (some ((-1), s1)) [48, 55, 75, 82, 101] 121 dX12_clerk_12 (by decide) (by decide) (by decide) ?_ ?_
    · refine g_iconst E (v := (-1)) dX12_clerk_121 (by decide) ?_
      exact g_iret E dX12_clerk_122
    · intro j Fj t h1 h2
      match j, h1, h2 with
      | 0, h1, h2 =>
        cases h1
        cases h2
        refine g_aload_n E dX12_clerk_48 0 rfl ?_
        refine gg_12_44 E (hN 12 (by decide)) dX12_clerk_49 ?_
        refine g_iload_n E dX12_clerk_52 1 rfl ?_
        refine g_iaload E (hN 39 (by decide)) (by decide) rfl dX12_clerk_53 (fun v3 => ?_)
        exact g_iret E dX12_clerk_54
      | 1, h1, h2 =>
        cases h1
        cases h2
        refine g_aload_n E dX12_clerk_55 0 rfl ?_
        refine gg_12_44 E (hN 12 (by decide)) dX12_clerk_56 ?_
        refine g_iload_n E dX12_clerk_59 1 rfl ?_
        refine g_iaload E (hN 39 (by decide)) (by decide) rfl dX12_clerk_60 (fun v4 => ?_)
        refine g_if_ne E 68 dX12_clerk_61 (by decide) ?_ ?_
        · refine g_aload_n E dX12_clerk_68 0 rfl ?_
          refine gg_12_47 E (hN 12 (by decide)) dX12_clerk_69 ?_
          refine g_iload_n E dX12_clerk_72 1 rfl ?_
          refine g_iaload E (hN 40 (by decide)) (by decide) rfl dX12_clerk_73 (fun v5 => ?_)
          exact g_iret E dX12_clerk_74
        · refine g_iconst E (v := (-1)) dX12_clerk_64 (by decide) ?_
          refine g_goto E 74 dX12_clerk_65 (by decide) ?_
          exact g_iret E dX12_clerk_74
      | 2, h1, h2 =>
        cases h1
        cases h2
        refine g_aload_n E dX12_clerk_75 0 rfl ?_
        refine gg_12_50 E (hN 12 (by decide)) dX12_clerk_76 ?_
        refine g_iload_n E dX12_clerk_79 1 rfl ?_
        refine g_iaload E (hN 41 (by decide)) (by decide) rfl dX12_clerk_80 (fun v6 => ?_)
        exact g_iret E dX12_clerk_81
      | 3, h1, h2 =>
        cases h1
        cases h2
        refine g_aload_n E dX12_clerk_82 0 rfl ?_
        refine gg_12_44 E (hN 12 (by decide)) dX12_clerk_83 ?_
        refine g_iload_n E dX12_clerk_86 1 rfl ?_
        refine g_iaload E (hN 39 (by decide)) (by decide) rfl dX12_clerk_87 (fun v7 => ?_)
        refine g_if_ne E 95 dX12_clerk_88 (by decide) ?_ ?_
        · refine g_aload_n E dX12_clerk_95 0 rfl ?_
          refine g_iload_n E dX12_clerk_96 1 rfl ?_
          refine g_cVi E [.int x1] rfl (c_X12_looksFor hap hN x1 s1) (hN 12 (by decide)) (by decide) rfl rfl mi_X12_looksFor msl_X12_looksFor mw_X12_looksFor rfl ml_12_227 ⟨Nat.le_of_ble_eq_true rfl, Nat.le_of_ble_eq_true rfl⟩ (Nat.le_of_ble_eq_true rfl) dX12_clerk_97 (fun r9 s8 => ?_)
          exact g_iret E dX12_clerk_100
        · refine g_iconst E (v := (-1)) dX12_clerk_91 (by decide) ?_
          refine g_goto E 100 dX12_clerk_92 (by decide) ?_
          exact g_iret E dX12_clerk_100
      | 4, h1, h2 =>
        cases h1
        cases h2
        refine g_aload_n E dX12_clerk_101 0 rfl ?_
        refine gg_12_44 E (hN 12 (by decide)) dX12_clerk_102 ?_
        refine g_iload_n E dX12_clerk_105 1 rfl ?_
        refine g_iaload E (hN 39 (by decide)) (by decide) rfl dX12_clerk_106 (fun v10 => ?_)
        refine g_if_ne E 114 dX12_clerk_107 (by decide) ?_ ?_
        · refine g_aload_n E dX12_clerk_114 0 rfl ?_
          refine gg_12_56 E (hN 12 (by decide)) dX12_clerk_115 ?_
          refine g_iload_n E dX12_clerk_118 1 rfl ?_
          refine g_iaload E (hN 43 (by decide)) (by decide) rfl dX12_clerk_119 (fun v11 => ?_)
          exact g_iret E dX12_clerk_120
        · refine g_iconst E (v := (-1)) dX12_clerk_110 (by decide) ?_
          refine g_goto E 120 dX12_clerk_111 (by decide) ?_
          exact g_iret E dX12_clerk_120
      | k + 5, h1, h2 =>
        simp at h1
  · refine g_iconst E (v := (-1)) dX12_clerk_9 (by decide) ?_
    exact g_iret E dX12_clerk_10
end

theorem dX12_job_0 : decode cX12_job 0 = .ok (.iload_n 1, 1) := by decide +kernel
theorem dX12_job_1 : decode cX12_job 1 = .ok (.iconst 0, 1) := by decide +kernel
theorem dX12_job_2 : decode cX12_job 2 = .ok (.aload_n 0, 1) := by decide +kernel
theorem dX12_job_3 : decode cX12_job 3 = .ok (.getfield 175, 3) := by decide +kernel
theorem dX12_job_6 : decode cX12_job 6 = .ok (.iconst 1, 1) := by decide +kernel
theorem dX12_job_7 : decode cX12_job 7 = .ok (.isub, 1) := by decide +kernel
theorem dX12_job_8 : decode cX12_job 8 = .ok (.invokestatic 160, 3) := by decide +kernel
theorem dX12_job_11 : decode cX12_job 11 = .ok (.ifCond .ne 5, 3) := by decide +kernel
theorem dX12_job_14 : decode cX12_job 14 = .ok (.iconst (-1), 1) := by decide +kernel
theorem dX12_job_15 : decode cX12_job 15 = .ok (.ireturn, 1) := by decide +kernel
theorem dX12_job_16 : decode cX12_job 16 = .ok (.iload_n 2, 1) := by decide +kernel
theorem dX12_job_17 : decode cX12_job 17 = .ok (.tableswitch 100 0 6 #[43, 50, 57, 64, 71, 78, 85], 43) := by decide +kernel
theorem dX12_job_60 : decode cX12_job 60 = .ok (.aload_n 0, 1) := by decide +kernel
theorem dX12_job_61 : decode cX12_job 61 = .ok (.getfield 77, 3) := by decide +kernel
theorem dX12_job_64 : decode cX12_job 64 = .ok (.iload_n 1, 1) := by decide +kernel
theorem dX12_job_65 : decode cX12_job 65 = .ok (.iaload, 1) := by decide +kernel
theorem dX12_job_66 : decode cX12_job 66 = .ok (.ireturn, 1) := by decide +kernel
theorem dX12_job_67 : decode cX12_job 67 = .ok (.aload_n 0, 1) := by decide +kernel
theorem dX12_job_68 : decode cX12_job 68 = .ok (.getfield 80, 3) := by decide +kernel
theorem dX12_job_71 : decode cX12_job 71 = .ok (.iload_n 1, 1) := by decide +kernel
theorem dX12_job_72 : decode cX12_job 72 = .ok (.iaload, 1) := by decide +kernel
theorem dX12_job_73 : decode cX12_job 73 = .ok (.ireturn, 1) := by decide +kernel
theorem dX12_job_74 : decode cX12_job 74 = .ok (.aload_n 0, 1) := by decide +kernel
theorem dX12_job_75 : decode cX12_job 75 = .ok (.getfield 83, 3) := by decide +kernel
theorem dX12_job_78 : decode cX12_job 78 = .ok (.iload_n 1, 1) := by decide +kernel
theorem dX12_job_79 : decode cX12_job 79 = .ok (.iaload, 1) := by decide +kernel
theorem dX12_job_80 : decode cX12_job 80 = .ok (.ireturn, 1) := by decide +kernel
theorem dX12_job_81 : decode cX12_job 81 = .ok (.aload_n 0, 1) := by decide +kernel
theorem dX12_job_82 : decode cX12_job 82 = .ok (.getfield 86, 3) := by decide +kernel
theorem dX12_job_85 : decode cX12_job 85 = .ok (.iload_n 1, 1) := by decide +kernel
theorem dX12_job_86 : decode cX12_job 86 = .ok (.iaload, 1) := by decide +kernel
theorem dX12_job_87 : decode cX12_job 87 = .ok (.ireturn, 1) := by decide +kernel
theorem dX12_job_88 : decode cX12_job 88 = .ok (.aload_n 0, 1) := by decide +kernel
theorem dX12_job_89 : decode cX12_job 89 = .ok (.getfield 89, 3) := by decide +kernel
theorem dX12_job_92 : decode cX12_job 92 = .ok (.iload_n 1, 1) := by decide +kernel
theorem dX12_job_93 : decode cX12_job 93 = .ok (.iaload, 1) := by decide +kernel
theorem dX12_job_94 : decode cX12_job 94 = .ok (.ireturn, 1) := by decide +kernel
theorem dX12_job_95 : decode cX12_job 95 = .ok (.aload_n 0, 1) := by decide +kernel
theorem dX12_job_96 : decode cX12_job 96 = .ok (.getfield 92, 3) := by decide +kernel
theorem dX12_job_99 : decode cX12_job 99 = .ok (.iload_n 1, 1) := by decide +kernel
theorem dX12_job_100 : decode cX12_job 100 = .ok (.iaload, 1) := by decide +kernel
theorem dX12_job_101 : decode cX12_job 101 = .ok (.ireturn, 1) := by decide +kernel
theorem dX12_job_102 : decode cX12_job 102 = .ok (.aload_n 0, 1) := by decide +kernel
theorem dX12_job_103 : decode cX12_job 103 = .ok (.getfield 95, 3) := by decide +kernel
theorem dX12_job_106 : decode cX12_job 106 = .ok (.iload_n 1, 1) := by decide +kernel
theorem dX12_job_107 : decode cX12_job 107 = .ok (.baload, 1) := by decide +kernel
theorem dX12_job_108 : decode cX12_job 108 = .ok (.ifCond .eq 7, 3) := by decide +kernel
theorem dX12_job_111 : decode cX12_job 111 = .ok (.iconst 1, 1) := by decide +kernel
theorem dX12_job_112 : decode cX12_job 112 = .ok (.goto 4, 3) := by decide +kernel
theorem dX12_job_115 : decode cX12_job 115 = .ok (.iconst 0, 1) := by decide +kernel
theorem dX12_job_116 : decode cX12_job 116 = .ok (.ireturn, 1) := by decide +kernel
theorem dX12_job_117 : decode cX12_job 117 = .ok (.iconst (-1), 1) := by decide +kernel
theorem dX12_job_118 : decode cX12_job 118 = .ok (.ireturn, 1) := by decide +kernel
def f_X12_job (ln : Nat → Nat) (x1 : Int32) (x2 : Int32) (s : dr_S) : Option (Int32 × dr_S) := dr_bnd (f_X12_in ln x1 0 (((s.2 1226) - 1)) s) (fun r2 s1 => (if r2 = 0 then some ((-1), s1) else dr_sw x2 0 6 [((dr_rd ln s1 50 x1).bind (fun v3 => some (v3, s1))), ((dr_rd ln s1 51 x1).bind (fun v4 => some (v4, s1))), ((dr_rd ln s1 52 x1).bind (fun v5 => some (v5, s1))), ((dr_rd ln s1 53 x1).bind (fun v6 => some (v6, s1))), ((dr_rd ln s1 54 x1).bind (fun v7 => some (v7, s1))), ((dr_rd ln s1 55 x1).bind (fun v8 => some (v8, s1))), ((dr_rd ln s1 56 x1).bind (fun v9 => (if v9 = 0 then some (0, s1) else some (1, s1))))] (some ((-1), s1))))
section
variable {p : Program} {l : Launch} {e : Env} {s0 : State} {m : MethodId} {args : Array Value} {below : List Frame} {meth : Method} {c : Code} {A : Nat → Prop} {D : va_G} {cI cZ : ClassId} {ad ln : Nat → Nat} {L : List Nat}
set_option maxHeartbeats 4000000 in
set_option maxRecDepth 20000 in
theorem c_X12_job (hap : dr_ap ad L) (hN : ∀ x ∈ nd_12, x ∈ L) (x1 : Int32) (x2 : Int32) (s : dr_S) : dr_Mi l D cI cZ ad ln L yX12_job cX12_job 3 (some .int) 1 [.ref (ad 12), .int x1, .int x2] s (f_X12_job ln x1 x2 s) := by
  refine dr_meti (own := RX12) (by decide) rfl (Nat.le_of_ble_eq_true rfl) hap ?_
  intro p e s0 m args below meth c A E
  unfold f_X12_job
  refine g_eqL (lv' := [(0, .ref (ad 12)), (1, .int x1), (2, .int x2)]) rfl ?_
  refine g_iload_n E dX12_job_0 1 rfl ?_
  refine g_iconst E (v := 0) dX12_job_1 (by decide) ?_
  refine g_aload_n E dX12_job_2 0 rfl ?_
  refine gg_12_175 E (hN 12 (by decide)) dX12_job_3 ?_
  refine g_iconst E (v := 1) dX12_job_6 (by decide) ?_
  refine g_isub E dX12_job_7 ?_
  refine g_cSi E [.int x1, .int 0, .int ((s.2 1226) - 1)] rfl (c_X12_in hap hN x1 0 (((s.2 1226) - 1)) s) ms_X12_in mw_X12_in rfl ml_12_160 ⟨Nat.le_of_ble_eq_true rfl, Nat.le_of_ble_eq_true rfl⟩ (Nat.le_of_ble_eq_true rfl) dX12_job_8 (fun r2 s1 => ?_)
  refine g_if_ne E 16 dX12_job_11 (by decide) ?_ ?_
  · refine g_iload_n E dX12_job_16 2 rfl ?_
    refine g_tsw E [((dr_rd ln s1 50 x1).bind (fun v3 => some (v3, s1))), ((dr_rd ln s1 51 x1).bind (fun v4 => some (v4, s1))), ((dr_rd ln s1 52 x1).bind (fun v5 => some (v5, s1))), ((dr_rd ln s1 53 x1).bind (fun v6 => some (v6, s1))), ((dr_rd ln s1 54 x1).bind (fun v7 => some (v7, s1))), ((dr_rd ln s1 55 x1).bind (fun v8 => some (v8, s1))), ((dr_rd ln s1 56 x1).bind (fun v9 => (if v9 = 0 then some (0, s1) else some (1, s1))))] (some ((-1), s1)) [60, 67, 74, 81, 88, 95, 102] 117 dX12_job_17 (by decide) (by decide) (by decide) ?_ ?_
    · refine g_iconst E (v := (-1)) dX12_job_117 (by decide) ?_
      exact g_iret E dX12_job_118
    · intro j Fj t h1 h2
      match j, h1, h2 with
      | 0, h1, h2 =>
        cases h1
        cases h2
        refine g_aload_n E dX12_job_60 0 rfl ?_
        refine gg_12_77 E (hN 12 (by decide)) dX12_job_61 ?_
        refine g_iload_n E dX12_job_64 1 rfl ?_
        refine g_iaload E (hN 50 (by decide)) (by decide) rfl dX12_job_65 (fun v3 => ?_)
        exact g_iret E dX12_job_66
      | 1, h1, h2 =>
        cases h1
        cases h2
        refine g_aload_n E dX12_job_67 0 rfl ?_
        refine gg_12_80 E (hN 12 (by decide)) dX12_job_68 ?_
        refine g_iload_n E dX12_job_71 1 rfl ?_
        refine g_iaload E (hN 51 (by decide)) (by decide) rfl dX12_job_72 (fun v4 => ?_)
        exact g_iret E dX12_job_73
      | 2, h1, h2 =>
        cases h1
        cases h2
        refine g_aload_n E dX12_job_74 0 rfl ?_
        refine gg_12_83 E (hN 12 (by decide)) dX12_job_75 ?_
        refine g_iload_n E dX12_job_78 1 rfl ?_
        refine g_iaload E (hN 52 (by decide)) (by decide) rfl dX12_job_79 (fun v5 => ?_)
        exact g_iret E dX12_job_80
      | 3, h1, h2 =>
        cases h1
        cases h2
        refine g_aload_n E dX12_job_81 0 rfl ?_
        refine gg_12_86 E (hN 12 (by decide)) dX12_job_82 ?_
        refine g_iload_n E dX12_job_85 1 rfl ?_
        refine g_iaload E (hN 53 (by decide)) (by decide) rfl dX12_job_86 (fun v6 => ?_)
        exact g_iret E dX12_job_87
      | 4, h1, h2 =>
        cases h1
        cases h2
        refine g_aload_n E dX12_job_88 0 rfl ?_
        refine gg_12_89 E (hN 12 (by decide)) dX12_job_89 ?_
        refine g_iload_n E dX12_job_92 1 rfl ?_
        refine g_iaload E (hN 54 (by decide)) (by decide) rfl dX12_job_93 (fun v7 => ?_)
        exact g_iret E dX12_job_94
      | 5, h1, h2 =>
        cases h1
        cases h2
        refine g_aload_n E dX12_job_95 0 rfl ?_
        refine gg_12_92 E (hN 12 (by decide)) dX12_job_96 ?_
        refine g_iload_n E dX12_job_99 1 rfl ?_
        refine g_iaload E (hN 55 (by decide)) (by decide) rfl dX12_job_100 (fun v8 => ?_)
        exact g_iret E dX12_job_101
      | 6, h1, h2 =>
        cases h1
        cases h2
        refine g_aload_n E dX12_job_102 0 rfl ?_
        refine gg_12_95 E (hN 12 (by decide)) dX12_job_103 ?_
        refine g_iload_n E dX12_job_106 1 rfl ?_
        refine g_baload E (hN 56 (by decide)) (by decide) rfl dX12_job_107 (fun v9 => ?_)
        refine g_if_eq E 115 dX12_job_108 (by decide) ?_ ?_
        · refine g_iconst E (v := 0) dX12_job_115 (by decide) ?_
          exact g_iret E dX12_job_116
        · refine g_iconst E (v := 1) dX12_job_111 (by decide) ?_
          refine g_goto E 116 dX12_job_112 (by decide) ?_
          exact g_iret E dX12_job_116
      | k + 7, h1, h2 =>
        simp at h1
  · refine g_iconst E (v := (-1)) dX12_job_14 (by decide) ?_
    exact g_iret E dX12_job_15
end

theorem dX12_drawer_0 : decode cX12_drawer 0 = .ok (.iload_n 1, 1) := by decide +kernel
theorem dX12_drawer_1 : decode cX12_drawer 1 = .ok (.iconst 0, 1) := by decide +kernel
theorem dX12_drawer_2 : decode cX12_drawer 2 = .ok (.sipush 255, 3) := by decide +kernel
theorem dX12_drawer_5 : decode cX12_drawer 5 = .ok (.invokestatic 160, 3) := by decide +kernel
theorem dX12_drawer_8 : decode cX12_drawer 8 = .ok (.ifCond .eq 12, 3) := by decide +kernel
theorem dX12_drawer_11 : decode cX12_drawer 11 = .ok (.iload_n 2, 1) := by decide +kernel
theorem dX12_drawer_12 : decode cX12_drawer 12 = .ok (.ifCond .lt 8, 3) := by decide +kernel
theorem dX12_drawer_15 : decode cX12_drawer 15 = .ok (.iload_n 2, 1) := by decide +kernel
theorem dX12_drawer_16 : decode cX12_drawer 16 = .ok (.iconst 5, 1) := by decide +kernel
theorem dX12_drawer_17 : decode cX12_drawer 17 = .ok (.if_icmp .le 5, 3) := by decide +kernel
theorem dX12_drawer_20 : decode cX12_drawer 20 = .ok (.iconst (-1), 1) := by decide +kernel
theorem dX12_drawer_21 : decode cX12_drawer 21 = .ok (.ireturn, 1) := by decide +kernel
theorem dX12_drawer_22 : decode cX12_drawer 22 = .ok (.iload_n 2, 1) := by decide +kernel
theorem dX12_drawer_23 : decode cX12_drawer 23 = .ok (.ifCond .ne 18, 3) := by decide +kernel
theorem dX12_drawer_26 : decode cX12_drawer 26 = .ok (.aload_n 0, 1) := by decide +kernel
theorem dX12_drawer_27 : decode cX12_drawer 27 = .ok (.getfield 17, 3) := by decide +kernel
theorem dX12_drawer_30 : decode cX12_drawer 30 = .ok (.iload_n 1, 1) := by decide +kernel
theorem dX12_drawer_31 : decode cX12_drawer 31 = .ok (.baload, 1) := by decide +kernel
theorem dX12_drawer_32 : decode cX12_drawer 32 = .ok (.ifCond .eq 7, 3) := by decide +kernel
theorem dX12_drawer_35 : decode cX12_drawer 35 = .ok (.iconst 1, 1) := by decide +kernel
theorem dX12_drawer_36 : decode cX12_drawer 36 = .ok (.goto 4, 3) := by decide +kernel
theorem dX12_drawer_39 : decode cX12_drawer 39 = .ok (.iconst 0, 1) := by decide +kernel
theorem dX12_drawer_40 : decode cX12_drawer 40 = .ok (.ireturn, 1) := by decide +kernel
theorem dX12_drawer_41 : decode cX12_drawer 41 = .ok (.aload_n 0, 1) := by decide +kernel
theorem dX12_drawer_42 : decode cX12_drawer 42 = .ok (.getfield 17, 3) := by decide +kernel
theorem dX12_drawer_45 : decode cX12_drawer 45 = .ok (.iload_n 1, 1) := by decide +kernel
theorem dX12_drawer_46 : decode cX12_drawer 46 = .ok (.baload, 1) := by decide +kernel
theorem dX12_drawer_47 : decode cX12_drawer 47 = .ok (.ifCond .ne 5, 3) := by decide +kernel
theorem dX12_drawer_50 : decode cX12_drawer 50 = .ok (.iconst (-1), 1) := by decide +kernel
theorem dX12_drawer_51 : decode cX12_drawer 51 = .ok (.ireturn, 1) := by decide +kernel
theorem dX12_drawer_52 : decode cX12_drawer 52 = .ok (.iload_n 2, 1) := by decide +kernel
theorem dX12_drawer_53 : decode cX12_drawer 53 = .ok (.iconst 1, 1) := by decide +kernel
theorem dX12_drawer_54 : decode cX12_drawer 54 = .ok (.if_icmp .ne 12, 3) := by decide +kernel
theorem dX12_drawer_57 : decode cX12_drawer 57 = .ok (.aload_n 0, 1) := by decide +kernel
theorem dX12_drawer_58 : decode cX12_drawer 58 = .ok (.getfield 20, 3) := by decide +kernel
theorem dX12_drawer_61 : decode cX12_drawer 61 = .ok (.iload_n 1, 1) := by decide +kernel
theorem dX12_drawer_62 : decode cX12_drawer 62 = .ok (.iaload, 1) := by decide +kernel
theorem dX12_drawer_63 : decode cX12_drawer 63 = .ok (.goto 51, 3) := by decide +kernel
theorem dX12_drawer_66 : decode cX12_drawer 66 = .ok (.iload_n 2, 1) := by decide +kernel
theorem dX12_drawer_67 : decode cX12_drawer 67 = .ok (.iconst 2, 1) := by decide +kernel
theorem dX12_drawer_68 : decode cX12_drawer 68 = .ok (.if_icmp .ne 12, 3) := by decide +kernel
theorem dX12_drawer_71 : decode cX12_drawer 71 = .ok (.aload_n 0, 1) := by decide +kernel
theorem dX12_drawer_72 : decode cX12_drawer 72 = .ok (.getfield 23, 3) := by decide +kernel
theorem dX12_drawer_75 : decode cX12_drawer 75 = .ok (.iload_n 1, 1) := by decide +kernel
theorem dX12_drawer_76 : decode cX12_drawer 76 = .ok (.iaload, 1) := by decide +kernel
theorem dX12_drawer_77 : decode cX12_drawer 77 = .ok (.goto 37, 3) := by decide +kernel
theorem dX12_drawer_80 : decode cX12_drawer 80 = .ok (.iload_n 2, 1) := by decide +kernel
theorem dX12_drawer_81 : decode cX12_drawer 81 = .ok (.iconst 3, 1) := by decide +kernel
theorem dX12_drawer_82 : decode cX12_drawer 82 = .ok (.if_icmp .ne 12, 3) := by decide +kernel
theorem dX12_drawer_85 : decode cX12_drawer 85 = .ok (.aload_n 0, 1) := by decide +kernel
theorem dX12_drawer_86 : decode cX12_drawer 86 = .ok (.getfield 32, 3) := by decide +kernel
theorem dX12_drawer_89 : decode cX12_drawer 89 = .ok (.iload_n 1, 1) := by decide +kernel
theorem dX12_drawer_90 : decode cX12_drawer 90 = .ok (.iaload, 1) := by decide +kernel
theorem dX12_drawer_91 : decode cX12_drawer 91 = .ok (.goto 23, 3) := by decide +kernel
theorem dX12_drawer_94 : decode cX12_drawer 94 = .ok (.iload_n 2, 1) := by decide +kernel
theorem dX12_drawer_95 : decode cX12_drawer 95 = .ok (.iconst 4, 1) := by decide +kernel
theorem dX12_drawer_96 : decode cX12_drawer 96 = .ok (.if_icmp .ne 12, 3) := by decide +kernel
theorem dX12_drawer_99 : decode cX12_drawer 99 = .ok (.aload_n 0, 1) := by decide +kernel
theorem dX12_drawer_100 : decode cX12_drawer 100 = .ok (.getfield 35, 3) := by decide +kernel
theorem dX12_drawer_103 : decode cX12_drawer 103 = .ok (.iload_n 1, 1) := by decide +kernel
theorem dX12_drawer_104 : decode cX12_drawer 104 = .ok (.iaload, 1) := by decide +kernel
theorem dX12_drawer_105 : decode cX12_drawer 105 = .ok (.goto 9, 3) := by decide +kernel
theorem dX12_drawer_108 : decode cX12_drawer 108 = .ok (.aload_n 0, 1) := by decide +kernel
theorem dX12_drawer_109 : decode cX12_drawer 109 = .ok (.getfield 38, 3) := by decide +kernel
theorem dX12_drawer_112 : decode cX12_drawer 112 = .ok (.iload_n 1, 1) := by decide +kernel
theorem dX12_drawer_113 : decode cX12_drawer 113 = .ok (.iaload, 1) := by decide +kernel
theorem dX12_drawer_114 : decode cX12_drawer 114 = .ok (.ireturn, 1) := by decide +kernel
def f_X12_drawer (ln : Nat → Nat) (x1 : Int32) (x2 : Int32) (s : dr_S) : Option (Int32 × dr_S) := dr_bnd (f_X12_in ln x1 0 255 s) (fun r2 s1 => (if r2 = 0 then some ((-1), s1) else (if x2 < 0 then some ((-1), s1) else (if x2 ≤ 5 then (if x2 = 0 then (dr_rd ln s1 30 x1).bind (fun v9 => (if v9 = 0 then some (0, s1) else some (1, s1))) else (dr_rd ln s1 30 x1).bind (fun v3 => (if v3 = 0 then some ((-1), s1) else (if x2 = 1 then (dr_rd ln s1 31 x1).bind (fun v8 => some (v8, s1)) else (if x2 = 2 then (dr_rd ln s1 32 x1).bind (fun v7 => some (v7, s1)) else (if x2 = 3 then (dr_rd ln s1 35 x1).bind (fun v6 => some (v6, s1)) else (if x2 = 4 then (dr_rd ln s1 36 x1).bind (fun v5 => some (v5, s1)) else (dr_rd ln s1 37 x1).bind (fun v4 => some (v4, s1))))))))) else some ((-1), s1)))))
section
variable {p : Program} {l : Launch} {e : Env} {s0 : State} {m : MethodId} {args : Array Value} {below : List Frame} {meth : Method} {c : Code} {A : Nat → Prop} {D : va_G} {cI cZ : ClassId} {ad ln : Nat → Nat} {L : List Nat}
set_option maxHeartbeats 4000000 in
set_option maxRecDepth 20000 in
theorem c_X12_drawer (hap : dr_ap ad L) (hN : ∀ x ∈ nd_12, x ∈ L) (x1 : Int32) (x2 : Int32) (s : dr_S) : dr_Mi l D cI cZ ad ln L yX12_drawer cX12_drawer 3 (some .int) 1 [.ref (ad 12), .int x1, .int x2] s (f_X12_drawer ln x1 x2 s) := by
  refine dr_meti (own := RX12) (by decide) rfl (Nat.le_of_ble_eq_true rfl) hap ?_
  intro p e s0 m args below meth c A E
  unfold f_X12_drawer
  refine g_eqL (lv' := [(0, .ref (ad 12)), (1, .int x1), (2, .int x2)]) rfl ?_
  refine g_iload_n E dX12_drawer_0 1 rfl ?_
  refine g_iconst E (v := 0) dX12_drawer_1 (by decide) ?_
  refine g_sipush E (v := 255) dX12_drawer_2 (by decide) ?_
  refine g_cSi E [.int x1, .int 0, .int 255] rfl (c_X12_in hap hN x1 0 255 s) ms_X12_in mw_X12_in rfl ml_12_160 ⟨Nat.le_of_ble_eq_true rfl, Nat.le_of_ble_eq_true rfl⟩ (Nat.le_of_ble_eq_true rfl) dX12_drawer_5 (fun r2 s1 => ?_)
  refine g_if_eq E 20 dX12_drawer_8 (by decide) ?_ ?_
  · refine g_iconst E (v := (-1)) dX12_drawer_20 (by decide) ?_
    exact g_iret E dX12_drawer_21
  · refine g_iload_n E dX12_drawer_11 2 rfl ?_
    refine g_if_lt E 20 dX12_drawer_12 (by decide) ?_ ?_
    · refine g_iconst E (v := (-1)) dX12_drawer_20 (by decide) ?_
      exact g_iret E dX12_drawer_21
    · refine g_iload_n E dX12_drawer_15 2 rfl ?_
      refine g_iconst E (v := 5) dX12_drawer_16 (by decide) ?_
      refine g_icmp_le E 22 dX12_drawer_17 (by decide) ?_ ?_
      · refine g_iload_n E dX12_drawer_22 2 rfl ?_
        refine g_if_ne E 41 dX12_drawer_23 (by decide) ?_ ?_
        · refine g_aload_n E dX12_drawer_41 0 rfl ?_
          refine gg_12_17 E (hN 12 (by decide)) dX12_drawer_42 ?_
          refine g_iload_n E dX12_drawer_45 1 rfl ?_
          refine g_baload E (hN 30 (by decide)) (by decide) rfl dX12_drawer_46 (fun v3 => ?_)
          refine g_if_ne E 52 dX12_drawer_47 (by decide) ?_ ?_
          · refine g_iload_n E dX12_drawer_52 2 rfl ?_
            refine g_iconst E (v := 1) dX12_drawer_53 (by decide) ?_
            refine g_icmp_ne E 66 dX12_drawer_54 (by decide) ?_ ?_
            · refine g_iload_n E dX12_drawer_66 2 rfl ?_
              refine g_iconst E (v := 2) dX12_drawer_67 (by decide) ?_
              refine g_icmp_ne E 80 dX12_drawer_68 (by decide) ?_ ?_
              · refine g_iload_n E dX12_drawer_80 2 rfl ?_
                refine g_iconst E (v := 3) dX12_drawer_81 (by decide) ?_
                refine g_icmp_ne E 94 dX12_drawer_82 (by decide) ?_ ?_
                · refine g_iload_n E dX12_drawer_94 2 rfl ?_
                  refine g_iconst E (v := 4) dX12_drawer_95 (by decide) ?_
                  refine g_icmp_ne E 108 dX12_drawer_96 (by decide) ?_ ?_
                  · refine g_aload_n E dX12_drawer_108 0 rfl ?_
                    refine gg_12_38 E (hN 12 (by decide)) dX12_drawer_109 ?_
                    refine g_iload_n E dX12_drawer_112 1 rfl ?_
                    refine g_iaload E (hN 37 (by decide)) (by decide) rfl dX12_drawer_113 (fun v4 => ?_)
                    exact g_iret E dX12_drawer_114
                  · refine g_aload_n E dX12_drawer_99 0 rfl ?_
                    refine gg_12_35 E (hN 12 (by decide)) dX12_drawer_100 ?_
                    refine g_iload_n E dX12_drawer_103 1 rfl ?_
                    refine g_iaload E (hN 36 (by decide)) (by decide) rfl dX12_drawer_104 (fun v5 => ?_)
                    refine g_goto E 114 dX12_drawer_105 (by decide) ?_
                    exact g_iret E dX12_drawer_114
                · refine g_aload_n E dX12_drawer_85 0 rfl ?_
                  refine gg_12_32 E (hN 12 (by decide)) dX12_drawer_86 ?_
                  refine g_iload_n E dX12_drawer_89 1 rfl ?_
                  refine g_iaload E (hN 35 (by decide)) (by decide) rfl dX12_drawer_90 (fun v6 => ?_)
                  refine g_goto E 114 dX12_drawer_91 (by decide) ?_
                  exact g_iret E dX12_drawer_114
              · refine g_aload_n E dX12_drawer_71 0 rfl ?_
                refine gg_12_23 E (hN 12 (by decide)) dX12_drawer_72 ?_
                refine g_iload_n E dX12_drawer_75 1 rfl ?_
                refine g_iaload E (hN 32 (by decide)) (by decide) rfl dX12_drawer_76 (fun v7 => ?_)
                refine g_goto E 114 dX12_drawer_77 (by decide) ?_
                exact g_iret E dX12_drawer_114
            · refine g_aload_n E dX12_drawer_57 0 rfl ?_
              refine gg_12_20 E (hN 12 (by decide)) dX12_drawer_58 ?_
              refine g_iload_n E dX12_drawer_61 1 rfl ?_
              refine g_iaload E (hN 31 (by decide)) (by decide) rfl dX12_drawer_62 (fun v8 => ?_)
              refine g_goto E 114 dX12_drawer_63 (by decide) ?_
              exact g_iret E dX12_drawer_114
          · refine g_iconst E (v := (-1)) dX12_drawer_50 (by decide) ?_
            exact g_iret E dX12_drawer_51
        · refine g_aload_n E dX12_drawer_26 0 rfl ?_
          refine gg_12_17 E (hN 12 (by decide)) dX12_drawer_27 ?_
          refine g_iload_n E dX12_drawer_30 1 rfl ?_
          refine g_baload E (hN 30 (by decide)) (by decide) rfl dX12_drawer_31 (fun v9 => ?_)
          refine g_if_eq E 39 dX12_drawer_32 (by decide) ?_ ?_
          · refine g_iconst E (v := 0) dX12_drawer_39 (by decide) ?_
            exact g_iret E dX12_drawer_40
          · refine g_iconst E (v := 1) dX12_drawer_35 (by decide) ?_
            refine g_goto E 40 dX12_drawer_36 (by decide) ?_
            exact g_iret E dX12_drawer_40
      · refine g_iconst E (v := (-1)) dX12_drawer_20 (by decide) ?_
        exact g_iret E dX12_drawer_21
end

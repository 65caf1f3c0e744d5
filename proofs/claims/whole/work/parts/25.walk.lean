theorem dX12_isBad_0 : decode cX12_isBad 0 = .ok (.aload_n 0, 1) := by decide +kernel
theorem dX12_isBad_1 : decode cX12_isBad 1 = .ok (.getfield 23, 3) := by decide +kernel
theorem dX12_isBad_4 : decode cX12_isBad 4 = .ok (.iload_n 1, 1) := by decide +kernel
theorem dX12_isBad_5 : decode cX12_isBad 5 = .ok (.iaload, 1) := by decide +kernel
theorem dX12_isBad_6 : decode cX12_isBad 6 = .ok (.iconst 2, 1) := by decide +kernel
theorem dX12_isBad_7 : decode cX12_isBad 7 = .ok (.aload_n 0, 1) := by decide +kernel
theorem dX12_isBad_8 : decode cX12_isBad 8 = .ok (.getfield 152, 3) := by decide +kernel
theorem dX12_isBad_11 : decode cX12_isBad 11 = .ok (.imul, 1) := by decide +kernel
theorem dX12_isBad_12 : decode cX12_isBad 12 = .ok (.if_icmp .le 5, 3) := by decide +kernel
theorem dX12_isBad_15 : decode cX12_isBad 15 = .ok (.iconst 1, 1) := by decide +kernel
theorem dX12_isBad_16 : decode cX12_isBad 16 = .ok (.ireturn, 1) := by decide +kernel
theorem dX12_isBad_17 : decode cX12_isBad 17 = .ok (.iconst 0, 1) := by decide +kernel
theorem dX12_isBad_18 : decode cX12_isBad 18 = .ok (.istore_n 2, 1) := by decide +kernel
theorem dX12_isBad_19 : decode cX12_isBad 19 = .ok (.iload_n 2, 1) := by decide +kernel
theorem dX12_isBad_20 : decode cX12_isBad 20 = .ok (.aload_n 0, 1) := by decide +kernel
theorem dX12_isBad_21 : decode cX12_isBad 21 = .ok (.getfield 23, 3) := by decide +kernel
theorem dX12_isBad_24 : decode cX12_isBad 24 = .ok (.iload_n 1, 1) := by decide +kernel
theorem dX12_isBad_25 : decode cX12_isBad 25 = .ok (.iaload, 1) := by decide +kernel
theorem dX12_isBad_26 : decode cX12_isBad 26 = .ok (.if_icmp .ge 57, 3) := by decide +kernel
theorem dX12_isBad_29 : decode cX12_isBad 29 = .ok (.aload_n 0, 1) := by decide +kernel
theorem dX12_isBad_30 : decode cX12_isBad 30 = .ok (.getfield 26, 3) := by decide +kernel
theorem dX12_isBad_33 : decode cX12_isBad 33 = .ok (.bipush 14, 2) := by decide +kernel
theorem dX12_isBad_35 : decode cX12_isBad 35 = .ok (.iload_n 1, 1) := by decide +kernel
theorem dX12_isBad_36 : decode cX12_isBad 36 = .ok (.imul, 1) := by decide +kernel
theorem dX12_isBad_37 : decode cX12_isBad 37 = .ok (.iload_n 2, 1) := by decide +kernel
theorem dX12_isBad_38 : decode cX12_isBad 38 = .ok (.iadd, 1) := by decide +kernel
theorem dX12_isBad_39 : decode cX12_isBad 39 = .ok (.iaload, 1) := by decide +kernel
theorem dX12_isBad_40 : decode cX12_isBad 40 = .ok (.istore_n 3, 1) := by decide +kernel
theorem dX12_isBad_41 : decode cX12_isBad 41 = .ok (.aload_n 0, 1) := by decide +kernel
theorem dX12_isBad_42 : decode cX12_isBad 42 = .ok (.iload_n 1, 1) := by decide +kernel
theorem dX12_isBad_43 : decode cX12_isBad 43 = .ok (.iload_n 3, 1) := by decide +kernel
theorem dX12_isBad_44 : decode cX12_isBad 44 = .ok (.invokevirtual 205, 3) := by decide +kernel
theorem dX12_isBad_47 : decode cX12_isBad 47 = .ok (.ifCond .eq 28, 3) := by decide +kernel
theorem dX12_isBad_50 : decode cX12_isBad 50 = .ok (.iload_n 2, 1) := by decide +kernel
theorem dX12_isBad_51 : decode cX12_isBad 51 = .ok (.ifCond .le 26, 3) := by decide +kernel
theorem dX12_isBad_54 : decode cX12_isBad 54 = .ok (.aload_n 0, 1) := by decide +kernel
theorem dX12_isBad_55 : decode cX12_isBad 55 = .ok (.aload_n 0, 1) := by decide +kernel
theorem dX12_isBad_56 : decode cX12_isBad 56 = .ok (.getfield 26, 3) := by decide +kernel
theorem dX12_isBad_59 : decode cX12_isBad 59 = .ok (.bipush 14, 2) := by decide +kernel
theorem dX12_isBad_61 : decode cX12_isBad 61 = .ok (.iload_n 1, 1) := by decide +kernel
theorem dX12_isBad_62 : decode cX12_isBad 62 = .ok (.imul, 1) := by decide +kernel
theorem dX12_isBad_63 : decode cX12_isBad 63 = .ok (.iload_n 2, 1) := by decide +kernel
theorem dX12_isBad_64 : decode cX12_isBad 64 = .ok (.iadd, 1) := by decide +kernel
theorem dX12_isBad_65 : decode cX12_isBad 65 = .ok (.iconst 1, 1) := by decide +kernel
theorem dX12_isBad_66 : decode cX12_isBad 66 = .ok (.isub, 1) := by decide +kernel
theorem dX12_isBad_67 : decode cX12_isBad 67 = .ok (.iaload, 1) := by decide +kernel
theorem dX12_isBad_68 : decode cX12_isBad 68 = .ok (.iload_n 3, 1) := by decide +kernel
theorem dX12_isBad_69 : decode cX12_isBad 69 = .ok (.invokevirtual 188, 3) := by decide +kernel
theorem dX12_isBad_72 : decode cX12_isBad 72 = .ok (.ifCond .ne 5, 3) := by decide +kernel
theorem dX12_isBad_75 : decode cX12_isBad 75 = .ok (.iconst 1, 1) := by decide +kernel
theorem dX12_isBad_76 : decode cX12_isBad 76 = .ok (.ireturn, 1) := by decide +kernel
theorem dX12_isBad_77 : decode cX12_isBad 77 = .ok (.iinc 2 1, 3) := by decide +kernel
theorem dX12_isBad_80 : decode cX12_isBad 80 = .ok (.goto (-61), 3) := by decide +kernel
theorem dX12_isBad_83 : decode cX12_isBad 83 = .ok (.iconst 0, 1) := by decide +kernel
theorem dX12_isBad_84 : decode cX12_isBad 84 = .ok (.istore_n 2, 1) := by decide +kernel
theorem dX12_isBad_85 : decode cX12_isBad 85 = .ok (.iload_n 2, 1) := by decide +kernel
theorem dX12_isBad_86 : decode cX12_isBad 86 = .ok (.aload_n 0, 1) := by decide +kernel
theorem dX12_isBad_87 : decode cX12_isBad 87 = .ok (.getfield 23, 3) := by decide +kernel
theorem dX12_isBad_90 : decode cX12_isBad 90 = .ok (.iload_n 1, 1) := by decide +kernel
theorem dX12_isBad_91 : decode cX12_isBad 91 = .ok (.iaload, 1) := by decide +kernel
theorem dX12_isBad_92 : decode cX12_isBad 92 = .ok (.if_icmp .gt 104, 3) := by decide +kernel
theorem dX12_isBad_95 : decode cX12_isBad 95 = .ok (.aload_n 0, 1) := by decide +kernel
theorem dX12_isBad_96 : decode cX12_isBad 96 = .ok (.getfield 20, 3) := by decide +kernel
theorem dX12_isBad_99 : decode cX12_isBad 99 = .ok (.iload_n 1, 1) := by decide +kernel
theorem dX12_isBad_100 : decode cX12_isBad 100 = .ok (.iaload, 1) := by decide +kernel
theorem dX12_isBad_101 : decode cX12_isBad 101 = .ok (.ifCond .le 95, 3) := by decide +kernel
theorem dX12_isBad_104 : decode cX12_isBad 104 = .ok (.aload_n 0, 1) := by decide +kernel
theorem dX12_isBad_105 : decode cX12_isBad 105 = .ok (.getfield 29, 3) := by decide +kernel
theorem dX12_isBad_108 : decode cX12_isBad 108 = .ok (.bipush 14, 2) := by decide +kernel
theorem dX12_isBad_110 : decode cX12_isBad 110 = .ok (.iload_n 1, 1) := by decide +kernel
theorem dX12_isBad_111 : decode cX12_isBad 111 = .ok (.imul, 1) := by decide +kernel
theorem dX12_isBad_112 : decode cX12_isBad 112 = .ok (.iload_n 2, 1) := by decide +kernel
theorem dX12_isBad_113 : decode cX12_isBad 113 = .ok (.iadd, 1) := by decide +kernel
theorem dX12_isBad_114 : decode cX12_isBad 114 = .ok (.iaload, 1) := by decide +kernel
theorem dX12_isBad_115 : decode cX12_isBad 115 = .ok (.istore_n 3, 1) := by decide +kernel
theorem dX12_isBad_116 : decode cX12_isBad 116 = .ok (.aload_n 0, 1) := by decide +kernel
theorem dX12_isBad_117 : decode cX12_isBad 117 = .ok (.getfield 17, 3) := by decide +kernel
theorem dX12_isBad_120 : decode cX12_isBad 120 = .ok (.iload_n 3, 1) := by decide +kernel
theorem dX12_isBad_121 : decode cX12_isBad 121 = .ok (.baload, 1) := by decide +kernel
theorem dX12_isBad_122 : decode cX12_isBad 122 = .ok (.ifCond .eq 20, 3) := by decide +kernel
theorem dX12_isBad_125 : decode cX12_isBad 125 = .ok (.aload_n 0, 1) := by decide +kernel
theorem dX12_isBad_126 : decode cX12_isBad 126 = .ok (.getfield 20, 3) := by decide +kernel
theorem dX12_isBad_129 : decode cX12_isBad 129 = .ok (.iload_n 3, 1) := by decide +kernel
theorem dX12_isBad_130 : decode cX12_isBad 130 = .ok (.iaload, 1) := by decide +kernel
theorem dX12_isBad_131 : decode cX12_isBad 131 = .ok (.aload_n 0, 1) := by decide +kernel
theorem dX12_isBad_132 : decode cX12_isBad 132 = .ok (.getfield 20, 3) := by decide +kernel
theorem dX12_isBad_135 : decode cX12_isBad 135 = .ok (.iload_n 1, 1) := by decide +kernel
theorem dX12_isBad_136 : decode cX12_isBad 136 = .ok (.iaload, 1) := by decide +kernel
theorem dX12_isBad_137 : decode cX12_isBad 137 = .ok (.iconst 1, 1) := by decide +kernel
theorem dX12_isBad_138 : decode cX12_isBad 138 = .ok (.isub, 1) := by decide +kernel
theorem dX12_isBad_139 : decode cX12_isBad 139 = .ok (.if_icmp .eq 5, 3) := by decide +kernel
theorem dX12_isBad_142 : decode cX12_isBad 142 = .ok (.iconst 1, 1) := by decide +kernel
theorem dX12_isBad_143 : decode cX12_isBad 143 = .ok (.ireturn, 1) := by decide +kernel
theorem dX12_isBad_144 : decode cX12_isBad 144 = .ok (.iload_n 2, 1) := by decide +kernel
theorem dX12_isBad_145 : decode cX12_isBad 145 = .ok (.aload_n 0, 1) := by decide +kernel
theorem dX12_isBad_146 : decode cX12_isBad 146 = .ok (.getfield 23, 3) := by decide +kernel
theorem dX12_isBad_149 : decode cX12_isBad 149 = .ok (.iload_n 1, 1) := by decide +kernel
theorem dX12_isBad_150 : decode cX12_isBad 150 = .ok (.iaload, 1) := by decide +kernel
theorem dX12_isBad_151 : decode cX12_isBad 151 = .ok (.if_icmp .ge 39, 3) := by decide +kernel
theorem dX12_isBad_154 : decode cX12_isBad 154 = .ok (.aload_n 0, 1) := by decide +kernel
theorem dX12_isBad_155 : decode cX12_isBad 155 = .ok (.getfield 32, 3) := by decide +kernel
theorem dX12_isBad_158 : decode cX12_isBad 158 = .ok (.iload_n 3, 1) := by decide +kernel
theorem dX12_isBad_159 : decode cX12_isBad 159 = .ok (.iaload, 1) := by decide +kernel
theorem dX12_isBad_160 : decode cX12_isBad 160 = .ok (.iconst (-1), 1) := by decide +kernel
theorem dX12_isBad_161 : decode cX12_isBad 161 = .ok (.if_icmp .eq 27, 3) := by decide +kernel
theorem dX12_isBad_164 : decode cX12_isBad 164 = .ok (.aload_n 0, 1) := by decide +kernel
theorem dX12_isBad_165 : decode cX12_isBad 165 = .ok (.aload_n 0, 1) := by decide +kernel
theorem dX12_isBad_166 : decode cX12_isBad 166 = .ok (.getfield 26, 3) := by decide +kernel
theorem dX12_isBad_169 : decode cX12_isBad 169 = .ok (.bipush 14, 2) := by decide +kernel
theorem dX12_isBad_171 : decode cX12_isBad 171 = .ok (.iload_n 1, 1) := by decide +kernel
theorem dX12_isBad_172 : decode cX12_isBad 172 = .ok (.imul, 1) := by decide +kernel
theorem dX12_isBad_173 : decode cX12_isBad 173 = .ok (.iload_n 2, 1) := by decide +kernel
theorem dX12_isBad_174 : decode cX12_isBad 174 = .ok (.iadd, 1) := by decide +kernel
theorem dX12_isBad_175 : decode cX12_isBad 175 = .ok (.iaload, 1) := by decide +kernel
theorem dX12_isBad_176 : decode cX12_isBad 176 = .ok (.aload_n 0, 1) := by decide +kernel
theorem dX12_isBad_177 : decode cX12_isBad 177 = .ok (.getfield 32, 3) := by decide +kernel
theorem dX12_isBad_180 : decode cX12_isBad 180 = .ok (.iload_n 3, 1) := by decide +kernel
theorem dX12_isBad_181 : decode cX12_isBad 181 = .ok (.iaload, 1) := by decide +kernel
theorem dX12_isBad_182 : decode cX12_isBad 182 = .ok (.invokevirtual 188, 3) := by decide +kernel
theorem dX12_isBad_185 : decode cX12_isBad 185 = .ok (.ifCond .eq 5, 3) := by decide +kernel
theorem dX12_isBad_188 : decode cX12_isBad 188 = .ok (.iconst 1, 1) := by decide +kernel
theorem dX12_isBad_189 : decode cX12_isBad 189 = .ok (.ireturn, 1) := by decide +kernel
theorem dX12_isBad_190 : decode cX12_isBad 190 = .ok (.iinc 2 1, 3) := by decide +kernel
theorem dX12_isBad_193 : decode cX12_isBad 193 = .ok (.goto (-108), 3) := by decide +kernel
theorem dX12_isBad_196 : decode cX12_isBad 196 = .ok (.iconst 0, 1) := by decide +kernel
theorem dX12_isBad_197 : decode cX12_isBad 197 = .ok (.ireturn, 1) := by decide +kernel
def f_X12_isBad_p190 (ln : Nat → Nat) (kb85 : Int32 → Int32 → dr_S → Option (Int32 × dr_S)) (x1 : Int32) (x2 : Int32) (s : dr_S) : Option (Int32 × dr_S) := dr_let (x2 + 1) (fun y22 => (kb85 x1 y22 s))
def f_X12_isBad_p85 (ln : Nat → Nat) : Nat → Int32 → Int32 → dr_S → Option (Int32 × dr_S)
  | 0, _, _, _ => none
  | n + 1, x1, x2, s => (dr_rd ln s 32 x1).bind (fun v10 => (if v10 < x2 then some (0, s) else (dr_rd ln s 31 x1).bind (fun v11 => (if v11 ≤ 0 then some (0, s) else (dr_rd ln s 34 ((14 * x1) + x2)).bind (fun v12 => (dr_rd ln s 30 v12).bind (fun v13 => (if v13 = 0 then some (1, s) else (dr_rd ln s 31 v12).bind (fun v14 => (dr_rd ln s 31 x1).bind (fun v15 => (if v14 = (v15 - 1) then (dr_rd ln s 32 x1).bind (fun v16 => (if v16 ≤ x2 then (f_X12_isBad_p190 ln (f_X12_isBad_p85 ln n) x1 x2 s) else (dr_rd ln s 35 v12).bind (fun v17 => (if v17 = (-1) then some (1, s) else (dr_rd ln s 33 ((14 * x1) + x2)).bind (fun v18 => (dr_rd ln s 35 v12).bind (fun v19 => dr_bnd (f_X12_isAhead ln v18 v19 s) (fun r21 s20 => (if r21 = 0 then (f_X12_isBad_p190 ln (f_X12_isBad_p85 ln n) x1 x2 s20) else some (1, s20))))))))) else some (1, s)))))))))))
def f_X12_isBad_p77 (ln : Nat → Nat) (kb19 : Int32 → Int32 → dr_S → Option (Int32 × dr_S)) (x1 : Int32) (x2 : Int32) (s : dr_S) : Option (Int32 × dr_S) := dr_let (x2 + 1) (fun y9 => (kb19 x1 y9 s))
def f_X12_isBad_p19 (ln : Nat → Nat) : Nat → Int32 → Int32 → dr_S → Option (Int32 × dr_S)
  | 0, _, _, _ => none
  | n + 1, x1, x2, s => (dr_rd ln s 32 x1).bind (fun v2 => (if v2 ≤ x2 then (f_X12_isBad_p85 ln dr_N x1 0 s) else (dr_rd ln s 33 ((14 * x1) + x2)).bind (fun v3 => dr_bnd (f_X12_covers ln x1 v3 s) (fun r5 s4 => (if r5 = 0 then some (1, s4) else (if x2 ≤ 0 then (f_X12_isBad_p77 ln (f_X12_isBad_p19 ln n) x1 x2 s4) else (dr_rd ln s4 33 (((14 * x1) + x2) - 1)).bind (fun v6 => dr_bnd (f_X12_isAhead ln v6 v3 s4) (fun r8 s7 => (if r8 = 0 then some (1, s7) else (f_X12_isBad_p77 ln (f_X12_isBad_p19 ln n) x1 x2 s7))))))))))
def f_X12_isBad (ln : Nat → Nat) (x1 : Int32) (s : dr_S) : Option (Int32 × dr_S) := (dr_rd ln s 32 x1).bind (fun v1 => (if v1 ≤ (2 * (s.2 1200)) then (f_X12_isBad_p19 ln dr_N x1 0 s) else some (1, s)))
section
variable {p : Program} {l : Launch} {e : Env} {s0 : State} {m : MethodId} {args : Array Value} {below : List Frame} {meth : Method} {c : Code} {A : Nat → Prop} {D : va_G} {cI cZ : ClassId} {ad ln : Nat → Nat} {L : List Nat}
set_option maxHeartbeats 4000000 in
set_option maxRecDepth 20000 in
theorem w_X12_isBad_p190 {kb85 : Int32 → Int32 → dr_S → Option (Int32 × dr_S)} (E : dr_E p (dr_rm 3) s0 m args meth c 0 0 A s0.heap D cI cZ ad L cX12_isBad 4 RX12 (some .boolean)) (hap : dr_ap ad L) (hN : ∀ x ∈ nd_12, x ∈ L) (hkb85 : ∀ (x1 : Int32) (x2 : Int32) (s : dr_S), dr_G p l e (dr_rm 3) s0 m args below meth c 0 0 A s0.heap D cI cZ ad ln L 4 (dr_Zi D cI cZ ad ln L A below args s0 0 0) 85 [(0, .ref (ad 12)), (1, .int x1), (2, .int x2)] [] s (kb85 x1 x2 s)) : ∀ (x1 : Int32) (x2 : Int32) (s : dr_S), dr_G p l e (dr_rm 3) s0 m args below meth c 0 0 A s0.heap D cI cZ ad ln L 4 (dr_Zi D cI cZ ad ln L A below args s0 0 0) 190 [(0, .ref (ad 12)), (1, .int x1), (2, .int x2)] [] s (f_X12_isBad_p190 ln kb85 x1 x2 s) := by
  intro x1 x2 s
  unfold f_X12_isBad_p190
  refine g_iinc E (lv' := []) (lv'' := fun y22 => [(2, .int y22), (0, .ref (ad 12)), (1, .int x1)]) (v := 1) dX12_isBad_190 2 rfl (by decide) (by decide) (fun _ => rfl) (fun y22 => ?_)
  refine g_goto E 85 dX12_isBad_193 (by decide) ?_
  refine g_sub [1, 2, 0] rfl ?_
  exact hkb85 x1 y22 s
set_option maxHeartbeats 4000000 in
set_option maxRecDepth 20000 in
theorem w_X12_isBad_p85 (E : dr_E p (dr_rm 3) s0 m args meth c 0 0 A s0.heap D cI cZ ad L cX12_isBad 4 RX12 (some .boolean)) (hap : dr_ap ad L) (hN : ∀ x ∈ nd_12, x ∈ L) : ∀ (n : Nat) (x1 : Int32) (x2 : Int32) (s : dr_S), dr_G p l e (dr_rm 3) s0 m args below meth c 0 0 A s0.heap D cI cZ ad ln L 4 (dr_Zi D cI cZ ad ln L A below args s0 0 0) 85 [(0, .ref (ad 12)), (1, .int x1), (2, .int x2)] [] s (f_X12_isBad_p85 ln n x1 x2 s) := by
  intro n
  induction n with
  | zero =>
    intro x1 x2 s
    rw [f_X12_isBad_p85]
    exact g_none
  | succ n hkb85 =>
    intro x1 x2 s
    rw [f_X12_isBad_p85]
    refine g_iload_n E dX12_isBad_85 2 rfl ?_
    refine g_aload_n E dX12_isBad_86 0 rfl ?_
    refine gg_12_23 E (hN 12 (by decide)) dX12_isBad_87 ?_
    refine g_iload_n E dX12_isBad_90 1 rfl ?_
    refine g_iaload E (hN 32 (by decide)) (by decide) rfl dX12_isBad_91 (fun v10 => ?_)
    refine g_icmp_gt E 196 dX12_isBad_92 (by decide) ?_ ?_
    · refine g_iconst E (v := 0) dX12_isBad_196 (by decide) ?_
      exact g_zret E dX12_isBad_197 (Or.inl rfl)
    · refine g_aload_n E dX12_isBad_95 0 rfl ?_
      refine gg_12_20 E (hN 12 (by decide)) dX12_isBad_96 ?_
      refine g_iload_n E dX12_isBad_99 1 rfl ?_
      refine g_iaload E (hN 31 (by decide)) (by decide) rfl dX12_isBad_100 (fun v11 => ?_)
      refine g_if_le E 196 dX12_isBad_101 (by decide) ?_ ?_
      · refine g_iconst E (v := 0) dX12_isBad_196 (by decide) ?_
        exact g_zret E dX12_isBad_197 (Or.inl rfl)
      · refine g_aload_n E dX12_isBad_104 0 rfl ?_
        refine gg_12_29 E (hN 12 (by decide)) dX12_isBad_105 ?_
        refine g_bipush E (v := 14) dX12_isBad_108 (by decide) ?_
        refine g_iload_n E dX12_isBad_110 1 rfl ?_
        refine g_imul E dX12_isBad_111 ?_
        refine g_iload_n E dX12_isBad_112 2 rfl ?_
        refine g_iadd E dX12_isBad_113 ?_
        refine g_iaload E (hN 34 (by decide)) (by decide) rfl dX12_isBad_114 (fun v12 => ?_)
        refine g_istore_n E (lv' := [(3, .int v12), (0, .ref (ad 12)), (1, .int x1), (2, .int x2)]) dX12_isBad_115 (by decide) rfl ?_
        refine g_aload_n E dX12_isBad_116 1 rfl ?_
        refine gg_12_17 E (hN 12 (by decide)) dX12_isBad_117 ?_
        refine g_iload_n E dX12_isBad_120 0 rfl ?_
        refine g_baload E (hN 30 (by decide)) (by decide) rfl dX12_isBad_121 (fun v13 => ?_)
        refine g_if_eq E 142 dX12_isBad_122 (by decide) ?_ ?_
        · refine g_iconst E (v := 1) dX12_isBad_142 (by decide) ?_
          exact g_zret E dX12_isBad_143 (Or.inr rfl)
        · refine g_aload_n E dX12_isBad_125 1 rfl ?_
          refine gg_12_20 E (hN 12 (by decide)) dX12_isBad_126 ?_
          refine g_iload_n E dX12_isBad_129 0 rfl ?_
          refine g_iaload E (hN 31 (by decide)) (by decide) rfl dX12_isBad_130 (fun v14 => ?_)
          refine g_aload_n E dX12_isBad_131 1 rfl ?_
          refine gg_12_20 E (hN 12 (by decide)) dX12_isBad_132 ?_
          refine g_iload_n E dX12_isBad_135 2 rfl ?_
          refine g_iaload E (hN 31 (by decide)) (by decide) rfl dX12_isBad_136 (fun v15 => ?_)
          refine g_iconst E (v := 1) dX12_isBad_137 (by decide) ?_
          refine g_isub E dX12_isBad_138 ?_
          refine g_icmp_eq E 144 dX12_isBad_139 (by decide) ?_ ?_
          · refine g_iload_n E dX12_isBad_144 3 rfl ?_
            refine g_aload_n E dX12_isBad_145 1 rfl ?_
            refine gg_12_23 E (hN 12 (by decide)) dX12_isBad_146 ?_
            refine g_iload_n E dX12_isBad_149 2 rfl ?_
            refine g_iaload E (hN 32 (by decide)) (by decide) rfl dX12_isBad_150 (fun v16 => ?_)
            refine g_icmp_ge E 190 dX12_isBad_151 (by decide) ?_ ?_
            · refine g_sub [1, 2, 3] rfl ?_
              exact w_X12_isBad_p190 E hap hN hkb85 x1 x2 s
            · refine g_aload_n E dX12_isBad_154 1 rfl ?_
              refine gg_12_32 E (hN 12 (by decide)) dX12_isBad_155 ?_
              refine g_iload_n E dX12_isBad_158 0 rfl ?_
              refine g_iaload E (hN 35 (by decide)) (by decide) rfl dX12_isBad_159 (fun v17 => ?_)
              refine g_iconst E (v := (-1)) dX12_isBad_160 (by decide) ?_
              refine g_icmp_eq E 188 dX12_isBad_161 (by decide) ?_ ?_
              · refine g_iconst E (v := 1) dX12_isBad_188 (by decide) ?_
                exact g_zret E dX12_isBad_189 (Or.inr rfl)
              · refine g_aload_n E dX12_isBad_164 1 rfl ?_
                refine g_aload_n E dX12_isBad_165 1 rfl ?_
                refine gg_12_26 E (hN 12 (by decide)) dX12_isBad_166 ?_
                refine g_bipush E (v := 14) dX12_isBad_169 (by decide) ?_
                refine g_iload_n E dX12_isBad_171 2 rfl ?_
                refine g_imul E dX12_isBad_172 ?_
                refine g_iload_n E dX12_isBad_173 3 rfl ?_
                refine g_iadd E dX12_isBad_174 ?_
                refine g_iaload E (hN 33 (by decide)) (by decide) rfl dX12_isBad_175 (fun v18 => ?_)
                refine g_aload_n E dX12_isBad_176 1 rfl ?_
                refine gg_12_32 E (hN 12 (by decide)) dX12_isBad_177 ?_
                refine g_iload_n E dX12_isBad_180 0 rfl ?_
                refine g_iaload E (hN 35 (by decide)) (by decide) rfl dX12_isBad_181 (fun v19 => ?_)
                refine g_cVi E [.int v18, .int v19] rfl (c_X12_isAhead hap hN v18 v19 s) (hN 12 (by decide)) (by decide) rfl rfl mi_X12_isAhead msl_X12_isAhead mw_X12_isAhead rfl ml_12_188 ⟨Nat.le_of_ble_eq_true rfl, Nat.le_of_ble_eq_true rfl⟩ (Nat.le_of_ble_eq_true rfl) dX12_isBad_182 (fun r21 s20 => ?_)
                refine g_if_eq E 190 dX12_isBad_185 (by decide) ?_ ?_
                · refine g_sub [1, 2, 3] rfl ?_
                  exact w_X12_isBad_p190 E hap hN hkb85 x1 x2 s20
                · refine g_iconst E (v := 1) dX12_isBad_188 (by decide) ?_
                  exact g_zret E dX12_isBad_189 (Or.inr rfl)
          · refine g_iconst E (v := 1) dX12_isBad_142 (by decide) ?_
            exact g_zret E dX12_isBad_143 (Or.inr rfl)
set_option maxHeartbeats 4000000 in
set_option maxRecDepth 20000 in
theorem w_X12_isBad_p77 {kb19 : Int32 → Int32 → dr_S → Option (Int32 × dr_S)} (E : dr_E p (dr_rm 3) s0 m args meth c 0 0 A s0.heap D cI cZ ad L cX12_isBad 4 RX12 (some .boolean)) (hap : dr_ap ad L) (hN : ∀ x ∈ nd_12, x ∈ L) (hkb19 : ∀ (x1 : Int32) (x2 : Int32) (s : dr_S), dr_G p l e (dr_rm 3) s0 m args below meth c 0 0 A s0.heap D cI cZ ad ln L 4 (dr_Zi D cI cZ ad ln L A below args s0 0 0) 19 [(0, .ref (ad 12)), (1, .int x1), (2, .int x2)] [] s (kb19 x1 x2 s)) : ∀ (x1 : Int32) (x2 : Int32) (s : dr_S), dr_G p l e (dr_rm 3) s0 m args below meth c 0 0 A s0.heap D cI cZ ad ln L 4 (dr_Zi D cI cZ ad ln L A below args s0 0 0) 77 [(0, .ref (ad 12)), (1, .int x1), (2, .int x2)] [] s (f_X12_isBad_p77 ln kb19 x1 x2 s) := by
  intro x1 x2 s
  unfold f_X12_isBad_p77
  refine g_iinc E (lv' := []) (lv'' := fun y9 => [(2, .int y9), (0, .ref (ad 12)), (1, .int x1)]) (v := 1) dX12_isBad_77 2 rfl (by decide) (by decide) (fun _ => rfl) (fun y9 => ?_)
  refine g_goto E 19 dX12_isBad_80 (by decide) ?_
  refine g_sub [1, 2, 0] rfl ?_
  exact hkb19 x1 y9 s
set_option maxHeartbeats 4000000 in
set_option maxRecDepth 20000 in
theorem w_X12_isBad_p19 (E : dr_E p (dr_rm 3) s0 m args meth c 0 0 A s0.heap D cI cZ ad L cX12_isBad 4 RX12 (some .boolean)) (hap : dr_ap ad L) (hN : ∀ x ∈ nd_12, x ∈ L) : ∀ (n : Nat) (x1 : Int32) (x2 : Int32) (s : dr_S), dr_G p l e (dr_rm 3) s0 m args below meth c 0 0 A s0.heap D cI cZ ad ln L 4 (dr_Zi D cI cZ ad ln L A below args s0 0 0) 19 [(0, .ref (ad 12)), (1, .int x1), (2, .int x2)] [] s (f_X12_isBad_p19 ln n x1 x2 s) := by
  intro n
  induction n with
  | zero =>
    intro x1 x2 s
    rw [f_X12_isBad_p19]
    exact g_none
  | succ n hkb19 =>
    intro x1 x2 s
    rw [f_X12_isBad_p19]
    refine g_iload_n E dX12_isBad_19 2 rfl ?_
    refine g_aload_n E dX12_isBad_20 0 rfl ?_
    refine gg_12_23 E (hN 12 (by decide)) dX12_isBad_21 ?_
    refine g_iload_n E dX12_isBad_24 1 rfl ?_
    refine g_iaload E (hN 32 (by decide)) (by decide) rfl dX12_isBad_25 (fun v2 => ?_)
    refine g_icmp_ge E 83 dX12_isBad_26 (by decide) ?_ ?_
    · refine g_iconst E (v := 0) dX12_isBad_83 (by decide) ?_
      refine g_istore_n E (lv' := [(2, .int 0), (0, .ref (ad 12)), (1, .int x1)]) dX12_isBad_84 (by decide) rfl ?_
      refine g_sub [1, 2, 0] rfl ?_
      exact w_X12_isBad_p85 E hap hN dr_N x1 0 s
    · refine g_aload_n E dX12_isBad_29 0 rfl ?_
      refine gg_12_26 E (hN 12 (by decide)) dX12_isBad_30 ?_
      refine g_bipush E (v := 14) dX12_isBad_33 (by decide) ?_
      refine g_iload_n E dX12_isBad_35 1 rfl ?_
      refine g_imul E dX12_isBad_36 ?_
      refine g_iload_n E dX12_isBad_37 2 rfl ?_
      refine g_iadd E dX12_isBad_38 ?_
      refine g_iaload E (hN 33 (by decide)) (by decide) rfl dX12_isBad_39 (fun v3 => ?_)
      refine g_istore_n E (lv' := [(3, .int v3), (0, .ref (ad 12)), (1, .int x1), (2, .int x2)]) dX12_isBad_40 (by decide) rfl ?_
      refine g_aload_n E dX12_isBad_41 1 rfl ?_
      refine g_iload_n E dX12_isBad_42 2 rfl ?_
      refine g_iload_n E dX12_isBad_43 0 rfl ?_
      refine g_cVi E [.int x1, .int v3] rfl (c_X12_covers hap hN x1 v3 s) (hN 12 (by decide)) (by decide) rfl rfl mi_X12_covers msl_X12_covers mw_X12_covers rfl ml_12_205 ⟨Nat.le_of_ble_eq_true rfl, Nat.le_of_ble_eq_true rfl⟩ (Nat.le_of_ble_eq_true rfl) dX12_isBad_44 (fun r5 s4 => ?_)
      refine g_if_eq E 75 dX12_isBad_47 (by decide) ?_ ?_
      · refine g_iconst E (v := 1) dX12_isBad_75 (by decide) ?_
        exact g_zret E dX12_isBad_76 (Or.inr rfl)
      · refine g_iload_n E dX12_isBad_50 3 rfl ?_
        refine g_if_le E 77 dX12_isBad_51 (by decide) ?_ ?_
        · refine g_sub [1, 2, 3] rfl ?_
          exact w_X12_isBad_p77 E hap hN hkb19 x1 x2 s4
        · refine g_aload_n E dX12_isBad_54 1 rfl ?_
          refine g_aload_n E dX12_isBad_55 1 rfl ?_
          refine gg_12_26 E (hN 12 (by decide)) dX12_isBad_56 ?_
          refine g_bipush E (v := 14) dX12_isBad_59 (by decide) ?_
          refine g_iload_n E dX12_isBad_61 2 rfl ?_
          refine g_imul E dX12_isBad_62 ?_
          refine g_iload_n E dX12_isBad_63 3 rfl ?_
          refine g_iadd E dX12_isBad_64 ?_
          refine g_iconst E (v := 1) dX12_isBad_65 (by decide) ?_
          refine g_isub E dX12_isBad_66 ?_
          refine g_iaload E (hN 33 (by decide)) (by decide) rfl dX12_isBad_67 (fun v6 => ?_)
          refine g_iload_n E dX12_isBad_68 0 rfl ?_
          refine g_cVi E [.int v6, .int v3] rfl (c_X12_isAhead hap hN v6 v3 s4) (hN 12 (by decide)) (by decide) rfl rfl mi_X12_isAhead msl_X12_isAhead mw_X12_isAhead rfl ml_12_188 ⟨Nat.le_of_ble_eq_true rfl, Nat.le_of_ble_eq_true rfl⟩ (Nat.le_of_ble_eq_true rfl) dX12_isBad_69 (fun r8 s7 => ?_)
          refine g_if_ne E 77 dX12_isBad_72 (by decide) ?_ ?_
          · refine g_sub [1, 2, 3] rfl ?_
            exact w_X12_isBad_p77 E hap hN hkb19 x1 x2 s7
          · refine g_iconst E (v := 1) dX12_isBad_75 (by decide) ?_
            exact g_zret E dX12_isBad_76 (Or.inr rfl)
set_option maxHeartbeats 4000000 in
set_option maxRecDepth 20000 in
theorem c_X12_isBad (hap : dr_ap ad L) (hN : ∀ x ∈ nd_12, x ∈ L) (x1 : Int32) (s : dr_S) : dr_Mi l D cI cZ ad ln L yX12_isBad cX12_isBad 4 (some .boolean) 3 [.ref (ad 12), .int x1] s (f_X12_isBad ln x1 s) := by
  refine dr_meti (own := RX12) (by decide) rfl (Nat.le_of_ble_eq_true rfl) hap ?_
  intro p e s0 m args below meth c A E
  unfold f_X12_isBad
  refine g_eqL (lv' := [(0, .ref (ad 12)), (1, .int x1)]) rfl ?_
  refine g_aload_n E dX12_isBad_0 0 rfl ?_
  refine gg_12_23 E (hN 12 (by decide)) dX12_isBad_1 ?_
  refine g_iload_n E dX12_isBad_4 1 rfl ?_
  refine g_iaload E (hN 32 (by decide)) (by decide) rfl dX12_isBad_5 (fun v1 => ?_)
  refine g_iconst E (v := 2) dX12_isBad_6 (by decide) ?_
  refine g_aload_n E dX12_isBad_7 0 rfl ?_
  refine gg_12_152 E (hN 12 (by decide)) dX12_isBad_8 ?_
  refine g_imul E dX12_isBad_11 ?_
  refine g_icmp_le E 17 dX12_isBad_12 (by decide) ?_ ?_
  · refine g_iconst E (v := 0) dX12_isBad_17 (by decide) ?_
    refine g_istore_n E (lv' := [(2, .int 0), (0, .ref (ad 12)), (1, .int x1)]) dX12_isBad_18 (by decide) rfl ?_
    refine g_sub [1, 2, 0] rfl ?_
    exact w_X12_isBad_p19 E hap hN dr_N x1 0 s
  · refine g_iconst E (v := 1) dX12_isBad_15 (by decide) ?_
    exact g_zret E dX12_isBad_16 (Or.inr rfl)
end

theorem dX12_shape_0 : decode cX12_shape 0 = .ok (.iconst 0, 1) := by decide +kernel
theorem dX12_shape_1 : decode cX12_shape 1 = .ok (.istore_n 1, 1) := by decide +kernel
theorem dX12_shape_2 : decode cX12_shape 2 = .ok (.iload_n 1, 1) := by decide +kernel
theorem dX12_shape_3 : decode cX12_shape 3 = .ok (.sipush 256, 3) := by decide +kernel
theorem dX12_shape_6 : decode cX12_shape 6 = .ok (.if_icmp .ge 28, 3) := by decide +kernel
theorem dX12_shape_9 : decode cX12_shape 9 = .ok (.aload_n 0, 1) := by decide +kernel
theorem dX12_shape_10 : decode cX12_shape 10 = .ok (.getfield 17, 3) := by decide +kernel
theorem dX12_shape_13 : decode cX12_shape 13 = .ok (.iload_n 1, 1) := by decide +kernel
theorem dX12_shape_14 : decode cX12_shape 14 = .ok (.baload, 1) := by decide +kernel
theorem dX12_shape_15 : decode cX12_shape 15 = .ok (.ifCond .eq 13, 3) := by decide +kernel
theorem dX12_shape_18 : decode cX12_shape 18 = .ok (.aload_n 0, 1) := by decide +kernel
theorem dX12_shape_19 : decode cX12_shape 19 = .ok (.iload_n 1, 1) := by decide +kernel
theorem dX12_shape_20 : decode cX12_shape 20 = .ok (.invokevirtual 295, 3) := by decide +kernel
theorem dX12_shape_23 : decode cX12_shape 23 = .ok (.ifCond .eq 5, 3) := by decide +kernel
theorem dX12_shape_26 : decode cX12_shape 26 = .ok (.iload_n 1, 1) := by decide +kernel
theorem dX12_shape_27 : decode cX12_shape 27 = .ok (.ireturn, 1) := by decide +kernel
theorem dX12_shape_28 : decode cX12_shape 28 = .ok (.iinc 1 1, 3) := by decide +kernel
theorem dX12_shape_31 : decode cX12_shape 31 = .ok (.goto (-29), 3) := by decide +kernel
theorem dX12_shape_34 : decode cX12_shape 34 = .ok (.iconst (-1), 1) := by decide +kernel
theorem dX12_shape_35 : decode cX12_shape 35 = .ok (.ireturn, 1) := by decide +kernel
def f_X12_shape_p28 (ln : Nat → Nat) (kb2 : Int32 → dr_S → Option (Int32 × dr_S)) (x1 : Int32) (s : dr_S) : Option (Int32 × dr_S) := dr_let (x1 + 1) (fun y4 => (kb2 y4 s))
def f_X12_shape_p2 (ln : Nat → Nat) : Nat → Int32 → dr_S → Option (Int32 × dr_S)
  | 0, _, _ => none
  | n + 1, x1, s => (if ((256 : Int32) ≤ x1 : Prop) then some ((-1), s) else (dr_rd ln s 30 x1).bind (fun v1 => (if v1 = 0 then (f_X12_shape_p28 ln (f_X12_shape_p2 ln n) x1 s) else dr_bnd (f_X12_isBad ln x1 s) (fun r3 s2 => (if r3 = 0 then (f_X12_shape_p28 ln (f_X12_shape_p2 ln n) x1 s2) else some (x1, s2))))))
def f_X12_shape (ln : Nat → Nat) (s : dr_S) : Option (Int32 × dr_S) := (f_X12_shape_p2 ln dr_N 0 s)
section
variable {p : Program} {l : Launch} {e : Env} {s0 : State} {m : MethodId} {args : Array Value} {below : List Frame} {meth : Method} {c : Code} {A : Nat → Prop} {D : va_G} {cI cZ : ClassId} {ad ln : Nat → Nat} {L : List Nat}
set_option maxHeartbeats 4000000 in
set_option maxRecDepth 20000 in
theorem w_X12_shape_p28 {kb2 : Int32 → dr_S → Option (Int32 × dr_S)} (E : dr_E p (dr_rm 4) s0 m args meth c 0 0 A s0.heap D cI cZ ad L cX12_shape 2 RX12 (some .int)) (hap : dr_ap ad L) (hN : ∀ x ∈ nd_12, x ∈ L) (hkb2 : ∀ (x1 : Int32) (s : dr_S), dr_G p l e (dr_rm 4) s0 m args below meth c 0 0 A s0.heap D cI cZ ad ln L 2 (dr_Zi D cI cZ ad ln L A below args s0 0 0) 2 [(0, .ref (ad 12)), (1, .int x1)] [] s (kb2 x1 s)) : ∀ (x1 : Int32) (s : dr_S), dr_G p l e (dr_rm 4) s0 m args below meth c 0 0 A s0.heap D cI cZ ad ln L 2 (dr_Zi D cI cZ ad ln L A below args s0 0 0) 28 [(0, .ref (ad 12)), (1, .int x1)] [] s (f_X12_shape_p28 ln kb2 x1 s) := by
  intro x1 s
  unfold f_X12_shape_p28
  refine g_iinc E (lv' := []) (lv'' := fun y4 => [(1, .int y4), (0, .ref (ad 12))]) (v := 1) dX12_shape_28 1 rfl (by decide) (by decide) (fun _ => rfl) (fun y4 => ?_)
  refine g_goto E 2 dX12_shape_31 (by decide) ?_
  refine g_sub [1, 0] rfl ?_
  exact hkb2 y4 s
set_option maxHeartbeats 4000000 in
set_option maxRecDepth 20000 in
theorem w_X12_shape_p2 (E : dr_E p (dr_rm 4) s0 m args meth c 0 0 A s0.heap D cI cZ ad L cX12_shape 2 RX12 (some .int)) (hap : dr_ap ad L) (hN : ∀ x ∈ nd_12, x ∈ L) : ∀ (n : Nat) (x1 : Int32) (s : dr_S), dr_G p l e (dr_rm 4) s0 m args below meth c 0 0 A s0.heap D cI cZ ad ln L 2 (dr_Zi D cI cZ ad ln L A below args s0 0 0) 2 [(0, .ref (ad 12)), (1, .int x1)] [] s (f_X12_shape_p2 ln n x1 s) := by
  intro n
  induction n with
  | zero =>
    intro x1 s
    rw [f_X12_shape_p2]
    exact g_none
  | succ n hkb2 =>
    intro x1 s
    rw [f_X12_shape_p2]
    refine g_iload_n E dX12_shape_2 1 rfl ?_
    refine g_sipush E (v := 256) dX12_shape_3 (by decide) ?_
    refine g_icmp_ge E 34 dX12_shape_6 (by decide) ?_ ?_
    · refine g_iconst E (v := (-1)) dX12_shape_34 (by decide) ?_
      exact g_iret E dX12_shape_35
    · refine g_aload_n E dX12_shape_9 0 rfl ?_
      refine gg_12_17 E (hN 12 (by decide)) dX12_shape_10 ?_
      refine g_iload_n E dX12_shape_13 1 rfl ?_
      refine g_baload E (hN 30 (by decide)) (by decide) rfl dX12_shape_14 (fun v1 => ?_)
      refine g_if_eq E 28 dX12_shape_15 (by decide) ?_ ?_
      · refine g_sub [0, 1] rfl ?_
        exact w_X12_shape_p28 E hap hN hkb2 x1 s
      · refine g_aload_n E dX12_shape_18 0 rfl ?_
        refine g_iload_n E dX12_shape_19 1 rfl ?_
        refine g_cVi E [.int x1] rfl (c_X12_isBad hap hN x1 s) (hN 12 (by decide)) (by decide) rfl rfl mi_X12_isBad msl_X12_isBad mw_X12_isBad rfl ml_12_295 ⟨Nat.le_of_ble_eq_true rfl, Nat.le_of_ble_eq_true rfl⟩ (Nat.le_of_ble_eq_true rfl) dX12_shape_20 (fun r3 s2 => ?_)
        refine g_if_eq E 28 dX12_shape_23 (by decide) ?_ ?_
        · refine g_sub [0, 1] rfl ?_
          exact w_X12_shape_p28 E hap hN hkb2 x1 s2
        · refine g_iload_n E dX12_shape_26 1 rfl ?_
          exact g_iret E dX12_shape_27
set_option maxHeartbeats 4000000 in
set_option maxRecDepth 20000 in
theorem c_X12_shape (hap : dr_ap ad L) (hN : ∀ x ∈ nd_12, x ∈ L) (s : dr_S) : dr_Mi l D cI cZ ad ln L yX12_shape cX12_shape 2 (some .int) 4 [.ref (ad 12)] s (f_X12_shape ln  s) := by
  refine dr_meti (own := RX12) (by decide) rfl (Nat.le_of_ble_eq_true rfl) hap ?_
  intro p e s0 m args below meth c A E
  unfold f_X12_shape
  refine g_eqL (lv' := [(0, .ref (ad 12))]) rfl ?_
  refine g_iconst E (v := 0) dX12_shape_0 (by decide) ?_
  refine g_istore_n E (lv' := [(1, .int 0), (0, .ref (ad 12))]) dX12_shape_1 (by decide) rfl ?_
  refine g_sub [1, 0] rfl ?_
  exact w_X12_shape_p2 E hap hN dr_N 0 s
end

theorem dX12_saves_0 : decode cX12_saves 0 = .ok (.iconst 0, 1) := by decide +kernel
theorem dX12_saves_1 : decode cX12_saves 1 = .ok (.istore_n 1, 1) := by decide +kernel
theorem dX12_saves_2 : decode cX12_saves 2 = .ok (.iload_n 1, 1) := by decide +kernel
theorem dX12_saves_3 : decode cX12_saves 3 = .ok (.sipush 256, 3) := by decide +kernel
theorem dX12_saves_6 : decode cX12_saves 6 = .ok (.if_icmp .ge 99, 3) := by decide +kernel
theorem dX12_saves_9 : decode cX12_saves 9 = .ok (.aload_n 0, 1) := by decide +kernel
theorem dX12_saves_10 : decode cX12_saves 10 = .ok (.getfield 122, 3) := by decide +kernel
theorem dX12_saves_13 : decode cX12_saves 13 = .ok (.iload_n 1, 1) := by decide +kernel
theorem dX12_saves_14 : decode cX12_saves 14 = .ok (.aload_n 0, 1) := by decide +kernel
theorem dX12_saves_15 : decode cX12_saves 15 = .ok (.getfield 17, 3) := by decide +kernel
theorem dX12_saves_18 : decode cX12_saves 18 = .ok (.iload_n 1, 1) := by decide +kernel
theorem dX12_saves_19 : decode cX12_saves 19 = .ok (.baload, 1) := by decide +kernel
theorem dX12_saves_20 : decode cX12_saves 20 = .ok (.bastore, 1) := by decide +kernel
theorem dX12_saves_21 : decode cX12_saves 21 = .ok (.aload_n 0, 1) := by decide +kernel
theorem dX12_saves_22 : decode cX12_saves 22 = .ok (.getfield 125, 3) := by decide +kernel
theorem dX12_saves_25 : decode cX12_saves 25 = .ok (.iconst 5, 1) := by decide +kernel
theorem dX12_saves_26 : decode cX12_saves 26 = .ok (.iload_n 1, 1) := by decide +kernel
theorem dX12_saves_27 : decode cX12_saves 27 = .ok (.imul, 1) := by decide +kernel
theorem dX12_saves_28 : decode cX12_saves 28 = .ok (.aload_n 0, 1) := by decide +kernel
theorem dX12_saves_29 : decode cX12_saves 29 = .ok (.getfield 20, 3) := by decide +kernel
theorem dX12_saves_32 : decode cX12_saves 32 = .ok (.iload_n 1, 1) := by decide +kernel
theorem dX12_saves_33 : decode cX12_saves 33 = .ok (.iaload, 1) := by decide +kernel
theorem dX12_saves_34 : decode cX12_saves 34 = .ok (.iastore, 1) := by decide +kernel
theorem dX12_saves_35 : decode cX12_saves 35 = .ok (.aload_n 0, 1) := by decide +kernel
theorem dX12_saves_36 : decode cX12_saves 36 = .ok (.getfield 125, 3) := by decide +kernel
theorem dX12_saves_39 : decode cX12_saves 39 = .ok (.iconst 5, 1) := by decide +kernel
theorem dX12_saves_40 : decode cX12_saves 40 = .ok (.iload_n 1, 1) := by decide +kernel
theorem dX12_saves_41 : decode cX12_saves 41 = .ok (.imul, 1) := by decide +kernel
theorem dX12_saves_42 : decode cX12_saves 42 = .ok (.iconst 1, 1) := by decide +kernel
theorem dX12_saves_43 : decode cX12_saves 43 = .ok (.iadd, 1) := by decide +kernel
theorem dX12_saves_44 : decode cX12_saves 44 = .ok (.aload_n 0, 1) := by decide +kernel
theorem dX12_saves_45 : decode cX12_saves 45 = .ok (.getfield 23, 3) := by decide +kernel
theorem dX12_saves_48 : decode cX12_saves 48 = .ok (.iload_n 1, 1) := by decide +kernel
theorem dX12_saves_49 : decode cX12_saves 49 = .ok (.iaload, 1) := by decide +kernel
theorem dX12_saves_50 : decode cX12_saves 50 = .ok (.iastore, 1) := by decide +kernel
theorem dX12_saves_51 : decode cX12_saves 51 = .ok (.aload_n 0, 1) := by decide +kernel
theorem dX12_saves_52 : decode cX12_saves 52 = .ok (.getfield 125, 3) := by decide +kernel
theorem dX12_saves_55 : decode cX12_saves 55 = .ok (.iconst 5, 1) := by decide +kernel
theorem dX12_saves_56 : decode cX12_saves 56 = .ok (.iload_n 1, 1) := by decide +kernel
theorem dX12_saves_57 : decode cX12_saves 57 = .ok (.imul, 1) := by decide +kernel
theorem dX12_saves_58 : decode cX12_saves 58 = .ok (.iconst 2, 1) := by decide +kernel
theorem dX12_saves_59 : decode cX12_saves 59 = .ok (.iadd, 1) := by decide +kernel
theorem dX12_saves_60 : decode cX12_saves 60 = .ok (.aload_n 0, 1) := by decide +kernel
theorem dX12_saves_61 : decode cX12_saves 61 = .ok (.getfield 32, 3) := by decide +kernel
theorem dX12_saves_64 : decode cX12_saves 64 = .ok (.iload_n 1, 1) := by decide +kernel
theorem dX12_saves_65 : decode cX12_saves 65 = .ok (.iaload, 1) := by decide +kernel
theorem dX12_saves_66 : decode cX12_saves 66 = .ok (.iastore, 1) := by decide +kernel
theorem dX12_saves_67 : decode cX12_saves 67 = .ok (.aload_n 0, 1) := by decide +kernel
theorem dX12_saves_68 : decode cX12_saves 68 = .ok (.getfield 125, 3) := by decide +kernel
theorem dX12_saves_71 : decode cX12_saves 71 = .ok (.iconst 5, 1) := by decide +kernel
theorem dX12_saves_72 : decode cX12_saves 72 = .ok (.iload_n 1, 1) := by decide +kernel
theorem dX12_saves_73 : decode cX12_saves 73 = .ok (.imul, 1) := by decide +kernel
theorem dX12_saves_74 : decode cX12_saves 74 = .ok (.iconst 3, 1) := by decide +kernel
theorem dX12_saves_75 : decode cX12_saves 75 = .ok (.iadd, 1) := by decide +kernel
theorem dX12_saves_76 : decode cX12_saves 76 = .ok (.aload_n 0, 1) := by decide +kernel
theorem dX12_saves_77 : decode cX12_saves 77 = .ok (.getfield 35, 3) := by decide +kernel
theorem dX12_saves_80 : decode cX12_saves 80 = .ok (.iload_n 1, 1) := by decide +kernel
theorem dX12_saves_81 : decode cX12_saves 81 = .ok (.iaload, 1) := by decide +kernel
theorem dX12_saves_82 : decode cX12_saves 82 = .ok (.iastore, 1) := by decide +kernel
theorem dX12_saves_83 : decode cX12_saves 83 = .ok (.aload_n 0, 1) := by decide +kernel
theorem dX12_saves_84 : decode cX12_saves 84 = .ok (.getfield 125, 3) := by decide +kernel
theorem dX12_saves_87 : decode cX12_saves 87 = .ok (.iconst 5, 1) := by decide +kernel
theorem dX12_saves_88 : decode cX12_saves 88 = .ok (.iload_n 1, 1) := by decide +kernel
theorem dX12_saves_89 : decode cX12_saves 89 = .ok (.imul, 1) := by decide +kernel
theorem dX12_saves_90 : decode cX12_saves 90 = .ok (.iconst 4, 1) := by decide +kernel
theorem dX12_saves_91 : decode cX12_saves 91 = .ok (.iadd, 1) := by decide +kernel
theorem dX12_saves_92 : decode cX12_saves 92 = .ok (.aload_n 0, 1) := by decide +kernel
theorem dX12_saves_93 : decode cX12_saves 93 = .ok (.getfield 38, 3) := by decide +kernel
theorem dX12_saves_96 : decode cX12_saves 96 = .ok (.iload_n 1, 1) := by decide +kernel
theorem dX12_saves_97 : decode cX12_saves 97 = .ok (.iaload, 1) := by decide +kernel
theorem dX12_saves_98 : decode cX12_saves 98 = .ok (.iastore, 1) := by decide +kernel
theorem dX12_saves_99 : decode cX12_saves 99 = .ok (.iinc 1 1, 3) := by decide +kernel
theorem dX12_saves_102 : decode cX12_saves 102 = .ok (.goto (-100), 3) := by decide +kernel
theorem dX12_saves_105 : decode cX12_saves 105 = .ok (.iconst 0, 1) := by decide +kernel
theorem dX12_saves_106 : decode cX12_saves 106 = .ok (.istore_n 1, 1) := by decide +kernel
theorem dX12_saves_107 : decode cX12_saves 107 = .ok (.iload_n 1, 1) := by decide +kernel
theorem dX12_saves_108 : decode cX12_saves 108 = .ok (.sipush 3584, 3) := by decide +kernel
theorem dX12_saves_111 : decode cX12_saves 111 = .ok (.if_icmp .ge 33, 3) := by decide +kernel
theorem dX12_saves_114 : decode cX12_saves 114 = .ok (.aload_n 0, 1) := by decide +kernel
theorem dX12_saves_115 : decode cX12_saves 115 = .ok (.getfield 128, 3) := by decide +kernel
theorem dX12_saves_118 : decode cX12_saves 118 = .ok (.iload_n 1, 1) := by decide +kernel
theorem dX12_saves_119 : decode cX12_saves 119 = .ok (.aload_n 0, 1) := by decide +kernel
theorem dX12_saves_120 : decode cX12_saves 120 = .ok (.getfield 26, 3) := by decide +kernel
theorem dX12_saves_123 : decode cX12_saves 123 = .ok (.iload_n 1, 1) := by decide +kernel
theorem dX12_saves_124 : decode cX12_saves 124 = .ok (.iaload, 1) := by decide +kernel
theorem dX12_saves_125 : decode cX12_saves 125 = .ok (.iastore, 1) := by decide +kernel
theorem dX12_saves_126 : decode cX12_saves 126 = .ok (.aload_n 0, 1) := by decide +kernel
theorem dX12_saves_127 : decode cX12_saves 127 = .ok (.getfield 131, 3) := by decide +kernel
theorem dX12_saves_130 : decode cX12_saves 130 = .ok (.iload_n 1, 1) := by decide +kernel
theorem dX12_saves_131 : decode cX12_saves 131 = .ok (.aload_n 0, 1) := by decide +kernel
theorem dX12_saves_132 : decode cX12_saves 132 = .ok (.getfield 29, 3) := by decide +kernel
theorem dX12_saves_135 : decode cX12_saves 135 = .ok (.iload_n 1, 1) := by decide +kernel
theorem dX12_saves_136 : decode cX12_saves 136 = .ok (.iaload, 1) := by decide +kernel
theorem dX12_saves_137 : decode cX12_saves 137 = .ok (.iastore, 1) := by decide +kernel
theorem dX12_saves_138 : decode cX12_saves 138 = .ok (.iinc 1 1, 3) := by decide +kernel
theorem dX12_saves_141 : decode cX12_saves 141 = .ok (.goto (-34), 3) := by decide +kernel
theorem dX12_saves_144 : decode cX12_saves 144 = .ok (.iconst 0, 1) := by decide +kernel
theorem dX12_saves_145 : decode cX12_saves 145 = .ok (.istore_n 1, 1) := by decide +kernel
theorem dX12_saves_146 : decode cX12_saves 146 = .ok (.iload_n 1, 1) := by decide +kernel
theorem dX12_saves_147 : decode cX12_saves 147 = .ok (.iconst 4, 1) := by decide +kernel
theorem dX12_saves_148 : decode cX12_saves 148 = .ok (.if_icmp .ge 127, 3) := by decide +kernel
theorem dX12_saves_151 : decode cX12_saves 151 = .ok (.aload_n 0, 1) := by decide +kernel
theorem dX12_saves_152 : decode cX12_saves 152 = .ok (.getfield 134, 3) := by decide +kernel
theorem dX12_saves_155 : decode cX12_saves 155 = .ok (.bipush 8, 2) := by decide +kernel
theorem dX12_saves_157 : decode cX12_saves 157 = .ok (.iload_n 1, 1) := by decide +kernel
theorem dX12_saves_158 : decode cX12_saves 158 = .ok (.imul, 1) := by decide +kernel
theorem dX12_saves_159 : decode cX12_saves 159 = .ok (.aload_n 0, 1) := by decide +kernel
theorem dX12_saves_160 : decode cX12_saves 160 = .ok (.getfield 44, 3) := by decide +kernel
theorem dX12_saves_163 : decode cX12_saves 163 = .ok (.iload_n 1, 1) := by decide +kernel
theorem dX12_saves_164 : decode cX12_saves 164 = .ok (.iaload, 1) := by decide +kernel
theorem dX12_saves_165 : decode cX12_saves 165 = .ok (.iastore, 1) := by decide +kernel
theorem dX12_saves_166 : decode cX12_saves 166 = .ok (.aload_n 0, 1) := by decide +kernel
theorem dX12_saves_167 : decode cX12_saves 167 = .ok (.getfield 134, 3) := by decide +kernel
theorem dX12_saves_170 : decode cX12_saves 170 = .ok (.bipush 8, 2) := by decide +kernel
theorem dX12_saves_172 : decode cX12_saves 172 = .ok (.iload_n 1, 1) := by decide +kernel
theorem dX12_saves_173 : decode cX12_saves 173 = .ok (.imul, 1) := by decide +kernel
theorem dX12_saves_174 : decode cX12_saves 174 = .ok (.iconst 1, 1) := by decide +kernel
theorem dX12_saves_175 : decode cX12_saves 175 = .ok (.iadd, 1) := by decide +kernel
theorem dX12_saves_176 : decode cX12_saves 176 = .ok (.aload_n 0, 1) := by decide +kernel
theorem dX12_saves_177 : decode cX12_saves 177 = .ok (.getfield 47, 3) := by decide +kernel
theorem dX12_saves_180 : decode cX12_saves 180 = .ok (.iload_n 1, 1) := by decide +kernel
theorem dX12_saves_181 : decode cX12_saves 181 = .ok (.iaload, 1) := by decide +kernel
theorem dX12_saves_182 : decode cX12_saves 182 = .ok (.iastore, 1) := by decide +kernel
theorem dX12_saves_183 : decode cX12_saves 183 = .ok (.aload_n 0, 1) := by decide +kernel
theorem dX12_saves_184 : decode cX12_saves 184 = .ok (.getfield 134, 3) := by decide +kernel
theorem dX12_saves_187 : decode cX12_saves 187 = .ok (.bipush 8, 2) := by decide +kernel
theorem dX12_saves_189 : decode cX12_saves 189 = .ok (.iload_n 1, 1) := by decide +kernel
theorem dX12_saves_190 : decode cX12_saves 190 = .ok (.imul, 1) := by decide +kernel
theorem dX12_saves_191 : decode cX12_saves 191 = .ok (.iconst 2, 1) := by decide +kernel
theorem dX12_saves_192 : decode cX12_saves 192 = .ok (.iadd, 1) := by decide +kernel
theorem dX12_saves_193 : decode cX12_saves 193 = .ok (.aload_n 0, 1) := by decide +kernel
theorem dX12_saves_194 : decode cX12_saves 194 = .ok (.getfield 53, 3) := by decide +kernel
theorem dX12_saves_197 : decode cX12_saves 197 = .ok (.iload_n 1, 1) := by decide +kernel
theorem dX12_saves_198 : decode cX12_saves 198 = .ok (.iaload, 1) := by decide +kernel
theorem dX12_saves_199 : decode cX12_saves 199 = .ok (.iastore, 1) := by decide +kernel
theorem dX12_saves_200 : decode cX12_saves 200 = .ok (.aload_n 0, 1) := by decide +kernel
theorem dX12_saves_201 : decode cX12_saves 201 = .ok (.getfield 134, 3) := by decide +kernel
theorem dX12_saves_204 : decode cX12_saves 204 = .ok (.bipush 8, 2) := by decide +kernel
theorem dX12_saves_206 : decode cX12_saves 206 = .ok (.iload_n 1, 1) := by decide +kernel
theorem dX12_saves_207 : decode cX12_saves 207 = .ok (.imul, 1) := by decide +kernel
theorem dX12_saves_208 : decode cX12_saves 208 = .ok (.iconst 3, 1) := by decide +kernel
theorem dX12_saves_209 : decode cX12_saves 209 = .ok (.iadd, 1) := by decide +kernel
theorem dX12_saves_210 : decode cX12_saves 210 = .ok (.aload_n 0, 1) := by decide +kernel
theorem dX12_saves_211 : decode cX12_saves 211 = .ok (.getfield 56, 3) := by decide +kernel
theorem dX12_saves_214 : decode cX12_saves 214 = .ok (.iload_n 1, 1) := by decide +kernel
theorem dX12_saves_215 : decode cX12_saves 215 = .ok (.iaload, 1) := by decide +kernel
theorem dX12_saves_216 : decode cX12_saves 216 = .ok (.iastore, 1) := by decide +kernel
theorem dX12_saves_217 : decode cX12_saves 217 = .ok (.aload_n 0, 1) := by decide +kernel
theorem dX12_saves_218 : decode cX12_saves 218 = .ok (.getfield 134, 3) := by decide +kernel
theorem dX12_saves_221 : decode cX12_saves 221 = .ok (.bipush 8, 2) := by decide +kernel
theorem dX12_saves_223 : decode cX12_saves 223 = .ok (.iload_n 1, 1) := by decide +kernel
theorem dX12_saves_224 : decode cX12_saves 224 = .ok (.imul, 1) := by decide +kernel
theorem dX12_saves_225 : decode cX12_saves 225 = .ok (.iconst 4, 1) := by decide +kernel
theorem dX12_saves_226 : decode cX12_saves 226 = .ok (.iadd, 1) := by decide +kernel
theorem dX12_saves_227 : decode cX12_saves 227 = .ok (.aload_n 0, 1) := by decide +kernel
theorem dX12_saves_228 : decode cX12_saves 228 = .ok (.getfield 62, 3) := by decide +kernel
theorem dX12_saves_231 : decode cX12_saves 231 = .ok (.iload_n 1, 1) := by decide +kernel
theorem dX12_saves_232 : decode cX12_saves 232 = .ok (.iaload, 1) := by decide +kernel
theorem dX12_saves_233 : decode cX12_saves 233 = .ok (.iastore, 1) := by decide +kernel
theorem dX12_saves_234 : decode cX12_saves 234 = .ok (.aload_n 0, 1) := by decide +kernel
theorem dX12_saves_235 : decode cX12_saves 235 = .ok (.getfield 134, 3) := by decide +kernel
theorem dX12_saves_238 : decode cX12_saves 238 = .ok (.bipush 8, 2) := by decide +kernel
theorem dX12_saves_240 : decode cX12_saves 240 = .ok (.iload_n 1, 1) := by decide +kernel
theorem dX12_saves_241 : decode cX12_saves 241 = .ok (.imul, 1) := by decide +kernel
theorem dX12_saves_242 : decode cX12_saves 242 = .ok (.iconst 5, 1) := by decide +kernel
theorem dX12_saves_243 : decode cX12_saves 243 = .ok (.iadd, 1) := by decide +kernel
theorem dX12_saves_244 : decode cX12_saves 244 = .ok (.aload_n 0, 1) := by decide +kernel
theorem dX12_saves_245 : decode cX12_saves 245 = .ok (.getfield 71, 3) := by decide +kernel
theorem dX12_saves_248 : decode cX12_saves 248 = .ok (.iload_n 1, 1) := by decide +kernel
theorem dX12_saves_249 : decode cX12_saves 249 = .ok (.iaload, 1) := by decide +kernel
theorem dX12_saves_250 : decode cX12_saves 250 = .ok (.iastore, 1) := by decide +kernel
theorem dX12_saves_251 : decode cX12_saves 251 = .ok (.aload_n 0, 1) := by decide +kernel
theorem dX12_saves_252 : decode cX12_saves 252 = .ok (.getfield 134, 3) := by decide +kernel
theorem dX12_saves_255 : decode cX12_saves 255 = .ok (.bipush 8, 2) := by decide +kernel
theorem dX12_saves_257 : decode cX12_saves 257 = .ok (.iload_n 1, 1) := by decide +kernel
theorem dX12_saves_258 : decode cX12_saves 258 = .ok (.imul, 1) := by decide +kernel
theorem dX12_saves_259 : decode cX12_saves 259 = .ok (.bipush 6, 2) := by decide +kernel
theorem dX12_saves_261 : decode cX12_saves 261 = .ok (.iadd, 1) := by decide +kernel
theorem dX12_saves_262 : decode cX12_saves 262 = .ok (.aload_n 0, 1) := by decide +kernel
theorem dX12_saves_263 : decode cX12_saves 263 = .ok (.getfield 74, 3) := by decide +kernel
theorem dX12_saves_266 : decode cX12_saves 266 = .ok (.iload_n 1, 1) := by decide +kernel
theorem dX12_saves_267 : decode cX12_saves 267 = .ok (.iaload, 1) := by decide +kernel
theorem dX12_saves_268 : decode cX12_saves 268 = .ok (.iastore, 1) := by decide +kernel
theorem dX12_saves_269 : decode cX12_saves 269 = .ok (.iinc 1 1, 3) := by decide +kernel
theorem dX12_saves_272 : decode cX12_saves 272 = .ok (.goto (-126), 3) := by decide +kernel
theorem dX12_saves_275 : decode cX12_saves 275 = .ok (.iconst 0, 1) := by decide +kernel
theorem dX12_saves_276 : decode cX12_saves 276 = .ok (.istore_n 1, 1) := by decide +kernel
theorem dX12_saves_277 : decode cX12_saves 277 = .ok (.iload_n 1, 1) := by decide +kernel
theorem dX12_saves_278 : decode cX12_saves 278 = .ok (.sipush 256, 3) := by decide +kernel
theorem dX12_saves_281 : decode cX12_saves 281 = .ok (.if_icmp .ge 21, 3) := by decide +kernel
theorem dX12_saves_284 : decode cX12_saves 284 = .ok (.aload_n 0, 1) := by decide +kernel
theorem dX12_saves_285 : decode cX12_saves 285 = .ok (.getfield 137, 3) := by decide +kernel
theorem dX12_saves_288 : decode cX12_saves 288 = .ok (.iload_n 1, 1) := by decide +kernel
theorem dX12_saves_289 : decode cX12_saves 289 = .ok (.aload_n 0, 1) := by decide +kernel
theorem dX12_saves_290 : decode cX12_saves 290 = .ok (.getfield 59, 3) := by decide +kernel
theorem dX12_saves_293 : decode cX12_saves 293 = .ok (.iload_n 1, 1) := by decide +kernel
theorem dX12_saves_294 : decode cX12_saves 294 = .ok (.iaload, 1) := by decide +kernel
theorem dX12_saves_295 : decode cX12_saves 295 = .ok (.iastore, 1) := by decide +kernel
theorem dX12_saves_296 : decode cX12_saves 296 = .ok (.iinc 1 1, 3) := by decide +kernel
theorem dX12_saves_299 : decode cX12_saves 299 = .ok (.goto (-22), 3) := by decide +kernel
theorem dX12_saves_302 : decode cX12_saves 302 = .ok (.iconst 0, 1) := by decide +kernel
theorem dX12_saves_303 : decode cX12_saves 303 = .ok (.istore_n 1, 1) := by decide +kernel
theorem dX12_saves_304 : decode cX12_saves 304 = .ok (.iload_n 1, 1) := by decide +kernel
theorem dX12_saves_305 : decode cX12_saves 305 = .ok (.bipush 56, 2) := by decide +kernel
theorem dX12_saves_307 : decode cX12_saves 307 = .ok (.if_icmp .ge 33, 3) := by decide +kernel
theorem dX12_saves_310 : decode cX12_saves 310 = .ok (.aload_n 0, 1) := by decide +kernel
theorem dX12_saves_311 : decode cX12_saves 311 = .ok (.getfield 140, 3) := by decide +kernel
theorem dX12_saves_314 : decode cX12_saves 314 = .ok (.iload_n 1, 1) := by decide +kernel
theorem dX12_saves_315 : decode cX12_saves 315 = .ok (.aload_n 0, 1) := by decide +kernel
theorem dX12_saves_316 : decode cX12_saves 316 = .ok (.getfield 65, 3) := by decide +kernel
theorem dX12_saves_319 : decode cX12_saves 319 = .ok (.iload_n 1, 1) := by decide +kernel
theorem dX12_saves_320 : decode cX12_saves 320 = .ok (.iaload, 1) := by decide +kernel
theorem dX12_saves_321 : decode cX12_saves 321 = .ok (.iastore, 1) := by decide +kernel
theorem dX12_saves_322 : decode cX12_saves 322 = .ok (.aload_n 0, 1) := by decide +kernel
theorem dX12_saves_323 : decode cX12_saves 323 = .ok (.getfield 143, 3) := by decide +kernel
theorem dX12_saves_326 : decode cX12_saves 326 = .ok (.iload_n 1, 1) := by decide +kernel
theorem dX12_saves_327 : decode cX12_saves 327 = .ok (.aload_n 0, 1) := by decide +kernel
theorem dX12_saves_328 : decode cX12_saves 328 = .ok (.getfield 68, 3) := by decide +kernel
theorem dX12_saves_331 : decode cX12_saves 331 = .ok (.iload_n 1, 1) := by decide +kernel
theorem dX12_saves_332 : decode cX12_saves 332 = .ok (.iaload, 1) := by decide +kernel
theorem dX12_saves_333 : decode cX12_saves 333 = .ok (.iastore, 1) := by decide +kernel
theorem dX12_saves_334 : decode cX12_saves 334 = .ok (.iinc 1 1, 3) := by decide +kernel
theorem dX12_saves_337 : decode cX12_saves 337 = .ok (.goto (-33), 3) := by decide +kernel
theorem dX12_saves_340 : decode cX12_saves 340 = .ok (.iconst 0, 1) := by decide +kernel
theorem dX12_saves_341 : decode cX12_saves 341 = .ok (.istore_n 1, 1) := by decide +kernel
theorem dX12_saves_342 : decode cX12_saves 342 = .ok (.iload_n 1, 1) := by decide +kernel
theorem dX12_saves_343 : decode cX12_saves 343 = .ok (.aload_n 0, 1) := by decide +kernel
theorem dX12_saves_344 : decode cX12_saves 344 = .ok (.getfield 175, 3) := by decide +kernel
theorem dX12_saves_347 : decode cX12_saves 347 = .ok (.if_icmp .ge 55, 3) := by decide +kernel
theorem dX12_saves_350 : decode cX12_saves 350 = .ok (.aload_n 0, 1) := by decide +kernel
theorem dX12_saves_351 : decode cX12_saves 351 = .ok (.getfield 146, 3) := by decide +kernel
theorem dX12_saves_354 : decode cX12_saves 354 = .ok (.iconst 3, 1) := by decide +kernel
theorem dX12_saves_355 : decode cX12_saves 355 = .ok (.iload_n 1, 1) := by decide +kernel
theorem dX12_saves_356 : decode cX12_saves 356 = .ok (.imul, 1) := by decide +kernel
theorem dX12_saves_357 : decode cX12_saves 357 = .ok (.aload_n 0, 1) := by decide +kernel
theorem dX12_saves_358 : decode cX12_saves 358 = .ok (.getfield 83, 3) := by decide +kernel
theorem dX12_saves_361 : decode cX12_saves 361 = .ok (.iload_n 1, 1) := by decide +kernel
theorem dX12_saves_362 : decode cX12_saves 362 = .ok (.iaload, 1) := by decide +kernel
theorem dX12_saves_363 : decode cX12_saves 363 = .ok (.iastore, 1) := by decide +kernel
theorem dX12_saves_364 : decode cX12_saves 364 = .ok (.aload_n 0, 1) := by decide +kernel
theorem dX12_saves_365 : decode cX12_saves 365 = .ok (.getfield 146, 3) := by decide +kernel
theorem dX12_saves_368 : decode cX12_saves 368 = .ok (.iconst 3, 1) := by decide +kernel
theorem dX12_saves_369 : decode cX12_saves 369 = .ok (.iload_n 1, 1) := by decide +kernel
theorem dX12_saves_370 : decode cX12_saves 370 = .ok (.imul, 1) := by decide +kernel
theorem dX12_saves_371 : decode cX12_saves 371 = .ok (.iconst 1, 1) := by decide +kernel
theorem dX12_saves_372 : decode cX12_saves 372 = .ok (.iadd, 1) := by decide +kernel
theorem dX12_saves_373 : decode cX12_saves 373 = .ok (.aload_n 0, 1) := by decide +kernel
theorem dX12_saves_374 : decode cX12_saves 374 = .ok (.getfield 89, 3) := by decide +kernel
theorem dX12_saves_377 : decode cX12_saves 377 = .ok (.iload_n 1, 1) := by decide +kernel
theorem dX12_saves_378 : decode cX12_saves 378 = .ok (.iaload, 1) := by decide +kernel
theorem dX12_saves_379 : decode cX12_saves 379 = .ok (.iastore, 1) := by decide +kernel
theorem dX12_saves_380 : decode cX12_saves 380 = .ok (.aload_n 0, 1) := by decide +kernel
theorem dX12_saves_381 : decode cX12_saves 381 = .ok (.getfield 146, 3) := by decide +kernel
theorem dX12_saves_384 : decode cX12_saves 384 = .ok (.iconst 3, 1) := by decide +kernel
theorem dX12_saves_385 : decode cX12_saves 385 = .ok (.iload_n 1, 1) := by decide +kernel
theorem dX12_saves_386 : decode cX12_saves 386 = .ok (.imul, 1) := by decide +kernel
theorem dX12_saves_387 : decode cX12_saves 387 = .ok (.iconst 2, 1) := by decide +kernel
theorem dX12_saves_388 : decode cX12_saves 388 = .ok (.iadd, 1) := by decide +kernel
theorem dX12_saves_389 : decode cX12_saves 389 = .ok (.aload_n 0, 1) := by decide +kernel
theorem dX12_saves_390 : decode cX12_saves 390 = .ok (.getfield 92, 3) := by decide +kernel
theorem dX12_saves_393 : decode cX12_saves 393 = .ok (.iload_n 1, 1) := by decide +kernel
theorem dX12_saves_394 : decode cX12_saves 394 = .ok (.iaload, 1) := by decide +kernel
theorem dX12_saves_395 : decode cX12_saves 395 = .ok (.iastore, 1) := by decide +kernel
theorem dX12_saves_396 : decode cX12_saves 396 = .ok (.iinc 1 1, 3) := by decide +kernel
theorem dX12_saves_399 : decode cX12_saves 399 = .ok (.goto (-57), 3) := by decide +kernel
theorem dX12_saves_402 : decode cX12_saves 402 = .ok (.aload_n 0, 1) := by decide +kernel
theorem dX12_saves_403 : decode cX12_saves 403 = .ok (.aload_n 0, 1) := by decide +kernel
theorem dX12_saves_404 : decode cX12_saves 404 = .ok (.getfield 199, 3) := by decide +kernel
theorem dX12_saves_407 : decode cX12_saves 407 = .ok (.putfield 298, 3) := by decide +kernel
theorem dX12_saves_410 : decode cX12_saves 410 = .ok (.aload_n 0, 1) := by decide +kernel
theorem dX12_saves_411 : decode cX12_saves 411 = .ok (.aload_n 0, 1) := by decide +kernel
theorem dX12_saves_412 : decode cX12_saves 412 = .ok (.getfield 202, 3) := by decide +kernel
theorem dX12_saves_415 : decode cX12_saves 415 = .ok (.putfield 301, 3) := by decide +kernel
theorem dX12_saves_418 : decode cX12_saves 418 = .ok (.aload_n 0, 1) := by decide +kernel
theorem dX12_saves_419 : decode cX12_saves 419 = .ok (.aload_n 0, 1) := by decide +kernel
theorem dX12_saves_420 : decode cX12_saves 420 = .ok (.getfield 247, 3) := by decide +kernel
theorem dX12_saves_423 : decode cX12_saves 423 = .ok (.putfield 304, 3) := by decide +kernel
theorem dX12_saves_426 : decode cX12_saves 426 = .ok (.return_, 1) := by decide +kernel
def f_X12_saves_p342 (ln : Nat → Nat) : Nat → Int32 → dr_S → Option (Int32 × dr_S)
  | 0, _, _ => none
  | n + 1, x1, s => (if (s.2 1226) ≤ x1 then dr_letS (dr_pf s 1255 (s.2 1204)) (fun s42 => dr_letS (dr_pf s42 1256 (s42.2 1205)) (fun s43 => dr_letS (dr_pf s43 1257 (s43.2 1234)) (fun s44 => some (0, s44)))) else (dr_rd ln s 52 x1).bind (fun v45 => (dr_wr ln s 73 (3 * x1) v45).bind (fun s46 => (dr_rd ln s46 54 x1).bind (fun v47 => (dr_wr ln s46 73 ((3 * x1) + 1) v47).bind (fun s48 => (dr_rd ln s48 55 x1).bind (fun v49 => (dr_wr ln s48 73 ((3 * x1) + 2) v49).bind (fun s50 => dr_let (x1 + 1) (fun y51 => (f_X12_saves_p342 ln n y51 s50)))))))))
def f_X12_saves_p304 (ln : Nat → Nat) : Nat → Int32 → dr_S → Option (Int32 × dr_S)
  | 0, _, _ => none
  | n + 1, x1, s => (if ((56 : Int32) ≤ x1 : Prop) then (f_X12_saves_p342 ln dr_N 0 s) else (dr_rd ln s 46 x1).bind (fun v37 => (dr_wr ln s 71 x1 v37).bind (fun s38 => (dr_rd ln s38 47 x1).bind (fun v39 => (dr_wr ln s38 72 x1 v39).bind (fun s40 => dr_let (x1 + 1) (fun y41 => (f_X12_saves_p304 ln n y41 s40)))))))
def f_X12_saves_p277 (ln : Nat → Nat) : Nat → Int32 → dr_S → Option (Int32 × dr_S)
  | 0, _, _ => none
  | n + 1, x1, s => (if ((256 : Int32) ≤ x1 : Prop) then (f_X12_saves_p304 ln dr_N 0 s) else (dr_rd ln s 44 x1).bind (fun v34 => (dr_wr ln s 70 x1 v34).bind (fun s35 => dr_let (x1 + 1) (fun y36 => (f_X12_saves_p277 ln n y36 s35)))))
def f_X12_saves_p146 (ln : Nat → Nat) : Nat → Int32 → dr_S → Option (Int32 × dr_S)
  | 0, _, _ => none
  | n + 1, x1, s => (if ((4 : Int32) ≤ x1 : Prop) then (f_X12_saves_p277 ln dr_N 0 s) else (dr_rd ln s 39 x1).bind (fun v19 => (dr_wr ln s 69 (8 * x1) v19).bind (fun s20 => (dr_rd ln s20 40 x1).bind (fun v21 => (dr_wr ln s20 69 ((8 * x1) + 1) v21).bind (fun s22 => (dr_rd ln s22 42 x1).bind (fun v23 => (dr_wr ln s22 69 ((8 * x1) + 2) v23).bind (fun s24 => (dr_rd ln s24 43 x1).bind (fun v25 => (dr_wr ln s24 69 ((8 * x1) + 3) v25).bind (fun s26 => (dr_rd ln s26 45 x1).bind (fun v27 => (dr_wr ln s26 69 ((8 * x1) + 4) v27).bind (fun s28 => (dr_rd ln s28 48 x1).bind (fun v29 => (dr_wr ln s28 69 ((8 * x1) + 5) v29).bind (fun s30 => (dr_rd ln s30 49 x1).bind (fun v31 => (dr_wr ln s30 69 ((8 * x1) + 6) v31).bind (fun s32 => dr_let (x1 + 1) (fun y33 => (f_X12_saves_p146 ln n y33 s32)))))))))))))))))
def f_X12_saves_p107 (ln : Nat → Nat) : Nat → Int32 → dr_S → Option (Int32 × dr_S)
  | 0, _, _ => none
  | n + 1, x1, s => (if ((3584 : Int32) ≤ x1 : Prop) then (f_X12_saves_p146 ln dr_N 0 s) else (dr_rd ln s 33 x1).bind (fun v14 => (dr_wr ln s 67 x1 v14).bind (fun s15 => (dr_rd ln s15 34 x1).bind (fun v16 => (dr_wr ln s15 68 x1 v16).bind (fun s17 => dr_let (x1 + 1) (fun y18 => (f_X12_saves_p107 ln n y18 s17)))))))
def f_X12_saves_p2 (ln : Nat → Nat) : Nat → Int32 → dr_S → Option (Int32 × dr_S)
  | 0, _, _ => none
  | n + 1, x1, s => (if ((256 : Int32) ≤ x1 : Prop) then (f_X12_saves_p107 ln dr_N 0 s) else (dr_rd ln s 30 x1).bind (fun v1 => (dr_wz ln s 65 x1 v1).bind (fun s2 => (dr_rd ln s2 31 x1).bind (fun v3 => (dr_wr ln s2 66 (5 * x1) v3).bind (fun s4 => (dr_rd ln s4 32 x1).bind (fun v5 => (dr_wr ln s4 66 ((5 * x1) + 1) v5).bind (fun s6 => (dr_rd ln s6 35 x1).bind (fun v7 => (dr_wr ln s6 66 ((5 * x1) + 2) v7).bind (fun s8 => (dr_rd ln s8 36 x1).bind (fun v9 => (dr_wr ln s8 66 ((5 * x1) + 3) v9).bind (fun s10 => (dr_rd ln s10 37 x1).bind (fun v11 => (dr_wr ln s10 66 ((5 * x1) + 4) v11).bind (fun s12 => dr_let (x1 + 1) (fun y13 => (f_X12_saves_p2 ln n y13 s12)))))))))))))))
def f_X12_saves (ln : Nat → Nat) (s : dr_S) : Option (Int32 × dr_S) := (f_X12_saves_p2 ln dr_N 0 s)
section
variable {p : Program} {l : Launch} {e : Env} {s0 : State} {m : MethodId} {args : Array Value} {below : List Frame} {meth : Method} {c : Code} {A : Nat → Prop} {D : va_G} {cI cZ : ClassId} {ad ln : Nat → Nat} {L : List Nat}
set_option maxHeartbeats 4000000 in
set_option maxRecDepth 20000 in
theorem w_X12_saves_p342 (E : dr_E p (dr_rm 0) s0 m args meth c 0 0 A s0.heap D cI cZ ad L cX12_saves 2 RX12 none) (hap : dr_ap ad L) (hN : ∀ x ∈ nd_12, x ∈ L) : ∀ (n : Nat) (x1 : Int32) (s : dr_S), dr_G p l e (dr_rm 0) s0 m args below meth c 0 0 A s0.heap D cI cZ ad ln L 2 (dr_Zv D cI cZ ad ln L A below args s0 0 0) 342 [(0, .ref (ad 12)), (1, .int x1)] [] s (f_X12_saves_p342 ln n x1 s) := by
  intro n
  induction n with
  | zero =>
    intro x1 s
    rw [f_X12_saves_p342]
    exact g_none
  | succ n hkb342 =>
    intro x1 s
    rw [f_X12_saves_p342]
    refine g_iload_n E dX12_saves_342 1 rfl ?_
    refine g_aload_n E dX12_saves_343 0 rfl ?_
    refine gg_12_175 E (hN 12 (by decide)) dX12_saves_344 ?_
    refine g_icmp_ge E 402 dX12_saves_347 (by decide) ?_ ?_
    · refine g_aload_n E dX12_saves_402 0 rfl ?_
      refine g_aload_n E dX12_saves_403 0 rfl ?_
      refine gg_12_199 E (hN 12 (by decide)) dX12_saves_404 ?_
      refine gp_12_298 E (hN 12 (by decide)) dX12_saves_407 (fun s42 => ?_)
      refine g_aload_n E dX12_saves_410 0 rfl ?_
      refine g_aload_n E dX12_saves_411 0 rfl ?_
      refine gg_12_202 E (hN 12 (by decide)) dX12_saves_412 ?_
      refine gp_12_301 E (hN 12 (by decide)) dX12_saves_415 (fun s43 => ?_)
      refine g_aload_n E dX12_saves_418 0 rfl ?_
      refine g_aload_n E dX12_saves_419 0 rfl ?_
      refine gg_12_247 E (hN 12 (by decide)) dX12_saves_420 ?_
      refine gp_12_304 E (hN 12 (by decide)) dX12_saves_423 (fun s44 => ?_)
      exact g_vret E dX12_saves_426
    · refine g_aload_n E dX12_saves_350 0 rfl ?_
      refine gg_12_146 E (hN 12 (by decide)) dX12_saves_351 ?_
      refine g_iconst E (v := 3) dX12_saves_354 (by decide) ?_
      refine g_iload_n E dX12_saves_355 1 rfl ?_
      refine g_imul E dX12_saves_356 ?_
      refine g_aload_n E dX12_saves_357 0 rfl ?_
      refine gg_12_83 E (hN 12 (by decide)) dX12_saves_358 ?_
      refine g_iload_n E dX12_saves_361 1 rfl ?_
      refine g_iaload E (hN 52 (by decide)) (by decide) rfl dX12_saves_362 (fun v45 => ?_)
      refine g_iastore E (hN 73 (by decide)) (by decide) rfl dX12_saves_363 (fun s46 => ?_)
      refine g_aload_n E dX12_saves_364 0 rfl ?_
      refine gg_12_146 E (hN 12 (by decide)) dX12_saves_365 ?_
      refine g_iconst E (v := 3) dX12_saves_368 (by decide) ?_
      refine g_iload_n E dX12_saves_369 1 rfl ?_
      refine g_imul E dX12_saves_370 ?_
      refine g_iconst E (v := 1) dX12_saves_371 (by decide) ?_
      refine g_iadd E dX12_saves_372 ?_
      refine g_aload_n E dX12_saves_373 0 rfl ?_
      refine gg_12_89 E (hN 12 (by decide)) dX12_saves_374 ?_
      refine g_iload_n E dX12_saves_377 1 rfl ?_
      refine g_iaload E (hN 54 (by decide)) (by decide) rfl dX12_saves_378 (fun v47 => ?_)
      refine g_iastore E (hN 73 (by decide)) (by decide) rfl dX12_saves_379 (fun s48 => ?_)
      refine g_aload_n E dX12_saves_380 0 rfl ?_
      refine gg_12_146 E (hN 12 (by decide)) dX12_saves_381 ?_
      refine g_iconst E (v := 3) dX12_saves_384 (by decide) ?_
      refine g_iload_n E dX12_saves_385 1 rfl ?_
      refine g_imul E dX12_saves_386 ?_
      refine g_iconst E (v := 2) dX12_saves_387 (by decide) ?_
      refine g_iadd E dX12_saves_388 ?_
      refine g_aload_n E dX12_saves_389 0 rfl ?_
      refine gg_12_92 E (hN 12 (by decide)) dX12_saves_390 ?_
      refine g_iload_n E dX12_saves_393 1 rfl ?_
      refine g_iaload E (hN 55 (by decide)) (by decide) rfl dX12_saves_394 (fun v49 => ?_)
      refine g_iastore E (hN 73 (by decide)) (by decide) rfl dX12_saves_395 (fun s50 => ?_)
      refine g_iinc E (lv' := []) (lv'' := fun y51 => [(1, .int y51), (0, .ref (ad 12))]) (v := 1) dX12_saves_396 1 rfl (by decide) (by decide) (fun _ => rfl) (fun y51 => ?_)
      refine g_goto E 342 dX12_saves_399 (by decide) ?_
      refine g_sub [1, 0] rfl ?_
      exact hkb342 y51 s50
set_option maxHeartbeats 4000000 in
set_option maxRecDepth 20000 in
theorem w_X12_saves_p304 (E : dr_E p (dr_rm 0) s0 m args meth c 0 0 A s0.heap D cI cZ ad L cX12_saves 2 RX12 none) (hap : dr_ap ad L) (hN : ∀ x ∈ nd_12, x ∈ L) : ∀ (n : Nat) (x1 : Int32) (s : dr_S), dr_G p l e (dr_rm 0) s0 m args below meth c 0 0 A s0.heap D cI cZ ad ln L 2 (dr_Zv D cI cZ ad ln L A below args s0 0 0) 304 [(0, .ref (ad 12)), (1, .int x1)] [] s (f_X12_saves_p304 ln n x1 s) := by
  intro n
  induction n with
  | zero =>
    intro x1 s
    rw [f_X12_saves_p304]
    exact g_none
  | succ n hkb304 =>
    intro x1 s
    rw [f_X12_saves_p304]
    refine g_iload_n E dX12_saves_304 1 rfl ?_
    refine g_bipush E (v := 56) dX12_saves_305 (by decide) ?_
    refine g_icmp_ge E 340 dX12_saves_307 (by decide) ?_ ?_
    · refine g_iconst E (v := 0) dX12_saves_340 (by decide) ?_
      refine g_istore_n E (lv' := [(1, .int 0), (0, .ref (ad 12))]) dX12_saves_341 (by decide) rfl ?_
      refine g_sub [1, 0] rfl ?_
      exact w_X12_saves_p342 E hap hN dr_N 0 s
    · refine g_aload_n E dX12_saves_310 0 rfl ?_
      refine gg_12_140 E (hN 12 (by decide)) dX12_saves_311 ?_
      refine g_iload_n E dX12_saves_314 1 rfl ?_
      refine g_aload_n E dX12_saves_315 0 rfl ?_
      refine gg_12_65 E (hN 12 (by decide)) dX12_saves_316 ?_
      refine g_iload_n E dX12_saves_319 1 rfl ?_
      refine g_iaload E (hN 46 (by decide)) (by decide) rfl dX12_saves_320 (fun v37 => ?_)
      refine g_iastore E (hN 71 (by decide)) (by decide) rfl dX12_saves_321 (fun s38 => ?_)
      refine g_aload_n E dX12_saves_322 0 rfl ?_
      refine gg_12_143 E (hN 12 (by decide)) dX12_saves_323 ?_
      refine g_iload_n E dX12_saves_326 1 rfl ?_
      refine g_aload_n E dX12_saves_327 0 rfl ?_
      refine gg_12_68 E (hN 12 (by decide)) dX12_saves_328 ?_
      refine g_iload_n E dX12_saves_331 1 rfl ?_
      refine g_iaload E (hN 47 (by decide)) (by decide) rfl dX12_saves_332 (fun v39 => ?_)
      refine g_iastore E (hN 72 (by decide)) (by decide) rfl dX12_saves_333 (fun s40 => ?_)
      refine g_iinc E (lv' := []) (lv'' := fun y41 => [(1, .int y41), (0, .ref (ad 12))]) (v := 1) dX12_saves_334 1 rfl (by decide) (by decide) (fun _ => rfl) (fun y41 => ?_)
      refine g_goto E 304 dX12_saves_337 (by decide) ?_
      refine g_sub [1, 0] rfl ?_
      exact hkb304 y41 s40
set_option maxHeartbeats 4000000 in
set_option maxRecDepth 20000 in
theorem w_X12_saves_p277 (E : dr_E p (dr_rm 0) s0 m args meth c 0 0 A s0.heap D cI cZ ad L cX12_saves 2 RX12 none) (hap : dr_ap ad L) (hN : ∀ x ∈ nd_12, x ∈ L) : ∀ (n : Nat) (x1 : Int32) (s : dr_S), dr_G p l e (dr_rm 0) s0 m args below meth c 0 0 A s0.heap D cI cZ ad ln L 2 (dr_Zv D cI cZ ad ln L A below args s0 0 0) 277 [(0, .ref (ad 12)), (1, .int x1)] [] s (f_X12_saves_p277 ln n x1 s) := by
  intro n
  induction n with
  | zero =>
    intro x1 s
    rw [f_X12_saves_p277]
    exact g_none
  | succ n hkb277 =>
    intro x1 s
    rw [f_X12_saves_p277]
    refine g_iload_n E dX12_saves_277 1 rfl ?_
    refine g_sipush E (v := 256) dX12_saves_278 (by decide) ?_
    refine g_icmp_ge E 302 dX12_saves_281 (by decide) ?_ ?_
    · refine g_iconst E (v := 0) dX12_saves_302 (by decide) ?_
      refine g_istore_n E (lv' := [(1, .int 0), (0, .ref (ad 12))]) dX12_saves_303 (by decide) rfl ?_
      refine g_sub [1, 0] rfl ?_
      exact w_X12_saves_p304 E hap hN dr_N 0 s
    · refine g_aload_n E dX12_saves_284 0 rfl ?_
      refine gg_12_137 E (hN 12 (by decide)) dX12_saves_285 ?_
      refine g_iload_n E dX12_saves_288 1 rfl ?_
      refine g_aload_n E dX12_saves_289 0 rfl ?_
      refine gg_12_59 E (hN 12 (by decide)) dX12_saves_290 ?_
      refine g_iload_n E dX12_saves_293 1 rfl ?_
      refine g_iaload E (hN 44 (by decide)) (by decide) rfl dX12_saves_294 (fun v34 => ?_)
      refine g_iastore E (hN 70 (by decide)) (by decide) rfl dX12_saves_295 (fun s35 => ?_)
      refine g_iinc E (lv' := []) (lv'' := fun y36 => [(1, .int y36), (0, .ref (ad 12))]) (v := 1) dX12_saves_296 1 rfl (by decide) (by decide) (fun _ => rfl) (fun y36 => ?_)
      refine g_goto E 277 dX12_saves_299 (by decide) ?_
      refine g_sub [1, 0] rfl ?_
      exact hkb277 y36 s35
set_option maxHeartbeats 4000000 in
set_option maxRecDepth 20000 in
theorem w_X12_saves_p146 (E : dr_E p (dr_rm 0) s0 m args meth c 0 0 A s0.heap D cI cZ ad L cX12_saves 2 RX12 none) (hap : dr_ap ad L) (hN : ∀ x ∈ nd_12, x ∈ L) : ∀ (n : Nat) (x1 : Int32) (s : dr_S), dr_G p l e (dr_rm 0) s0 m args below meth c 0 0 A s0.heap D cI cZ ad ln L 2 (dr_Zv D cI cZ ad ln L A below args s0 0 0) 146 [(0, .ref (ad 12)), (1, .int x1)] [] s (f_X12_saves_p146 ln n x1 s) := by
  intro n
  induction n with
  | zero =>
    intro x1 s
    rw [f_X12_saves_p146]
    exact g_none
  | succ n hkb146 =>
    intro x1 s
    rw [f_X12_saves_p146]
    refine g_iload_n E dX12_saves_146 1 rfl ?_
    refine g_iconst E (v := 4) dX12_saves_147 (by decide) ?_
    refine g_icmp_ge E 275 dX12_saves_148 (by decide) ?_ ?_
    · refine g_iconst E (v := 0) dX12_saves_275 (by decide) ?_
      refine g_istore_n E (lv' := [(1, .int 0), (0, .ref (ad 12))]) dX12_saves_276 (by decide) rfl ?_
      refine g_sub [1, 0] rfl ?_
      exact w_X12_saves_p277 E hap hN dr_N 0 s
    · refine g_aload_n E dX12_saves_151 0 rfl ?_
      refine gg_12_134 E (hN 12 (by decide)) dX12_saves_152 ?_
      refine g_bipush E (v := 8) dX12_saves_155 (by decide) ?_
      refine g_iload_n E dX12_saves_157 1 rfl ?_
      refine g_imul E dX12_saves_158 ?_
      refine g_aload_n E dX12_saves_159 0 rfl ?_
      refine gg_12_44 E (hN 12 (by decide)) dX12_saves_160 ?_
      refine g_iload_n E dX12_saves_163 1 rfl ?_
      refine g_iaload E (hN 39 (by decide)) (by decide) rfl dX12_saves_164 (fun v19 => ?_)
      refine g_iastore E (hN 69 (by decide)) (by decide) rfl dX12_saves_165 (fun s20 => ?_)
      refine g_aload_n E dX12_saves_166 0 rfl ?_
      refine gg_12_134 E (hN 12 (by decide)) dX12_saves_167 ?_
      refine g_bipush E (v := 8) dX12_saves_170 (by decide) ?_
      refine g_iload_n E dX12_saves_172 1 rfl ?_
      refine g_imul E dX12_saves_173 ?_
      refine g_iconst E (v := 1) dX12_saves_174 (by decide) ?_
      refine g_iadd E dX12_saves_175 ?_
      refine g_aload_n E dX12_saves_176 0 rfl ?_
      refine gg_12_47 E (hN 12 (by decide)) dX12_saves_177 ?_
      refine g_iload_n E dX12_saves_180 1 rfl ?_
      refine g_iaload E (hN 40 (by decide)) (by decide) rfl dX12_saves_181 (fun v21 => ?_)
      refine g_iastore E (hN 69 (by decide)) (by decide) rfl dX12_saves_182 (fun s22 => ?_)
      refine g_aload_n E dX12_saves_183 0 rfl ?_
      refine gg_12_134 E (hN 12 (by decide)) dX12_saves_184 ?_
      refine g_bipush E (v := 8) dX12_saves_187 (by decide) ?_
      refine g_iload_n E dX12_saves_189 1 rfl ?_
      refine g_imul E dX12_saves_190 ?_
      refine g_iconst E (v := 2) dX12_saves_191 (by decide) ?_
      refine g_iadd E dX12_saves_192 ?_
      refine g_aload_n E dX12_saves_193 0 rfl ?_
      refine gg_12_53 E (hN 12 (by decide)) dX12_saves_194 ?_
      refine g_iload_n E dX12_saves_197 1 rfl ?_
      refine g_iaload E (hN 42 (by decide)) (by decide) rfl dX12_saves_198 (fun v23 => ?_)
      refine g_iastore E (hN 69 (by decide)) (by decide) rfl dX12_saves_199 (fun s24 => ?_)
      refine g_aload_n E dX12_saves_200 0 rfl ?_
      refine gg_12_134 E (hN 12 (by decide)) dX12_saves_201 ?_
      refine g_bipush E (v := 8) dX12_saves_204 (by decide) ?_
      refine g_iload_n E dX12_saves_206 1 rfl ?_
      refine g_imul E dX12_saves_207 ?_
      refine g_iconst E (v := 3) dX12_saves_208 (by decide) ?_
      refine g_iadd E dX12_saves_209 ?_
      refine g_aload_n E dX12_saves_210 0 rfl ?_
      refine gg_12_56 E (hN 12 (by decide)) dX12_saves_211 ?_
      refine g_iload_n E dX12_saves_214 1 rfl ?_
      refine g_iaload E (hN 43 (by decide)) (by decide) rfl dX12_saves_215 (fun v25 => ?_)
      refine g_iastore E (hN 69 (by decide)) (by decide) rfl dX12_saves_216 (fun s26 => ?_)
      refine g_aload_n E dX12_saves_217 0 rfl ?_
      refine gg_12_134 E (hN 12 (by decide)) dX12_saves_218 ?_
      refine g_bipush E (v := 8) dX12_saves_221 (by decide) ?_
      refine g_iload_n E dX12_saves_223 1 rfl ?_
      refine g_imul E dX12_saves_224 ?_
      refine g_iconst E (v := 4) dX12_saves_225 (by decide) ?_
      refine g_iadd E dX12_saves_226 ?_
      refine g_aload_n E dX12_saves_227 0 rfl ?_
      refine gg_12_62 E (hN 12 (by decide)) dX12_saves_228 ?_
      refine g_iload_n E dX12_saves_231 1 rfl ?_
      refine g_iaload E (hN 45 (by decide)) (by decide) rfl dX12_saves_232 (fun v27 => ?_)
      refine g_iastore E (hN 69 (by decide)) (by decide) rfl dX12_saves_233 (fun s28 => ?_)
      refine g_aload_n E dX12_saves_234 0 rfl ?_
      refine gg_12_134 E (hN 12 (by decide)) dX12_saves_235 ?_
      refine g_bipush E (v := 8) dX12_saves_238 (by decide) ?_
      refine g_iload_n E dX12_saves_240 1 rfl ?_
      refine g_imul E dX12_saves_241 ?_
      refine g_iconst E (v := 5) dX12_saves_242 (by decide) ?_
      refine g_iadd E dX12_saves_243 ?_
      refine g_aload_n E dX12_saves_244 0 rfl ?_
      refine gg_12_71 E (hN 12 (by decide)) dX12_saves_245 ?_
      refine g_iload_n E dX12_saves_248 1 rfl ?_
      refine g_iaload E (hN 48 (by decide)) (by decide) rfl dX12_saves_249 (fun v29 => ?_)
      refine g_iastore E (hN 69 (by decide)) (by decide) rfl dX12_saves_250 (fun s30 => ?_)
      refine g_aload_n E dX12_saves_251 0 rfl ?_
      refine gg_12_134 E (hN 12 (by decide)) dX12_saves_252 ?_
      refine g_bipush E (v := 8) dX12_saves_255 (by decide) ?_
      refine g_iload_n E dX12_saves_257 1 rfl ?_
      refine g_imul E dX12_saves_258 ?_
      refine g_bipush E (v := 6) dX12_saves_259 (by decide) ?_
      refine g_iadd E dX12_saves_261 ?_
      refine g_aload_n E dX12_saves_262 0 rfl ?_
      refine gg_12_74 E (hN 12 (by decide)) dX12_saves_263 ?_
      refine g_iload_n E dX12_saves_266 1 rfl ?_
      refine g_iaload E (hN 49 (by decide)) (by decide) rfl dX12_saves_267 (fun v31 => ?_)
      refine g_iastore E (hN 69 (by decide)) (by decide) rfl dX12_saves_268 (fun s32 => ?_)
      refine g_iinc E (lv' := []) (lv'' := fun y33 => [(1, .int y33), (0, .ref (ad 12))]) (v := 1) dX12_saves_269 1 rfl (by decide) (by decide) (fun _ => rfl) (fun y33 => ?_)
      refine g_goto E 146 dX12_saves_272 (by decide) ?_
      refine g_sub [1, 0] rfl ?_
      exact hkb146 y33 s32
set_option maxHeartbeats 4000000 in
set_option maxRecDepth 20000 in
theorem w_X12_saves_p107 (E : dr_E p (dr_rm 0) s0 m args meth c 0 0 A s0.heap D cI cZ ad L cX12_saves 2 RX12 none) (hap : dr_ap ad L) (hN : ∀ x ∈ nd_12, x ∈ L) : ∀ (n : Nat) (x1 : Int32) (s : dr_S), dr_G p l e (dr_rm 0) s0 m args below meth c 0 0 A s0.heap D cI cZ ad ln L 2 (dr_Zv D cI cZ ad ln L A below args s0 0 0) 107 [(0, .ref (ad 12)), (1, .int x1)] [] s (f_X12_saves_p107 ln n x1 s) := by
  intro n
  induction n with
  | zero =>
    intro x1 s
    rw [f_X12_saves_p107]
    exact g_none
  | succ n hkb107 =>
    intro x1 s
    rw [f_X12_saves_p107]
    refine g_iload_n E dX12_saves_107 1 rfl ?_
    refine g_sipush E (v := 3584) dX12_saves_108 (by decide) ?_
    refine g_icmp_ge E 144 dX12_saves_111 (by decide) ?_ ?_
    · refine g_iconst E (v := 0) dX12_saves_144 (by decide) ?_
      refine g_istore_n E (lv' := [(1, .int 0), (0, .ref (ad 12))]) dX12_saves_145 (by decide) rfl ?_
      refine g_sub [1, 0] rfl ?_
      exact w_X12_saves_p146 E hap hN dr_N 0 s
    · refine g_aload_n E dX12_saves_114 0 rfl ?_
      refine gg_12_128 E (hN 12 (by decide)) dX12_saves_115 ?_
      refine g_iload_n E dX12_saves_118 1 rfl ?_
      refine g_aload_n E dX12_saves_119 0 rfl ?_
      refine gg_12_26 E (hN 12 (by decide)) dX12_saves_120 ?_
      refine g_iload_n E dX12_saves_123 1 rfl ?_
      refine g_iaload E (hN 33 (by decide)) (by decide) rfl dX12_saves_124 (fun v14 => ?_)
      refine g_iastore E (hN 67 (by decide)) (by decide) rfl dX12_saves_125 (fun s15 => ?_)
      refine g_aload_n E dX12_saves_126 0 rfl ?_
      refine gg_12_131 E (hN 12 (by decide)) dX12_saves_127 ?_
      refine g_iload_n E dX12_saves_130 1 rfl ?_
      refine g_aload_n E dX12_saves_131 0 rfl ?_
      refine gg_12_29 E (hN 12 (by decide)) dX12_saves_132 ?_
      refine g_iload_n E dX12_saves_135 1 rfl ?_
      refine g_iaload E (hN 34 (by decide)) (by decide) rfl dX12_saves_136 (fun v16 => ?_)
      refine g_iastore E (hN 68 (by decide)) (by decide) rfl dX12_saves_137 (fun s17 => ?_)
      refine g_iinc E (lv' := []) (lv'' := fun y18 => [(1, .int y18), (0, .ref (ad 12))]) (v := 1) dX12_saves_138 1 rfl (by decide) (by decide) (fun _ => rfl) (fun y18 => ?_)
      refine g_goto E 107 dX12_saves_141 (by decide) ?_
      refine g_sub [1, 0] rfl ?_
      exact hkb107 y18 s17
set_option maxHeartbeats 4000000 in
set_option maxRecDepth 20000 in
theorem w_X12_saves_p2 (E : dr_E p (dr_rm 0) s0 m args meth c 0 0 A s0.heap D cI cZ ad L cX12_saves 2 RX12 none) (hap : dr_ap ad L) (hN : ∀ x ∈ nd_12, x ∈ L) : ∀ (n : Nat) (x1 : Int32) (s : dr_S), dr_G p l e (dr_rm 0) s0 m args below meth c 0 0 A s0.heap D cI cZ ad ln L 2 (dr_Zv D cI cZ ad ln L A below args s0 0 0) 2 [(0, .ref (ad 12)), (1, .int x1)] [] s (f_X12_saves_p2 ln n x1 s) := by
  intro n
  induction n with
  | zero =>
    intro x1 s
    rw [f_X12_saves_p2]
    exact g_none
  | succ n hkb2 =>
    intro x1 s
    rw [f_X12_saves_p2]
    refine g_iload_n E dX12_saves_2 1 rfl ?_
    refine g_sipush E (v := 256) dX12_saves_3 (by decide) ?_
    refine g_icmp_ge E 105 dX12_saves_6 (by decide) ?_ ?_
    · refine g_iconst E (v := 0) dX12_saves_105 (by decide) ?_
      refine g_istore_n E (lv' := [(1, .int 0), (0, .ref (ad 12))]) dX12_saves_106 (by decide) rfl ?_
      refine g_sub [1, 0] rfl ?_
      exact w_X12_saves_p107 E hap hN dr_N 0 s
    · refine g_aload_n E dX12_saves_9 0 rfl ?_
      refine gg_12_122 E (hN 12 (by decide)) dX12_saves_10 ?_
      refine g_iload_n E dX12_saves_13 1 rfl ?_
      refine g_aload_n E dX12_saves_14 0 rfl ?_
      refine gg_12_17 E (hN 12 (by decide)) dX12_saves_15 ?_
      refine g_iload_n E dX12_saves_18 1 rfl ?_
      refine g_baload E (hN 30 (by decide)) (by decide) rfl dX12_saves_19 (fun v1 => ?_)
      refine g_bastore E (hN 65 (by decide)) (by decide) rfl dX12_saves_20 (fun s2 => ?_)
      refine g_aload_n E dX12_saves_21 0 rfl ?_
      refine gg_12_125 E (hN 12 (by decide)) dX12_saves_22 ?_
      refine g_iconst E (v := 5) dX12_saves_25 (by decide) ?_
      refine g_iload_n E dX12_saves_26 1 rfl ?_
      refine g_imul E dX12_saves_27 ?_
      refine g_aload_n E dX12_saves_28 0 rfl ?_
      refine gg_12_20 E (hN 12 (by decide)) dX12_saves_29 ?_
      refine g_iload_n E dX12_saves_32 1 rfl ?_
      refine g_iaload E (hN 31 (by decide)) (by decide) rfl dX12_saves_33 (fun v3 => ?_)
      refine g_iastore E (hN 66 (by decide)) (by decide) rfl dX12_saves_34 (fun s4 => ?_)
      refine g_aload_n E dX12_saves_35 0 rfl ?_
      refine gg_12_125 E (hN 12 (by decide)) dX12_saves_36 ?_
      refine g_iconst E (v := 5) dX12_saves_39 (by decide) ?_
      refine g_iload_n E dX12_saves_40 1 rfl ?_
      refine g_imul E dX12_saves_41 ?_
      refine g_iconst E (v := 1) dX12_saves_42 (by decide) ?_
      refine g_iadd E dX12_saves_43 ?_
      refine g_aload_n E dX12_saves_44 0 rfl ?_
      refine gg_12_23 E (hN 12 (by decide)) dX12_saves_45 ?_
      refine g_iload_n E dX12_saves_48 1 rfl ?_
      refine g_iaload E (hN 32 (by decide)) (by decide) rfl dX12_saves_49 (fun v5 => ?_)
      refine g_iastore E (hN 66 (by decide)) (by decide) rfl dX12_saves_50 (fun s6 => ?_)
      refine g_aload_n E dX12_saves_51 0 rfl ?_
      refine gg_12_125 E (hN 12 (by decide)) dX12_saves_52 ?_
      refine g_iconst E (v := 5) dX12_saves_55 (by decide) ?_
      refine g_iload_n E dX12_saves_56 1 rfl ?_
      refine g_imul E dX12_saves_57 ?_
      refine g_iconst E (v := 2) dX12_saves_58 (by decide) ?_
      refine g_iadd E dX12_saves_59 ?_
      refine g_aload_n E dX12_saves_60 0 rfl ?_
      refine gg_12_32 E (hN 12 (by decide)) dX12_saves_61 ?_
      refine g_iload_n E dX12_saves_64 1 rfl ?_
      refine g_iaload E (hN 35 (by decide)) (by decide) rfl dX12_saves_65 (fun v7 => ?_)
      refine g_iastore E (hN 66 (by decide)) (by decide) rfl dX12_saves_66 (fun s8 => ?_)
      refine g_aload_n E dX12_saves_67 0 rfl ?_
      refine gg_12_125 E (hN 12 (by decide)) dX12_saves_68 ?_
      refine g_iconst E (v := 5) dX12_saves_71 (by decide) ?_
      refine g_iload_n E dX12_saves_72 1 rfl ?_
      refine g_imul E dX12_saves_73 ?_
      refine g_iconst E (v := 3) dX12_saves_74 (by decide) ?_
      refine g_iadd E dX12_saves_75 ?_
      refine g_aload_n E dX12_saves_76 0 rfl ?_
      refine gg_12_35 E (hN 12 (by decide)) dX12_saves_77 ?_
      refine g_iload_n E dX12_saves_80 1 rfl ?_
      refine g_iaload E (hN 36 (by decide)) (by decide) rfl dX12_saves_81 (fun v9 => ?_)
      refine g_iastore E (hN 66 (by decide)) (by decide) rfl dX12_saves_82 (fun s10 => ?_)
      refine g_aload_n E dX12_saves_83 0 rfl ?_
      refine gg_12_125 E (hN 12 (by decide)) dX12_saves_84 ?_
      refine g_iconst E (v := 5) dX12_saves_87 (by decide) ?_
      refine g_iload_n E dX12_saves_88 1 rfl ?_
      refine g_imul E dX12_saves_89 ?_
      refine g_iconst E (v := 4) dX12_saves_90 (by decide) ?_
      refine g_iadd E dX12_saves_91 ?_
      refine g_aload_n E dX12_saves_92 0 rfl ?_
      refine gg_12_38 E (hN 12 (by decide)) dX12_saves_93 ?_
      refine g_iload_n E dX12_saves_96 1 rfl ?_
      refine g_iaload E (hN 37 (by decide)) (by decide) rfl dX12_saves_97 (fun v11 => ?_)
      refine g_iastore E (hN 66 (by decide)) (by decide) rfl dX12_saves_98 (fun s12 => ?_)
      refine g_iinc E (lv' := []) (lv'' := fun y13 => [(1, .int y13), (0, .ref (ad 12))]) (v := 1) dX12_saves_99 1 rfl (by decide) (by decide) (fun _ => rfl) (fun y13 => ?_)
      refine g_goto E 2 dX12_saves_102 (by decide) ?_
      refine g_sub [1, 0] rfl ?_
      exact hkb2 y13 s12
set_option maxHeartbeats 4000000 in
set_option maxRecDepth 20000 in
theorem c_X12_saves (hap : dr_ap ad L) (hN : ∀ x ∈ nd_12, x ∈ L) (s : dr_S) : dr_Mv l D cI cZ ad ln L yX12_saves cX12_saves 2 0 [.ref (ad 12)] s (f_X12_saves ln  s) := by
  refine dr_metv (own := RX12) (by decide) rfl (Nat.le_of_ble_eq_true rfl) hap ?_
  intro p e s0 m args below meth c A E
  unfold f_X12_saves
  refine g_eqL (lv' := [(0, .ref (ad 12))]) rfl ?_
  refine g_iconst E (v := 0) dX12_saves_0 (by decide) ?_
  refine g_istore_n E (lv' := [(1, .int 0), (0, .ref (ad 12))]) dX12_saves_1 (by decide) rfl ?_
  refine g_sub [1, 0] rfl ?_
  exact w_X12_saves_p2 E hap hN dr_N 0 s
end

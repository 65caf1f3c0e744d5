theorem dX12_fall_0 : decode cX12_fall 0 = .ok (.iconst 0, 1) := by decide +kernel
theorem dX12_fall_1 : decode cX12_fall 1 = .ok (.istore_n 1, 1) := by decide +kernel
theorem dX12_fall_2 : decode cX12_fall 2 = .ok (.iconst 0, 1) := by decide +kernel
theorem dX12_fall_3 : decode cX12_fall 3 = .ok (.istore_n 2, 1) := by decide +kernel
theorem dX12_fall_4 : decode cX12_fall 4 = .ok (.iload_n 2, 1) := by decide +kernel
theorem dX12_fall_5 : decode cX12_fall 5 = .ok (.iconst 4, 1) := by decide +kernel
theorem dX12_fall_6 : decode cX12_fall 6 = .ok (.if_icmp .ge 50, 3) := by decide +kernel
theorem dX12_fall_9 : decode cX12_fall 9 = .ok (.aload_n 0, 1) := by decide +kernel
theorem dX12_fall_10 : decode cX12_fall 10 = .ok (.getfield 44, 3) := by decide +kernel
theorem dX12_fall_13 : decode cX12_fall 13 = .ok (.iload_n 2, 1) := by decide +kernel
theorem dX12_fall_14 : decode cX12_fall 14 = .ok (.iaload, 1) := by decide +kernel
theorem dX12_fall_15 : decode cX12_fall 15 = .ok (.ifCond .ne 6, 3) := by decide +kernel
theorem dX12_fall_18 : decode cX12_fall 18 = .ok (.goto 32, 3) := by decide +kernel
theorem dX12_fall_21 : decode cX12_fall 21 = .ok (.aload_n 0, 1) := by decide +kernel
theorem dX12_fall_22 : decode cX12_fall 22 = .ok (.getfield 95, 3) := by decide +kernel
theorem dX12_fall_25 : decode cX12_fall 25 = .ok (.aload_n 0, 1) := by decide +kernel
theorem dX12_fall_26 : decode cX12_fall 26 = .ok (.getfield 50, 3) := by decide +kernel
theorem dX12_fall_29 : decode cX12_fall 29 = .ok (.iload_n 2, 1) := by decide +kernel
theorem dX12_fall_30 : decode cX12_fall 30 = .ok (.iaload, 1) := by decide +kernel
theorem dX12_fall_31 : decode cX12_fall 31 = .ok (.iconst 1, 1) := by decide +kernel
theorem dX12_fall_32 : decode cX12_fall 32 = .ok (.bastore, 1) := by decide +kernel
theorem dX12_fall_33 : decode cX12_fall 33 = .ok (.aload_n 0, 1) := by decide +kernel
theorem dX12_fall_34 : decode cX12_fall 34 = .ok (.getfield 44, 3) := by decide +kernel
theorem dX12_fall_37 : decode cX12_fall 37 = .ok (.iload_n 2, 1) := by decide +kernel
theorem dX12_fall_38 : decode cX12_fall 38 = .ok (.iconst 0, 1) := by decide +kernel
theorem dX12_fall_39 : decode cX12_fall 39 = .ok (.iastore, 1) := by decide +kernel
theorem dX12_fall_40 : decode cX12_fall 40 = .ok (.aload_n 0, 1) := by decide +kernel
theorem dX12_fall_41 : decode cX12_fall 41 = .ok (.getfield 56, 3) := by decide +kernel
theorem dX12_fall_44 : decode cX12_fall 44 = .ok (.iload_n 2, 1) := by decide +kernel
theorem dX12_fall_45 : decode cX12_fall 45 = .ok (.iconst (-1), 1) := by decide +kernel
theorem dX12_fall_46 : decode cX12_fall 46 = .ok (.iastore, 1) := by decide +kernel
theorem dX12_fall_47 : decode cX12_fall 47 = .ok (.iinc 1 1, 3) := by decide +kernel
theorem dX12_fall_50 : decode cX12_fall 50 = .ok (.iinc 2 1, 3) := by decide +kernel
theorem dX12_fall_53 : decode cX12_fall 53 = .ok (.goto (-49), 3) := by decide +kernel
theorem dX12_fall_56 : decode cX12_fall 56 = .ok (.iconst 0, 1) := by decide +kernel
theorem dX12_fall_57 : decode cX12_fall 57 = .ok (.istore_n 2, 1) := by decide +kernel
theorem dX12_fall_58 : decode cX12_fall 58 = .ok (.iload_n 2, 1) := by decide +kernel
theorem dX12_fall_59 : decode cX12_fall 59 = .ok (.sipush 256, 3) := by decide +kernel
theorem dX12_fall_62 : decode cX12_fall 62 = .ok (.if_icmp .ge 16, 3) := by decide +kernel
theorem dX12_fall_65 : decode cX12_fall 65 = .ok (.aload_n 0, 1) := by decide +kernel
theorem dX12_fall_66 : decode cX12_fall 66 = .ok (.getfield 38, 3) := by decide +kernel
theorem dX12_fall_69 : decode cX12_fall 69 = .ok (.iload_n 2, 1) := by decide +kernel
theorem dX12_fall_70 : decode cX12_fall 70 = .ok (.iconst (-1), 1) := by decide +kernel
theorem dX12_fall_71 : decode cX12_fall 71 = .ok (.iastore, 1) := by decide +kernel
theorem dX12_fall_72 : decode cX12_fall 72 = .ok (.iinc 2 1, 3) := by decide +kernel
theorem dX12_fall_75 : decode cX12_fall 75 = .ok (.goto (-17), 3) := by decide +kernel
theorem dX12_fall_78 : decode cX12_fall 78 = .ok (.aload_n 0, 1) := by decide +kernel
theorem dX12_fall_79 : decode cX12_fall 79 = .ok (.getfield 35, 3) := by decide +kernel
theorem dX12_fall_82 : decode cX12_fall 82 = .ok (.aload_n 0, 1) := by decide +kernel
theorem dX12_fall_83 : decode cX12_fall 83 = .ok (.getfield 202, 3) := by decide +kernel
theorem dX12_fall_86 : decode cX12_fall 86 = .ok (.iaload, 1) := by decide +kernel
theorem dX12_fall_87 : decode cX12_fall 87 = .ok (.iconst (-1), 1) := by decide +kernel
theorem dX12_fall_88 : decode cX12_fall 88 = .ok (.if_icmp .ne 5, 3) := by decide +kernel
theorem dX12_fall_91 : decode cX12_fall 91 = .ok (.iload_n 1, 1) := by decide +kernel
theorem dX12_fall_92 : decode cX12_fall 92 = .ok (.ireturn, 1) := by decide +kernel
theorem dX12_fall_93 : decode cX12_fall 93 = .ok (.aload_n 0, 1) := by decide +kernel
theorem dX12_fall_94 : decode cX12_fall 94 = .ok (.invokevirtual 192, 3) := by decide +kernel
theorem dX12_fall_97 : decode cX12_fall 97 = .ok (.istore_n 2, 1) := by decide +kernel
theorem dX12_fall_98 : decode cX12_fall 98 = .ok (.aload_n 0, 1) := by decide +kernel
theorem dX12_fall_99 : decode cX12_fall 99 = .ok (.iload_n 2, 1) := by decide +kernel
theorem dX12_fall_100 : decode cX12_fall 100 = .ok (.invokevirtual 156, 3) := by decide +kernel
theorem dX12_fall_103 : decode cX12_fall 103 = .ok (.aload_n 0, 1) := by decide +kernel
theorem dX12_fall_104 : decode cX12_fall 104 = .ok (.getfield 17, 3) := by decide +kernel
theorem dX12_fall_107 : decode cX12_fall 107 = .ok (.iload_n 2, 1) := by decide +kernel
theorem dX12_fall_108 : decode cX12_fall 108 = .ok (.iconst 1, 1) := by decide +kernel
theorem dX12_fall_109 : decode cX12_fall 109 = .ok (.bastore, 1) := by decide +kernel
theorem dX12_fall_110 : decode cX12_fall 110 = .ok (.aload_n 0, 1) := by decide +kernel
theorem dX12_fall_111 : decode cX12_fall 111 = .ok (.getfield 20, 3) := by decide +kernel
theorem dX12_fall_114 : decode cX12_fall 114 = .ok (.iload_n 2, 1) := by decide +kernel
theorem dX12_fall_115 : decode cX12_fall 115 = .ok (.aload_n 0, 1) := by decide +kernel
theorem dX12_fall_116 : decode cX12_fall 116 = .ok (.getfield 20, 3) := by decide +kernel
theorem dX12_fall_119 : decode cX12_fall 119 = .ok (.aload_n 0, 1) := by decide +kernel
theorem dX12_fall_120 : decode cX12_fall 120 = .ok (.getfield 202, 3) := by decide +kernel
theorem dX12_fall_123 : decode cX12_fall 123 = .ok (.iaload, 1) := by decide +kernel
theorem dX12_fall_124 : decode cX12_fall 124 = .ok (.iconst 1, 1) := by decide +kernel
theorem dX12_fall_125 : decode cX12_fall 125 = .ok (.iadd, 1) := by decide +kernel
theorem dX12_fall_126 : decode cX12_fall 126 = .ok (.iastore, 1) := by decide +kernel
theorem dX12_fall_127 : decode cX12_fall 127 = .ok (.aload_n 0, 1) := by decide +kernel
theorem dX12_fall_128 : decode cX12_fall 128 = .ok (.getfield 202, 3) := by decide +kernel
theorem dX12_fall_131 : decode cX12_fall 131 = .ok (.istore_n 3, 1) := by decide +kernel
theorem dX12_fall_132 : decode cX12_fall 132 = .ok (.iconst 0, 1) := by decide +kernel
theorem dX12_fall_133 : decode cX12_fall 133 = .ok (.istore 4, 2) := by decide +kernel
theorem dX12_fall_135 : decode cX12_fall 135 = .ok (.iload_n 3, 1) := by decide +kernel
theorem dX12_fall_136 : decode cX12_fall 136 = .ok (.iconst (-1), 1) := by decide +kernel
theorem dX12_fall_137 : decode cX12_fall 137 = .ok (.if_icmp .eq 80, 3) := by decide +kernel
theorem dX12_fall_140 : decode cX12_fall 140 = .ok (.iload 4, 2) := by decide +kernel
theorem dX12_fall_142 : decode cX12_fall 142 = .ok (.iconst 2, 1) := by decide +kernel
theorem dX12_fall_143 : decode cX12_fall 143 = .ok (.aload_n 0, 1) := by decide +kernel
theorem dX12_fall_144 : decode cX12_fall 144 = .ok (.getfield 152, 3) := by decide +kernel
theorem dX12_fall_147 : decode cX12_fall 147 = .ok (.imul, 1) := by decide +kernel
theorem dX12_fall_148 : decode cX12_fall 148 = .ok (.iconst 1, 1) := by decide +kernel
theorem dX12_fall_149 : decode cX12_fall 149 = .ok (.iadd, 1) := by decide +kernel
theorem dX12_fall_150 : decode cX12_fall 150 = .ok (.if_icmp .ge 67, 3) := by decide +kernel
theorem dX12_fall_153 : decode cX12_fall 153 = .ok (.aload_n 0, 1) := by decide +kernel
theorem dX12_fall_154 : decode cX12_fall 154 = .ok (.getfield 29, 3) := by decide +kernel
theorem dX12_fall_157 : decode cX12_fall 157 = .ok (.bipush 14, 2) := by decide +kernel
theorem dX12_fall_159 : decode cX12_fall 159 = .ok (.iload_n 2, 1) := by decide +kernel
theorem dX12_fall_160 : decode cX12_fall 160 = .ok (.imul, 1) := by decide +kernel
theorem dX12_fall_161 : decode cX12_fall 161 = .ok (.iload 4, 2) := by decide +kernel
theorem dX12_fall_163 : decode cX12_fall 163 = .ok (.iadd, 1) := by decide +kernel
theorem dX12_fall_164 : decode cX12_fall 164 = .ok (.iload_n 3, 1) := by decide +kernel
theorem dX12_fall_165 : decode cX12_fall 165 = .ok (.iastore, 1) := by decide +kernel
theorem dX12_fall_166 : decode cX12_fall 166 = .ok (.iload 4, 2) := by decide +kernel
theorem dX12_fall_168 : decode cX12_fall 168 = .ok (.ifCond .le 36, 3) := by decide +kernel
theorem dX12_fall_171 : decode cX12_fall 171 = .ok (.aload_n 0, 1) := by decide +kernel
theorem dX12_fall_172 : decode cX12_fall 172 = .ok (.getfield 26, 3) := by decide +kernel
theorem dX12_fall_175 : decode cX12_fall 175 = .ok (.bipush 14, 2) := by decide +kernel
theorem dX12_fall_177 : decode cX12_fall 177 = .ok (.iload_n 2, 1) := by decide +kernel
theorem dX12_fall_178 : decode cX12_fall 178 = .ok (.imul, 1) := by decide +kernel
theorem dX12_fall_179 : decode cX12_fall 179 = .ok (.iload 4, 2) := by decide +kernel
theorem dX12_fall_181 : decode cX12_fall 181 = .ok (.iadd, 1) := by decide +kernel
theorem dX12_fall_182 : decode cX12_fall 182 = .ok (.iconst 1, 1) := by decide +kernel
theorem dX12_fall_183 : decode cX12_fall 183 = .ok (.isub, 1) := by decide +kernel
theorem dX12_fall_184 : decode cX12_fall 184 = .ok (.aload_n 0, 1) := by decide +kernel
theorem dX12_fall_185 : decode cX12_fall 185 = .ok (.getfield 32, 3) := by decide +kernel
theorem dX12_fall_188 : decode cX12_fall 188 = .ok (.aload_n 0, 1) := by decide +kernel
theorem dX12_fall_189 : decode cX12_fall 189 = .ok (.getfield 29, 3) := by decide +kernel
theorem dX12_fall_192 : decode cX12_fall 192 = .ok (.bipush 14, 2) := by decide +kernel
theorem dX12_fall_194 : decode cX12_fall 194 = .ok (.iload_n 2, 1) := by decide +kernel
theorem dX12_fall_195 : decode cX12_fall 195 = .ok (.imul, 1) := by decide +kernel
theorem dX12_fall_196 : decode cX12_fall 196 = .ok (.iload 4, 2) := by decide +kernel
theorem dX12_fall_198 : decode cX12_fall 198 = .ok (.iadd, 1) := by decide +kernel
theorem dX12_fall_199 : decode cX12_fall 199 = .ok (.iconst 1, 1) := by decide +kernel
theorem dX12_fall_200 : decode cX12_fall 200 = .ok (.isub, 1) := by decide +kernel
theorem dX12_fall_201 : decode cX12_fall 201 = .ok (.iaload, 1) := by decide +kernel
theorem dX12_fall_202 : decode cX12_fall 202 = .ok (.iaload, 1) := by decide +kernel
theorem dX12_fall_203 : decode cX12_fall 203 = .ok (.iastore, 1) := by decide +kernel
theorem dX12_fall_204 : decode cX12_fall 204 = .ok (.aload_n 0, 1) := by decide +kernel
theorem dX12_fall_205 : decode cX12_fall 205 = .ok (.getfield 35, 3) := by decide +kernel
theorem dX12_fall_208 : decode cX12_fall 208 = .ok (.iload_n 3, 1) := by decide +kernel
theorem dX12_fall_209 : decode cX12_fall 209 = .ok (.iaload, 1) := by decide +kernel
theorem dX12_fall_210 : decode cX12_fall 210 = .ok (.istore_n 3, 1) := by decide +kernel
theorem dX12_fall_211 : decode cX12_fall 211 = .ok (.iinc 4 1, 3) := by decide +kernel
theorem dX12_fall_214 : decode cX12_fall 214 = .ok (.goto (-79), 3) := by decide +kernel
theorem dX12_fall_217 : decode cX12_fall 217 = .ok (.aload_n 0, 1) := by decide +kernel
theorem dX12_fall_218 : decode cX12_fall 218 = .ok (.getfield 23, 3) := by decide +kernel
theorem dX12_fall_221 : decode cX12_fall 221 = .ok (.iload_n 2, 1) := by decide +kernel
theorem dX12_fall_222 : decode cX12_fall 222 = .ok (.iload 4, 2) := by decide +kernel
theorem dX12_fall_224 : decode cX12_fall 224 = .ok (.iconst 1, 1) := by decide +kernel
theorem dX12_fall_225 : decode cX12_fall 225 = .ok (.isub, 1) := by decide +kernel
theorem dX12_fall_226 : decode cX12_fall 226 = .ok (.iastore, 1) := by decide +kernel
theorem dX12_fall_227 : decode cX12_fall 227 = .ok (.aload_n 0, 1) := by decide +kernel
theorem dX12_fall_228 : decode cX12_fall 228 = .ok (.iload_n 2, 1) := by decide +kernel
theorem dX12_fall_229 : decode cX12_fall 229 = .ok (.putfield 202, 3) := by decide +kernel
theorem dX12_fall_232 : decode cX12_fall 232 = .ok (.iload_n 1, 1) := by decide +kernel
theorem dX12_fall_233 : decode cX12_fall 233 = .ok (.ireturn, 1) := by decide +kernel
def f_X12_fall_p217 (ln : Nat → Nat) (x1 : Int32) (x2 : Int32) (x4 : Int32) (s : dr_S) : Option (Int32 × dr_S) := (dr_wr ln s 32 x2 (x4 - 1)).bind (fun s24 => dr_letS (dr_pf s24 1205 x2) (fun s25 => some (x1, s25)))
def f_X12_fall_p204 (ln : Nat → Nat) (kb135 : Int32 → Int32 → Int32 → Int32 → dr_S → Option (Int32 × dr_S)) (x1 : Int32) (x2 : Int32) (x3 : Int32) (x4 : Int32) (s : dr_S) : Option (Int32 × dr_S) := (dr_rd ln s 36 x3).bind (fun v22 => dr_let (x4 + 1) (fun y23 => (kb135 x1 x2 v22 y23 s)))
def f_X12_fall_p135 (ln : Nat → Nat) : Nat → Int32 → Int32 → Int32 → Int32 → dr_S → Option (Int32 × dr_S)
  | 0, _, _, _, _, _ => none
  | n + 1, x1, x2, x3, x4, s => (if x3 = (-1) then (f_X12_fall_p217 ln x1 x2 x4 s) else (if ((2 * (s.2 1200)) + 1) ≤ x4 then (f_X12_fall_p217 ln x1 x2 x4 s) else (dr_wr ln s 34 ((14 * x2) + x4) x3).bind (fun s18 => (if x4 ≤ 0 then (f_X12_fall_p204 ln (f_X12_fall_p135 ln n) x1 x2 x3 x4 s18) else (dr_rd ln s18 34 (((14 * x2) + x4) - 1)).bind (fun v19 => (dr_rd ln s18 35 v19).bind (fun v20 => (dr_wr ln s18 33 (((14 * x2) + x4) - 1) v20).bind (fun s21 => (f_X12_fall_p204 ln (f_X12_fall_p135 ln n) x1 x2 x3 x4 s21))))))))
def f_X12_fall_p58 (ln : Nat → Nat) : Nat → Int32 → Int32 → dr_S → Option (Int32 × dr_S)
  | 0, _, _, _ => none
  | n + 1, x1, x2, s => (if ((256 : Int32) ≤ x2 : Prop) then (dr_rd ln s 36 (s.2 1205)).bind (fun v8 => (if v8 = (-1) then some (x1, s) else dr_bnd (f_X12_spare ln  s) (fun r10 s9 => dr_bndv (f_X12_clears ln r10 s9) (fun s11 => (dr_wz ln s11 30 r10 1).bind (fun s12 => (dr_rd ln s12 31 (s12.2 1205)).bind (fun v13 => (dr_wr ln s12 31 r10 (v13 + 1)).bind (fun s14 => dr_let (s14.2 1205) (fun y15 => (f_X12_fall_p135 ln dr_N x1 r10 y15 0 s14))))))))) else (dr_wr ln s 37 x2 (-1)).bind (fun s16 => dr_let (x2 + 1) (fun y17 => (f_X12_fall_p58 ln n x1 y17 s16))))
def f_X12_fall_p50 (ln : Nat → Nat) (kb4 : Int32 → Int32 → dr_S → Option (Int32 × dr_S)) (x1 : Int32) (x2 : Int32) (s : dr_S) : Option (Int32 × dr_S) := dr_let (x2 + 1) (fun y7 => (kb4 x1 y7 s))
def f_X12_fall_p4 (ln : Nat → Nat) : Nat → Int32 → Int32 → dr_S → Option (Int32 × dr_S)
  | 0, _, _, _ => none
  | n + 1, x1, x2, s => (if ((4 : Int32) ≤ x2 : Prop) then (f_X12_fall_p58 ln dr_N x1 0 s) else (dr_rd ln s 39 x2).bind (fun v1 => (if v1 = 0 then (f_X12_fall_p50 ln (f_X12_fall_p4 ln n) x1 x2 s) else (dr_rd ln s 41 x2).bind (fun v2 => (dr_wz ln s 56 v2 1).bind (fun s3 => (dr_wr ln s3 39 x2 0).bind (fun s4 => (dr_wr ln s4 43 x2 (-1)).bind (fun s5 => dr_let (x1 + 1) (fun y6 => (f_X12_fall_p50 ln (f_X12_fall_p4 ln n) y6 x2 s5)))))))))
def f_X12_fall (ln : Nat → Nat) (s : dr_S) : Option (Int32 × dr_S) := (f_X12_fall_p4 ln dr_N 0 0 s)
section
variable {p : Program} {l : Launch} {e : Env} {s0 : State} {m : MethodId} {args : Array Value} {below : List Frame} {meth : Method} {c : Code} {A : Nat → Prop} {D : va_G} {cI cZ : ClassId} {ad ln : Nat → Nat} {L : List Nat}
set_option maxHeartbeats 4000000 in
set_option maxRecDepth 20000 in
theorem w_X12_fall_p217 (E : dr_E p (dr_rm 1) s0 m args meth c 0 0 A s0.heap D cI cZ ad L cX12_fall 5 RX12 (some .int)) (hap : dr_ap ad L) (hN : ∀ x ∈ nd_12, x ∈ L) : ∀ (x1 : Int32) (x2 : Int32) (x4 : Int32) (s : dr_S), dr_G p l e (dr_rm 1) s0 m args below meth c 0 0 A s0.heap D cI cZ ad ln L 5 (dr_Zi D cI cZ ad ln L A below args s0 0 0) 217 [(0, .ref (ad 12)), (1, .int x1), (2, .int x2), (4, .int x4)] [] s (f_X12_fall_p217 ln x1 x2 x4 s) := by
  intro x1 x2 x4 s
  unfold f_X12_fall_p217
  refine g_aload_n E dX12_fall_217 0 rfl ?_
  refine gg_12_23 E (hN 12 (by decide)) dX12_fall_218 ?_
  refine g_iload_n E dX12_fall_221 2 rfl ?_
  refine g_iload E dX12_fall_222 3 rfl ?_
  refine g_iconst E (v := 1) dX12_fall_224 (by decide) ?_
  refine g_isub E dX12_fall_225 ?_
  refine g_iastore E (hN 32 (by decide)) (by decide) rfl dX12_fall_226 (fun s24 => ?_)
  refine g_aload_n E dX12_fall_227 0 rfl ?_
  refine g_iload_n E dX12_fall_228 2 rfl ?_
  refine gp_12_202 E (hN 12 (by decide)) dX12_fall_229 (fun s25 => ?_)
  refine g_iload_n E dX12_fall_232 1 rfl ?_
  exact g_iret E dX12_fall_233
set_option maxHeartbeats 4000000 in
set_option maxRecDepth 20000 in
theorem w_X12_fall_p204 {kb135 : Int32 → Int32 → Int32 → Int32 → dr_S → Option (Int32 × dr_S)} (E : dr_E p (dr_rm 1) s0 m args meth c 0 0 A s0.heap D cI cZ ad L cX12_fall 5 RX12 (some .int)) (hap : dr_ap ad L) (hN : ∀ x ∈ nd_12, x ∈ L) (hkb135 : ∀ (x1 : Int32) (x2 : Int32) (x3 : Int32) (x4 : Int32) (s : dr_S), dr_G p l e (dr_rm 1) s0 m args below meth c 0 0 A s0.heap D cI cZ ad ln L 5 (dr_Zi D cI cZ ad ln L A below args s0 0 0) 135 [(0, .ref (ad 12)), (1, .int x1), (2, .int x2), (3, .int x3), (4, .int x4)] [] s (kb135 x1 x2 x3 x4 s)) : ∀ (x1 : Int32) (x2 : Int32) (x3 : Int32) (x4 : Int32) (s : dr_S), dr_G p l e (dr_rm 1) s0 m args below meth c 0 0 A s0.heap D cI cZ ad ln L 5 (dr_Zi D cI cZ ad ln L A below args s0 0 0) 204 [(0, .ref (ad 12)), (1, .int x1), (2, .int x2), (3, .int x3), (4, .int x4)] [] s (f_X12_fall_p204 ln kb135 x1 x2 x3 x4 s) := by
  intro x1 x2 x3 x4 s
  unfold f_X12_fall_p204
  refine g_aload_n E dX12_fall_204 0 rfl ?_
  refine gg_12_35 E (hN 12 (by decide)) dX12_fall_205 ?_
  refine g_iload_n E dX12_fall_208 3 rfl ?_
  refine g_iaload E (hN 36 (by decide)) (by decide) rfl dX12_fall_209 (fun v22 => ?_)
  refine g_istore_n E (lv' := [(3, .int v22), (0, .ref (ad 12)), (1, .int x1), (2, .int x2), (4, .int x4)]) dX12_fall_210 (by decide) rfl ?_
  refine g_iinc E (lv' := []) (lv'' := fun y23 => [(4, .int y23), (3, .int v22), (0, .ref (ad 12)), (1, .int x1), (2, .int x2)]) (v := 1) dX12_fall_211 4 rfl (by decide) (by decide) (fun _ => rfl) (fun y23 => ?_)
  refine g_goto E 135 dX12_fall_214 (by decide) ?_
  refine g_sub [2, 3, 4, 1, 0] rfl ?_
  exact hkb135 x1 x2 v22 y23 s
set_option maxHeartbeats 4000000 in
set_option maxRecDepth 20000 in
theorem w_X12_fall_p135 (E : dr_E p (dr_rm 1) s0 m args meth c 0 0 A s0.heap D cI cZ ad L cX12_fall 5 RX12 (some .int)) (hap : dr_ap ad L) (hN : ∀ x ∈ nd_12, x ∈ L) : ∀ (n : Nat) (x1 : Int32) (x2 : Int32) (x3 : Int32) (x4 : Int32) (s : dr_S), dr_G p l e (dr_rm 1) s0 m args below meth c 0 0 A s0.heap D cI cZ ad ln L 5 (dr_Zi D cI cZ ad ln L A below args s0 0 0) 135 [(0, .ref (ad 12)), (1, .int x1), (2, .int x2), (3, .int x3), (4, .int x4)] [] s (f_X12_fall_p135 ln n x1 x2 x3 x4 s) := by
  intro n
  induction n with
  | zero =>
    intro x1 x2 x3 x4 s
    rw [f_X12_fall_p135]
    exact g_none
  | succ n hkb135 =>
    intro x1 x2 x3 x4 s
    rw [f_X12_fall_p135]
    refine g_iload_n E dX12_fall_135 3 rfl ?_
    refine g_iconst E (v := (-1)) dX12_fall_136 (by decide) ?_
    refine g_icmp_eq E 217 dX12_fall_137 (by decide) ?_ ?_
    · refine g_sub [0, 1, 2, 4] rfl ?_
      exact w_X12_fall_p217 E hap hN x1 x2 x4 s
    · refine g_iload E dX12_fall_140 4 rfl ?_
      refine g_iconst E (v := 2) dX12_fall_142 (by decide) ?_
      refine g_aload_n E dX12_fall_143 0 rfl ?_
      refine gg_12_152 E (hN 12 (by decide)) dX12_fall_144 ?_
      refine g_imul E dX12_fall_147 ?_
      refine g_iconst E (v := 1) dX12_fall_148 (by decide) ?_
      refine g_iadd E dX12_fall_149 ?_
      refine g_icmp_ge E 217 dX12_fall_150 (by decide) ?_ ?_
      · refine g_sub [0, 1, 2, 4] rfl ?_
        exact w_X12_fall_p217 E hap hN x1 x2 x4 s
      · refine g_aload_n E dX12_fall_153 0 rfl ?_
        refine gg_12_29 E (hN 12 (by decide)) dX12_fall_154 ?_
        refine g_bipush E (v := 14) dX12_fall_157 (by decide) ?_
        refine g_iload_n E dX12_fall_159 2 rfl ?_
        refine g_imul E dX12_fall_160 ?_
        refine g_iload E dX12_fall_161 4 rfl ?_
        refine g_iadd E dX12_fall_163 ?_
        refine g_iload_n E dX12_fall_164 3 rfl ?_
        refine g_iastore E (hN 34 (by decide)) (by decide) rfl dX12_fall_165 (fun s18 => ?_)
        refine g_iload E dX12_fall_166 4 rfl ?_
        refine g_if_le E 204 dX12_fall_168 (by decide) ?_ ?_
        · refine g_sub [0, 1, 2, 3, 4] rfl ?_
          exact w_X12_fall_p204 E hap hN hkb135 x1 x2 x3 x4 s18
        · refine g_aload_n E dX12_fall_171 0 rfl ?_
          refine gg_12_26 E (hN 12 (by decide)) dX12_fall_172 ?_
          refine g_bipush E (v := 14) dX12_fall_175 (by decide) ?_
          refine g_iload_n E dX12_fall_177 2 rfl ?_
          refine g_imul E dX12_fall_178 ?_
          refine g_iload E dX12_fall_179 4 rfl ?_
          refine g_iadd E dX12_fall_181 ?_
          refine g_iconst E (v := 1) dX12_fall_182 (by decide) ?_
          refine g_isub E dX12_fall_183 ?_
          refine g_aload_n E dX12_fall_184 0 rfl ?_
          refine gg_12_32 E (hN 12 (by decide)) dX12_fall_185 ?_
          refine g_aload_n E dX12_fall_188 0 rfl ?_
          refine gg_12_29 E (hN 12 (by decide)) dX12_fall_189 ?_
          refine g_bipush E (v := 14) dX12_fall_192 (by decide) ?_
          refine g_iload_n E dX12_fall_194 2 rfl ?_
          refine g_imul E dX12_fall_195 ?_
          refine g_iload E dX12_fall_196 4 rfl ?_
          refine g_iadd E dX12_fall_198 ?_
          refine g_iconst E (v := 1) dX12_fall_199 (by decide) ?_
          refine g_isub E dX12_fall_200 ?_
          refine g_iaload E (hN 34 (by decide)) (by decide) rfl dX12_fall_201 (fun v19 => ?_)
          refine g_iaload E (hN 35 (by decide)) (by decide) rfl dX12_fall_202 (fun v20 => ?_)
          refine g_iastore E (hN 33 (by decide)) (by decide) rfl dX12_fall_203 (fun s21 => ?_)
          refine g_sub [0, 1, 2, 3, 4] rfl ?_
          exact w_X12_fall_p204 E hap hN hkb135 x1 x2 x3 x4 s21
set_option maxHeartbeats 4000000 in
set_option maxRecDepth 20000 in
theorem w_X12_fall_p58 (E : dr_E p (dr_rm 1) s0 m args meth c 0 0 A s0.heap D cI cZ ad L cX12_fall 5 RX12 (some .int)) (hap : dr_ap ad L) (hN : ∀ x ∈ nd_12, x ∈ L) : ∀ (n : Nat) (x1 : Int32) (x2 : Int32) (s : dr_S), dr_G p l e (dr_rm 1) s0 m args below meth c 0 0 A s0.heap D cI cZ ad ln L 5 (dr_Zi D cI cZ ad ln L A below args s0 0 0) 58 [(0, .ref (ad 12)), (1, .int x1), (2, .int x2)] [] s (f_X12_fall_p58 ln n x1 x2 s) := by
  intro n
  induction n with
  | zero =>
    intro x1 x2 s
    rw [f_X12_fall_p58]
    exact g_none
  | succ n hkb58 =>
    intro x1 x2 s
    rw [f_X12_fall_p58]
    refine g_iload_n E dX12_fall_58 2 rfl ?_
    refine g_sipush E (v := 256) dX12_fall_59 (by decide) ?_
    refine g_icmp_ge E 78 dX12_fall_62 (by decide) ?_ ?_
    · refine g_aload_n E dX12_fall_78 0 rfl ?_
      refine gg_12_35 E (hN 12 (by decide)) dX12_fall_79 ?_
      refine g_aload_n E dX12_fall_82 0 rfl ?_
      refine gg_12_202 E (hN 12 (by decide)) dX12_fall_83 ?_
      refine g_iaload E (hN 36 (by decide)) (by decide) rfl dX12_fall_86 (fun v8 => ?_)
      refine g_iconst E (v := (-1)) dX12_fall_87 (by decide) ?_
      refine g_icmp_ne E 93 dX12_fall_88 (by decide) ?_ ?_
      · refine g_aload_n E dX12_fall_93 0 rfl ?_
        refine g_cVi E [] rfl (c_X12_spare hap hN  s) (hN 12 (by decide)) (by decide) rfl rfl mi_X12_spare msl_X12_spare mw_X12_spare rfl ml_12_192 ⟨Nat.le_of_ble_eq_true rfl, Nat.le_of_ble_eq_true rfl⟩ (Nat.le_of_ble_eq_true rfl) dX12_fall_94 (fun r10 s9 => ?_)
        refine g_istore_n E (lv' := [(2, .int r10), (0, .ref (ad 12)), (1, .int x1)]) dX12_fall_97 (by decide) rfl ?_
        refine g_aload_n E dX12_fall_98 1 rfl ?_
        refine g_iload_n E dX12_fall_99 0 rfl ?_
        refine g_cVv E [.int r10] rfl (c_X12_clears hap hN r10 s9) (hN 12 (by decide)) (by decide) rfl rfl mi_X12_clears msl_X12_clears mw_X12_clears rfl ml_12_156 ⟨Nat.le_of_ble_eq_true rfl, Nat.le_of_ble_eq_true rfl⟩ (Nat.le_of_ble_eq_true rfl) dX12_fall_100 (fun s11 => ?_)
        refine g_aload_n E dX12_fall_103 1 rfl ?_
        refine gg_12_17 E (hN 12 (by decide)) dX12_fall_104 ?_
        refine g_iload_n E dX12_fall_107 0 rfl ?_
        refine g_iconst E (v := 1) dX12_fall_108 (by decide) ?_
        refine g_bastore E (hN 30 (by decide)) (by decide) rfl dX12_fall_109 (fun s12 => ?_)
        refine g_aload_n E dX12_fall_110 1 rfl ?_
        refine gg_12_20 E (hN 12 (by decide)) dX12_fall_111 ?_
        refine g_iload_n E dX12_fall_114 0 rfl ?_
        refine g_aload_n E dX12_fall_115 1 rfl ?_
        refine gg_12_20 E (hN 12 (by decide)) dX12_fall_116 ?_
        refine g_aload_n E dX12_fall_119 1 rfl ?_
        refine gg_12_202 E (hN 12 (by decide)) dX12_fall_120 ?_
        refine g_iaload E (hN 31 (by decide)) (by decide) rfl dX12_fall_123 (fun v13 => ?_)
        refine g_iconst E (v := 1) dX12_fall_124 (by decide) ?_
        refine g_iadd E dX12_fall_125 ?_
        refine g_iastore E (hN 31 (by decide)) (by decide) rfl dX12_fall_126 (fun s14 => ?_)
        refine g_aload_n E dX12_fall_127 1 rfl ?_
        refine gg_12_202 E (hN 12 (by decide)) dX12_fall_128 ?_
        refine g_let (fun y15 => ?_)
        refine g_istore_n E (lv' := [(3, .int y15), (2, .int r10), (0, .ref (ad 12)), (1, .int x1)]) dX12_fall_131 (by decide) rfl ?_
        refine g_iconst E (v := 0) dX12_fall_132 (by decide) ?_
        refine g_istore E (lv' := [(4, .int 0), (3, .int y15), (2, .int r10), (0, .ref (ad 12)), (1, .int x1)]) dX12_fall_133 (by decide) rfl ?_
        refine g_sub [3, 4, 2, 1, 0] rfl ?_
        exact w_X12_fall_p135 E hap hN dr_N x1 r10 y15 0 s14
      · refine g_iload_n E dX12_fall_91 1 rfl ?_
        exact g_iret E dX12_fall_92
    · refine g_aload_n E dX12_fall_65 0 rfl ?_
      refine gg_12_38 E (hN 12 (by decide)) dX12_fall_66 ?_
      refine g_iload_n E dX12_fall_69 2 rfl ?_
      refine g_iconst E (v := (-1)) dX12_fall_70 (by decide) ?_
      refine g_iastore E (hN 37 (by decide)) (by decide) rfl dX12_fall_71 (fun s16 => ?_)
      refine g_iinc E (lv' := []) (lv'' := fun y17 => [(2, .int y17), (0, .ref (ad 12)), (1, .int x1)]) (v := 1) dX12_fall_72 2 rfl (by decide) (by decide) (fun _ => rfl) (fun y17 => ?_)
      refine g_goto E 58 dX12_fall_75 (by decide) ?_
      refine g_sub [1, 2, 0] rfl ?_
      exact hkb58 x1 y17 s16
set_option maxHeartbeats 4000000 in
set_option maxRecDepth 20000 in
theorem w_X12_fall_p50 {kb4 : Int32 → Int32 → dr_S → Option (Int32 × dr_S)} (E : dr_E p (dr_rm 1) s0 m args meth c 0 0 A s0.heap D cI cZ ad L cX12_fall 5 RX12 (some .int)) (hap : dr_ap ad L) (hN : ∀ x ∈ nd_12, x ∈ L) (hkb4 : ∀ (x1 : Int32) (x2 : Int32) (s : dr_S), dr_G p l e (dr_rm 1) s0 m args below meth c 0 0 A s0.heap D cI cZ ad ln L 5 (dr_Zi D cI cZ ad ln L A below args s0 0 0) 4 [(0, .ref (ad 12)), (1, .int x1), (2, .int x2)] [] s (kb4 x1 x2 s)) : ∀ (x1 : Int32) (x2 : Int32) (s : dr_S), dr_G p l e (dr_rm 1) s0 m args below meth c 0 0 A s0.heap D cI cZ ad ln L 5 (dr_Zi D cI cZ ad ln L A below args s0 0 0) 50 [(0, .ref (ad 12)), (1, .int x1), (2, .int x2)] [] s (f_X12_fall_p50 ln kb4 x1 x2 s) := by
  intro x1 x2 s
  unfold f_X12_fall_p50
  refine g_iinc E (lv' := []) (lv'' := fun y7 => [(2, .int y7), (0, .ref (ad 12)), (1, .int x1)]) (v := 1) dX12_fall_50 2 rfl (by decide) (by decide) (fun _ => rfl) (fun y7 => ?_)
  refine g_goto E 4 dX12_fall_53 (by decide) ?_
  refine g_sub [1, 2, 0] rfl ?_
  exact hkb4 x1 y7 s
set_option maxHeartbeats 4000000 in
set_option maxRecDepth 20000 in
theorem w_X12_fall_p4 (E : dr_E p (dr_rm 1) s0 m args meth c 0 0 A s0.heap D cI cZ ad L cX12_fall 5 RX12 (some .int)) (hap : dr_ap ad L) (hN : ∀ x ∈ nd_12, x ∈ L) : ∀ (n : Nat) (x1 : Int32) (x2 : Int32) (s : dr_S), dr_G p l e (dr_rm 1) s0 m args below meth c 0 0 A s0.heap D cI cZ ad ln L 5 (dr_Zi D cI cZ ad ln L A below args s0 0 0) 4 [(0, .ref (ad 12)), (1, .int x1), (2, .int x2)] [] s (f_X12_fall_p4 ln n x1 x2 s) := by
  intro n
  induction n with
  | zero =>
    intro x1 x2 s
    rw [f_X12_fall_p4]
    exact g_none
  | succ n hkb4 =>
    intro x1 x2 s
    rw [f_X12_fall_p4]
    refine g_iload_n E dX12_fall_4 2 rfl ?_
    refine g_iconst E (v := 4) dX12_fall_5 (by decide) ?_
    refine g_icmp_ge E 56 dX12_fall_6 (by decide) ?_ ?_
    · refine g_iconst E (v := 0) dX12_fall_56 (by decide) ?_
      refine g_istore_n E (lv' := [(2, .int 0), (0, .ref (ad 12)), (1, .int x1)]) dX12_fall_57 (by decide) rfl ?_
      refine g_sub [1, 2, 0] rfl ?_
      exact w_X12_fall_p58 E hap hN dr_N x1 0 s
    · refine g_aload_n E dX12_fall_9 0 rfl ?_
      refine gg_12_44 E (hN 12 (by decide)) dX12_fall_10 ?_
      refine g_iload_n E dX12_fall_13 2 rfl ?_
      refine g_iaload E (hN 39 (by decide)) (by decide) rfl dX12_fall_14 (fun v1 => ?_)
      refine g_if_ne E 21 dX12_fall_15 (by decide) ?_ ?_
      · refine g_aload_n E dX12_fall_21 0 rfl ?_
        refine gg_12_95 E (hN 12 (by decide)) dX12_fall_22 ?_
        refine g_aload_n E dX12_fall_25 0 rfl ?_
        refine gg_12_50 E (hN 12 (by decide)) dX12_fall_26 ?_
        refine g_iload_n E dX12_fall_29 2 rfl ?_
        refine g_iaload E (hN 41 (by decide)) (by decide) rfl dX12_fall_30 (fun v2 => ?_)
        refine g_iconst E (v := 1) dX12_fall_31 (by decide) ?_
        refine g_bastore E (hN 56 (by decide)) (by decide) rfl dX12_fall_32 (fun s3 => ?_)
        refine g_aload_n E dX12_fall_33 0 rfl ?_
        refine gg_12_44 E (hN 12 (by decide)) dX12_fall_34 ?_
        refine g_iload_n E dX12_fall_37 2 rfl ?_
        refine g_iconst E (v := 0) dX12_fall_38 (by decide) ?_
        refine g_iastore E (hN 39 (by decide)) (by decide) rfl dX12_fall_39 (fun s4 => ?_)
        refine g_aload_n E dX12_fall_40 0 rfl ?_
        refine gg_12_56 E (hN 12 (by decide)) dX12_fall_41 ?_
        refine g_iload_n E dX12_fall_44 2 rfl ?_
        refine g_iconst E (v := (-1)) dX12_fall_45 (by decide) ?_
        refine g_iastore E (hN 43 (by decide)) (by decide) rfl dX12_fall_46 (fun s5 => ?_)
        refine g_iinc E (lv' := []) (lv'' := fun y6 => [(1, .int y6), (0, .ref (ad 12)), (2, .int x2)]) (v := 1) dX12_fall_47 1 rfl (by decide) (by decide) (fun _ => rfl) (fun y6 => ?_)
        refine g_sub [1, 0, 2] rfl ?_
        exact w_X12_fall_p50 E hap hN hkb4 y6 x2 s5
      · refine g_goto E 50 dX12_fall_18 (by decide) ?_
        refine g_sub [0, 1, 2] rfl ?_
        exact w_X12_fall_p50 E hap hN hkb4 x1 x2 s
set_option maxHeartbeats 4000000 in
set_option maxRecDepth 20000 in
theorem c_X12_fall (hap : dr_ap ad L) (hN : ∀ x ∈ nd_12, x ∈ L) (s : dr_S) : dr_Mi l D cI cZ ad ln L yX12_fall cX12_fall 5 (some .int) 1 [.ref (ad 12)] s (f_X12_fall ln  s) := by
  refine dr_meti (own := RX12) (by decide) rfl (Nat.le_of_ble_eq_true rfl) hap ?_
  intro p e s0 m args below meth c A E
  unfold f_X12_fall
  refine g_eqL (lv' := [(0, .ref (ad 12))]) rfl ?_
  refine g_iconst E (v := 0) dX12_fall_0 (by decide) ?_
  refine g_istore_n E (lv' := [(1, .int 0), (0, .ref (ad 12))]) dX12_fall_1 (by decide) rfl ?_
  refine g_iconst E (v := 0) dX12_fall_2 (by decide) ?_
  refine g_istore_n E (lv' := [(2, .int 0), (1, .int 0), (0, .ref (ad 12))]) dX12_fall_3 (by decide) rfl ?_
  refine g_sub [2, 1, 0] rfl ?_
  exact w_X12_fall_p4 E hap hN dr_N 0 0 s
end

theorem dX12_sorts_0 : decode cX12_sorts 0 = .ok (.iconst 0, 1) := by decide +kernel
theorem dX12_sorts_1 : decode cX12_sorts 1 = .ok (.istore_n 1, 1) := by decide +kernel
theorem dX12_sorts_2 : decode cX12_sorts 2 = .ok (.iconst 0, 1) := by decide +kernel
theorem dX12_sorts_3 : decode cX12_sorts 3 = .ok (.istore_n 2, 1) := by decide +kernel
theorem dX12_sorts_4 : decode cX12_sorts 4 = .ok (.iload_n 2, 1) := by decide +kernel
theorem dX12_sorts_5 : decode cX12_sorts 5 = .ok (.aload_n 0, 1) := by decide +kernel
theorem dX12_sorts_6 : decode cX12_sorts 6 = .ok (.getfield 271, 3) := by decide +kernel
theorem dX12_sorts_9 : decode cX12_sorts 9 = .ok (.if_icmp .ge 111, 3) := by decide +kernel
theorem dX12_sorts_12 : decode cX12_sorts 12 = .ok (.aload_n 0, 1) := by decide +kernel
theorem dX12_sorts_13 : decode cX12_sorts 13 = .ok (.getfield 113, 3) := by decide +kernel
theorem dX12_sorts_16 : decode cX12_sorts 16 = .ok (.iload_n 2, 1) := by decide +kernel
theorem dX12_sorts_17 : decode cX12_sorts 17 = .ok (.iaload, 1) := by decide +kernel
theorem dX12_sorts_18 : decode cX12_sorts 18 = .ok (.istore_n 3, 1) := by decide +kernel
theorem dX12_sorts_19 : decode cX12_sorts 19 = .ok (.iload_n 1, 1) := by decide +kernel
theorem dX12_sorts_20 : decode cX12_sorts 20 = .ok (.istore 4, 2) := by decide +kernel
theorem dX12_sorts_22 : decode cX12_sorts 22 = .ok (.iload 4, 2) := by decide +kernel
theorem dX12_sorts_24 : decode cX12_sorts 24 = .ok (.ifCond .le 26, 3) := by decide +kernel
theorem dX12_sorts_27 : decode cX12_sorts 27 = .ok (.aload_n 0, 1) := by decide +kernel
theorem dX12_sorts_28 : decode cX12_sorts 28 = .ok (.iload_n 3, 1) := by decide +kernel
theorem dX12_sorts_29 : decode cX12_sorts 29 = .ok (.aload_n 0, 1) := by decide +kernel
theorem dX12_sorts_30 : decode cX12_sorts 30 = .ok (.getfield 113, 3) := by decide +kernel
theorem dX12_sorts_33 : decode cX12_sorts 33 = .ok (.iload 4, 2) := by decide +kernel
theorem dX12_sorts_35 : decode cX12_sorts 35 = .ok (.iconst 1, 1) := by decide +kernel
theorem dX12_sorts_36 : decode cX12_sorts 36 = .ok (.isub, 1) := by decide +kernel
theorem dX12_sorts_37 : decode cX12_sorts 37 = .ok (.iaload, 1) := by decide +kernel
theorem dX12_sorts_38 : decode cX12_sorts 38 = .ok (.invokevirtual 188, 3) := by decide +kernel
theorem dX12_sorts_41 : decode cX12_sorts 41 = .ok (.ifCond .eq 9, 3) := by decide +kernel
theorem dX12_sorts_44 : decode cX12_sorts 44 = .ok (.iinc 4 (-1), 3) := by decide +kernel
theorem dX12_sorts_47 : decode cX12_sorts 47 = .ok (.goto (-25), 3) := by decide +kernel
theorem dX12_sorts_50 : decode cX12_sorts 50 = .ok (.iload 4, 2) := by decide +kernel
theorem dX12_sorts_52 : decode cX12_sorts 52 = .ok (.ifCond .le 19, 3) := by decide +kernel
theorem dX12_sorts_55 : decode cX12_sorts 55 = .ok (.aload_n 0, 1) := by decide +kernel
theorem dX12_sorts_56 : decode cX12_sorts 56 = .ok (.getfield 113, 3) := by decide +kernel
theorem dX12_sorts_59 : decode cX12_sorts 59 = .ok (.iload 4, 2) := by decide +kernel
theorem dX12_sorts_61 : decode cX12_sorts 61 = .ok (.iconst 1, 1) := by decide +kernel
theorem dX12_sorts_62 : decode cX12_sorts 62 = .ok (.isub, 1) := by decide +kernel
theorem dX12_sorts_63 : decode cX12_sorts 63 = .ok (.iaload, 1) := by decide +kernel
theorem dX12_sorts_64 : decode cX12_sorts 64 = .ok (.iload_n 3, 1) := by decide +kernel
theorem dX12_sorts_65 : decode cX12_sorts 65 = .ok (.if_icmp .ne 6, 3) := by decide +kernel
theorem dX12_sorts_68 : decode cX12_sorts 68 = .ok (.goto 46, 3) := by decide +kernel
theorem dX12_sorts_71 : decode cX12_sorts 71 = .ok (.iload_n 1, 1) := by decide +kernel
theorem dX12_sorts_72 : decode cX12_sorts 72 = .ok (.istore 5, 2) := by decide +kernel
theorem dX12_sorts_74 : decode cX12_sorts 74 = .ok (.iload 5, 2) := by decide +kernel
theorem dX12_sorts_76 : decode cX12_sorts 76 = .ok (.iload 4, 2) := by decide +kernel
theorem dX12_sorts_78 : decode cX12_sorts 78 = .ok (.if_icmp .le 25, 3) := by decide +kernel
theorem dX12_sorts_81 : decode cX12_sorts 81 = .ok (.aload_n 0, 1) := by decide +kernel
theorem dX12_sorts_82 : decode cX12_sorts 82 = .ok (.getfield 113, 3) := by decide +kernel
theorem dX12_sorts_85 : decode cX12_sorts 85 = .ok (.iload 5, 2) := by decide +kernel
theorem dX12_sorts_87 : decode cX12_sorts 87 = .ok (.aload_n 0, 1) := by decide +kernel
theorem dX12_sorts_88 : decode cX12_sorts 88 = .ok (.getfield 113, 3) := by decide +kernel
theorem dX12_sorts_91 : decode cX12_sorts 91 = .ok (.iload 5, 2) := by decide +kernel
theorem dX12_sorts_93 : decode cX12_sorts 93 = .ok (.iconst 1, 1) := by decide +kernel
theorem dX12_sorts_94 : decode cX12_sorts 94 = .ok (.isub, 1) := by decide +kernel
theorem dX12_sorts_95 : decode cX12_sorts 95 = .ok (.iaload, 1) := by decide +kernel
theorem dX12_sorts_96 : decode cX12_sorts 96 = .ok (.iastore, 1) := by decide +kernel
theorem dX12_sorts_97 : decode cX12_sorts 97 = .ok (.iinc 5 (-1), 3) := by decide +kernel
theorem dX12_sorts_100 : decode cX12_sorts 100 = .ok (.goto (-26), 3) := by decide +kernel
theorem dX12_sorts_103 : decode cX12_sorts 103 = .ok (.aload_n 0, 1) := by decide +kernel
theorem dX12_sorts_104 : decode cX12_sorts 104 = .ok (.getfield 113, 3) := by decide +kernel
theorem dX12_sorts_107 : decode cX12_sorts 107 = .ok (.iload 4, 2) := by decide +kernel
theorem dX12_sorts_109 : decode cX12_sorts 109 = .ok (.iload_n 3, 1) := by decide +kernel
theorem dX12_sorts_110 : decode cX12_sorts 110 = .ok (.iastore, 1) := by decide +kernel
theorem dX12_sorts_111 : decode cX12_sorts 111 = .ok (.iinc 1 1, 3) := by decide +kernel
theorem dX12_sorts_114 : decode cX12_sorts 114 = .ok (.iinc 2 1, 3) := by decide +kernel
theorem dX12_sorts_117 : decode cX12_sorts 117 = .ok (.goto (-113), 3) := by decide +kernel
theorem dX12_sorts_120 : decode cX12_sorts 120 = .ok (.aload_n 0, 1) := by decide +kernel
theorem dX12_sorts_121 : decode cX12_sorts 121 = .ok (.iload_n 1, 1) := by decide +kernel
theorem dX12_sorts_122 : decode cX12_sorts 122 = .ok (.putfield 271, 3) := by decide +kernel
theorem dX12_sorts_125 : decode cX12_sorts 125 = .ok (.return_, 1) := by decide +kernel
def f_X12_sorts_p114 (ln : Nat → Nat) (kb4 : Int32 → Int32 → dr_S → Option (Int32 × dr_S)) (x1 : Int32) (x2 : Int32) (s : dr_S) : Option (Int32 × dr_S) := dr_let (x2 + 1) (fun y8 => (kb4 x1 y8 s))
def f_X12_sorts_p74 (ln : Nat → Nat) (kb4 : Int32 → Int32 → dr_S → Option (Int32 × dr_S)) : Nat → Int32 → Int32 → Int32 → Int32 → Int32 → dr_S → Option (Int32 × dr_S)
  | 0, _, _, _, _, _, _ => none
  | n + 1, x1, x2, x3, x4, x5, s => (if x5 ≤ x4 then (dr_wr ln s 62 x4 x3).bind (fun s9 => dr_let (x1 + 1) (fun y10 => (f_X12_sorts_p114 ln kb4 y10 x2 s9))) else (dr_rd ln s 62 (x5 - 1)).bind (fun v11 => (dr_wr ln s 62 x5 v11).bind (fun s12 => dr_let (x5 + (-1)) (fun y13 => (f_X12_sorts_p74 ln kb4 n x1 x2 x3 x4 y13 s12)))))
def f_X12_sorts_p71 (ln : Nat → Nat) (kb4 : Int32 → Int32 → dr_S → Option (Int32 × dr_S)) (x1 : Int32) (x2 : Int32) (x3 : Int32) (x4 : Int32) (s : dr_S) : Option (Int32 × dr_S) := (f_X12_sorts_p74 ln kb4 dr_N x1 x2 x3 x4 x1 s)
def f_X12_sorts_p50 (ln : Nat → Nat) (kb4 : Int32 → Int32 → dr_S → Option (Int32 × dr_S)) (x1 : Int32) (x2 : Int32) (x3 : Int32) (x4 : Int32) (s : dr_S) : Option (Int32 × dr_S) := (if x4 ≤ 0 then (f_X12_sorts_p71 ln kb4 x1 x2 x3 x4 s) else (dr_rd ln s 62 (x4 - 1)).bind (fun v7 => (if v7 = x3 then (f_X12_sorts_p114 ln kb4 x1 x2 s) else (f_X12_sorts_p71 ln kb4 x1 x2 x3 x4 s))))
def f_X12_sorts_p22 (ln : Nat → Nat) (kb4 : Int32 → Int32 → dr_S → Option (Int32 × dr_S)) : Nat → Int32 → Int32 → Int32 → Int32 → dr_S → Option (Int32 × dr_S)
  | 0, _, _, _, _, _ => none
  | n + 1, x1, x2, x3, x4, s => (if x4 ≤ 0 then (f_X12_sorts_p50 ln kb4 x1 x2 x3 x4 s) else (dr_rd ln s 62 (x4 - 1)).bind (fun v3 => dr_bnd (f_X12_isAhead ln x3 v3 s) (fun r5 s4 => (if r5 = 0 then (f_X12_sorts_p50 ln kb4 x1 x2 x3 x4 s4) else dr_let (x4 + (-1)) (fun y6 => (f_X12_sorts_p22 ln kb4 n x1 x2 x3 y6 s4))))))
def f_X12_sorts_p4 (ln : Nat → Nat) : Nat → Int32 → Int32 → dr_S → Option (Int32 × dr_S)
  | 0, _, _, _ => none
  | n + 1, x1, x2, s => (if (s.2 1242) ≤ x2 then dr_letS (dr_pf s 1242 x1) (fun s1 => some (0, s1)) else (dr_rd ln s 62 x2).bind (fun v2 => (f_X12_sorts_p22 ln (f_X12_sorts_p4 ln n) dr_N x1 x2 v2 x1 s)))
def f_X12_sorts (ln : Nat → Nat) (s : dr_S) : Option (Int32 × dr_S) := (f_X12_sorts_p4 ln dr_N 0 0 s)
section
variable {p : Program} {l : Launch} {e : Env} {s0 : State} {m : MethodId} {args : Array Value} {below : List Frame} {meth : Method} {c : Code} {A : Nat → Prop} {D : va_G} {cI cZ : ClassId} {ad ln : Nat → Nat} {L : List Nat}
set_option maxHeartbeats 4000000 in
set_option maxRecDepth 20000 in
theorem w_X12_sorts_p114 {kb4 : Int32 → Int32 → dr_S → Option (Int32 × dr_S)} (E : dr_E p (dr_rm 2) s0 m args meth c 0 0 A s0.heap D cI cZ ad L cX12_sorts 6 RX12 none) (hap : dr_ap ad L) (hN : ∀ x ∈ nd_12, x ∈ L) (hkb4 : ∀ (x1 : Int32) (x2 : Int32) (s : dr_S), dr_G p l e (dr_rm 2) s0 m args below meth c 0 0 A s0.heap D cI cZ ad ln L 6 (dr_Zv D cI cZ ad ln L A below args s0 0 0) 4 [(0, .ref (ad 12)), (1, .int x1), (2, .int x2)] [] s (kb4 x1 x2 s)) : ∀ (x1 : Int32) (x2 : Int32) (s : dr_S), dr_G p l e (dr_rm 2) s0 m args below meth c 0 0 A s0.heap D cI cZ ad ln L 6 (dr_Zv D cI cZ ad ln L A below args s0 0 0) 114 [(0, .ref (ad 12)), (1, .int x1), (2, .int x2)] [] s (f_X12_sorts_p114 ln kb4 x1 x2 s) := by
  intro x1 x2 s
  unfold f_X12_sorts_p114
  refine g_iinc E (lv' := []) (lv'' := fun y8 => [(2, .int y8), (0, .ref (ad 12)), (1, .int x1)]) (v := 1) dX12_sorts_114 2 rfl (by decide) (by decide) (fun _ => rfl) (fun y8 => ?_)
  refine g_goto E 4 dX12_sorts_117 (by decide) ?_
  refine g_sub [1, 2, 0] rfl ?_
  exact hkb4 x1 y8 s
set_option maxHeartbeats 4000000 in
set_option maxRecDepth 20000 in
theorem w_X12_sorts_p74 {kb4 : Int32 → Int32 → dr_S → Option (Int32 × dr_S)} (E : dr_E p (dr_rm 2) s0 m args meth c 0 0 A s0.heap D cI cZ ad L cX12_sorts 6 RX12 none) (hap : dr_ap ad L) (hN : ∀ x ∈ nd_12, x ∈ L) (hkb4 : ∀ (x1 : Int32) (x2 : Int32) (s : dr_S), dr_G p l e (dr_rm 2) s0 m args below meth c 0 0 A s0.heap D cI cZ ad ln L 6 (dr_Zv D cI cZ ad ln L A below args s0 0 0) 4 [(0, .ref (ad 12)), (1, .int x1), (2, .int x2)] [] s (kb4 x1 x2 s)) : ∀ (n : Nat) (x1 : Int32) (x2 : Int32) (x3 : Int32) (x4 : Int32) (x5 : Int32) (s : dr_S), dr_G p l e (dr_rm 2) s0 m args below meth c 0 0 A s0.heap D cI cZ ad ln L 6 (dr_Zv D cI cZ ad ln L A below args s0 0 0) 74 [(0, .ref (ad 12)), (1, .int x1), (2, .int x2), (3, .int x3), (4, .int x4), (5, .int x5)] [] s (f_X12_sorts_p74 ln kb4 n x1 x2 x3 x4 x5 s) := by
  intro n
  induction n with
  | zero =>
    intro x1 x2 x3 x4 x5 s
    rw [f_X12_sorts_p74]
    exact g_none
  | succ n hkb74 =>
    intro x1 x2 x3 x4 x5 s
    rw [f_X12_sorts_p74]
    refine g_iload E dX12_sorts_74 5 rfl ?_
    refine g_iload E dX12_sorts_76 4 rfl ?_
    refine g_icmp_le E 103 dX12_sorts_78 (by decide) ?_ ?_
    · refine g_aload_n E dX12_sorts_103 0 rfl ?_
      refine gg_12_113 E (hN 12 (by decide)) dX12_sorts_104 ?_
      refine g_iload E dX12_sorts_107 4 rfl ?_
      refine g_iload_n E dX12_sorts_109 3 rfl ?_
      refine g_iastore E (hN 62 (by decide)) (by decide) rfl dX12_sorts_110 (fun s9 => ?_)
      refine g_iinc E (lv' := []) (lv'' := fun y10 => [(1, .int y10), (0, .ref (ad 12)), (2, .int x2), (3, .int x3), (4, .int x4), (5, .int x5)]) (v := 1) dX12_sorts_111 1 rfl (by decide) (by decide) (fun _ => rfl) (fun y10 => ?_)
      refine g_sub [1, 0, 2] rfl ?_
      exact w_X12_sorts_p114 E hap hN hkb4 y10 x2 s9
    · refine g_aload_n E dX12_sorts_81 0 rfl ?_
      refine gg_12_113 E (hN 12 (by decide)) dX12_sorts_82 ?_
      refine g_iload E dX12_sorts_85 5 rfl ?_
      refine g_aload_n E dX12_sorts_87 0 rfl ?_
      refine gg_12_113 E (hN 12 (by decide)) dX12_sorts_88 ?_
      refine g_iload E dX12_sorts_91 5 rfl ?_
      refine g_iconst E (v := 1) dX12_sorts_93 (by decide) ?_
      refine g_isub E dX12_sorts_94 ?_
      refine g_iaload E (hN 62 (by decide)) (by decide) rfl dX12_sorts_95 (fun v11 => ?_)
      refine g_iastore E (hN 62 (by decide)) (by decide) rfl dX12_sorts_96 (fun s12 => ?_)
      refine g_iinc E (lv' := []) (lv'' := fun y13 => [(5, .int y13), (0, .ref (ad 12)), (1, .int x1), (2, .int x2), (3, .int x3), (4, .int x4)]) (v := (-1)) dX12_sorts_97 5 rfl (by decide) (by decide) (fun _ => rfl) (fun y13 => ?_)
      refine g_goto E 74 dX12_sorts_100 (by decide) ?_
      refine g_sub [1, 2, 3, 4, 5, 0] rfl ?_
      exact hkb74 x1 x2 x3 x4 y13 s12
set_option maxHeartbeats 4000000 in
set_option maxRecDepth 20000 in
theorem w_X12_sorts_p71 {kb4 : Int32 → Int32 → dr_S → Option (Int32 × dr_S)} (E : dr_E p (dr_rm 2) s0 m args meth c 0 0 A s0.heap D cI cZ ad L cX12_sorts 6 RX12 none) (hap : dr_ap ad L) (hN : ∀ x ∈ nd_12, x ∈ L) (hkb4 : ∀ (x1 : Int32) (x2 : Int32) (s : dr_S), dr_G p l e (dr_rm 2) s0 m args below meth c 0 0 A s0.heap D cI cZ ad ln L 6 (dr_Zv D cI cZ ad ln L A below args s0 0 0) 4 [(0, .ref (ad 12)), (1, .int x1), (2, .int x2)] [] s (kb4 x1 x2 s)) : ∀ (x1 : Int32) (x2 : Int32) (x3 : Int32) (x4 : Int32) (s : dr_S), dr_G p l e (dr_rm 2) s0 m args below meth c 0 0 A s0.heap D cI cZ ad ln L 6 (dr_Zv D cI cZ ad ln L A below args s0 0 0) 71 [(0, .ref (ad 12)), (1, .int x1), (2, .int x2), (3, .int x3), (4, .int x4)] [] s (f_X12_sorts_p71 ln kb4 x1 x2 x3 x4 s) := by
  intro x1 x2 x3 x4 s
  unfold f_X12_sorts_p71
  refine g_iload_n E dX12_sorts_71 1 rfl ?_
  refine g_istore E (lv' := [(5, .int x1), (0, .ref (ad 12)), (1, .int x1), (2, .int x2), (3, .int x3), (4, .int x4)]) dX12_sorts_72 (by decide) rfl ?_
  refine g_sub [1, 2, 3, 4, 5, 0] rfl ?_
  exact w_X12_sorts_p74 E hap hN hkb4 dr_N x1 x2 x3 x4 x1 s
set_option maxHeartbeats 4000000 in
set_option maxRecDepth 20000 in
theorem w_X12_sorts_p50 {kb4 : Int32 → Int32 → dr_S → Option (Int32 × dr_S)} (E : dr_E p (dr_rm 2) s0 m args meth c 0 0 A s0.heap D cI cZ ad L cX12_sorts 6 RX12 none) (hap : dr_ap ad L) (hN : ∀ x ∈ nd_12, x ∈ L) (hkb4 : ∀ (x1 : Int32) (x2 : Int32) (s : dr_S), dr_G p l e (dr_rm 2) s0 m args below meth c 0 0 A s0.heap D cI cZ ad ln L 6 (dr_Zv D cI cZ ad ln L A below args s0 0 0) 4 [(0, .ref (ad 12)), (1, .int x1), (2, .int x2)] [] s (kb4 x1 x2 s)) : ∀ (x1 : Int32) (x2 : Int32) (x3 : Int32) (x4 : Int32) (s : dr_S), dr_G p l e (dr_rm 2) s0 m args below meth c 0 0 A s0.heap D cI cZ ad ln L 6 (dr_Zv D cI cZ ad ln L A below args s0 0 0) 50 [(0, .ref (ad 12)), (1, .int x1), (2, .int x2), (3, .int x3), (4, .int x4)] [] s (f_X12_sorts_p50 ln kb4 x1 x2 x3 x4 s) := by
  intro x1 x2 x3 x4 s
  unfold f_X12_sorts_p50
  refine g_iload E dX12_sorts_50 4 rfl ?_
  refine g_if_le E 71 dX12_sorts_52 (by decide) ?_ ?_
  · refine g_sub [0, 1, 2, 3, 4] rfl ?_
    exact w_X12_sorts_p71 E hap hN hkb4 x1 x2 x3 x4 s
  · refine g_aload_n E dX12_sorts_55 0 rfl ?_
    refine gg_12_113 E (hN 12 (by decide)) dX12_sorts_56 ?_
    refine g_iload E dX12_sorts_59 4 rfl ?_
    refine g_iconst E (v := 1) dX12_sorts_61 (by decide) ?_
    refine g_isub E dX12_sorts_62 ?_
    refine g_iaload E (hN 62 (by decide)) (by decide) rfl dX12_sorts_63 (fun v7 => ?_)
    refine g_iload_n E dX12_sorts_64 3 rfl ?_
    refine g_icmp_ne E 71 dX12_sorts_65 (by decide) ?_ ?_
    · refine g_sub [0, 1, 2, 3, 4] rfl ?_
      exact w_X12_sorts_p71 E hap hN hkb4 x1 x2 x3 x4 s
    · refine g_goto E 114 dX12_sorts_68 (by decide) ?_
      refine g_sub [0, 1, 2] rfl ?_
      exact w_X12_sorts_p114 E hap hN hkb4 x1 x2 s
set_option maxHeartbeats 4000000 in
set_option maxRecDepth 20000 in
theorem w_X12_sorts_p22 {kb4 : Int32 → Int32 → dr_S → Option (Int32 × dr_S)} (E : dr_E p (dr_rm 2) s0 m args meth c 0 0 A s0.heap D cI cZ ad L cX12_sorts 6 RX12 none) (hap : dr_ap ad L) (hN : ∀ x ∈ nd_12, x ∈ L) (hkb4 : ∀ (x1 : Int32) (x2 : Int32) (s : dr_S), dr_G p l e (dr_rm 2) s0 m args below meth c 0 0 A s0.heap D cI cZ ad ln L 6 (dr_Zv D cI cZ ad ln L A below args s0 0 0) 4 [(0, .ref (ad 12)), (1, .int x1), (2, .int x2)] [] s (kb4 x1 x2 s)) : ∀ (n : Nat) (x1 : Int32) (x2 : Int32) (x3 : Int32) (x4 : Int32) (s : dr_S), dr_G p l e (dr_rm 2) s0 m args below meth c 0 0 A s0.heap D cI cZ ad ln L 6 (dr_Zv D cI cZ ad ln L A below args s0 0 0) 22 [(0, .ref (ad 12)), (1, .int x1), (2, .int x2), (3, .int x3), (4, .int x4)] [] s (f_X12_sorts_p22 ln kb4 n x1 x2 x3 x4 s) := by
  intro n
  induction n with
  | zero =>
    intro x1 x2 x3 x4 s
    rw [f_X12_sorts_p22]
    exact g_none
  | succ n hkb22 =>
    intro x1 x2 x3 x4 s
    rw [f_X12_sorts_p22]
    refine g_iload E dX12_sorts_22 4 rfl ?_
    refine g_if_le E 50 dX12_sorts_24 (by decide) ?_ ?_
    · refine g_sub [0, 1, 2, 3, 4] rfl ?_
      exact w_X12_sorts_p50 E hap hN hkb4 x1 x2 x3 x4 s
    · refine g_aload_n E dX12_sorts_27 0 rfl ?_
      refine g_iload_n E dX12_sorts_28 3 rfl ?_
      refine g_aload_n E dX12_sorts_29 0 rfl ?_
      refine gg_12_113 E (hN 12 (by decide)) dX12_sorts_30 ?_
      refine g_iload E dX12_sorts_33 4 rfl ?_
      refine g_iconst E (v := 1) dX12_sorts_35 (by decide) ?_
      refine g_isub E dX12_sorts_36 ?_
      refine g_iaload E (hN 62 (by decide)) (by decide) rfl dX12_sorts_37 (fun v3 => ?_)
      refine g_cVi E [.int x3, .int v3] rfl (c_X12_isAhead hap hN x3 v3 s) (hN 12 (by decide)) (by decide) rfl rfl mi_X12_isAhead msl_X12_isAhead mw_X12_isAhead rfl ml_12_188 ⟨Nat.le_of_ble_eq_true rfl, Nat.le_of_ble_eq_true rfl⟩ (Nat.le_of_ble_eq_true rfl) dX12_sorts_38 (fun r5 s4 => ?_)
      refine g_if_eq E 50 dX12_sorts_41 (by decide) ?_ ?_
      · refine g_sub [0, 1, 2, 3, 4] rfl ?_
        exact w_X12_sorts_p50 E hap hN hkb4 x1 x2 x3 x4 s4
      · refine g_iinc E (lv' := []) (lv'' := fun y6 => [(4, .int y6), (0, .ref (ad 12)), (1, .int x1), (2, .int x2), (3, .int x3)]) (v := (-1)) dX12_sorts_44 4 rfl (by decide) (by decide) (fun _ => rfl) (fun y6 => ?_)
        refine g_goto E 22 dX12_sorts_47 (by decide) ?_
        refine g_sub [1, 2, 3, 4, 0] rfl ?_
        exact hkb22 x1 x2 x3 y6 s4
set_option maxHeartbeats 4000000 in
set_option maxRecDepth 20000 in
theorem w_X12_sorts_p4 (E : dr_E p (dr_rm 2) s0 m args meth c 0 0 A s0.heap D cI cZ ad L cX12_sorts 6 RX12 none) (hap : dr_ap ad L) (hN : ∀ x ∈ nd_12, x ∈ L) : ∀ (n : Nat) (x1 : Int32) (x2 : Int32) (s : dr_S), dr_G p l e (dr_rm 2) s0 m args below meth c 0 0 A s0.heap D cI cZ ad ln L 6 (dr_Zv D cI cZ ad ln L A below args s0 0 0) 4 [(0, .ref (ad 12)), (1, .int x1), (2, .int x2)] [] s (f_X12_sorts_p4 ln n x1 x2 s) := by
  intro n
  induction n with
  | zero =>
    intro x1 x2 s
    rw [f_X12_sorts_p4]
    exact g_none
  | succ n hkb4 =>
    intro x1 x2 s
    rw [f_X12_sorts_p4]
    refine g_iload_n E dX12_sorts_4 2 rfl ?_
    refine g_aload_n E dX12_sorts_5 0 rfl ?_
    refine gg_12_271 E (hN 12 (by decide)) dX12_sorts_6 ?_
    refine g_icmp_ge E 120 dX12_sorts_9 (by decide) ?_ ?_
    · refine g_aload_n E dX12_sorts_120 0 rfl ?_
      refine g_iload_n E dX12_sorts_121 1 rfl ?_
      refine gp_12_271 E (hN 12 (by decide)) dX12_sorts_122 (fun s1 => ?_)
      exact g_vret E dX12_sorts_125
    · refine g_aload_n E dX12_sorts_12 0 rfl ?_
      refine gg_12_113 E (hN 12 (by decide)) dX12_sorts_13 ?_
      refine g_iload_n E dX12_sorts_16 2 rfl ?_
      refine g_iaload E (hN 62 (by decide)) (by decide) rfl dX12_sorts_17 (fun v2 => ?_)
      refine g_istore_n E (lv' := [(3, .int v2), (0, .ref (ad 12)), (1, .int x1), (2, .int x2)]) dX12_sorts_18 (by decide) rfl ?_
      refine g_iload_n E dX12_sorts_19 2 rfl ?_
      refine g_istore E (lv' := [(4, .int x1), (3, .int v2), (0, .ref (ad 12)), (1, .int x1), (2, .int x2)]) dX12_sorts_20 (by decide) rfl ?_
      refine g_sub [2, 3, 4, 1, 0] rfl ?_
      exact w_X12_sorts_p22 E hap hN hkb4 dr_N x1 x2 v2 x1 s
set_option maxHeartbeats 4000000 in
set_option maxRecDepth 20000 in
theorem c_X12_sorts (hap : dr_ap ad L) (hN : ∀ x ∈ nd_12, x ∈ L) (s : dr_S) : dr_Mv l D cI cZ ad ln L yX12_sorts cX12_sorts 6 2 [.ref (ad 12)] s (f_X12_sorts ln  s) := by
  refine dr_metv (own := RX12) (by decide) rfl (Nat.le_of_ble_eq_true rfl) hap ?_
  intro p e s0 m args below meth c A E
  unfold f_X12_sorts
  refine g_eqL (lv' := [(0, .ref (ad 12))]) rfl ?_
  refine g_iconst E (v := 0) dX12_sorts_0 (by decide) ?_
  refine g_istore_n E (lv' := [(1, .int 0), (0, .ref (ad 12))]) dX12_sorts_1 (by decide) rfl ?_
  refine g_iconst E (v := 0) dX12_sorts_2 (by decide) ?_
  refine g_istore_n E (lv' := [(2, .int 0), (1, .int 0), (0, .ref (ad 12))]) dX12_sorts_3 (by decide) rfl ?_
  refine g_sub [2, 1, 0] rfl ?_
  exact w_X12_sorts_p4 E hap hN dr_N 0 0 s
end

theorem dX12_binds_0 : decode cX12_binds 0 = .ok (.iload_n 1, 1) := by decide +kernel
theorem dX12_binds_1 : decode cX12_binds 1 = .ok (.istore_n 3, 1) := by decide +kernel
theorem dX12_binds_2 : decode cX12_binds 2 = .ok (.iload_n 3, 1) := by decide +kernel
theorem dX12_binds_3 : decode cX12_binds 3 = .ok (.iload_n 2, 1) := by decide +kernel
theorem dX12_binds_4 : decode cX12_binds 4 = .ok (.if_icmp .ge 29, 3) := by decide +kernel
theorem dX12_binds_7 : decode cX12_binds 7 = .ok (.aload_n 0, 1) := by decide +kernel
theorem dX12_binds_8 : decode cX12_binds 8 = .ok (.getfield 35, 3) := by decide +kernel
theorem dX12_binds_11 : decode cX12_binds 11 = .ok (.iload_n 3, 1) := by decide +kernel
theorem dX12_binds_12 : decode cX12_binds 12 = .ok (.iload_n 3, 1) := by decide +kernel
theorem dX12_binds_13 : decode cX12_binds 13 = .ok (.iconst 1, 1) := by decide +kernel
theorem dX12_binds_14 : decode cX12_binds 14 = .ok (.iadd, 1) := by decide +kernel
theorem dX12_binds_15 : decode cX12_binds 15 = .ok (.iload_n 2, 1) := by decide +kernel
theorem dX12_binds_16 : decode cX12_binds 16 = .ok (.if_icmp .ge 9, 3) := by decide +kernel
theorem dX12_binds_19 : decode cX12_binds 19 = .ok (.iload_n 3, 1) := by decide +kernel
theorem dX12_binds_20 : decode cX12_binds 20 = .ok (.iconst 1, 1) := by decide +kernel
theorem dX12_binds_21 : decode cX12_binds 21 = .ok (.iadd, 1) := by decide +kernel
theorem dX12_binds_22 : decode cX12_binds 22 = .ok (.goto 4, 3) := by decide +kernel
theorem dX12_binds_25 : decode cX12_binds 25 = .ok (.iconst (-1), 1) := by decide +kernel
theorem dX12_binds_26 : decode cX12_binds 26 = .ok (.iastore, 1) := by decide +kernel
theorem dX12_binds_27 : decode cX12_binds 27 = .ok (.iinc 3 1, 3) := by decide +kernel
theorem dX12_binds_30 : decode cX12_binds 30 = .ok (.goto (-28), 3) := by decide +kernel
theorem dX12_binds_33 : decode cX12_binds 33 = .ok (.aload_n 0, 1) := by decide +kernel
theorem dX12_binds_34 : decode cX12_binds 34 = .ok (.getfield 32, 3) := by decide +kernel
theorem dX12_binds_37 : decode cX12_binds 37 = .ok (.iload_n 2, 1) := by decide +kernel
theorem dX12_binds_38 : decode cX12_binds 38 = .ok (.iconst 1, 1) := by decide +kernel
theorem dX12_binds_39 : decode cX12_binds 39 = .ok (.isub, 1) := by decide +kernel
theorem dX12_binds_40 : decode cX12_binds 40 = .ok (.iconst (-1), 1) := by decide +kernel
theorem dX12_binds_41 : decode cX12_binds 41 = .ok (.iastore, 1) := by decide +kernel
theorem dX12_binds_42 : decode cX12_binds 42 = .ok (.return_, 1) := by decide +kernel
def f_X12_binds_p26 (ln : Nat → Nat) (kb2 : Int32 → Int32 → dr_S → Option (Int32 × dr_S)) (x2 : Int32) (x3 : Int32) (z0 : Int32) (z1 : Int32) (s : dr_S) : Option (Int32 × dr_S) := (dr_wr ln s 36 z1 z0).bind (fun s2 => dr_let (x3 + 1) (fun y3 => (kb2 x2 y3 s2)))
def f_X12_binds_p2 (ln : Nat → Nat) : Nat → Int32 → Int32 → dr_S → Option (Int32 × dr_S)
  | 0, _, _, _ => none
  | n + 1, x2, x3, s => (if x2 ≤ x3 then (dr_wr ln s 35 (x2 - 1) (-1)).bind (fun s1 => some (0, s1)) else (if x2 ≤ (x3 + 1) then (f_X12_binds_p26 ln (f_X12_binds_p2 ln n) x2 x3 ((-1)) x3 s) else (f_X12_binds_p26 ln (f_X12_binds_p2 ln n) x2 x3 ((x3 + 1)) x3 s)))
def f_X12_binds (ln : Nat → Nat) (x1 : Int32) (x2 : Int32) (s : dr_S) : Option (Int32 × dr_S) := (f_X12_binds_p2 ln dr_N x2 x1 s)
section
variable {p : Program} {l : Launch} {e : Env} {s0 : State} {m : MethodId} {args : Array Value} {below : List Frame} {meth : Method} {c : Code} {A : Nat → Prop} {D : va_G} {cI cZ : ClassId} {ad ln : Nat → Nat} {L : List Nat}
set_option maxHeartbeats 4000000 in
set_option maxRecDepth 20000 in
theorem w_X12_binds_p26 {kb2 : Int32 → Int32 → dr_S → Option (Int32 × dr_S)} (E : dr_E p (dr_rm 0) s0 m args meth c 0 0 A s0.heap D cI cZ ad L cX12_binds 4 RX12 none) (hap : dr_ap ad L) (hN : ∀ x ∈ nd_12, x ∈ L) (hkb2 : ∀ (x2 : Int32) (x3 : Int32) (s : dr_S), dr_G p l e (dr_rm 0) s0 m args below meth c 0 0 A s0.heap D cI cZ ad ln L 4 (dr_Zv D cI cZ ad ln L A below args s0 0 0) 2 [(0, .ref (ad 12)), (2, .int x2), (3, .int x3)] [] s (kb2 x2 x3 s)) : ∀ (x2 : Int32) (x3 : Int32) (z0 : Int32) (z1 : Int32) (s : dr_S), dr_G p l e (dr_rm 0) s0 m args below meth c 0 0 A s0.heap D cI cZ ad ln L 4 (dr_Zv D cI cZ ad ln L A below args s0 0 0) 26 [(0, .ref (ad 12)), (2, .int x2), (3, .int x3)] [.int z0, .int z1, .ref (ad 36)] s (f_X12_binds_p26 ln kb2 x2 x3 z0 z1 s) := by
  intro x2 x3 z0 z1 s
  unfold f_X12_binds_p26
  refine g_iastore E (hN 36 (by decide)) (by decide) rfl dX12_binds_26 (fun s2 => ?_)
  refine g_iinc E (lv' := []) (lv'' := fun y3 => [(3, .int y3), (0, .ref (ad 12)), (2, .int x2)]) (v := 1) dX12_binds_27 2 rfl (by decide) (by decide) (fun _ => rfl) (fun y3 => ?_)
  refine g_goto E 2 dX12_binds_30 (by decide) ?_
  refine g_sub [1, 2, 0] rfl ?_
  exact hkb2 x2 y3 s2
set_option maxHeartbeats 4000000 in
set_option maxRecDepth 20000 in
theorem w_X12_binds_p2 (E : dr_E p (dr_rm 0) s0 m args meth c 0 0 A s0.heap D cI cZ ad L cX12_binds 4 RX12 none) (hap : dr_ap ad L) (hN : ∀ x ∈ nd_12, x ∈ L) : ∀ (n : Nat) (x2 : Int32) (x3 : Int32) (s : dr_S), dr_G p l e (dr_rm 0) s0 m args below meth c 0 0 A s0.heap D cI cZ ad ln L 4 (dr_Zv D cI cZ ad ln L A below args s0 0 0) 2 [(0, .ref (ad 12)), (2, .int x2), (3, .int x3)] [] s (f_X12_binds_p2 ln n x2 x3 s) := by
  intro n
  induction n with
  | zero =>
    intro x2 x3 s
    rw [f_X12_binds_p2]
    exact g_none
  | succ n hkb2 =>
    intro x2 x3 s
    rw [f_X12_binds_p2]
    refine g_iload_n E dX12_binds_2 2 rfl ?_
    refine g_iload_n E dX12_binds_3 1 rfl ?_
    refine g_icmp_ge E 33 dX12_binds_4 (by decide) ?_ ?_
    · refine g_aload_n E dX12_binds_33 0 rfl ?_
      refine gg_12_32 E (hN 12 (by decide)) dX12_binds_34 ?_
      refine g_iload_n E dX12_binds_37 1 rfl ?_
      refine g_iconst E (v := 1) dX12_binds_38 (by decide) ?_
      refine g_isub E dX12_binds_39 ?_
      refine g_iconst E (v := (-1)) dX12_binds_40 (by decide) ?_
      refine g_iastore E (hN 35 (by decide)) (by decide) rfl dX12_binds_41 (fun s1 => ?_)
      exact g_vret E dX12_binds_42
    · refine g_aload_n E dX12_binds_7 0 rfl ?_
      refine gg_12_35 E (hN 12 (by decide)) dX12_binds_8 ?_
      refine g_iload_n E dX12_binds_11 2 rfl ?_
      refine g_iload_n E dX12_binds_12 2 rfl ?_
      refine g_iconst E (v := 1) dX12_binds_13 (by decide) ?_
      refine g_iadd E dX12_binds_14 ?_
      refine g_iload_n E dX12_binds_15 1 rfl ?_
      refine g_icmp_ge E 25 dX12_binds_16 (by decide) ?_ ?_
      · refine g_iconst E (v := (-1)) dX12_binds_25 (by decide) ?_
        refine g_sub [0, 1, 2] rfl ?_
        exact w_X12_binds_p26 E hap hN hkb2 x2 x3 ((-1)) x3 s
      · refine g_iload_n E dX12_binds_19 2 rfl ?_
        refine g_iconst E (v := 1) dX12_binds_20 (by decide) ?_
        refine g_iadd E dX12_binds_21 ?_
        refine g_goto E 26 dX12_binds_22 (by decide) ?_
        refine g_sub [0, 1, 2] rfl ?_
        exact w_X12_binds_p26 E hap hN hkb2 x2 x3 ((x3 + 1)) x3 s
set_option maxHeartbeats 4000000 in
set_option maxRecDepth 20000 in
theorem c_X12_binds (hap : dr_ap ad L) (hN : ∀ x ∈ nd_12, x ∈ L) (x1 : Int32) (x2 : Int32) (s : dr_S) : dr_Mv l D cI cZ ad ln L yX12_binds cX12_binds 4 0 [.ref (ad 12), .int x1, .int x2] s (f_X12_binds ln x1 x2 s) := by
  refine dr_metv (own := RX12) (by decide) rfl (Nat.le_of_ble_eq_true rfl) hap ?_
  intro p e s0 m args below meth c A E
  unfold f_X12_binds
  refine g_eqL (lv' := [(0, .ref (ad 12)), (1, .int x1), (2, .int x2)]) rfl ?_
  refine g_iload_n E dX12_binds_0 1 rfl ?_
  refine g_istore_n E (lv' := [(3, .int x1), (0, .ref (ad 12)), (1, .int x1), (2, .int x2)]) dX12_binds_1 (by decide) rfl ?_
  refine g_sub [1, 3, 0] rfl ?_
  exact w_X12_binds_p2 E hap hN dr_N x2 x1 s
end

theorem dX12_night_0 : decode cX12_night 0 = .ok (.iload_n 1, 1) := by decide +kernel
theorem dX12_night_1 : decode cX12_night 1 = .ok (.aload_n 0, 1) := by decide +kernel
theorem dX12_night_2 : decode cX12_night 2 = .ok (.getfield 152, 3) := by decide +kernel
theorem dX12_night_5 : decode cX12_night 5 = .ok (.iconst 2, 1) := by decide +kernel
theorem dX12_night_6 : decode cX12_night 6 = .ok (.aload_n 0, 1) := by decide +kernel
theorem dX12_night_7 : decode cX12_night 7 = .ok (.getfield 152, 3) := by decide +kernel
theorem dX12_night_10 : decode cX12_night 10 = .ok (.imul, 1) := by decide +kernel
theorem dX12_night_11 : decode cX12_night 11 = .ok (.invokestatic 160, 3) := by decide +kernel
theorem dX12_night_14 : decode cX12_night 14 = .ok (.ifCond .eq 10, 3) := by decide +kernel
theorem dX12_night_17 : decode cX12_night 17 = .ok (.aload_n 0, 1) := by decide +kernel
theorem dX12_night_18 : decode cX12_night 18 = .ok (.invokevirtual 307, 3) := by decide +kernel
theorem dX12_night_21 : decode cX12_night 21 = .ok (.ifCond .le 5, 3) := by decide +kernel
theorem dX12_night_24 : decode cX12_night 24 = .ok (.iconst (-1), 1) := by decide +kernel
theorem dX12_night_25 : decode cX12_night 25 = .ok (.ireturn, 1) := by decide +kernel
theorem dX12_night_26 : decode cX12_night 26 = .ok (.aload_n 0, 1) := by decide +kernel
theorem dX12_night_27 : decode cX12_night 27 = .ok (.invokevirtual 274, 3) := by decide +kernel
theorem dX12_night_30 : decode cX12_night 30 = .ok (.aload_n 0, 1) := by decide +kernel
theorem dX12_night_31 : decode cX12_night 31 = .ok (.invokevirtual 326, 3) := by decide +kernel
theorem dX12_night_34 : decode cX12_night 34 = .ok (.iconst 0, 1) := by decide +kernel
theorem dX12_night_35 : decode cX12_night 35 = .ok (.istore_n 2, 1) := by decide +kernel
theorem dX12_night_36 : decode cX12_night 36 = .ok (.iload_n 2, 1) := by decide +kernel
theorem dX12_night_37 : decode cX12_night 37 = .ok (.sipush 256, 3) := by decide +kernel
theorem dX12_night_40 : decode cX12_night 40 = .ok (.if_icmp .ge 14, 3) := by decide +kernel
theorem dX12_night_43 : decode cX12_night 43 = .ok (.aload_n 0, 1) := by decide +kernel
theorem dX12_night_44 : decode cX12_night 44 = .ok (.iload_n 2, 1) := by decide +kernel
theorem dX12_night_45 : decode cX12_night 45 = .ok (.invokevirtual 156, 3) := by decide +kernel
theorem dX12_night_48 : decode cX12_night 48 = .ok (.iinc 2 1, 3) := by decide +kernel
theorem dX12_night_51 : decode cX12_night 51 = .ok (.goto (-15), 3) := by decide +kernel
theorem dX12_night_54 : decode cX12_night 54 = .ok (.iconst 0, 1) := by decide +kernel
theorem dX12_night_55 : decode cX12_night 55 = .ok (.istore_n 2, 1) := by decide +kernel
theorem dX12_night_56 : decode cX12_night 56 = .ok (.iconst 0, 1) := by decide +kernel
theorem dX12_night_57 : decode cX12_night 57 = .ok (.istore_n 3, 1) := by decide +kernel
theorem dX12_night_58 : decode cX12_night 58 = .ok (.iconst 0, 1) := by decide +kernel
theorem dX12_night_59 : decode cX12_night 59 = .ok (.istore 4, 2) := by decide +kernel
theorem dX12_night_61 : decode cX12_night 61 = .ok (.iload 4, 2) := by decide +kernel
theorem dX12_night_63 : decode cX12_night 63 = .ok (.aload_n 0, 1) := by decide +kernel
theorem dX12_night_64 : decode cX12_night 64 = .ok (.getfield 271, 3) := by decide +kernel
theorem dX12_night_67 : decode cX12_night 67 = .ok (.if_icmp .lt 8, 3) := by decide +kernel
theorem dX12_night_70 : decode cX12_night 70 = .ok (.iload 4, 2) := by decide +kernel
theorem dX12_night_72 : decode cX12_night 72 = .ok (.ifCond .ne 129, 3) := by decide +kernel
theorem dX12_night_75 : decode cX12_night 75 = .ok (.aload_n 0, 1) := by decide +kernel
theorem dX12_night_76 : decode cX12_night 76 = .ok (.getfield 17, 3) := by decide +kernel
theorem dX12_night_79 : decode cX12_night 79 = .ok (.iload_n 3, 1) := by decide +kernel
theorem dX12_night_80 : decode cX12_night 80 = .ok (.iconst 1, 1) := by decide +kernel
theorem dX12_night_81 : decode cX12_night 81 = .ok (.bastore, 1) := by decide +kernel
theorem dX12_night_82 : decode cX12_night 82 = .ok (.aload_n 0, 1) := by decide +kernel
theorem dX12_night_83 : decode cX12_night 83 = .ok (.getfield 23, 3) := by decide +kernel
theorem dX12_night_86 : decode cX12_night 86 = .ok (.iload_n 3, 1) := by decide +kernel
theorem dX12_night_87 : decode cX12_night 87 = .ok (.aload_n 0, 1) := by decide +kernel
theorem dX12_night_88 : decode cX12_night 88 = .ok (.getfield 271, 3) := by decide +kernel
theorem dX12_night_91 : decode cX12_night 91 = .ok (.iload 4, 2) := by decide +kernel
theorem dX12_night_93 : decode cX12_night 93 = .ok (.isub, 1) := by decide +kernel
theorem dX12_night_94 : decode cX12_night 94 = .ok (.iload_n 1, 1) := by decide +kernel
theorem dX12_night_95 : decode cX12_night 95 = .ok (.if_icmp .ge 13, 3) := by decide +kernel
theorem dX12_night_98 : decode cX12_night 98 = .ok (.aload_n 0, 1) := by decide +kernel
theorem dX12_night_99 : decode cX12_night 99 = .ok (.getfield 271, 3) := by decide +kernel
theorem dX12_night_102 : decode cX12_night 102 = .ok (.iload 4, 2) := by decide +kernel
theorem dX12_night_104 : decode cX12_night 104 = .ok (.isub, 1) := by decide +kernel
theorem dX12_night_105 : decode cX12_night 105 = .ok (.goto 4, 3) := by decide +kernel
theorem dX12_night_108 : decode cX12_night 108 = .ok (.iload_n 1, 1) := by decide +kernel
theorem dX12_night_109 : decode cX12_night 109 = .ok (.iastore, 1) := by decide +kernel
theorem dX12_night_110 : decode cX12_night 110 = .ok (.iconst 0, 1) := by decide +kernel
theorem dX12_night_111 : decode cX12_night 111 = .ok (.istore 5, 2) := by decide +kernel
theorem dX12_night_113 : decode cX12_night 113 = .ok (.iload 5, 2) := by decide +kernel
theorem dX12_night_115 : decode cX12_night 115 = .ok (.aload_n 0, 1) := by decide +kernel
theorem dX12_night_116 : decode cX12_night 116 = .ok (.getfield 23, 3) := by decide +kernel
theorem dX12_night_119 : decode cX12_night 119 = .ok (.iload_n 3, 1) := by decide +kernel
theorem dX12_night_120 : decode cX12_night 120 = .ok (.iaload, 1) := by decide +kernel
theorem dX12_night_121 : decode cX12_night 121 = .ok (.if_icmp .ge 31, 3) := by decide +kernel
theorem dX12_night_124 : decode cX12_night 124 = .ok (.aload_n 0, 1) := by decide +kernel
theorem dX12_night_125 : decode cX12_night 125 = .ok (.getfield 26, 3) := by decide +kernel
theorem dX12_night_128 : decode cX12_night 128 = .ok (.bipush 14, 2) := by decide +kernel
theorem dX12_night_130 : decode cX12_night 130 = .ok (.iload_n 3, 1) := by decide +kernel
theorem dX12_night_131 : decode cX12_night 131 = .ok (.imul, 1) := by decide +kernel
theorem dX12_night_132 : decode cX12_night 132 = .ok (.iload 5, 2) := by decide +kernel
theorem dX12_night_134 : decode cX12_night 134 = .ok (.iadd, 1) := by decide +kernel
theorem dX12_night_135 : decode cX12_night 135 = .ok (.aload_n 0, 1) := by decide +kernel
theorem dX12_night_136 : decode cX12_night 136 = .ok (.getfield 113, 3) := by decide +kernel
theorem dX12_night_139 : decode cX12_night 139 = .ok (.iload 4, 2) := by decide +kernel
theorem dX12_night_141 : decode cX12_night 141 = .ok (.iload 5, 2) := by decide +kernel
theorem dX12_night_143 : decode cX12_night 143 = .ok (.iadd, 1) := by decide +kernel
theorem dX12_night_144 : decode cX12_night 144 = .ok (.iaload, 1) := by decide +kernel
theorem dX12_night_145 : decode cX12_night 145 = .ok (.iastore, 1) := by decide +kernel
theorem dX12_night_146 : decode cX12_night 146 = .ok (.iinc 5 1, 3) := by decide +kernel
theorem dX12_night_149 : decode cX12_night 149 = .ok (.goto (-36), 3) := by decide +kernel
theorem dX12_night_152 : decode cX12_night 152 = .ok (.aload_n 0, 1) := by decide +kernel
theorem dX12_night_153 : decode cX12_night 153 = .ok (.getfield 32, 3) := by decide +kernel
theorem dX12_night_156 : decode cX12_night 156 = .ok (.iload_n 3, 1) := by decide +kernel
theorem dX12_night_157 : decode cX12_night 157 = .ok (.aload_n 0, 1) := by decide +kernel
theorem dX12_night_158 : decode cX12_night 158 = .ok (.getfield 23, 3) := by decide +kernel
theorem dX12_night_161 : decode cX12_night 161 = .ok (.iload_n 3, 1) := by decide +kernel
theorem dX12_night_162 : decode cX12_night 162 = .ok (.iaload, 1) := by decide +kernel
theorem dX12_night_163 : decode cX12_night 163 = .ok (.ifCond .ne 7, 3) := by decide +kernel
theorem dX12_night_166 : decode cX12_night 166 = .ok (.iconst (-1), 1) := by decide +kernel
theorem dX12_night_167 : decode cX12_night 167 = .ok (.goto 21, 3) := by decide +kernel
theorem dX12_night_170 : decode cX12_night 170 = .ok (.aload_n 0, 1) := by decide +kernel
theorem dX12_night_171 : decode cX12_night 171 = .ok (.getfield 26, 3) := by decide +kernel
theorem dX12_night_174 : decode cX12_night 174 = .ok (.bipush 14, 2) := by decide +kernel
theorem dX12_night_176 : decode cX12_night 176 = .ok (.iload_n 3, 1) := by decide +kernel
theorem dX12_night_177 : decode cX12_night 177 = .ok (.imul, 1) := by decide +kernel
theorem dX12_night_178 : decode cX12_night 178 = .ok (.aload_n 0, 1) := by decide +kernel
theorem dX12_night_179 : decode cX12_night 179 = .ok (.getfield 23, 3) := by decide +kernel
theorem dX12_night_182 : decode cX12_night 182 = .ok (.iload_n 3, 1) := by decide +kernel
theorem dX12_night_183 : decode cX12_night 183 = .ok (.iaload, 1) := by decide +kernel
theorem dX12_night_184 : decode cX12_night 184 = .ok (.iadd, 1) := by decide +kernel
theorem dX12_night_185 : decode cX12_night 185 = .ok (.iconst 1, 1) := by decide +kernel
theorem dX12_night_186 : decode cX12_night 186 = .ok (.isub, 1) := by decide +kernel
theorem dX12_night_187 : decode cX12_night 187 = .ok (.iaload, 1) := by decide +kernel
theorem dX12_night_188 : decode cX12_night 188 = .ok (.iastore, 1) := by decide +kernel
theorem dX12_night_189 : decode cX12_night 189 = .ok (.iinc 3 1, 3) := by decide +kernel
theorem dX12_night_192 : decode cX12_night 192 = .ok (.iload 4, 2) := by decide +kernel
theorem dX12_night_194 : decode cX12_night 194 = .ok (.iload_n 1, 1) := by decide +kernel
theorem dX12_night_195 : decode cX12_night 195 = .ok (.iadd, 1) := by decide +kernel
theorem dX12_night_196 : decode cX12_night 196 = .ok (.istore 4, 2) := by decide +kernel
theorem dX12_night_198 : decode cX12_night 198 = .ok (.goto (-137), 3) := by decide +kernel
theorem dX12_night_201 : decode cX12_night 201 = .ok (.aload_n 0, 1) := by decide +kernel
theorem dX12_night_202 : decode cX12_night 202 = .ok (.iload_n 2, 1) := by decide +kernel
theorem dX12_night_203 : decode cX12_night 203 = .ok (.iload_n 3, 1) := by decide +kernel
theorem dX12_night_204 : decode cX12_night 204 = .ok (.invokevirtual 329, 3) := by decide +kernel
theorem dX12_night_207 : decode cX12_night 207 = .ok (.iconst 0, 1) := by decide +kernel
theorem dX12_night_208 : decode cX12_night 208 = .ok (.istore 4, 2) := by decide +kernel
theorem dX12_night_210 : decode cX12_night 210 = .ok (.iload_n 3, 1) := by decide +kernel
theorem dX12_night_211 : decode cX12_night 211 = .ok (.iload_n 2, 1) := by decide +kernel
theorem dX12_night_212 : decode cX12_night 212 = .ok (.isub, 1) := by decide +kernel
theorem dX12_night_213 : decode cX12_night 213 = .ok (.iconst 1, 1) := by decide +kernel
theorem dX12_night_214 : decode cX12_night 214 = .ok (.if_icmp .le 181, 3) := by decide +kernel
theorem dX12_night_217 : decode cX12_night 217 = .ok (.iinc 4 1, 3) := by decide +kernel
theorem dX12_night_220 : decode cX12_night 220 = .ok (.iload_n 3, 1) := by decide +kernel
theorem dX12_night_221 : decode cX12_night 221 = .ok (.istore 5, 2) := by decide +kernel
theorem dX12_night_223 : decode cX12_night 223 = .ok (.iload_n 2, 1) := by decide +kernel
theorem dX12_night_224 : decode cX12_night 224 = .ok (.istore 6, 2) := by decide +kernel
theorem dX12_night_226 : decode cX12_night 226 = .ok (.iload 6, 2) := by decide +kernel
theorem dX12_night_228 : decode cX12_night 228 = .ok (.iload_n 3, 1) := by decide +kernel
theorem dX12_night_229 : decode cX12_night 229 = .ok (.if_icmp .ge 152, 3) := by decide +kernel
theorem dX12_night_232 : decode cX12_night 232 = .ok (.iload_n 3, 1) := by decide +kernel
theorem dX12_night_233 : decode cX12_night 233 = .ok (.iload 6, 2) := by decide +kernel
theorem dX12_night_235 : decode cX12_night 235 = .ok (.isub, 1) := by decide +kernel
theorem dX12_night_236 : decode cX12_night 236 = .ok (.iload_n 1, 1) := by decide +kernel
theorem dX12_night_237 : decode cX12_night 237 = .ok (.iconst 1, 1) := by decide +kernel
theorem dX12_night_238 : decode cX12_night 238 = .ok (.iadd, 1) := by decide +kernel
theorem dX12_night_239 : decode cX12_night 239 = .ok (.if_icmp .ge 10, 3) := by decide +kernel
theorem dX12_night_242 : decode cX12_night 242 = .ok (.iload_n 3, 1) := by decide +kernel
theorem dX12_night_243 : decode cX12_night 243 = .ok (.iload 6, 2) := by decide +kernel
theorem dX12_night_245 : decode cX12_night 245 = .ok (.isub, 1) := by decide +kernel
theorem dX12_night_246 : decode cX12_night 246 = .ok (.goto 6, 3) := by decide +kernel
theorem dX12_night_249 : decode cX12_night 249 = .ok (.iload_n 1, 1) := by decide +kernel
theorem dX12_night_250 : decode cX12_night 250 = .ok (.iconst 1, 1) := by decide +kernel
theorem dX12_night_251 : decode cX12_night 251 = .ok (.iadd, 1) := by decide +kernel
theorem dX12_night_252 : decode cX12_night 252 = .ok (.istore 7, 2) := by decide +kernel
theorem dX12_night_254 : decode cX12_night 254 = .ok (.aload_n 0, 1) := by decide +kernel
theorem dX12_night_255 : decode cX12_night 255 = .ok (.getfield 17, 3) := by decide +kernel
theorem dX12_night_258 : decode cX12_night 258 = .ok (.iload 5, 2) := by decide +kernel
theorem dX12_night_260 : decode cX12_night 260 = .ok (.iconst 1, 1) := by decide +kernel
theorem dX12_night_261 : decode cX12_night 261 = .ok (.bastore, 1) := by decide +kernel
theorem dX12_night_262 : decode cX12_night 262 = .ok (.aload_n 0, 1) := by decide +kernel
theorem dX12_night_263 : decode cX12_night 263 = .ok (.getfield 20, 3) := by decide +kernel
theorem dX12_night_266 : decode cX12_night 266 = .ok (.iload 5, 2) := by decide +kernel
theorem dX12_night_268 : decode cX12_night 268 = .ok (.iload 4, 2) := by decide +kernel
theorem dX12_night_270 : decode cX12_night 270 = .ok (.iastore, 1) := by decide +kernel
theorem dX12_night_271 : decode cX12_night 271 = .ok (.aload_n 0, 1) := by decide +kernel
theorem dX12_night_272 : decode cX12_night 272 = .ok (.getfield 23, 3) := by decide +kernel
theorem dX12_night_275 : decode cX12_night 275 = .ok (.iload 5, 2) := by decide +kernel
theorem dX12_night_277 : decode cX12_night 277 = .ok (.iload 7, 2) := by decide +kernel
theorem dX12_night_279 : decode cX12_night 279 = .ok (.iconst 1, 1) := by decide +kernel
theorem dX12_night_280 : decode cX12_night 280 = .ok (.isub, 1) := by decide +kernel
theorem dX12_night_281 : decode cX12_night 281 = .ok (.iastore, 1) := by decide +kernel
theorem dX12_night_282 : decode cX12_night 282 = .ok (.iconst 0, 1) := by decide +kernel
theorem dX12_night_283 : decode cX12_night 283 = .ok (.istore 8, 2) := by decide +kernel
theorem dX12_night_285 : decode cX12_night 285 = .ok (.iload 8, 2) := by decide +kernel
theorem dX12_night_287 : decode cX12_night 287 = .ok (.iload 7, 2) := by decide +kernel
theorem dX12_night_289 : decode cX12_night 289 = .ok (.if_icmp .ge 59, 3) := by decide +kernel
theorem dX12_night_292 : decode cX12_night 292 = .ok (.aload_n 0, 1) := by decide +kernel
theorem dX12_night_293 : decode cX12_night 293 = .ok (.getfield 29, 3) := by decide +kernel
theorem dX12_night_296 : decode cX12_night 296 = .ok (.bipush 14, 2) := by decide +kernel
theorem dX12_night_298 : decode cX12_night 298 = .ok (.iload 5, 2) := by decide +kernel
theorem dX12_night_300 : decode cX12_night 300 = .ok (.imul, 1) := by decide +kernel
theorem dX12_night_301 : decode cX12_night 301 = .ok (.iload 8, 2) := by decide +kernel
theorem dX12_night_303 : decode cX12_night 303 = .ok (.iadd, 1) := by decide +kernel
theorem dX12_night_304 : decode cX12_night 304 = .ok (.iload 6, 2) := by decide +kernel
theorem dX12_night_306 : decode cX12_night 306 = .ok (.iload 8, 2) := by decide +kernel
theorem dX12_night_308 : decode cX12_night 308 = .ok (.iadd, 1) := by decide +kernel
theorem dX12_night_309 : decode cX12_night 309 = .ok (.iastore, 1) := by decide +kernel
theorem dX12_night_310 : decode cX12_night 310 = .ok (.iload 8, 2) := by decide +kernel
theorem dX12_night_312 : decode cX12_night 312 = .ok (.iload 7, 2) := by decide +kernel
theorem dX12_night_314 : decode cX12_night 314 = .ok (.iconst 1, 1) := by decide +kernel
theorem dX12_night_315 : decode cX12_night 315 = .ok (.isub, 1) := by decide +kernel
theorem dX12_night_316 : decode cX12_night 316 = .ok (.if_icmp .ge 26, 3) := by decide +kernel
theorem dX12_night_319 : decode cX12_night 319 = .ok (.aload_n 0, 1) := by decide +kernel
theorem dX12_night_320 : decode cX12_night 320 = .ok (.getfield 26, 3) := by decide +kernel
theorem dX12_night_323 : decode cX12_night 323 = .ok (.bipush 14, 2) := by decide +kernel
theorem dX12_night_325 : decode cX12_night 325 = .ok (.iload 5, 2) := by decide +kernel
theorem dX12_night_327 : decode cX12_night 327 = .ok (.imul, 1) := by decide +kernel
theorem dX12_night_328 : decode cX12_night 328 = .ok (.iload 8, 2) := by decide +kernel
theorem dX12_night_330 : decode cX12_night 330 = .ok (.iadd, 1) := by decide +kernel
theorem dX12_night_331 : decode cX12_night 331 = .ok (.aload_n 0, 1) := by decide +kernel
theorem dX12_night_332 : decode cX12_night 332 = .ok (.getfield 32, 3) := by decide +kernel
theorem dX12_night_335 : decode cX12_night 335 = .ok (.iload 6, 2) := by decide +kernel
theorem dX12_night_337 : decode cX12_night 337 = .ok (.iload 8, 2) := by decide +kernel
theorem dX12_night_339 : decode cX12_night 339 = .ok (.iadd, 1) := by decide +kernel
theorem dX12_night_340 : decode cX12_night 340 = .ok (.iaload, 1) := by decide +kernel
theorem dX12_night_341 : decode cX12_night 341 = .ok (.iastore, 1) := by decide +kernel
theorem dX12_night_342 : decode cX12_night 342 = .ok (.iinc 8 1, 3) := by decide +kernel
theorem dX12_night_345 : decode cX12_night 345 = .ok (.goto (-60), 3) := by decide +kernel
theorem dX12_night_348 : decode cX12_night 348 = .ok (.aload_n 0, 1) := by decide +kernel
theorem dX12_night_349 : decode cX12_night 349 = .ok (.getfield 32, 3) := by decide +kernel
theorem dX12_night_352 : decode cX12_night 352 = .ok (.iload 5, 2) := by decide +kernel
theorem dX12_night_354 : decode cX12_night 354 = .ok (.aload_n 0, 1) := by decide +kernel
theorem dX12_night_355 : decode cX12_night 355 = .ok (.getfield 32, 3) := by decide +kernel
theorem dX12_night_358 : decode cX12_night 358 = .ok (.iload 6, 2) := by decide +kernel
theorem dX12_night_360 : decode cX12_night 360 = .ok (.iload 7, 2) := by decide +kernel
theorem dX12_night_362 : decode cX12_night 362 = .ok (.iadd, 1) := by decide +kernel
theorem dX12_night_363 : decode cX12_night 363 = .ok (.iconst 1, 1) := by decide +kernel
theorem dX12_night_364 : decode cX12_night 364 = .ok (.isub, 1) := by decide +kernel
theorem dX12_night_365 : decode cX12_night 365 = .ok (.iaload, 1) := by decide +kernel
theorem dX12_night_366 : decode cX12_night 366 = .ok (.iastore, 1) := by decide +kernel
theorem dX12_night_367 : decode cX12_night 367 = .ok (.iinc 5 1, 3) := by decide +kernel
theorem dX12_night_370 : decode cX12_night 370 = .ok (.iload 6, 2) := by decide +kernel
theorem dX12_night_372 : decode cX12_night 372 = .ok (.iload_n 1, 1) := by decide +kernel
theorem dX12_night_373 : decode cX12_night 373 = .ok (.iconst 1, 1) := by decide +kernel
theorem dX12_night_374 : decode cX12_night 374 = .ok (.iadd, 1) := by decide +kernel
theorem dX12_night_375 : decode cX12_night 375 = .ok (.iadd, 1) := by decide +kernel
theorem dX12_night_376 : decode cX12_night 376 = .ok (.istore 6, 2) := by decide +kernel
theorem dX12_night_378 : decode cX12_night 378 = .ok (.goto (-152), 3) := by decide +kernel
theorem dX12_night_381 : decode cX12_night 381 = .ok (.iload_n 3, 1) := by decide +kernel
theorem dX12_night_382 : decode cX12_night 382 = .ok (.istore_n 2, 1) := by decide +kernel
theorem dX12_night_383 : decode cX12_night 383 = .ok (.iload 5, 2) := by decide +kernel
theorem dX12_night_385 : decode cX12_night 385 = .ok (.istore_n 3, 1) := by decide +kernel
theorem dX12_night_386 : decode cX12_night 386 = .ok (.aload_n 0, 1) := by decide +kernel
theorem dX12_night_387 : decode cX12_night 387 = .ok (.iload_n 2, 1) := by decide +kernel
theorem dX12_night_388 : decode cX12_night 388 = .ok (.iload_n 3, 1) := by decide +kernel
theorem dX12_night_389 : decode cX12_night 389 = .ok (.invokevirtual 329, 3) := by decide +kernel
theorem dX12_night_392 : decode cX12_night 392 = .ok (.goto (-182), 3) := by decide +kernel
theorem dX12_night_395 : decode cX12_night 395 = .ok (.aload_n 0, 1) := by decide +kernel
theorem dX12_night_396 : decode cX12_night 396 = .ok (.iload_n 2, 1) := by decide +kernel
theorem dX12_night_397 : decode cX12_night 397 = .ok (.putfield 202, 3) := by decide +kernel
theorem dX12_night_400 : decode cX12_night 400 = .ok (.iload_n 3, 1) := by decide +kernel
theorem dX12_night_401 : decode cX12_night 401 = .ok (.ireturn, 1) := by decide +kernel
def f_X12_night_p342 (ln : Nat → Nat) (kb210 : Int32 → Int32 → Int32 → Int32 → dr_S → Option (Int32 × dr_S)) (kb226 : Int32 → Int32 → Int32 → Int32 → Int32 → dr_S → Option (Int32 × dr_S)) (kb285 : Int32 → Int32 → Int32 → Int32 → Int32 → Int32 → Int32 → dr_S → Option (Int32 × dr_S)) (x1 : Int32) (x3 : Int32) (x4 : Int32) (x5 : Int32) (x6 : Int32) (x7 : Int32) (x8 : Int32) (s : dr_S) : Option (Int32 × dr_S) := dr_let (x8 + 1) (fun y35 => (kb285 x1 x3 x4 x5 x6 x7 y35 s))
def f_X12_night_p285 (ln : Nat → Nat) (kb210 : Int32 → Int32 → Int32 → Int32 → dr_S → Option (Int32 × dr_S)) (kb226 : Int32 → Int32 → Int32 → Int32 → Int32 → dr_S → Option (Int32 × dr_S)) : Nat → Int32 → Int32 → Int32 → Int32 → Int32 → Int32 → Int32 → dr_S → Option (Int32 × dr_S)
  | 0, _, _, _, _, _, _, _, _ => none
  | n + 1, x1, x3, x4, x5, x6, x7, x8, s => (if x7 ≤ x8 then (dr_rd ln s 35 ((x6 + x7) - 1)).bind (fun v28 => (dr_wr ln s 35 x5 v28).bind (fun s29 => dr_let (x5 + 1) (fun y30 => dr_let (x6 + (x1 + 1)) (fun y31 => (kb226 x1 x3 x4 y30 y31 s29))))) else (dr_wr ln s 34 ((14 * x5) + x8) (x6 + x8)).bind (fun s32 => (if (x7 - 1) ≤ x8 then (f_X12_night_p342 ln kb210 kb226 (f_X12_night_p285 ln kb210 kb226 n) x1 x3 x4 x5 x6 x7 x8 s32) else (dr_rd ln s32 35 (x6 + x8)).bind (fun v33 => (dr_wr ln s32 33 ((14 * x5) + x8) v33).bind (fun s34 => (f_X12_night_p342 ln kb210 kb226 (f_X12_night_p285 ln kb210 kb226 n) x1 x3 x4 x5 x6 x7 x8 s34))))))
def f_X12_night_p252 (ln : Nat → Nat) (kb210 : Int32 → Int32 → Int32 → Int32 → dr_S → Option (Int32 × dr_S)) (kb226 : Int32 → Int32 → Int32 → Int32 → Int32 → dr_S → Option (Int32 × dr_S)) (x1 : Int32) (x3 : Int32) (x4 : Int32) (x5 : Int32) (x6 : Int32) (z0 : Int32) (s : dr_S) : Option (Int32 × dr_S) := (dr_wz ln s 30 x5 1).bind (fun s25 => (dr_wr ln s25 31 x5 x4).bind (fun s26 => (dr_wr ln s26 32 x5 (z0 - 1)).bind (fun s27 => (f_X12_night_p285 ln kb210 kb226 dr_N x1 x3 x4 x5 x6 z0 0 s27))))
def f_X12_night_p226 (ln : Nat → Nat) (kb210 : Int32 → Int32 → Int32 → Int32 → dr_S → Option (Int32 × dr_S)) : Nat → Int32 → Int32 → Int32 → Int32 → Int32 → dr_S → Option (Int32 × dr_S)
  | 0, _, _, _, _, _, _ => none
  | n + 1, x1, x3, x4, x5, x6, s => (if x3 ≤ x6 then dr_bndv (f_X12_binds ln x3 x5 s) (fun s24 => (kb210 x1 x3 x5 x4 s24)) else (if (x1 + 1) ≤ (x3 - x6) then (f_X12_night_p252 ln kb210 (f_X12_night_p226 ln kb210 n) x1 x3 x4 x5 x6 ((x1 + 1)) s) else (f_X12_night_p252 ln kb210 (f_X12_night_p226 ln kb210 n) x1 x3 x4 x5 x6 ((x3 - x6)) s)))
def f_X12_night_p210 (ln : Nat → Nat) : Nat → Int32 → Int32 → Int32 → Int32 → dr_S → Option (Int32 × dr_S)
  | 0, _, _, _, _, _ => none
  | n + 1, x1, x2, x3, x4, s => (if (x3 - x2) ≤ 1 then dr_letS (dr_pf s 1205 x2) (fun s22 => some (x3, s22)) else dr_let (x4 + 1) (fun y23 => (f_X12_night_p226 ln (f_X12_night_p210 ln n) dr_N x1 x3 y23 x3 x2 s)))
def f_X12_night_p188 (ln : Nat → Nat) (kb61 : Int32 → Int32 → Int32 → Int32 → dr_S → Option (Int32 × dr_S)) (x1 : Int32) (x2 : Int32) (x3 : Int32) (x4 : Int32) (z0 : Int32) (z1 : Int32) (s : dr_S) : Option (Int32 × dr_S) := (dr_wr ln s 35 z1 z0).bind (fun s19 => dr_let (x3 + 1) (fun y20 => dr_let (x4 + x1) (fun y21 => (kb61 x1 x2 y20 y21 s19))))
def f_X12_night_p113 (ln : Nat → Nat) (kb61 : Int32 → Int32 → Int32 → Int32 → dr_S → Option (Int32 × dr_S)) : Nat → Int32 → Int32 → Int32 → Int32 → Int32 → dr_S → Option (Int32 × dr_S)
  | 0, _, _, _, _, _, _ => none
  | n + 1, x1, x2, x3, x4, x5, s => (dr_rd ln s 32 x3).bind (fun v12 => (if v12 ≤ x5 then (dr_rd ln s 32 x3).bind (fun v13 => (if v13 = 0 then (f_X12_night_p188 ln kb61 x1 x2 x3 x4 ((-1)) x3 s) else (dr_rd ln s 32 x3).bind (fun v14 => (dr_rd ln s 33 (((14 * x3) + v14) - 1)).bind (fun v15 => (f_X12_night_p188 ln kb61 x1 x2 x3 x4 v15 x3 s))))) else (dr_rd ln s 62 (x4 + x5)).bind (fun v16 => (dr_wr ln s 33 ((14 * x3) + x5) v16).bind (fun s17 => dr_let (x5 + 1) (fun y18 => (f_X12_night_p113 ln kb61 n x1 x2 x3 x4 y18 s17))))))
def f_X12_night_p109 (ln : Nat → Nat) (kb61 : Int32 → Int32 → Int32 → Int32 → dr_S → Option (Int32 × dr_S)) (x1 : Int32) (x2 : Int32) (x3 : Int32) (x4 : Int32) (z0 : Int32) (z1 : Int32) (s : dr_S) : Option (Int32 × dr_S) := (dr_wr ln s 32 z1 z0).bind (fun s11 => (f_X12_night_p113 ln kb61 dr_N x1 x2 x3 x4 0 s11))
def f_X12_night_p75 (ln : Nat → Nat) (kb61 : Int32 → Int32 → Int32 → Int32 → dr_S → Option (Int32 × dr_S)) (x1 : Int32) (x2 : Int32) (x3 : Int32) (x4 : Int32) (s : dr_S) : Option (Int32 × dr_S) := (dr_wz ln s 30 x3 1).bind (fun s10 => (if x1 ≤ ((s10.2 1242) - x4) then (f_X12_night_p109 ln kb61 x1 x2 x3 x4 x1 x3 s10) else (f_X12_night_p109 ln kb61 x1 x2 x3 x4 (((s10.2 1242) - x4)) x3 s10)))
def f_X12_night_p61 (ln : Nat → Nat) : Nat → Int32 → Int32 → Int32 → Int32 → dr_S → Option (Int32 × dr_S)
  | 0, _, _, _, _, _ => none
  | n + 1, x1, x2, x3, x4, s => (if x4 < (s.2 1242) then (f_X12_night_p75 ln (f_X12_night_p61 ln n) x1 x2 x3 x4 s) else (if x4 = 0 then (f_X12_night_p75 ln (f_X12_night_p61 ln n) x1 x2 x3 x4 s) else dr_bndv (f_X12_binds ln x2 x3 s) (fun s9 => (f_X12_night_p210 ln dr_N x1 x2 x3 0 s9))))
def f_X12_night_p36 (ln : Nat → Nat) : Nat → Int32 → Int32 → dr_S → Option (Int32 × dr_S)
  | 0, _, _, _ => none
  | n + 1, x1, x2, s => (if ((256 : Int32) ≤ x2 : Prop) then (f_X12_night_p61 ln dr_N x1 0 0 0 s) else dr_bndv (f_X12_clears ln x2 s) (fun s7 => dr_let (x2 + 1) (fun y8 => (f_X12_night_p36 ln n x1 y8 s7))))
def f_X12_night (ln : Nat → Nat) (x1 : Int32) (s : dr_S) : Option (Int32 × dr_S) := dr_bnd (f_X12_in ln x1 ((s.2 1200)) ((2 * (s.2 1200))) s) (fun r2 s1 => (if r2 = 0 then some ((-1), s1) else dr_bnd (f_X12_atJobs ln  s1) (fun r4 s3 => (if r4 ≤ 0 then dr_bndv (f_X12_lists ln  s3) (fun s5 => dr_bndv (f_X12_sorts ln  s5) (fun s6 => (f_X12_night_p36 ln dr_N x1 0 s6))) else some ((-1), s3)))))
section
variable {p : Program} {l : Launch} {e : Env} {s0 : State} {m : MethodId} {args : Array Value} {below : List Frame} {meth : Method} {c : Code} {A : Nat → Prop} {D : va_G} {cI cZ : ClassId} {ad ln : Nat → Nat} {L : List Nat}
set_option maxHeartbeats 4000000 in
set_option maxRecDepth 20000 in
theorem w_X12_night_p342 {kb210 : Int32 → Int32 → Int32 → Int32 → dr_S → Option (Int32 × dr_S)} {kb226 : Int32 → Int32 → Int32 → Int32 → Int32 → dr_S → Option (Int32 × dr_S)} {kb285 : Int32 → Int32 → Int32 → Int32 → Int32 → Int32 → Int32 → dr_S → Option (Int32 × dr_S)} (E : dr_E p (dr_rm 3) s0 m args meth c 0 0 A s0.heap D cI cZ ad L cX12_night 9 RX12 (some .int)) (hap : dr_ap ad L) (hN : ∀ x ∈ nd_12, x ∈ L) (hkb210 : ∀ (x1 : Int32) (x2 : Int32) (x3 : Int32) (x4 : Int32) (s : dr_S), dr_G p l e (dr_rm 3) s0 m args below meth c 0 0 A s0.heap D cI cZ ad ln L 9 (dr_Zi D cI cZ ad ln L A below args s0 0 0) 210 [(0, .ref (ad 12)), (1, .int x1), (2, .int x2), (3, .int x3), (4, .int x4)] [] s (kb210 x1 x2 x3 x4 s)) (hkb226 : ∀ (x1 : Int32) (x3 : Int32) (x4 : Int32) (x5 : Int32) (x6 : Int32) (s : dr_S), dr_G p l e (dr_rm 3) s0 m args below meth c 0 0 A s0.heap D cI cZ ad ln L 9 (dr_Zi D cI cZ ad ln L A below args s0 0 0) 226 [(0, .ref (ad 12)), (1, .int x1), (3, .int x3), (4, .int x4), (5, .int x5), (6, .int x6)] [] s (kb226 x1 x3 x4 x5 x6 s)) (hkb285 : ∀ (x1 : Int32) (x3 : Int32) (x4 : Int32) (x5 : Int32) (x6 : Int32) (x7 : Int32) (x8 : Int32) (s : dr_S), dr_G p l e (dr_rm 3) s0 m args below meth c 0 0 A s0.heap D cI cZ ad ln L 9 (dr_Zi D cI cZ ad ln L A below args s0 0 0) 285 [(0, .ref (ad 12)), (1, .int x1), (3, .int x3), (4, .int x4), (5, .int x5), (6, .int x6), (7, .int x7), (8, .int x8)] [] s (kb285 x1 x3 x4 x5 x6 x7 x8 s)) : ∀ (x1 : Int32) (x3 : Int32) (x4 : Int32) (x5 : Int32) (x6 : Int32) (x7 : Int32) (x8 : Int32) (s : dr_S), dr_G p l e (dr_rm 3) s0 m args below meth c 0 0 A s0.heap D cI cZ ad ln L 9 (dr_Zi D cI cZ ad ln L A below args s0 0 0) 342 [(0, .ref (ad 12)), (1, .int x1), (3, .int x3), (4, .int x4), (5, .int x5), (6, .int x6), (7, .int x7), (8, .int x8)] [] s (f_X12_night_p342 ln kb210 kb226 kb285 x1 x3 x4 x5 x6 x7 x8 s) := by
  intro x1 x3 x4 x5 x6 x7 x8 s
  unfold f_X12_night_p342
  refine g_iinc E (lv' := []) (lv'' := fun y35 => [(8, .int y35), (0, .ref (ad 12)), (1, .int x1), (3, .int x3), (4, .int x4), (5, .int x5), (6, .int x6), (7, .int x7)]) (v := 1) dX12_night_342 7 rfl (by decide) (by decide) (fun _ => rfl) (fun y35 => ?_)
  refine g_goto E 285 dX12_night_345 (by decide) ?_
  refine g_sub [1, 2, 3, 4, 5, 6, 7, 0] rfl ?_
  exact hkb285 x1 x3 x4 x5 x6 x7 y35 s
set_option maxHeartbeats 4000000 in
set_option maxRecDepth 20000 in
theorem w_X12_night_p285 {kb210 : Int32 → Int32 → Int32 → Int32 → dr_S → Option (Int32 × dr_S)} {kb226 : Int32 → Int32 → Int32 → Int32 → Int32 → dr_S → Option (Int32 × dr_S)} (E : dr_E p (dr_rm 3) s0 m args meth c 0 0 A s0.heap D cI cZ ad L cX12_night 9 RX12 (some .int)) (hap : dr_ap ad L) (hN : ∀ x ∈ nd_12, x ∈ L) (hkb210 : ∀ (x1 : Int32) (x2 : Int32) (x3 : Int32) (x4 : Int32) (s : dr_S), dr_G p l e (dr_rm 3) s0 m args below meth c 0 0 A s0.heap D cI cZ ad ln L 9 (dr_Zi D cI cZ ad ln L A below args s0 0 0) 210 [(0, .ref (ad 12)), (1, .int x1), (2, .int x2), (3, .int x3), (4, .int x4)] [] s (kb210 x1 x2 x3 x4 s)) (hkb226 : ∀ (x1 : Int32) (x3 : Int32) (x4 : Int32) (x5 : Int32) (x6 : Int32) (s : dr_S), dr_G p l e (dr_rm 3) s0 m args below meth c 0 0 A s0.heap D cI cZ ad ln L 9 (dr_Zi D cI cZ ad ln L A below args s0 0 0) 226 [(0, .ref (ad 12)), (1, .int x1), (3, .int x3), (4, .int x4), (5, .int x5), (6, .int x6)] [] s (kb226 x1 x3 x4 x5 x6 s)) : ∀ (n : Nat) (x1 : Int32) (x3 : Int32) (x4 : Int32) (x5 : Int32) (x6 : Int32) (x7 : Int32) (x8 : Int32) (s : dr_S), dr_G p l e (dr_rm 3) s0 m args below meth c 0 0 A s0.heap D cI cZ ad ln L 9 (dr_Zi D cI cZ ad ln L A below args s0 0 0) 285 [(0, .ref (ad 12)), (1, .int x1), (3, .int x3), (4, .int x4), (5, .int x5), (6, .int x6), (7, .int x7), (8, .int x8)] [] s (f_X12_night_p285 ln kb210 kb226 n x1 x3 x4 x5 x6 x7 x8 s) := by
  intro n
  induction n with
  | zero =>
    intro x1 x3 x4 x5 x6 x7 x8 s
    rw [f_X12_night_p285]
    exact g_none
  | succ n hkb285 =>
    intro x1 x3 x4 x5 x6 x7 x8 s
    rw [f_X12_night_p285]
    refine g_iload E dX12_night_285 7 rfl ?_
    refine g_iload E dX12_night_287 6 rfl ?_
    refine g_icmp_ge E 348 dX12_night_289 (by decide) ?_ ?_
    · refine g_aload_n E dX12_night_348 0 rfl ?_
      refine gg_12_32 E (hN 12 (by decide)) dX12_night_349 ?_
      refine g_iload E dX12_night_352 4 rfl ?_
      refine g_aload_n E dX12_night_354 0 rfl ?_
      refine gg_12_32 E (hN 12 (by decide)) dX12_night_355 ?_
      refine g_iload E dX12_night_358 5 rfl ?_
      refine g_iload E dX12_night_360 6 rfl ?_
      refine g_iadd E dX12_night_362 ?_
      refine g_iconst E (v := 1) dX12_night_363 (by decide) ?_
      refine g_isub E dX12_night_364 ?_
      refine g_iaload E (hN 35 (by decide)) (by decide) rfl dX12_night_365 (fun v28 => ?_)
      refine g_iastore E (hN 35 (by decide)) (by decide) rfl dX12_night_366 (fun s29 => ?_)
      refine g_iinc E (lv' := []) (lv'' := fun y30 => [(5, .int y30), (0, .ref (ad 12)), (1, .int x1), (3, .int x3), (4, .int x4), (6, .int x6), (7, .int x7), (8, .int x8)]) (v := 1) dX12_night_367 4 rfl (by decide) (by decide) (fun _ => rfl) (fun y30 => ?_)
      refine g_iload E dX12_night_370 5 rfl ?_
      refine g_iload_n E dX12_night_372 2 rfl ?_
      refine g_iconst E (v := 1) dX12_night_373 (by decide) ?_
      refine g_iadd E dX12_night_374 ?_
      refine g_iadd E dX12_night_375 ?_
      refine g_let (fun y31 => ?_)
      refine g_istore E (lv' := [(6, .int y31), (5, .int y30), (0, .ref (ad 12)), (1, .int x1), (3, .int x3), (4, .int x4), (7, .int x7), (8, .int x8)]) dX12_night_376 (by decide) rfl ?_
      refine g_goto E 226 dX12_night_378 (by decide) ?_
      refine g_sub [2, 3, 4, 5, 1, 0] rfl ?_
      exact hkb226 x1 x3 x4 y30 y31 s29
    · refine g_aload_n E dX12_night_292 0 rfl ?_
      refine gg_12_29 E (hN 12 (by decide)) dX12_night_293 ?_
      refine g_bipush E (v := 14) dX12_night_296 (by decide) ?_
      refine g_iload E dX12_night_298 4 rfl ?_
      refine g_imul E dX12_night_300 ?_
      refine g_iload E dX12_night_301 7 rfl ?_
      refine g_iadd E dX12_night_303 ?_
      refine g_iload E dX12_night_304 5 rfl ?_
      refine g_iload E dX12_night_306 7 rfl ?_
      refine g_iadd E dX12_night_308 ?_
      refine g_iastore E (hN 34 (by decide)) (by decide) rfl dX12_night_309 (fun s32 => ?_)
      refine g_iload E dX12_night_310 7 rfl ?_
      refine g_iload E dX12_night_312 6 rfl ?_
      refine g_iconst E (v := 1) dX12_night_314 (by decide) ?_
      refine g_isub E dX12_night_315 ?_
      refine g_icmp_ge E 342 dX12_night_316 (by decide) ?_ ?_
      · refine g_sub [0, 1, 2, 3, 4, 5, 6, 7] rfl ?_
        exact w_X12_night_p342 E hap hN hkb210 hkb226 hkb285 x1 x3 x4 x5 x6 x7 x8 s32
      · refine g_aload_n E dX12_night_319 0 rfl ?_
        refine gg_12_26 E (hN 12 (by decide)) dX12_night_320 ?_
        refine g_bipush E (v := 14) dX12_night_323 (by decide) ?_
        refine g_iload E dX12_night_325 4 rfl ?_
        refine g_imul E dX12_night_327 ?_
        refine g_iload E dX12_night_328 7 rfl ?_
        refine g_iadd E dX12_night_330 ?_
        refine g_aload_n E dX12_night_331 0 rfl ?_
        refine gg_12_32 E (hN 12 (by decide)) dX12_night_332 ?_
        refine g_iload E dX12_night_335 5 rfl ?_
        refine g_iload E dX12_night_337 7 rfl ?_
        refine g_iadd E dX12_night_339 ?_
        refine g_iaload E (hN 35 (by decide)) (by decide) rfl dX12_night_340 (fun v33 => ?_)
        refine g_iastore E (hN 33 (by decide)) (by decide) rfl dX12_night_341 (fun s34 => ?_)
        refine g_sub [0, 1, 2, 3, 4, 5, 6, 7] rfl ?_
        exact w_X12_night_p342 E hap hN hkb210 hkb226 hkb285 x1 x3 x4 x5 x6 x7 x8 s34
set_option maxHeartbeats 4000000 in
set_option maxRecDepth 20000 in
theorem w_X12_night_p252 {kb210 : Int32 → Int32 → Int32 → Int32 → dr_S → Option (Int32 × dr_S)} {kb226 : Int32 → Int32 → Int32 → Int32 → Int32 → dr_S → Option (Int32 × dr_S)} (E : dr_E p (dr_rm 3) s0 m args meth c 0 0 A s0.heap D cI cZ ad L cX12_night 9 RX12 (some .int)) (hap : dr_ap ad L) (hN : ∀ x ∈ nd_12, x ∈ L) (hkb210 : ∀ (x1 : Int32) (x2 : Int32) (x3 : Int32) (x4 : Int32) (s : dr_S), dr_G p l e (dr_rm 3) s0 m args below meth c 0 0 A s0.heap D cI cZ ad ln L 9 (dr_Zi D cI cZ ad ln L A below args s0 0 0) 210 [(0, .ref (ad 12)), (1, .int x1), (2, .int x2), (3, .int x3), (4, .int x4)] [] s (kb210 x1 x2 x3 x4 s)) (hkb226 : ∀ (x1 : Int32) (x3 : Int32) (x4 : Int32) (x5 : Int32) (x6 : Int32) (s : dr_S), dr_G p l e (dr_rm 3) s0 m args below meth c 0 0 A s0.heap D cI cZ ad ln L 9 (dr_Zi D cI cZ ad ln L A below args s0 0 0) 226 [(0, .ref (ad 12)), (1, .int x1), (3, .int x3), (4, .int x4), (5, .int x5), (6, .int x6)] [] s (kb226 x1 x3 x4 x5 x6 s)) : ∀ (x1 : Int32) (x3 : Int32) (x4 : Int32) (x5 : Int32) (x6 : Int32) (z0 : Int32) (s : dr_S), dr_G p l e (dr_rm 3) s0 m args below meth c 0 0 A s0.heap D cI cZ ad ln L 9 (dr_Zi D cI cZ ad ln L A below args s0 0 0) 252 [(0, .ref (ad 12)), (1, .int x1), (3, .int x3), (4, .int x4), (5, .int x5), (6, .int x6)] [.int z0] s (f_X12_night_p252 ln kb210 kb226 x1 x3 x4 x5 x6 z0 s) := by
  intro x1 x3 x4 x5 x6 z0 s
  unfold f_X12_night_p252
  refine g_istore E (lv' := [(7, .int z0), (0, .ref (ad 12)), (1, .int x1), (3, .int x3), (4, .int x4), (5, .int x5), (6, .int x6)]) dX12_night_252 (by decide) rfl ?_
  refine g_aload_n E dX12_night_254 1 rfl ?_
  refine gg_12_17 E (hN 12 (by decide)) dX12_night_255 ?_
  refine g_iload E dX12_night_258 5 rfl ?_
  refine g_iconst E (v := 1) dX12_night_260 (by decide) ?_
  refine g_bastore E (hN 30 (by decide)) (by decide) rfl dX12_night_261 (fun s25 => ?_)
  refine g_aload_n E dX12_night_262 1 rfl ?_
  refine gg_12_20 E (hN 12 (by decide)) dX12_night_263 ?_
  refine g_iload E dX12_night_266 5 rfl ?_
  refine g_iload E dX12_night_268 4 rfl ?_
  refine g_iastore E (hN 31 (by decide)) (by decide) rfl dX12_night_270 (fun s26 => ?_)
  refine g_aload_n E dX12_night_271 1 rfl ?_
  refine gg_12_23 E (hN 12 (by decide)) dX12_night_272 ?_
  refine g_iload E dX12_night_275 5 rfl ?_
  refine g_iload E dX12_night_277 0 rfl ?_
  refine g_iconst E (v := 1) dX12_night_279 (by decide) ?_
  refine g_isub E dX12_night_280 ?_
  refine g_iastore E (hN 32 (by decide)) (by decide) rfl dX12_night_281 (fun s27 => ?_)
  refine g_iconst E (v := 0) dX12_night_282 (by decide) ?_
  refine g_istore E (lv' := [(8, .int 0), (7, .int z0), (0, .ref (ad 12)), (1, .int x1), (3, .int x3), (4, .int x4), (5, .int x5), (6, .int x6)]) dX12_night_283 (by decide) rfl ?_
  refine g_sub [2, 3, 4, 5, 6, 7, 1, 0] rfl ?_
  exact w_X12_night_p285 E hap hN hkb210 hkb226 dr_N x1 x3 x4 x5 x6 z0 0 s27
set_option maxHeartbeats 4000000 in
set_option maxRecDepth 20000 in
theorem w_X12_night_p226 {kb210 : Int32 → Int32 → Int32 → Int32 → dr_S → Option (Int32 × dr_S)} (E : dr_E p (dr_rm 3) s0 m args meth c 0 0 A s0.heap D cI cZ ad L cX12_night 9 RX12 (some .int)) (hap : dr_ap ad L) (hN : ∀ x ∈ nd_12, x ∈ L) (hkb210 : ∀ (x1 : Int32) (x2 : Int32) (x3 : Int32) (x4 : Int32) (s : dr_S), dr_G p l e (dr_rm 3) s0 m args below meth c 0 0 A s0.heap D cI cZ ad ln L 9 (dr_Zi D cI cZ ad ln L A below args s0 0 0) 210 [(0, .ref (ad 12)), (1, .int x1), (2, .int x2), (3, .int x3), (4, .int x4)] [] s (kb210 x1 x2 x3 x4 s)) : ∀ (n : Nat) (x1 : Int32) (x3 : Int32) (x4 : Int32) (x5 : Int32) (x6 : Int32) (s : dr_S), dr_G p l e (dr_rm 3) s0 m args below meth c 0 0 A s0.heap D cI cZ ad ln L 9 (dr_Zi D cI cZ ad ln L A below args s0 0 0) 226 [(0, .ref (ad 12)), (1, .int x1), (3, .int x3), (4, .int x4), (5, .int x5), (6, .int x6)] [] s (f_X12_night_p226 ln kb210 n x1 x3 x4 x5 x6 s) := by
  intro n
  induction n with
  | zero =>
    intro x1 x3 x4 x5 x6 s
    rw [f_X12_night_p226]
    exact g_none
  | succ n hkb226 =>
    intro x1 x3 x4 x5 x6 s
    rw [f_X12_night_p226]
    refine g_iload E dX12_night_226 5 rfl ?_
    refine g_iload_n E dX12_night_228 2 rfl ?_
    refine g_icmp_ge E 381 dX12_night_229 (by decide) ?_ ?_
    · refine g_iload_n E dX12_night_381 2 rfl ?_
      refine g_istore_n E (lv' := [(2, .int x3), (0, .ref (ad 12)), (1, .int x1), (3, .int x3), (4, .int x4), (5, .int x5), (6, .int x6)]) dX12_night_382 (by decide) rfl ?_
      refine g_iload E dX12_night_383 5 rfl ?_
      refine g_istore_n E (lv' := [(3, .int x5), (2, .int x3), (0, .ref (ad 12)), (1, .int x1), (4, .int x4), (5, .int x5), (6, .int x6)]) dX12_night_385 (by decide) rfl ?_
      refine g_aload_n E dX12_night_386 2 rfl ?_
      refine g_iload_n E dX12_night_387 1 rfl ?_
      refine g_iload_n E dX12_night_388 0 rfl ?_
      refine g_cVv E [.int x3, .int x5] rfl (c_X12_binds hap hN x3 x5 s) (hN 12 (by decide)) (by decide) rfl rfl mi_X12_binds msl_X12_binds mw_X12_binds rfl ml_12_329 ⟨Nat.le_of_ble_eq_true rfl, Nat.le_of_ble_eq_true rfl⟩ (Nat.le_of_ble_eq_true rfl) dX12_night_389 (fun s24 => ?_)
      refine g_goto E 210 dX12_night_392 (by decide) ?_
      refine g_sub [2, 3, 1, 0, 4] rfl ?_
      exact hkb210 x1 x3 x5 x4 s24
    · refine g_iload_n E dX12_night_232 2 rfl ?_
      refine g_iload E dX12_night_233 5 rfl ?_
      refine g_isub E dX12_night_235 ?_
      refine g_iload_n E dX12_night_236 1 rfl ?_
      refine g_iconst E (v := 1) dX12_night_237 (by decide) ?_
      refine g_iadd E dX12_night_238 ?_
      refine g_icmp_ge E 249 dX12_night_239 (by decide) ?_ ?_
      · refine g_iload_n E dX12_night_249 1 rfl ?_
        refine g_iconst E (v := 1) dX12_night_250 (by decide) ?_
        refine g_iadd E dX12_night_251 ?_
        refine g_sub [0, 1, 2, 3, 4, 5] rfl ?_
        exact w_X12_night_p252 E hap hN hkb210 hkb226 x1 x3 x4 x5 x6 ((x1 + 1)) s
      · refine g_iload_n E dX12_night_242 2 rfl ?_
        refine g_iload E dX12_night_243 5 rfl ?_
        refine g_isub E dX12_night_245 ?_
        refine g_goto E 252 dX12_night_246 (by decide) ?_
        refine g_sub [0, 1, 2, 3, 4, 5] rfl ?_
        exact w_X12_night_p252 E hap hN hkb210 hkb226 x1 x3 x4 x5 x6 ((x3 - x6)) s
set_option maxHeartbeats 4000000 in
set_option maxRecDepth 20000 in
theorem w_X12_night_p210 (E : dr_E p (dr_rm 3) s0 m args meth c 0 0 A s0.heap D cI cZ ad L cX12_night 9 RX12 (some .int)) (hap : dr_ap ad L) (hN : ∀ x ∈ nd_12, x ∈ L) : ∀ (n : Nat) (x1 : Int32) (x2 : Int32) (x3 : Int32) (x4 : Int32) (s : dr_S), dr_G p l e (dr_rm 3) s0 m args below meth c 0 0 A s0.heap D cI cZ ad ln L 9 (dr_Zi D cI cZ ad ln L A below args s0 0 0) 210 [(0, .ref (ad 12)), (1, .int x1), (2, .int x2), (3, .int x3), (4, .int x4)] [] s (f_X12_night_p210 ln n x1 x2 x3 x4 s) := by
  intro n
  induction n with
  | zero =>
    intro x1 x2 x3 x4 s
    rw [f_X12_night_p210]
    exact g_none
  | succ n hkb210 =>
    intro x1 x2 x3 x4 s
    rw [f_X12_night_p210]
    refine g_iload_n E dX12_night_210 3 rfl ?_
    refine g_iload_n E dX12_night_211 2 rfl ?_
    refine g_isub E dX12_night_212 ?_
    refine g_iconst E (v := 1) dX12_night_213 (by decide) ?_
    refine g_icmp_le E 395 dX12_night_214 (by decide) ?_ ?_
    · refine g_aload_n E dX12_night_395 0 rfl ?_
      refine g_iload_n E dX12_night_396 2 rfl ?_
      refine gp_12_202 E (hN 12 (by decide)) dX12_night_397 (fun s22 => ?_)
      refine g_iload_n E dX12_night_400 3 rfl ?_
      exact g_iret E dX12_night_401
    · refine g_iinc E (lv' := []) (lv'' := fun y23 => [(4, .int y23), (0, .ref (ad 12)), (1, .int x1), (2, .int x2), (3, .int x3)]) (v := 1) dX12_night_217 4 rfl (by decide) (by decide) (fun _ => rfl) (fun y23 => ?_)
      refine g_iload_n E dX12_night_220 4 rfl ?_
      refine g_istore E (lv' := [(5, .int x3), (4, .int y23), (0, .ref (ad 12)), (1, .int x1), (2, .int x2), (3, .int x3)]) dX12_night_221 (by decide) rfl ?_
      refine g_iload_n E dX12_night_223 4 rfl ?_
      refine g_istore E (lv' := [(6, .int x2), (5, .int x3), (4, .int y23), (0, .ref (ad 12)), (1, .int x1), (2, .int x2), (3, .int x3)]) dX12_night_224 (by decide) rfl ?_
      refine g_sub [3, 4, 6, 2, 1, 0] rfl ?_
      exact w_X12_night_p226 E hap hN hkb210 dr_N x1 x3 y23 x3 x2 s
set_option maxHeartbeats 4000000 in
set_option maxRecDepth 20000 in
theorem w_X12_night_p188 {kb61 : Int32 → Int32 → Int32 → Int32 → dr_S → Option (Int32 × dr_S)} (E : dr_E p (dr_rm 3) s0 m args meth c 0 0 A s0.heap D cI cZ ad L cX12_night 9 RX12 (some .int)) (hap : dr_ap ad L) (hN : ∀ x ∈ nd_12, x ∈ L) (hkb61 : ∀ (x1 : Int32) (x2 : Int32) (x3 : Int32) (x4 : Int32) (s : dr_S), dr_G p l e (dr_rm 3) s0 m args below meth c 0 0 A s0.heap D cI cZ ad ln L 9 (dr_Zi D cI cZ ad ln L A below args s0 0 0) 61 [(0, .ref (ad 12)), (1, .int x1), (2, .int x2), (3, .int x3), (4, .int x4)] [] s (kb61 x1 x2 x3 x4 s)) : ∀ (x1 : Int32) (x2 : Int32) (x3 : Int32) (x4 : Int32) (z0 : Int32) (z1 : Int32) (s : dr_S), dr_G p l e (dr_rm 3) s0 m args below meth c 0 0 A s0.heap D cI cZ ad ln L 9 (dr_Zi D cI cZ ad ln L A below args s0 0 0) 188 [(0, .ref (ad 12)), (1, .int x1), (2, .int x2), (3, .int x3), (4, .int x4)] [.int z0, .int z1, .ref (ad 35)] s (f_X12_night_p188 ln kb61 x1 x2 x3 x4 z0 z1 s) := by
  intro x1 x2 x3 x4 z0 z1 s
  unfold f_X12_night_p188
  refine g_iastore E (hN 35 (by decide)) (by decide) rfl dX12_night_188 (fun s19 => ?_)
  refine g_iinc E (lv' := []) (lv'' := fun y20 => [(3, .int y20), (0, .ref (ad 12)), (1, .int x1), (2, .int x2), (4, .int x4)]) (v := 1) dX12_night_189 3 rfl (by decide) (by decide) (fun _ => rfl) (fun y20 => ?_)
  refine g_iload E dX12_night_192 4 rfl ?_
  refine g_iload_n E dX12_night_194 2 rfl ?_
  refine g_iadd E dX12_night_195 ?_
  refine g_let (fun y21 => ?_)
  refine g_istore E (lv' := [(4, .int y21), (3, .int y20), (0, .ref (ad 12)), (1, .int x1), (2, .int x2)]) dX12_night_196 (by decide) rfl ?_
  refine g_goto E 61 dX12_night_198 (by decide) ?_
  refine g_sub [2, 3, 4, 1, 0] rfl ?_
  exact hkb61 x1 x2 y20 y21 s19
set_option maxHeartbeats 4000000 in
set_option maxRecDepth 20000 in
theorem w_X12_night_p113 {kb61 : Int32 → Int32 → Int32 → Int32 → dr_S → Option (Int32 × dr_S)} (E : dr_E p (dr_rm 3) s0 m args meth c 0 0 A s0.heap D cI cZ ad L cX12_night 9 RX12 (some .int)) (hap : dr_ap ad L) (hN : ∀ x ∈ nd_12, x ∈ L) (hkb61 : ∀ (x1 : Int32) (x2 : Int32) (x3 : Int32) (x4 : Int32) (s : dr_S), dr_G p l e (dr_rm 3) s0 m args below meth c 0 0 A s0.heap D cI cZ ad ln L 9 (dr_Zi D cI cZ ad ln L A below args s0 0 0) 61 [(0, .ref (ad 12)), (1, .int x1), (2, .int x2), (3, .int x3), (4, .int x4)] [] s (kb61 x1 x2 x3 x4 s)) : ∀ (n : Nat) (x1 : Int32) (x2 : Int32) (x3 : Int32) (x4 : Int32) (x5 : Int32) (s : dr_S), dr_G p l e (dr_rm 3) s0 m args below meth c 0 0 A s0.heap D cI cZ ad ln L 9 (dr_Zi D cI cZ ad ln L A below args s0 0 0) 113 [(0, .ref (ad 12)), (1, .int x1), (2, .int x2), (3, .int x3), (4, .int x4), (5, .int x5)] [] s (f_X12_night_p113 ln kb61 n x1 x2 x3 x4 x5 s) := by
  intro n
  induction n with
  | zero =>
    intro x1 x2 x3 x4 x5 s
    rw [f_X12_night_p113]
    exact g_none
  | succ n hkb113 =>
    intro x1 x2 x3 x4 x5 s
    rw [f_X12_night_p113]
    refine g_iload E dX12_night_113 5 rfl ?_
    refine g_aload_n E dX12_night_115 0 rfl ?_
    refine gg_12_23 E (hN 12 (by decide)) dX12_night_116 ?_
    refine g_iload_n E dX12_night_119 3 rfl ?_
    refine g_iaload E (hN 32 (by decide)) (by decide) rfl dX12_night_120 (fun v12 => ?_)
    refine g_icmp_ge E 152 dX12_night_121 (by decide) ?_ ?_
    · refine g_aload_n E dX12_night_152 0 rfl ?_
      refine gg_12_32 E (hN 12 (by decide)) dX12_night_153 ?_
      refine g_iload_n E dX12_night_156 3 rfl ?_
      refine g_aload_n E dX12_night_157 0 rfl ?_
      refine gg_12_23 E (hN 12 (by decide)) dX12_night_158 ?_
      refine g_iload_n E dX12_night_161 3 rfl ?_
      refine g_iaload E (hN 32 (by decide)) (by decide) rfl dX12_night_162 (fun v13 => ?_)
      refine g_if_ne E 170 dX12_night_163 (by decide) ?_ ?_
      · refine g_aload_n E dX12_night_170 0 rfl ?_
        refine gg_12_26 E (hN 12 (by decide)) dX12_night_171 ?_
        refine g_bipush E (v := 14) dX12_night_174 (by decide) ?_
        refine g_iload_n E dX12_night_176 3 rfl ?_
        refine g_imul E dX12_night_177 ?_
        refine g_aload_n E dX12_night_178 0 rfl ?_
        refine gg_12_23 E (hN 12 (by decide)) dX12_night_179 ?_
        refine g_iload_n E dX12_night_182 3 rfl ?_
        refine g_iaload E (hN 32 (by decide)) (by decide) rfl dX12_night_183 (fun v14 => ?_)
        refine g_iadd E dX12_night_184 ?_
        refine g_iconst E (v := 1) dX12_night_185 (by decide) ?_
        refine g_isub E dX12_night_186 ?_
        refine g_iaload E (hN 33 (by decide)) (by decide) rfl dX12_night_187 (fun v15 => ?_)
        refine g_sub [0, 1, 2, 3, 4] rfl ?_
        exact w_X12_night_p188 E hap hN hkb61 x1 x2 x3 x4 v15 x3 s
      · refine g_iconst E (v := (-1)) dX12_night_166 (by decide) ?_
        refine g_goto E 188 dX12_night_167 (by decide) ?_
        refine g_sub [0, 1, 2, 3, 4] rfl ?_
        exact w_X12_night_p188 E hap hN hkb61 x1 x2 x3 x4 ((-1)) x3 s
    · refine g_aload_n E dX12_night_124 0 rfl ?_
      refine gg_12_26 E (hN 12 (by decide)) dX12_night_125 ?_
      refine g_bipush E (v := 14) dX12_night_128 (by decide) ?_
      refine g_iload_n E dX12_night_130 3 rfl ?_
      refine g_imul E dX12_night_131 ?_
      refine g_iload E dX12_night_132 5 rfl ?_
      refine g_iadd E dX12_night_134 ?_
      refine g_aload_n E dX12_night_135 0 rfl ?_
      refine gg_12_113 E (hN 12 (by decide)) dX12_night_136 ?_
      refine g_iload E dX12_night_139 4 rfl ?_
      refine g_iload E dX12_night_141 5 rfl ?_
      refine g_iadd E dX12_night_143 ?_
      refine g_iaload E (hN 62 (by decide)) (by decide) rfl dX12_night_144 (fun v16 => ?_)
      refine g_iastore E (hN 33 (by decide)) (by decide) rfl dX12_night_145 (fun s17 => ?_)
      refine g_iinc E (lv' := []) (lv'' := fun y18 => [(5, .int y18), (0, .ref (ad 12)), (1, .int x1), (2, .int x2), (3, .int x3), (4, .int x4)]) (v := 1) dX12_night_146 5 rfl (by decide) (by decide) (fun _ => rfl) (fun y18 => ?_)
      refine g_goto E 113 dX12_night_149 (by decide) ?_
      refine g_sub [1, 2, 3, 4, 5, 0] rfl ?_
      exact hkb113 x1 x2 x3 x4 y18 s17
set_option maxHeartbeats 4000000 in
set_option maxRecDepth 20000 in
theorem w_X12_night_p109 {kb61 : Int32 → Int32 → Int32 → Int32 → dr_S → Option (Int32 × dr_S)} (E : dr_E p (dr_rm 3) s0 m args meth c 0 0 A s0.heap D cI cZ ad L cX12_night 9 RX12 (some .int)) (hap : dr_ap ad L) (hN : ∀ x ∈ nd_12, x ∈ L) (hkb61 : ∀ (x1 : Int32) (x2 : Int32) (x3 : Int32) (x4 : Int32) (s : dr_S), dr_G p l e (dr_rm 3) s0 m args below meth c 0 0 A s0.heap D cI cZ ad ln L 9 (dr_Zi D cI cZ ad ln L A below args s0 0 0) 61 [(0, .ref (ad 12)), (1, .int x1), (2, .int x2), (3, .int x3), (4, .int x4)] [] s (kb61 x1 x2 x3 x4 s)) : ∀ (x1 : Int32) (x2 : Int32) (x3 : Int32) (x4 : Int32) (z0 : Int32) (z1 : Int32) (s : dr_S), dr_G p l e (dr_rm 3) s0 m args below meth c 0 0 A s0.heap D cI cZ ad ln L 9 (dr_Zi D cI cZ ad ln L A below args s0 0 0) 109 [(0, .ref (ad 12)), (1, .int x1), (2, .int x2), (3, .int x3), (4, .int x4)] [.int z0, .int z1, .ref (ad 32)] s (f_X12_night_p109 ln kb61 x1 x2 x3 x4 z0 z1 s) := by
  intro x1 x2 x3 x4 z0 z1 s
  unfold f_X12_night_p109
  refine g_iastore E (hN 32 (by decide)) (by decide) rfl dX12_night_109 (fun s11 => ?_)
  refine g_iconst E (v := 0) dX12_night_110 (by decide) ?_
  refine g_istore E (lv' := [(5, .int 0), (0, .ref (ad 12)), (1, .int x1), (2, .int x2), (3, .int x3), (4, .int x4)]) dX12_night_111 (by decide) rfl ?_
  refine g_sub [1, 2, 3, 4, 5, 0] rfl ?_
  exact w_X12_night_p113 E hap hN hkb61 dr_N x1 x2 x3 x4 0 s11
set_option maxHeartbeats 4000000 in
set_option maxRecDepth 20000 in
theorem w_X12_night_p75 {kb61 : Int32 → Int32 → Int32 → Int32 → dr_S → Option (Int32 × dr_S)} (E : dr_E p (dr_rm 3) s0 m args meth c 0 0 A s0.heap D cI cZ ad L cX12_night 9 RX12 (some .int)) (hap : dr_ap ad L) (hN : ∀ x ∈ nd_12, x ∈ L) (hkb61 : ∀ (x1 : Int32) (x2 : Int32) (x3 : Int32) (x4 : Int32) (s : dr_S), dr_G p l e (dr_rm 3) s0 m args below meth c 0 0 A s0.heap D cI cZ ad ln L 9 (dr_Zi D cI cZ ad ln L A below args s0 0 0) 61 [(0, .ref (ad 12)), (1, .int x1), (2, .int x2), (3, .int x3), (4, .int x4)] [] s (kb61 x1 x2 x3 x4 s)) : ∀ (x1 : Int32) (x2 : Int32) (x3 : Int32) (x4 : Int32) (s : dr_S), dr_G p l e (dr_rm 3) s0 m args below meth c 0 0 A s0.heap D cI cZ ad ln L 9 (dr_Zi D cI cZ ad ln L A below args s0 0 0) 75 [(0, .ref (ad 12)), (1, .int x1), (2, .int x2), (3, .int x3), (4, .int x4)] [] s (f_X12_night_p75 ln kb61 x1 x2 x3 x4 s) := by
  intro x1 x2 x3 x4 s
  unfold f_X12_night_p75
  refine g_aload_n E dX12_night_75 0 rfl ?_
  refine gg_12_17 E (hN 12 (by decide)) dX12_night_76 ?_
  refine g_iload_n E dX12_night_79 3 rfl ?_
  refine g_iconst E (v := 1) dX12_night_80 (by decide) ?_
  refine g_bastore E (hN 30 (by decide)) (by decide) rfl dX12_night_81 (fun s10 => ?_)
  refine g_aload_n E dX12_night_82 0 rfl ?_
  refine gg_12_23 E (hN 12 (by decide)) dX12_night_83 ?_
  refine g_iload_n E dX12_night_86 3 rfl ?_
  refine g_aload_n E dX12_night_87 0 rfl ?_
  refine gg_12_271 E (hN 12 (by decide)) dX12_night_88 ?_
  refine g_iload E dX12_night_91 4 rfl ?_
  refine g_isub E dX12_night_93 ?_
  refine g_iload_n E dX12_night_94 1 rfl ?_
  refine g_icmp_ge E 108 dX12_night_95 (by decide) ?_ ?_
  · refine g_iload_n E dX12_night_108 1 rfl ?_
    refine g_sub [0, 1, 2, 3, 4] rfl ?_
    exact w_X12_night_p109 E hap hN hkb61 x1 x2 x3 x4 x1 x3 s10
  · refine g_aload_n E dX12_night_98 0 rfl ?_
    refine gg_12_271 E (hN 12 (by decide)) dX12_night_99 ?_
    refine g_iload E dX12_night_102 4 rfl ?_
    refine g_isub E dX12_night_104 ?_
    refine g_goto E 109 dX12_night_105 (by decide) ?_
    refine g_sub [0, 1, 2, 3, 4] rfl ?_
    exact w_X12_night_p109 E hap hN hkb61 x1 x2 x3 x4 (((s10.2 1242) - x4)) x3 s10
set_option maxHeartbeats 4000000 in
set_option maxRecDepth 20000 in
theorem w_X12_night_p61 (E : dr_E p (dr_rm 3) s0 m args meth c 0 0 A s0.heap D cI cZ ad L cX12_night 9 RX12 (some .int)) (hap : dr_ap ad L) (hN : ∀ x ∈ nd_12, x ∈ L) : ∀ (n : Nat) (x1 : Int32) (x2 : Int32) (x3 : Int32) (x4 : Int32) (s : dr_S), dr_G p l e (dr_rm 3) s0 m args below meth c 0 0 A s0.heap D cI cZ ad ln L 9 (dr_Zi D cI cZ ad ln L A below args s0 0 0) 61 [(0, .ref (ad 12)), (1, .int x1), (2, .int x2), (3, .int x3), (4, .int x4)] [] s (f_X12_night_p61 ln n x1 x2 x3 x4 s) := by
  intro n
  induction n with
  | zero =>
    intro x1 x2 x3 x4 s
    rw [f_X12_night_p61]
    exact g_none
  | succ n hkb61 =>
    intro x1 x2 x3 x4 s
    rw [f_X12_night_p61]
    refine g_iload E dX12_night_61 4 rfl ?_
    refine g_aload_n E dX12_night_63 0 rfl ?_
    refine gg_12_271 E (hN 12 (by decide)) dX12_night_64 ?_
    refine g_icmp_lt E 75 dX12_night_67 (by decide) ?_ ?_
    · refine g_sub [0, 1, 2, 3, 4] rfl ?_
      exact w_X12_night_p75 E hap hN hkb61 x1 x2 x3 x4 s
    · refine g_iload E dX12_night_70 4 rfl ?_
      refine g_if_ne E 201 dX12_night_72 (by decide) ?_ ?_
      · refine g_aload_n E dX12_night_201 0 rfl ?_
        refine g_iload_n E dX12_night_202 2 rfl ?_
        refine g_iload_n E dX12_night_203 3 rfl ?_
        refine g_cVv E [.int x2, .int x3] rfl (c_X12_binds hap hN x2 x3 s) (hN 12 (by decide)) (by decide) rfl rfl mi_X12_binds msl_X12_binds mw_X12_binds rfl ml_12_329 ⟨Nat.le_of_ble_eq_true rfl, Nat.le_of_ble_eq_true rfl⟩ (Nat.le_of_ble_eq_true rfl) dX12_night_204 (fun s9 => ?_)
        refine g_iconst E (v := 0) dX12_night_207 (by decide) ?_
        refine g_istore E (lv' := [(4, .int 0), (0, .ref (ad 12)), (1, .int x1), (2, .int x2), (3, .int x3)]) dX12_night_208 (by decide) rfl ?_
        refine g_sub [1, 2, 3, 4, 0] rfl ?_
        exact w_X12_night_p210 E hap hN dr_N x1 x2 x3 0 s9
      · refine g_sub [0, 1, 2, 3, 4] rfl ?_
        exact w_X12_night_p75 E hap hN hkb61 x1 x2 x3 x4 s
set_option maxHeartbeats 4000000 in
set_option maxRecDepth 20000 in
theorem w_X12_night_p36 (E : dr_E p (dr_rm 3) s0 m args meth c 0 0 A s0.heap D cI cZ ad L cX12_night 9 RX12 (some .int)) (hap : dr_ap ad L) (hN : ∀ x ∈ nd_12, x ∈ L) : ∀ (n : Nat) (x1 : Int32) (x2 : Int32) (s : dr_S), dr_G p l e (dr_rm 3) s0 m args below meth c 0 0 A s0.heap D cI cZ ad ln L 9 (dr_Zi D cI cZ ad ln L A below args s0 0 0) 36 [(0, .ref (ad 12)), (1, .int x1), (2, .int x2)] [] s (f_X12_night_p36 ln n x1 x2 s) := by
  intro n
  induction n with
  | zero =>
    intro x1 x2 s
    rw [f_X12_night_p36]
    exact g_none
  | succ n hkb36 =>
    intro x1 x2 s
    rw [f_X12_night_p36]
    refine g_iload_n E dX12_night_36 2 rfl ?_
    refine g_sipush E (v := 256) dX12_night_37 (by decide) ?_
    refine g_icmp_ge E 54 dX12_night_40 (by decide) ?_ ?_
    · refine g_iconst E (v := 0) dX12_night_54 (by decide) ?_
      refine g_istore_n E (lv' := [(2, .int 0), (0, .ref (ad 12)), (1, .int x1)]) dX12_night_55 (by decide) rfl ?_
      refine g_iconst E (v := 0) dX12_night_56 (by decide) ?_
      refine g_istore_n E (lv' := [(3, .int 0), (2, .int 0), (0, .ref (ad 12)), (1, .int x1)]) dX12_night_57 (by decide) rfl ?_
      refine g_iconst E (v := 0) dX12_night_58 (by decide) ?_
      refine g_istore E (lv' := [(4, .int 0), (3, .int 0), (2, .int 0), (0, .ref (ad 12)), (1, .int x1)]) dX12_night_59 (by decide) rfl ?_
      refine g_sub [3, 4, 2, 1, 0] rfl ?_
      exact w_X12_night_p61 E hap hN dr_N x1 0 0 0 s
    · refine g_aload_n E dX12_night_43 0 rfl ?_
      refine g_iload_n E dX12_night_44 2 rfl ?_
      refine g_cVv E [.int x2] rfl (c_X12_clears hap hN x2 s) (hN 12 (by decide)) (by decide) rfl rfl mi_X12_clears msl_X12_clears mw_X12_clears rfl ml_12_156 ⟨Nat.le_of_ble_eq_true rfl, Nat.le_of_ble_eq_true rfl⟩ (Nat.le_of_ble_eq_true rfl) dX12_night_45 (fun s7 => ?_)
      refine g_iinc E (lv' := []) (lv'' := fun y8 => [(2, .int y8), (0, .ref (ad 12)), (1, .int x1)]) (v := 1) dX12_night_48 2 rfl (by decide) (by decide) (fun _ => rfl) (fun y8 => ?_)
      refine g_goto E 36 dX12_night_51 (by decide) ?_
      refine g_sub [1, 2, 0] rfl ?_
      exact hkb36 x1 y8 s7
set_option maxHeartbeats 4000000 in
set_option maxRecDepth 20000 in
theorem c_X12_night (hap : dr_ap ad L) (hN : ∀ x ∈ nd_12, x ∈ L) (x1 : Int32) (s : dr_S) : dr_Mi l D cI cZ ad ln L yX12_night cX12_night 9 (some .int) 3 [.ref (ad 12), .int x1] s (f_X12_night ln x1 s) := by
  refine dr_meti (own := RX12) (by decide) rfl (Nat.le_of_ble_eq_true rfl) hap ?_
  intro p e s0 m args below meth c A E
  unfold f_X12_night
  refine g_eqL (lv' := [(0, .ref (ad 12)), (1, .int x1)]) rfl ?_
  refine g_iload_n E dX12_night_0 1 rfl ?_
  refine g_aload_n E dX12_night_1 0 rfl ?_
  refine gg_12_152 E (hN 12 (by decide)) dX12_night_2 ?_
  refine g_iconst E (v := 2) dX12_night_5 (by decide) ?_
  refine g_aload_n E dX12_night_6 0 rfl ?_
  refine gg_12_152 E (hN 12 (by decide)) dX12_night_7 ?_
  refine g_imul E dX12_night_10 ?_
  refine g_cSi E [.int x1, .int (s.2 1200), .int (2 * (s.2 1200))] rfl (c_X12_in hap hN x1 ((s.2 1200)) ((2 * (s.2 1200))) s) ms_X12_in mw_X12_in rfl ml_12_160 ⟨Nat.le_of_ble_eq_true rfl, Nat.le_of_ble_eq_true rfl⟩ (Nat.le_of_ble_eq_true rfl) dX12_night_11 (fun r2 s1 => ?_)
  refine g_if_eq E 24 dX12_night_14 (by decide) ?_ ?_
  · refine g_iconst E (v := (-1)) dX12_night_24 (by decide) ?_
    exact g_iret E dX12_night_25
  · refine g_aload_n E dX12_night_17 0 rfl ?_
    refine g_cVi E [] rfl (c_X12_atJobs hap hN  s1) (hN 12 (by decide)) (by decide) rfl rfl mi_X12_atJobs msl_X12_atJobs mw_X12_atJobs rfl ml_12_307 ⟨Nat.le_of_ble_eq_true rfl, Nat.le_of_ble_eq_true rfl⟩ (Nat.le_of_ble_eq_true rfl) dX12_night_18 (fun r4 s3 => ?_)
    refine g_if_le E 26 dX12_night_21 (by decide) ?_ ?_
    · refine g_aload_n E dX12_night_26 0 rfl ?_
      refine g_cVv E [] rfl (c_X12_lists hap hN  s3) (hN 12 (by decide)) (by decide) rfl rfl mi_X12_lists msl_X12_lists mw_X12_lists rfl ml_12_274 ⟨Nat.le_of_ble_eq_true rfl, Nat.le_of_ble_eq_true rfl⟩ (Nat.le_of_ble_eq_true rfl) dX12_night_27 (fun s5 => ?_)
      refine g_aload_n E dX12_night_30 0 rfl ?_
      refine g_cVv E [] rfl (c_X12_sorts hap hN  s5) (hN 12 (by decide)) (by decide) rfl rfl mi_X12_sorts msl_X12_sorts mw_X12_sorts rfl ml_12_326 ⟨Nat.le_of_ble_eq_true rfl, Nat.le_of_ble_eq_true rfl⟩ (Nat.le_of_ble_eq_true rfl) dX12_night_31 (fun s6 => ?_)
      refine g_iconst E (v := 0) dX12_night_34 (by decide) ?_
      refine g_istore_n E (lv' := [(2, .int 0), (0, .ref (ad 12)), (1, .int x1)]) dX12_night_35 (by decide) rfl ?_
      refine g_sub [1, 2, 0] rfl ?_
      exact w_X12_night_p36 E hap hN dr_N x1 0 s6
    · refine g_iconst E (v := (-1)) dX12_night_24 (by decide) ?_
      exact g_iret E dX12_night_25
end

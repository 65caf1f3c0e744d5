theorem dX12_there_0 : decode cX12_there 0 = .ok (.iload_n 1, 1) := by decide +kernel
theorem dX12_there_1 : decode cX12_there 1 = .ok (.invokestatic 185, 3) := by decide +kernel
theorem dX12_there_4 : decode cX12_there 4 = .ok (.ifCond .eq 22, 3) := by decide +kernel
theorem dX12_there_7 : decode cX12_there 7 = .ok (.iload_n 2, 1) := by decide +kernel
theorem dX12_there_8 : decode cX12_there 8 = .ok (.invokestatic 185, 3) := by decide +kernel
theorem dX12_there_11 : decode cX12_there 11 = .ok (.ifCond .eq 15, 3) := by decide +kernel
theorem dX12_there_14 : decode cX12_there 14 = .ok (.iload_n 3, 1) := by decide +kernel
theorem dX12_there_15 : decode cX12_there 15 = .ok (.iconst 0, 1) := by decide +kernel
theorem dX12_there_16 : decode cX12_there 16 = .ok (.aload_n 0, 1) := by decide +kernel
theorem dX12_there_17 : decode cX12_there 17 = .ok (.getfield 199, 3) := by decide +kernel
theorem dX12_there_20 : decode cX12_there 20 = .ok (.invokestatic 160, 3) := by decide +kernel
theorem dX12_there_23 : decode cX12_there 23 = .ok (.ifCond .ne 5, 3) := by decide +kernel
theorem dX12_there_26 : decode cX12_there 26 = .ok (.iconst (-1), 1) := by decide +kernel
theorem dX12_there_27 : decode cX12_there 27 = .ok (.ireturn, 1) := by decide +kernel
theorem dX12_there_28 : decode cX12_there 28 = .ok (.iconst 0, 1) := by decide +kernel
theorem dX12_there_29 : decode cX12_there 29 = .ok (.istore 4, 2) := by decide +kernel
theorem dX12_there_31 : decode cX12_there 31 = .ok (.iconst 0, 1) := by decide +kernel
theorem dX12_there_32 : decode cX12_there 32 = .ok (.istore 5, 2) := by decide +kernel
theorem dX12_there_34 : decode cX12_there 34 = .ok (.iload 5, 2) := by decide +kernel
theorem dX12_there_36 : decode cX12_there 36 = .ok (.aload_n 0, 1) := by decide +kernel
theorem dX12_there_37 : decode cX12_there 37 = .ok (.getfield 247, 3) := by decide +kernel
theorem dX12_there_40 : decode cX12_there 40 = .ok (.if_icmp .ge 136, 3) := by decide +kernel
theorem dX12_there_43 : decode cX12_there 43 = .ok (.aload_n 0, 1) := by decide +kernel
theorem dX12_there_44 : decode cX12_there 44 = .ok (.getfield 101, 3) := by decide +kernel
theorem dX12_there_47 : decode cX12_there 47 = .ok (.iload 5, 2) := by decide +kernel
theorem dX12_there_49 : decode cX12_there 49 = .ok (.iaload, 1) := by decide +kernel
theorem dX12_there_50 : decode cX12_there 50 = .ok (.istore 6, 2) := by decide +kernel
theorem dX12_there_52 : decode cX12_there 52 = .ok (.aload_n 0, 1) := by decide +kernel
theorem dX12_there_53 : decode cX12_there 53 = .ok (.getfield 104, 3) := by decide +kernel
theorem dX12_there_56 : decode cX12_there 56 = .ok (.iload 5, 2) := by decide +kernel
theorem dX12_there_58 : decode cX12_there 58 = .ok (.baload, 1) := by decide +kernel
theorem dX12_there_59 : decode cX12_there 59 = .ok (.ifCond .eq 111, 3) := by decide +kernel
theorem dX12_there_62 : decode cX12_there 62 = .ok (.aload_n 0, 1) := by decide +kernel
theorem dX12_there_63 : decode cX12_there 63 = .ok (.getfield 98, 3) := by decide +kernel
theorem dX12_there_66 : decode cX12_there 66 = .ok (.iload 5, 2) := by decide +kernel
theorem dX12_there_68 : decode cX12_there 68 = .ok (.iaload, 1) := by decide +kernel
theorem dX12_there_69 : decode cX12_there 69 = .ok (.iload_n 3, 1) := by decide +kernel
theorem dX12_there_70 : decode cX12_there 70 = .ok (.if_icmp .gt 100, 3) := by decide +kernel
theorem dX12_there_73 : decode cX12_there 73 = .ok (.aload_n 0, 1) := by decide +kernel
theorem dX12_there_74 : decode cX12_there 74 = .ok (.iload 6, 2) := by decide +kernel
theorem dX12_there_76 : decode cX12_there 76 = .ok (.iload_n 1, 1) := by decide +kernel
theorem dX12_there_77 : decode cX12_there 77 = .ok (.invokevirtual 188, 3) := by decide +kernel
theorem dX12_there_80 : decode cX12_there 80 = .ok (.ifCond .ne 90, 3) := by decide +kernel
theorem dX12_there_83 : decode cX12_there 83 = .ok (.aload_n 0, 1) := by decide +kernel
theorem dX12_there_84 : decode cX12_there 84 = .ok (.iload_n 2, 1) := by decide +kernel
theorem dX12_there_85 : decode cX12_there 85 = .ok (.iload 6, 2) := by decide +kernel
theorem dX12_there_87 : decode cX12_there 87 = .ok (.invokevirtual 188, 3) := by decide +kernel
theorem dX12_there_90 : decode cX12_there 90 = .ok (.ifCond .eq 6, 3) := by decide +kernel
theorem dX12_there_93 : decode cX12_there 93 = .ok (.goto 77, 3) := by decide +kernel
theorem dX12_there_96 : decode cX12_there 96 = .ok (.iconst 1, 1) := by decide +kernel
theorem dX12_there_97 : decode cX12_there 97 = .ok (.istore 7, 2) := by decide +kernel
theorem dX12_there_99 : decode cX12_there 99 = .ok (.iload 5, 2) := by decide +kernel
theorem dX12_there_101 : decode cX12_there 101 = .ok (.iconst 1, 1) := by decide +kernel
theorem dX12_there_102 : decode cX12_there 102 = .ok (.iadd, 1) := by decide +kernel
theorem dX12_there_103 : decode cX12_there 103 = .ok (.istore 8, 2) := by decide +kernel
theorem dX12_there_105 : decode cX12_there 105 = .ok (.iload 8, 2) := by decide +kernel
theorem dX12_there_107 : decode cX12_there 107 = .ok (.aload_n 0, 1) := by decide +kernel
theorem dX12_there_108 : decode cX12_there 108 = .ok (.getfield 247, 3) := by decide +kernel
theorem dX12_there_111 : decode cX12_there 111 = .ok (.if_icmp .ge 44, 3) := by decide +kernel
theorem dX12_there_114 : decode cX12_there 114 = .ok (.iload 7, 2) := by decide +kernel
theorem dX12_there_116 : decode cX12_there 116 = .ok (.ifCond .eq 30, 3) := by decide +kernel
theorem dX12_there_119 : decode cX12_there 119 = .ok (.aload_n 0, 1) := by decide +kernel
theorem dX12_there_120 : decode cX12_there 120 = .ok (.getfield 101, 3) := by decide +kernel
theorem dX12_there_123 : decode cX12_there 123 = .ok (.iload 8, 2) := by decide +kernel
theorem dX12_there_125 : decode cX12_there 125 = .ok (.iaload, 1) := by decide +kernel
theorem dX12_there_126 : decode cX12_there 126 = .ok (.iload 6, 2) := by decide +kernel
theorem dX12_there_128 : decode cX12_there 128 = .ok (.if_icmp .ne 14, 3) := by decide +kernel
theorem dX12_there_131 : decode cX12_there 131 = .ok (.aload_n 0, 1) := by decide +kernel
theorem dX12_there_132 : decode cX12_there 132 = .ok (.getfield 98, 3) := by decide +kernel
theorem dX12_there_135 : decode cX12_there 135 = .ok (.iload 8, 2) := by decide +kernel
theorem dX12_there_137 : decode cX12_there 137 = .ok (.iaload, 1) := by decide +kernel
theorem dX12_there_138 : decode cX12_there 138 = .ok (.iload_n 3, 1) := by decide +kernel
theorem dX12_there_139 : decode cX12_there 139 = .ok (.if_icmp .le 7, 3) := by decide +kernel
theorem dX12_there_142 : decode cX12_there 142 = .ok (.iconst 1, 1) := by decide +kernel
theorem dX12_there_143 : decode cX12_there 143 = .ok (.goto 4, 3) := by decide +kernel
theorem dX12_there_146 : decode cX12_there 146 = .ok (.iconst 0, 1) := by decide +kernel
theorem dX12_there_147 : decode cX12_there 147 = .ok (.istore 7, 2) := by decide +kernel
theorem dX12_there_149 : decode cX12_there 149 = .ok (.iinc 8 1, 3) := by decide +kernel
theorem dX12_there_152 : decode cX12_there 152 = .ok (.goto (-47), 3) := by decide +kernel
theorem dX12_there_155 : decode cX12_there 155 = .ok (.iload 4, 2) := by decide +kernel
theorem dX12_there_157 : decode cX12_there 157 = .ok (.iload 7, 2) := by decide +kernel
theorem dX12_there_159 : decode cX12_there 159 = .ok (.ifCond .eq 7, 3) := by decide +kernel
theorem dX12_there_162 : decode cX12_there 162 = .ok (.iconst 1, 1) := by decide +kernel
theorem dX12_there_163 : decode cX12_there 163 = .ok (.goto 4, 3) := by decide +kernel
theorem dX12_there_166 : decode cX12_there 166 = .ok (.iconst 0, 1) := by decide +kernel
theorem dX12_there_167 : decode cX12_there 167 = .ok (.iadd, 1) := by decide +kernel
theorem dX12_there_168 : decode cX12_there 168 = .ok (.istore 4, 2) := by decide +kernel
theorem dX12_there_170 : decode cX12_there 170 = .ok (.iinc 5 1, 3) := by decide +kernel
theorem dX12_there_173 : decode cX12_there 173 = .ok (.goto (-139), 3) := by decide +kernel
theorem dX12_there_176 : decode cX12_there 176 = .ok (.iload 4, 2) := by decide +kernel
theorem dX12_there_178 : decode cX12_there 178 = .ok (.ireturn, 1) := by decide +kernel
def f_X12_there_p170 (ln : Nat → Nat) (kb34 : Int32 → Int32 → Int32 → Int32 → Int32 → dr_S → Option (Int32 × dr_S)) (x1 : Int32) (x2 : Int32) (x3 : Int32) (x4 : Int32) (x5 : Int32) (s : dr_S) : Option (Int32 × dr_S) := dr_let (x5 + 1) (fun y15 => (kb34 x1 x2 x3 x4 y15 s))
def f_X12_there_p167 (ln : Nat → Nat) (kb34 : Int32 → Int32 → Int32 → Int32 → Int32 → dr_S → Option (Int32 × dr_S)) (x1 : Int32) (x2 : Int32) (x3 : Int32) (x5 : Int32) (z0 : Int32) (z1 : Int32) (s : dr_S) : Option (Int32 × dr_S) := dr_let (z1 + z0) (fun y19 => (f_X12_there_p170 ln kb34 x1 x2 x3 y19 x5 s))
def f_X12_there_p147 (ln : Nat → Nat) (kb34 : Int32 → Int32 → Int32 → Int32 → Int32 → dr_S → Option (Int32 × dr_S)) (kb105 : Int32 → Int32 → Int32 → Int32 → Int32 → Int32 → Int32 → Int32 → dr_S → Option (Int32 × dr_S)) (x1 : Int32) (x2 : Int32) (x3 : Int32) (x4 : Int32) (x5 : Int32) (x6 : Int32) (x8 : Int32) (z0 : Int32) (s : dr_S) : Option (Int32 × dr_S) := dr_let (x8 + 1) (fun y18 => (kb105 x1 x2 x3 x4 x5 x6 z0 y18 s))
def f_X12_there_p146 (ln : Nat → Nat) (kb34 : Int32 → Int32 → Int32 → Int32 → Int32 → dr_S → Option (Int32 × dr_S)) (kb105 : Int32 → Int32 → Int32 → Int32 → Int32 → Int32 → Int32 → Int32 → dr_S → Option (Int32 × dr_S)) (x1 : Int32) (x2 : Int32) (x3 : Int32) (x4 : Int32) (x5 : Int32) (x6 : Int32) (x8 : Int32) (s : dr_S) : Option (Int32 × dr_S) := (f_X12_there_p147 ln kb34 kb105 x1 x2 x3 x4 x5 x6 x8 0 s)
def f_X12_there_p142 (ln : Nat → Nat) (kb34 : Int32 → Int32 → Int32 → Int32 → Int32 → dr_S → Option (Int32 × dr_S)) (kb105 : Int32 → Int32 → Int32 → Int32 → Int32 → Int32 → Int32 → Int32 → dr_S → Option (Int32 × dr_S)) (x1 : Int32) (x2 : Int32) (x3 : Int32) (x4 : Int32) (x5 : Int32) (x6 : Int32) (x8 : Int32) (s : dr_S) : Option (Int32 × dr_S) := (f_X12_there_p147 ln kb34 kb105 x1 x2 x3 x4 x5 x6 x8 1 s)
def f_X12_there_p105 (ln : Nat → Nat) (kb34 : Int32 → Int32 → Int32 → Int32 → Int32 → dr_S → Option (Int32 × dr_S)) : Nat → Int32 → Int32 → Int32 → Int32 → Int32 → Int32 → Int32 → Int32 → dr_S → Option (Int32 × dr_S)
  | 0, _, _, _, _, _, _, _, _, _ => none
  | n + 1, x1, x2, x3, x4, x5, x6, x7, x8, s => (if (s.2 1234) ≤ x8 then (if x7 = 0 then (f_X12_there_p167 ln kb34 x1 x2 x3 x5 0 x4 s) else (f_X12_there_p167 ln kb34 x1 x2 x3 x5 1 x4 s)) else (if x7 = 0 then (f_X12_there_p146 ln kb34 (f_X12_there_p105 ln kb34 n) x1 x2 x3 x4 x5 x6 x8 s) else (dr_rd ln s 58 x8).bind (fun v16 => (if v16 = x6 then (dr_rd ln s 57 x8).bind (fun v17 => (if v17 ≤ x3 then (f_X12_there_p146 ln kb34 (f_X12_there_p105 ln kb34 n) x1 x2 x3 x4 x5 x6 x8 s) else (f_X12_there_p142 ln kb34 (f_X12_there_p105 ln kb34 n) x1 x2 x3 x4 x5 x6 x8 s))) else (f_X12_there_p142 ln kb34 (f_X12_there_p105 ln kb34 n) x1 x2 x3 x4 x5 x6 x8 s)))))
def f_X12_there_p34 (ln : Nat → Nat) : Nat → Int32 → Int32 → Int32 → Int32 → Int32 → dr_S → Option (Int32 × dr_S)
  | 0, _, _, _, _, _, _ => none
  | n + 1, x1, x2, x3, x4, x5, s => (if (s.2 1234) ≤ x5 then some (x4, s) else (dr_rd ln s 58 x5).bind (fun v7 => (dr_rd ln s 59 x5).bind (fun v8 => (if v8 = 0 then (f_X12_there_p170 ln (f_X12_there_p34 ln n) x1 x2 x3 x4 x5 s) else (dr_rd ln s 57 x5).bind (fun v9 => (if x3 < v9 then (f_X12_there_p170 ln (f_X12_there_p34 ln n) x1 x2 x3 x4 x5 s) else dr_bnd (f_X12_isAhead ln v7 x1 s) (fun r11 s10 => (if r11 = 0 then dr_bnd (f_X12_isAhead ln x2 v7 s10) (fun r13 s12 => (if r13 = 0 then dr_let (x5 + 1) (fun y14 => (f_X12_there_p105 ln (f_X12_there_p34 ln n) dr_N x1 x2 x3 x4 x5 v7 1 y14 s12)) else (f_X12_there_p170 ln (f_X12_there_p34 ln n) x1 x2 x3 x4 x5 s12))) else (f_X12_there_p170 ln (f_X12_there_p34 ln n) x1 x2 x3 x4 x5 s10)))))))))
def f_X12_there (ln : Nat → Nat) (x1 : Int32) (x2 : Int32) (x3 : Int32) (s : dr_S) : Option (Int32 × dr_S) := dr_bnd (f_X12_isHeading ln x1 s) (fun r2 s1 => (if r2 = 0 then some ((-1), s1) else dr_bnd (f_X12_isHeading ln x2 s1) (fun r4 s3 => (if r4 = 0 then some ((-1), s3) else dr_bnd (f_X12_in ln x3 0 ((s3.2 1204)) s3) (fun r6 s5 => (if r6 = 0 then some ((-1), s5) else (f_X12_there_p34 ln dr_N x1 x2 x3 0 0 s5)))))))
section
variable {p : Program} {l : Launch} {e : Env} {s0 : State} {m : MethodId} {args : Array Value} {below : List Frame} {meth : Method} {c : Code} {A : Nat → Prop} {D : va_G} {cI cZ : ClassId} {ad ln : Nat → Nat} {L : List Nat}
set_option maxHeartbeats 4000000 in
set_option maxRecDepth 20000 in
theorem w_X12_there_p170 {kb34 : Int32 → Int32 → Int32 → Int32 → Int32 → dr_S → Option (Int32 × dr_S)} (E : dr_E p (dr_rm 2) s0 m args meth c 0 0 A s0.heap D cI cZ ad L cX12_there 9 RX12 (some .int)) (hap : dr_ap ad L) (hN : ∀ x ∈ nd_12, x ∈ L) (hkb34 : ∀ (x1 : Int32) (x2 : Int32) (x3 : Int32) (x4 : Int32) (x5 : Int32) (s : dr_S), dr_G p l e (dr_rm 2) s0 m args below meth c 0 0 A s0.heap D cI cZ ad ln L 9 (dr_Zi D cI cZ ad ln L A below args s0 0 0) 34 [(0, .ref (ad 12)), (1, .int x1), (2, .int x2), (3, .int x3), (4, .int x4), (5, .int x5)] [] s (kb34 x1 x2 x3 x4 x5 s)) : ∀ (x1 : Int32) (x2 : Int32) (x3 : Int32) (x4 : Int32) (x5 : Int32) (s : dr_S), dr_G p l e (dr_rm 2) s0 m args below meth c 0 0 A s0.heap D cI cZ ad ln L 9 (dr_Zi D cI cZ ad ln L A below args s0 0 0) 170 [(0, .ref (ad 12)), (1, .int x1), (2, .int x2), (3, .int x3), (4, .int x4), (5, .int x5)] [] s (f_X12_there_p170 ln kb34 x1 x2 x3 x4 x5 s) := by
  intro x1 x2 x3 x4 x5 s
  unfold f_X12_there_p170
  refine g_iinc E (lv' := []) (lv'' := fun y15 => [(5, .int y15), (0, .ref (ad 12)), (1, .int x1), (2, .int x2), (3, .int x3), (4, .int x4)]) (v := 1) dX12_there_170 5 rfl (by decide) (by decide) (fun _ => rfl) (fun y15 => ?_)
  refine g_goto E 34 dX12_there_173 (by decide) ?_
  refine g_sub [1, 2, 3, 4, 5, 0] rfl ?_
  exact hkb34 x1 x2 x3 x4 y15 s
set_option maxHeartbeats 4000000 in
set_option maxRecDepth 20000 in
theorem w_X12_there_p167 {kb34 : Int32 → Int32 → Int32 → Int32 → Int32 → dr_S → Option (Int32 × dr_S)} (E : dr_E p (dr_rm 2) s0 m args meth c 0 0 A s0.heap D cI cZ ad L cX12_there 9 RX12 (some .int)) (hap : dr_ap ad L) (hN : ∀ x ∈ nd_12, x ∈ L) (hkb34 : ∀ (x1 : Int32) (x2 : Int32) (x3 : Int32) (x4 : Int32) (x5 : Int32) (s : dr_S), dr_G p l e (dr_rm 2) s0 m args below meth c 0 0 A s0.heap D cI cZ ad ln L 9 (dr_Zi D cI cZ ad ln L A below args s0 0 0) 34 [(0, .ref (ad 12)), (1, .int x1), (2, .int x2), (3, .int x3), (4, .int x4), (5, .int x5)] [] s (kb34 x1 x2 x3 x4 x5 s)) : ∀ (x1 : Int32) (x2 : Int32) (x3 : Int32) (x5 : Int32) (z0 : Int32) (z1 : Int32) (s : dr_S), dr_G p l e (dr_rm 2) s0 m args below meth c 0 0 A s0.heap D cI cZ ad ln L 9 (dr_Zi D cI cZ ad ln L A below args s0 0 0) 167 [(0, .ref (ad 12)), (1, .int x1), (2, .int x2), (3, .int x3), (5, .int x5)] [.int z0, .int z1] s (f_X12_there_p167 ln kb34 x1 x2 x3 x5 z0 z1 s) := by
  intro x1 x2 x3 x5 z0 z1 s
  unfold f_X12_there_p167
  refine g_iadd E dX12_there_167 ?_
  refine g_let (fun y19 => ?_)
  refine g_istore E (lv' := [(4, .int y19), (0, .ref (ad 12)), (1, .int x1), (2, .int x2), (3, .int x3), (5, .int x5)]) dX12_there_168 (by decide) rfl ?_
  refine g_sub [1, 2, 3, 4, 0, 5] rfl ?_
  exact w_X12_there_p170 E hap hN hkb34 x1 x2 x3 y19 x5 s
set_option maxHeartbeats 4000000 in
set_option maxRecDepth 20000 in
theorem w_X12_there_p147 {kb34 : Int32 → Int32 → Int32 → Int32 → Int32 → dr_S → Option (Int32 × dr_S)} {kb105 : Int32 → Int32 → Int32 → Int32 → Int32 → Int32 → Int32 → Int32 → dr_S → Option (Int32 × dr_S)} (E : dr_E p (dr_rm 2) s0 m args meth c 0 0 A s0.heap D cI cZ ad L cX12_there 9 RX12 (some .int)) (hap : dr_ap ad L) (hN : ∀ x ∈ nd_12, x ∈ L) (hkb34 : ∀ (x1 : Int32) (x2 : Int32) (x3 : Int32) (x4 : Int32) (x5 : Int32) (s : dr_S), dr_G p l e (dr_rm 2) s0 m args below meth c 0 0 A s0.heap D cI cZ ad ln L 9 (dr_Zi D cI cZ ad ln L A below args s0 0 0) 34 [(0, .ref (ad 12)), (1, .int x1), (2, .int x2), (3, .int x3), (4, .int x4), (5, .int x5)] [] s (kb34 x1 x2 x3 x4 x5 s)) (hkb105 : ∀ (x1 : Int32) (x2 : Int32) (x3 : Int32) (x4 : Int32) (x5 : Int32) (x6 : Int32) (x7 : Int32) (x8 : Int32) (s : dr_S), dr_G p l e (dr_rm 2) s0 m args below meth c 0 0 A s0.heap D cI cZ ad ln L 9 (dr_Zi D cI cZ ad ln L A below args s0 0 0) 105 [(0, .ref (ad 12)), (1, .int x1), (2, .int x2), (3, .int x3), (4, .int x4), (5, .int x5), (6, .int x6), (7, .int x7), (8, .int x8)] [] s (kb105 x1 x2 x3 x4 x5 x6 x7 x8 s)) : ∀ (x1 : Int32) (x2 : Int32) (x3 : Int32) (x4 : Int32) (x5 : Int32) (x6 : Int32) (x8 : Int32) (z0 : Int32) (s : dr_S), dr_G p l e (dr_rm 2) s0 m args below meth c 0 0 A s0.heap D cI cZ ad ln L 9 (dr_Zi D cI cZ ad ln L A below args s0 0 0) 147 [(0, .ref (ad 12)), (1, .int x1), (2, .int x2), (3, .int x3), (4, .int x4), (5, .int x5), (6, .int x6), (8, .int x8)] [.int z0] s (f_X12_there_p147 ln kb34 kb105 x1 x2 x3 x4 x5 x6 x8 z0 s) := by
  intro x1 x2 x3 x4 x5 x6 x8 z0 s
  unfold f_X12_there_p147
  refine g_istore E (lv' := [(7, .int z0), (0, .ref (ad 12)), (1, .int x1), (2, .int x2), (3, .int x3), (4, .int x4), (5, .int x5), (6, .int x6), (8, .int x8)]) dX12_there_147 (by decide) rfl ?_
  refine g_iinc E (lv' := []) (lv'' := fun y18 => [(8, .int y18), (7, .int z0), (0, .ref (ad 12)), (1, .int x1), (2, .int x2), (3, .int x3), (4, .int x4), (5, .int x5), (6, .int x6)]) (v := 1) dX12_there_149 8 rfl (by decide) (by decide) (fun _ => rfl) (fun y18 => ?_)
  refine g_goto E 105 dX12_there_152 (by decide) ?_
  refine g_sub [2, 3, 4, 5, 6, 7, 8, 1, 0] rfl ?_
  exact hkb105 x1 x2 x3 x4 x5 x6 z0 y18 s
set_option maxHeartbeats 4000000 in
set_option maxRecDepth 20000 in
theorem w_X12_there_p146 {kb34 : Int32 → Int32 → Int32 → Int32 → Int32 → dr_S → Option (Int32 × dr_S)} {kb105 : Int32 → Int32 → Int32 → Int32 → Int32 → Int32 → Int32 → Int32 → dr_S → Option (Int32 × dr_S)} (E : dr_E p (dr_rm 2) s0 m args meth c 0 0 A s0.heap D cI cZ ad L cX12_there 9 RX12 (some .int)) (hap : dr_ap ad L) (hN : ∀ x ∈ nd_12, x ∈ L) (hkb34 : ∀ (x1 : Int32) (x2 : Int32) (x3 : Int32) (x4 : Int32) (x5 : Int32) (s : dr_S), dr_G p l e (dr_rm 2) s0 m args below meth c 0 0 A s0.heap D cI cZ ad ln L 9 (dr_Zi D cI cZ ad ln L A below args s0 0 0) 34 [(0, .ref (ad 12)), (1, .int x1), (2, .int x2), (3, .int x3), (4, .int x4), (5, .int x5)] [] s (kb34 x1 x2 x3 x4 x5 s)) (hkb105 : ∀ (x1 : Int32) (x2 : Int32) (x3 : Int32) (x4 : Int32) (x5 : Int32) (x6 : Int32) (x7 : Int32) (x8 : Int32) (s : dr_S), dr_G p l e (dr_rm 2) s0 m args below meth c 0 0 A s0.heap D cI cZ ad ln L 9 (dr_Zi D cI cZ ad ln L A below args s0 0 0) 105 [(0, .ref (ad 12)), (1, .int x1), (2, .int x2), (3, .int x3), (4, .int x4), (5, .int x5), (6, .int x6), (7, .int x7), (8, .int x8)] [] s (kb105 x1 x2 x3 x4 x5 x6 x7 x8 s)) : ∀ (x1 : Int32) (x2 : Int32) (x3 : Int32) (x4 : Int32) (x5 : Int32) (x6 : Int32) (x8 : Int32) (s : dr_S), dr_G p l e (dr_rm 2) s0 m args below meth c 0 0 A s0.heap D cI cZ ad ln L 9 (dr_Zi D cI cZ ad ln L A below args s0 0 0) 146 [(0, .ref (ad 12)), (1, .int x1), (2, .int x2), (3, .int x3), (4, .int x4), (5, .int x5), (6, .int x6), (8, .int x8)] [] s (f_X12_there_p146 ln kb34 kb105 x1 x2 x3 x4 x5 x6 x8 s) := by
  intro x1 x2 x3 x4 x5 x6 x8 s
  unfold f_X12_there_p146
  refine g_iconst E (v := 0) dX12_there_146 (by decide) ?_
  refine g_sub [0, 1, 2, 3, 4, 5, 6, 7] rfl ?_
  exact w_X12_there_p147 E hap hN hkb34 hkb105 x1 x2 x3 x4 x5 x6 x8 0 s
set_option maxHeartbeats 4000000 in
set_option maxRecDepth 20000 in
theorem w_X12_there_p142 {kb34 : Int32 → Int32 → Int32 → Int32 → Int32 → dr_S → Option (Int32 × dr_S)} {kb105 : Int32 → Int32 → Int32 → Int32 → Int32 → Int32 → Int32 → Int32 → dr_S → Option (Int32 × dr_S)} (E : dr_E p (dr_rm 2) s0 m args meth c 0 0 A s0.heap D cI cZ ad L cX12_there 9 RX12 (some .int)) (hap : dr_ap ad L) (hN : ∀ x ∈ nd_12, x ∈ L) (hkb34 : ∀ (x1 : Int32) (x2 : Int32) (x3 : Int32) (x4 : Int32) (x5 : Int32) (s : dr_S), dr_G p l e (dr_rm 2) s0 m args below meth c 0 0 A s0.heap D cI cZ ad ln L 9 (dr_Zi D cI cZ ad ln L A below args s0 0 0) 34 [(0, .ref (ad 12)), (1, .int x1), (2, .int x2), (3, .int x3), (4, .int x4), (5, .int x5)] [] s (kb34 x1 x2 x3 x4 x5 s)) (hkb105 : ∀ (x1 : Int32) (x2 : Int32) (x3 : Int32) (x4 : Int32) (x5 : Int32) (x6 : Int32) (x7 : Int32) (x8 : Int32) (s : dr_S), dr_G p l e (dr_rm 2) s0 m args below meth c 0 0 A s0.heap D cI cZ ad ln L 9 (dr_Zi D cI cZ ad ln L A below args s0 0 0) 105 [(0, .ref (ad 12)), (1, .int x1), (2, .int x2), (3, .int x3), (4, .int x4), (5, .int x5), (6, .int x6), (7, .int x7), (8, .int x8)] [] s (kb105 x1 x2 x3 x4 x5 x6 x7 x8 s)) : ∀ (x1 : Int32) (x2 : Int32) (x3 : Int32) (x4 : Int32) (x5 : Int32) (x6 : Int32) (x8 : Int32) (s : dr_S), dr_G p l e (dr_rm 2) s0 m args below meth c 0 0 A s0.heap D cI cZ ad ln L 9 (dr_Zi D cI cZ ad ln L A below args s0 0 0) 142 [(0, .ref (ad 12)), (1, .int x1), (2, .int x2), (3, .int x3), (4, .int x4), (5, .int x5), (6, .int x6), (8, .int x8)] [] s (f_X12_there_p142 ln kb34 kb105 x1 x2 x3 x4 x5 x6 x8 s) := by
  intro x1 x2 x3 x4 x5 x6 x8 s
  unfold f_X12_there_p142
  refine g_iconst E (v := 1) dX12_there_142 (by decide) ?_
  refine g_goto E 147 dX12_there_143 (by decide) ?_
  refine g_sub [0, 1, 2, 3, 4, 5, 6, 7] rfl ?_
  exact w_X12_there_p147 E hap hN hkb34 hkb105 x1 x2 x3 x4 x5 x6 x8 1 s
set_option maxHeartbeats 4000000 in
set_option maxRecDepth 20000 in
theorem w_X12_there_p105 {kb34 : Int32 → Int32 → Int32 → Int32 → Int32 → dr_S → Option (Int32 × dr_S)} (E : dr_E p (dr_rm 2) s0 m args meth c 0 0 A s0.heap D cI cZ ad L cX12_there 9 RX12 (some .int)) (hap : dr_ap ad L) (hN : ∀ x ∈ nd_12, x ∈ L) (hkb34 : ∀ (x1 : Int32) (x2 : Int32) (x3 : Int32) (x4 : Int32) (x5 : Int32) (s : dr_S), dr_G p l e (dr_rm 2) s0 m args below meth c 0 0 A s0.heap D cI cZ ad ln L 9 (dr_Zi D cI cZ ad ln L A below args s0 0 0) 34 [(0, .ref (ad 12)), (1, .int x1), (2, .int x2), (3, .int x3), (4, .int x4), (5, .int x5)] [] s (kb34 x1 x2 x3 x4 x5 s)) : ∀ (n : Nat) (x1 : Int32) (x2 : Int32) (x3 : Int32) (x4 : Int32) (x5 : Int32) (x6 : Int32) (x7 : Int32) (x8 : Int32) (s : dr_S), dr_G p l e (dr_rm 2) s0 m args below meth c 0 0 A s0.heap D cI cZ ad ln L 9 (dr_Zi D cI cZ ad ln L A below args s0 0 0) 105 [(0, .ref (ad 12)), (1, .int x1), (2, .int x2), (3, .int x3), (4, .int x4), (5, .int x5), (6, .int x6), (7, .int x7), (8, .int x8)] [] s (f_X12_there_p105 ln kb34 n x1 x2 x3 x4 x5 x6 x7 x8 s) := by
  intro n
  induction n with
  | zero =>
    intro x1 x2 x3 x4 x5 x6 x7 x8 s
    rw [f_X12_there_p105]
    exact g_none
  | succ n hkb105 =>
    intro x1 x2 x3 x4 x5 x6 x7 x8 s
    rw [f_X12_there_p105]
    refine g_iload E dX12_there_105 8 rfl ?_
    refine g_aload_n E dX12_there_107 0 rfl ?_
    refine gg_12_247 E (hN 12 (by decide)) dX12_there_108 ?_
    refine g_icmp_ge E 155 dX12_there_111 (by decide) ?_ ?_
    · refine g_iload E dX12_there_155 4 rfl ?_
      refine g_iload E dX12_there_157 7 rfl ?_
      refine g_if_eq E 166 dX12_there_159 (by decide) ?_ ?_
      · refine g_iconst E (v := 0) dX12_there_166 (by decide) ?_
        refine g_sub [0, 1, 2, 3, 5] rfl ?_
        exact w_X12_there_p167 E hap hN hkb34 x1 x2 x3 x5 0 x4 s
      · refine g_iconst E (v := 1) dX12_there_162 (by decide) ?_
        refine g_goto E 167 dX12_there_163 (by decide) ?_
        refine g_sub [0, 1, 2, 3, 5] rfl ?_
        exact w_X12_there_p167 E hap hN hkb34 x1 x2 x3 x5 1 x4 s
    · refine g_iload E dX12_there_114 7 rfl ?_
      refine g_if_eq E 146 dX12_there_116 (by decide) ?_ ?_
      · refine g_sub [0, 1, 2, 3, 4, 5, 6, 8] rfl ?_
        exact w_X12_there_p146 E hap hN hkb34 hkb105 x1 x2 x3 x4 x5 x6 x8 s
      · refine g_aload_n E dX12_there_119 0 rfl ?_
        refine gg_12_101 E (hN 12 (by decide)) dX12_there_120 ?_
        refine g_iload E dX12_there_123 8 rfl ?_
        refine g_iaload E (hN 58 (by decide)) (by decide) rfl dX12_there_125 (fun v16 => ?_)
        refine g_iload E dX12_there_126 6 rfl ?_
        refine g_icmp_ne E 142 dX12_there_128 (by decide) ?_ ?_
        · refine g_sub [0, 1, 2, 3, 4, 5, 6, 8] rfl ?_
          exact w_X12_there_p142 E hap hN hkb34 hkb105 x1 x2 x3 x4 x5 x6 x8 s
        · refine g_aload_n E dX12_there_131 0 rfl ?_
          refine gg_12_98 E (hN 12 (by decide)) dX12_there_132 ?_
          refine g_iload E dX12_there_135 8 rfl ?_
          refine g_iaload E (hN 57 (by decide)) (by decide) rfl dX12_there_137 (fun v17 => ?_)
          refine g_iload_n E dX12_there_138 3 rfl ?_
          refine g_icmp_le E 146 dX12_there_139 (by decide) ?_ ?_
          · refine g_sub [0, 1, 2, 3, 4, 5, 6, 8] rfl ?_
            exact w_X12_there_p146 E hap hN hkb34 hkb105 x1 x2 x3 x4 x5 x6 x8 s
          · refine g_sub [0, 1, 2, 3, 4, 5, 6, 8] rfl ?_
            exact w_X12_there_p142 E hap hN hkb34 hkb105 x1 x2 x3 x4 x5 x6 x8 s
set_option maxHeartbeats 4000000 in
set_option maxRecDepth 20000 in
theorem w_X12_there_p34 (E : dr_E p (dr_rm 2) s0 m args meth c 0 0 A s0.heap D cI cZ ad L cX12_there 9 RX12 (some .int)) (hap : dr_ap ad L) (hN : ∀ x ∈ nd_12, x ∈ L) : ∀ (n : Nat) (x1 : Int32) (x2 : Int32) (x3 : Int32) (x4 : Int32) (x5 : Int32) (s : dr_S), dr_G p l e (dr_rm 2) s0 m args below meth c 0 0 A s0.heap D cI cZ ad ln L 9 (dr_Zi D cI cZ ad ln L A below args s0 0 0) 34 [(0, .ref (ad 12)), (1, .int x1), (2, .int x2), (3, .int x3), (4, .int x4), (5, .int x5)] [] s (f_X12_there_p34 ln n x1 x2 x3 x4 x5 s) := by
  intro n
  induction n with
  | zero =>
    intro x1 x2 x3 x4 x5 s
    rw [f_X12_there_p34]
    exact g_none
  | succ n hkb34 =>
    intro x1 x2 x3 x4 x5 s
    rw [f_X12_there_p34]
    refine g_iload E dX12_there_34 5 rfl ?_
    refine g_aload_n E dX12_there_36 0 rfl ?_
    refine gg_12_247 E (hN 12 (by decide)) dX12_there_37 ?_
    refine g_icmp_ge E 176 dX12_there_40 (by decide) ?_ ?_
    · refine g_iload E dX12_there_176 4 rfl ?_
      exact g_iret E dX12_there_178
    · refine g_aload_n E dX12_there_43 0 rfl ?_
      refine gg_12_101 E (hN 12 (by decide)) dX12_there_44 ?_
      refine g_iload E dX12_there_47 5 rfl ?_
      refine g_iaload E (hN 58 (by decide)) (by decide) rfl dX12_there_49 (fun v7 => ?_)
      refine g_istore E (lv' := [(6, .int v7), (0, .ref (ad 12)), (1, .int x1), (2, .int x2), (3, .int x3), (4, .int x4), (5, .int x5)]) dX12_there_50 (by decide) rfl ?_
      refine g_aload_n E dX12_there_52 1 rfl ?_
      refine gg_12_104 E (hN 12 (by decide)) dX12_there_53 ?_
      refine g_iload E dX12_there_56 6 rfl ?_
      refine g_baload E (hN 59 (by decide)) (by decide) rfl dX12_there_58 (fun v8 => ?_)
      refine g_if_eq E 170 dX12_there_59 (by decide) ?_ ?_
      · refine g_sub [1, 2, 3, 4, 5, 6] rfl ?_
        exact w_X12_there_p170 E hap hN hkb34 x1 x2 x3 x4 x5 s
      · refine g_aload_n E dX12_there_62 1 rfl ?_
        refine gg_12_98 E (hN 12 (by decide)) dX12_there_63 ?_
        refine g_iload E dX12_there_66 6 rfl ?_
        refine g_iaload E (hN 57 (by decide)) (by decide) rfl dX12_there_68 (fun v9 => ?_)
        refine g_iload_n E dX12_there_69 4 rfl ?_
        refine g_icmp_gt E 170 dX12_there_70 (by decide) ?_ ?_
        · refine g_sub [1, 2, 3, 4, 5, 6] rfl ?_
          exact w_X12_there_p170 E hap hN hkb34 x1 x2 x3 x4 x5 s
        · refine g_aload_n E dX12_there_73 1 rfl ?_
          refine g_iload E dX12_there_74 0 rfl ?_
          refine g_iload_n E dX12_there_76 2 rfl ?_
          refine g_cVi E [.int v7, .int x1] rfl (c_X12_isAhead hap hN v7 x1 s) (hN 12 (by decide)) (by decide) rfl rfl mi_X12_isAhead msl_X12_isAhead mw_X12_isAhead rfl ml_12_188 ⟨Nat.le_of_ble_eq_true rfl, Nat.le_of_ble_eq_true rfl⟩ (Nat.le_of_ble_eq_true rfl) dX12_there_77 (fun r11 s10 => ?_)
          refine g_if_ne E 170 dX12_there_80 (by decide) ?_ ?_
          · refine g_sub [1, 2, 3, 4, 5, 6] rfl ?_
            exact w_X12_there_p170 E hap hN hkb34 x1 x2 x3 x4 x5 s10
          · refine g_aload_n E dX12_there_83 1 rfl ?_
            refine g_iload_n E dX12_there_84 3 rfl ?_
            refine g_iload E dX12_there_85 0 rfl ?_
            refine g_cVi E [.int x2, .int v7] rfl (c_X12_isAhead hap hN x2 v7 s10) (hN 12 (by decide)) (by decide) rfl rfl mi_X12_isAhead msl_X12_isAhead mw_X12_isAhead rfl ml_12_188 ⟨Nat.le_of_ble_eq_true rfl, Nat.le_of_ble_eq_true rfl⟩ (Nat.le_of_ble_eq_true rfl) dX12_there_87 (fun r13 s12 => ?_)
            refine g_if_eq E 96 dX12_there_90 (by decide) ?_ ?_
            · refine g_iconst E (v := 1) dX12_there_96 (by decide) ?_
              refine g_istore E (lv' := [(7, .int 1), (6, .int v7), (0, .ref (ad 12)), (1, .int x1), (2, .int x2), (3, .int x3), (4, .int x4), (5, .int x5)]) dX12_there_97 (by decide) rfl ?_
              refine g_iload E dX12_there_99 7 rfl ?_
              refine g_iconst E (v := 1) dX12_there_101 (by decide) ?_
              refine g_iadd E dX12_there_102 ?_
              refine g_let (fun y14 => ?_)
              refine g_istore E (lv' := [(8, .int y14), (7, .int 1), (6, .int v7), (0, .ref (ad 12)), (1, .int x1), (2, .int x2), (3, .int x3), (4, .int x4), (5, .int x5)]) dX12_there_103 (by decide) rfl ?_
              refine g_sub [3, 4, 5, 6, 7, 8, 2, 1, 0] rfl ?_
              exact w_X12_there_p105 E hap hN hkb34 dr_N x1 x2 x3 x4 x5 v7 1 y14 s12
            · refine g_goto E 170 dX12_there_93 (by decide) ?_
              refine g_sub [1, 2, 3, 4, 5, 6] rfl ?_
              exact w_X12_there_p170 E hap hN hkb34 x1 x2 x3 x4 x5 s12
set_option maxHeartbeats 4000000 in
set_option maxRecDepth 20000 in
theorem c_X12_there (hap : dr_ap ad L) (hN : ∀ x ∈ nd_12, x ∈ L) (x1 : Int32) (x2 : Int32) (x3 : Int32) (s : dr_S) : dr_Mi l D cI cZ ad ln L yX12_there cX12_there 9 (some .int) 2 [.ref (ad 12), .int x1, .int x2, .int x3] s (f_X12_there ln x1 x2 x3 s) := by
  refine dr_meti (own := RX12) (by decide) rfl (Nat.le_of_ble_eq_true rfl) hap ?_
  intro p e s0 m args below meth c A E
  unfold f_X12_there
  refine g_eqL (lv' := [(0, .ref (ad 12)), (1, .int x1), (2, .int x2), (3, .int x3)]) rfl ?_
  refine g_iload_n E dX12_there_0 1 rfl ?_
  refine g_cSi E [.int x1] rfl (c_X12_isHeading hap hN x1 s) ms_X12_isHeading mw_X12_isHeading rfl ml_12_185 ⟨Nat.le_of_ble_eq_true rfl, Nat.le_of_ble_eq_true rfl⟩ (Nat.le_of_ble_eq_true rfl) dX12_there_1 (fun r2 s1 => ?_)
  refine g_if_eq E 26 dX12_there_4 (by decide) ?_ ?_
  · refine g_iconst E (v := (-1)) dX12_there_26 (by decide) ?_
    exact g_iret E dX12_there_27
  · refine g_iload_n E dX12_there_7 2 rfl ?_
    refine g_cSi E [.int x2] rfl (c_X12_isHeading hap hN x2 s1) ms_X12_isHeading mw_X12_isHeading rfl ml_12_185 ⟨Nat.le_of_ble_eq_true rfl, Nat.le_of_ble_eq_true rfl⟩ (Nat.le_of_ble_eq_true rfl) dX12_there_8 (fun r4 s3 => ?_)
    refine g_if_eq E 26 dX12_there_11 (by decide) ?_ ?_
    · refine g_iconst E (v := (-1)) dX12_there_26 (by decide) ?_
      exact g_iret E dX12_there_27
    · refine g_iload_n E dX12_there_14 3 rfl ?_
      refine g_iconst E (v := 0) dX12_there_15 (by decide) ?_
      refine g_aload_n E dX12_there_16 0 rfl ?_
      refine gg_12_199 E (hN 12 (by decide)) dX12_there_17 ?_
      refine g_cSi E [.int x3, .int 0, .int (s3.2 1204)] rfl (c_X12_in hap hN x3 0 ((s3.2 1204)) s3) ms_X12_in mw_X12_in rfl ml_12_160 ⟨Nat.le_of_ble_eq_true rfl, Nat.le_of_ble_eq_true rfl⟩ (Nat.le_of_ble_eq_true rfl) dX12_there_20 (fun r6 s5 => ?_)
      refine g_if_ne E 28 dX12_there_23 (by decide) ?_ ?_
      · refine g_iconst E (v := 0) dX12_there_28 (by decide) ?_
        refine g_istore E (lv' := [(4, .int 0), (0, .ref (ad 12)), (1, .int x1), (2, .int x2), (3, .int x3)]) dX12_there_29 (by decide) rfl ?_
        refine g_iconst E (v := 0) dX12_there_31 (by decide) ?_
        refine g_istore E (lv' := [(5, .int 0), (4, .int 0), (0, .ref (ad 12)), (1, .int x1), (2, .int x2), (3, .int x3)]) dX12_there_32 (by decide) rfl ?_
        refine g_sub [2, 3, 4, 5, 1, 0] rfl ?_
        exact w_X12_there_p34 E hap hN dr_N x1 x2 x3 0 0 s5
      · refine g_iconst E (v := (-1)) dX12_there_26 (by decide) ?_
        exact g_iret E dX12_there_27
end

theorem dX12_canBeAsked_0 : decode cX12_canBeAsked 0 = .ok (.aload_n 0, 1) := by decide +kernel
theorem dX12_canBeAsked_1 : decode cX12_canBeAsked 1 = .ok (.iconst 0, 1) := by decide +kernel
theorem dX12_canBeAsked_2 : decode cX12_canBeAsked 2 = .ok (.putfield 277, 3) := by decide +kernel
theorem dX12_canBeAsked_5 : decode cX12_canBeAsked 5 = .ok (.iconst 0, 1) := by decide +kernel
theorem dX12_canBeAsked_6 : decode cX12_canBeAsked 6 = .ok (.istore_n 2, 1) := by decide +kernel
theorem dX12_canBeAsked_7 : decode cX12_canBeAsked 7 = .ok (.iload_n 2, 1) := by decide +kernel
theorem dX12_canBeAsked_8 : decode cX12_canBeAsked 8 = .ok (.aload_n 0, 1) := by decide +kernel
theorem dX12_canBeAsked_9 : decode cX12_canBeAsked 9 = .ok (.getfield 175, 3) := by decide +kernel
theorem dX12_canBeAsked_12 : decode cX12_canBeAsked 12 = .ok (.if_icmp .ge 72, 3) := by decide +kernel
theorem dX12_canBeAsked_15 : decode cX12_canBeAsked 15 = .ok (.aload_n 0, 1) := by decide +kernel
theorem dX12_canBeAsked_16 : decode cX12_canBeAsked 16 = .ok (.getfield 80, 3) := by decide +kernel
theorem dX12_canBeAsked_19 : decode cX12_canBeAsked 19 = .ok (.iload_n 2, 1) := by decide +kernel
theorem dX12_canBeAsked_20 : decode cX12_canBeAsked 20 = .ok (.iaload, 1) := by decide +kernel
theorem dX12_canBeAsked_21 : decode cX12_canBeAsked 21 = .ok (.iload_n 1, 1) := by decide +kernel
theorem dX12_canBeAsked_22 : decode cX12_canBeAsked 22 = .ok (.if_icmp .eq 6, 3) := by decide +kernel
theorem dX12_canBeAsked_25 : decode cX12_canBeAsked 25 = .ok (.goto 53, 3) := by decide +kernel
theorem dX12_canBeAsked_28 : decode cX12_canBeAsked 28 = .ok (.aload_n 0, 1) := by decide +kernel
theorem dX12_canBeAsked_29 : decode cX12_canBeAsked 29 = .ok (.getfield 89, 3) := by decide +kernel
theorem dX12_canBeAsked_32 : decode cX12_canBeAsked 32 = .ok (.iload_n 2, 1) := by decide +kernel
theorem dX12_canBeAsked_33 : decode cX12_canBeAsked 33 = .ok (.iaload, 1) := by decide +kernel
theorem dX12_canBeAsked_34 : decode cX12_canBeAsked 34 = .ok (.iconst (-1), 1) := by decide +kernel
theorem dX12_canBeAsked_35 : decode cX12_canBeAsked 35 = .ok (.if_icmp .eq 21, 3) := by decide +kernel
theorem dX12_canBeAsked_38 : decode cX12_canBeAsked 38 = .ok (.aload_n 0, 1) := by decide +kernel
theorem dX12_canBeAsked_39 : decode cX12_canBeAsked 39 = .ok (.getfield 95, 3) := by decide +kernel
theorem dX12_canBeAsked_42 : decode cX12_canBeAsked 42 = .ok (.iload_n 2, 1) := by decide +kernel
theorem dX12_canBeAsked_43 : decode cX12_canBeAsked 43 = .ok (.baload, 1) := by decide +kernel
theorem dX12_canBeAsked_44 : decode cX12_canBeAsked 44 = .ok (.ifCond .ne 12, 3) := by decide +kernel
theorem dX12_canBeAsked_47 : decode cX12_canBeAsked 47 = .ok (.aload_n 0, 1) := by decide +kernel
theorem dX12_canBeAsked_48 : decode cX12_canBeAsked 48 = .ok (.getfield 277, 3) := by decide +kernel
theorem dX12_canBeAsked_51 : decode cX12_canBeAsked 51 = .ok (.bipush 9, 2) := by decide +kernel
theorem dX12_canBeAsked_53 : decode cX12_canBeAsked 53 = .ok (.if_icmp .ne 5, 3) := by decide +kernel
theorem dX12_canBeAsked_56 : decode cX12_canBeAsked 56 = .ok (.iconst 0, 1) := by decide +kernel
theorem dX12_canBeAsked_57 : decode cX12_canBeAsked 57 = .ok (.ireturn, 1) := by decide +kernel
theorem dX12_canBeAsked_58 : decode cX12_canBeAsked 58 = .ok (.aload_n 0, 1) := by decide +kernel
theorem dX12_canBeAsked_59 : decode cX12_canBeAsked 59 = .ok (.getfield 116, 3) := by decide +kernel
theorem dX12_canBeAsked_62 : decode cX12_canBeAsked 62 = .ok (.aload_n 0, 1) := by decide +kernel
theorem dX12_canBeAsked_63 : decode cX12_canBeAsked 63 = .ok (.getfield 277, 3) := by decide +kernel
theorem dX12_canBeAsked_66 : decode cX12_canBeAsked 66 = .ok (.iload_n 2, 1) := by decide +kernel
theorem dX12_canBeAsked_67 : decode cX12_canBeAsked 67 = .ok (.iastore, 1) := by decide +kernel
theorem dX12_canBeAsked_68 : decode cX12_canBeAsked 68 = .ok (.aload_n 0, 1) := by decide +kernel
theorem dX12_canBeAsked_69 : decode cX12_canBeAsked 69 = .ok (.dup, 1) := by decide +kernel
theorem dX12_canBeAsked_70 : decode cX12_canBeAsked 70 = .ok (.getfield 277, 3) := by decide +kernel
theorem dX12_canBeAsked_73 : decode cX12_canBeAsked 73 = .ok (.iconst 1, 1) := by decide +kernel
theorem dX12_canBeAsked_74 : decode cX12_canBeAsked 74 = .ok (.iadd, 1) := by decide +kernel
theorem dX12_canBeAsked_75 : decode cX12_canBeAsked 75 = .ok (.putfield 277, 3) := by decide +kernel
theorem dX12_canBeAsked_78 : decode cX12_canBeAsked 78 = .ok (.iinc 2 1, 3) := by decide +kernel
theorem dX12_canBeAsked_81 : decode cX12_canBeAsked 81 = .ok (.goto (-74), 3) := by decide +kernel
theorem dX12_canBeAsked_84 : decode cX12_canBeAsked 84 = .ok (.iconst 1, 1) := by decide +kernel
theorem dX12_canBeAsked_85 : decode cX12_canBeAsked 85 = .ok (.ireturn, 1) := by decide +kernel
def f_X12_canBeAsked_p78 (ln : Nat → Nat) (kb7 : Int32 → Int32 → dr_S → Option (Int32 × dr_S)) (x1 : Int32) (x2 : Int32) (s : dr_S) : Option (Int32 × dr_S) := dr_let (x2 + 1) (fun y7 => (kb7 x1 y7 s))
def f_X12_canBeAsked_p7 (ln : Nat → Nat) : Nat → Int32 → Int32 → dr_S → Option (Int32 × dr_S)
  | 0, _, _, _ => none
  | n + 1, x1, x2, s => (if (s.2 1226) ≤ x2 then some (1, s) else (dr_rd ln s 51 x2).bind (fun v2 => (if v2 = x1 then (dr_rd ln s 54 x2).bind (fun v3 => (if v3 = (-1) then some (0, s) else (dr_rd ln s 56 x2).bind (fun v4 => (if v4 = 0 then (if (s.2 1244) = 9 then some (0, s) else (dr_wr ln s 63 (s.2 1244) x2).bind (fun s5 => dr_letS (dr_pf s5 1244 ((s5.2 1244) + 1)) (fun s6 => (f_X12_canBeAsked_p78 ln (f_X12_canBeAsked_p7 ln n) x1 x2 s6)))) else some (0, s))))) else (f_X12_canBeAsked_p78 ln (f_X12_canBeAsked_p7 ln n) x1 x2 s))))
def f_X12_canBeAsked (ln : Nat → Nat) (x1 : Int32) (s : dr_S) : Option (Int32 × dr_S) := dr_letS (dr_pf s 1244 0) (fun s1 => (f_X12_canBeAsked_p7 ln dr_N x1 0 s1))
section
variable {p : Program} {l : Launch} {e : Env} {s0 : State} {m : MethodId} {args : Array Value} {below : List Frame} {meth : Method} {c : Code} {A : Nat → Prop} {D : va_G} {cI cZ : ClassId} {ad ln : Nat → Nat} {L : List Nat}
set_option maxHeartbeats 4000000 in
set_option maxRecDepth 20000 in
theorem w_X12_canBeAsked_p78 {kb7 : Int32 → Int32 → dr_S → Option (Int32 × dr_S)} (E : dr_E p (dr_rm 0) s0 m args meth c 0 0 A s0.heap D cI cZ ad L cX12_canBeAsked 3 RX12 (some .boolean)) (hap : dr_ap ad L) (hN : ∀ x ∈ nd_12, x ∈ L) (hkb7 : ∀ (x1 : Int32) (x2 : Int32) (s : dr_S), dr_G p l e (dr_rm 0) s0 m args below meth c 0 0 A s0.heap D cI cZ ad ln L 3 (dr_Zi D cI cZ ad ln L A below args s0 0 0) 7 [(0, .ref (ad 12)), (1, .int x1), (2, .int x2)] [] s (kb7 x1 x2 s)) : ∀ (x1 : Int32) (x2 : Int32) (s : dr_S), dr_G p l e (dr_rm 0) s0 m args below meth c 0 0 A s0.heap D cI cZ ad ln L 3 (dr_Zi D cI cZ ad ln L A below args s0 0 0) 78 [(0, .ref (ad 12)), (1, .int x1), (2, .int x2)] [] s (f_X12_canBeAsked_p78 ln kb7 x1 x2 s) := by
  intro x1 x2 s
  unfold f_X12_canBeAsked_p78
  refine g_iinc E (lv' := []) (lv'' := fun y7 => [(2, .int y7), (0, .ref (ad 12)), (1, .int x1)]) (v := 1) dX12_canBeAsked_78 2 rfl (by decide) (by decide) (fun _ => rfl) (fun y7 => ?_)
  refine g_goto E 7 dX12_canBeAsked_81 (by decide) ?_
  refine g_sub [1, 2, 0] rfl ?_
  exact hkb7 x1 y7 s
set_option maxHeartbeats 4000000 in
set_option maxRecDepth 20000 in
theorem w_X12_canBeAsked_p7 (E : dr_E p (dr_rm 0) s0 m args meth c 0 0 A s0.heap D cI cZ ad L cX12_canBeAsked 3 RX12 (some .boolean)) (hap : dr_ap ad L) (hN : ∀ x ∈ nd_12, x ∈ L) : ∀ (n : Nat) (x1 : Int32) (x2 : Int32) (s : dr_S), dr_G p l e (dr_rm 0) s0 m args below meth c 0 0 A s0.heap D cI cZ ad ln L 3 (dr_Zi D cI cZ ad ln L A below args s0 0 0) 7 [(0, .ref (ad 12)), (1, .int x1), (2, .int x2)] [] s (f_X12_canBeAsked_p7 ln n x1 x2 s) := by
  intro n
  induction n with
  | zero =>
    intro x1 x2 s
    rw [f_X12_canBeAsked_p7]
    exact g_none
  | succ n hkb7 =>
    intro x1 x2 s
    rw [f_X12_canBeAsked_p7]
    refine g_iload_n E dX12_canBeAsked_7 2 rfl ?_
    refine g_aload_n E dX12_canBeAsked_8 0 rfl ?_
    refine gg_12_175 E (hN 12 (by decide)) dX12_canBeAsked_9 ?_
    refine g_icmp_ge E 84 dX12_canBeAsked_12 (by decide) ?_ ?_
    · refine g_iconst E (v := 1) dX12_canBeAsked_84 (by decide) ?_
      exact g_zret E dX12_canBeAsked_85 (Or.inr rfl)
    · refine g_aload_n E dX12_canBeAsked_15 0 rfl ?_
      refine gg_12_80 E (hN 12 (by decide)) dX12_canBeAsked_16 ?_
      refine g_iload_n E dX12_canBeAsked_19 2 rfl ?_
      refine g_iaload E (hN 51 (by decide)) (by decide) rfl dX12_canBeAsked_20 (fun v2 => ?_)
      refine g_iload_n E dX12_canBeAsked_21 1 rfl ?_
      refine g_icmp_eq E 28 dX12_canBeAsked_22 (by decide) ?_ ?_
      · refine g_aload_n E dX12_canBeAsked_28 0 rfl ?_
        refine gg_12_89 E (hN 12 (by decide)) dX12_canBeAsked_29 ?_
        refine g_iload_n E dX12_canBeAsked_32 2 rfl ?_
        refine g_iaload E (hN 54 (by decide)) (by decide) rfl dX12_canBeAsked_33 (fun v3 => ?_)
        refine g_iconst E (v := (-1)) dX12_canBeAsked_34 (by decide) ?_
        refine g_icmp_eq E 56 dX12_canBeAsked_35 (by decide) ?_ ?_
        · refine g_iconst E (v := 0) dX12_canBeAsked_56 (by decide) ?_
          exact g_zret E dX12_canBeAsked_57 (Or.inl rfl)
        · refine g_aload_n E dX12_canBeAsked_38 0 rfl ?_
          refine gg_12_95 E (hN 12 (by decide)) dX12_canBeAsked_39 ?_
          refine g_iload_n E dX12_canBeAsked_42 2 rfl ?_
          refine g_baload E (hN 56 (by decide)) (by decide) rfl dX12_canBeAsked_43 (fun v4 => ?_)
          refine g_if_ne E 56 dX12_canBeAsked_44 (by decide) ?_ ?_
          · refine g_iconst E (v := 0) dX12_canBeAsked_56 (by decide) ?_
            exact g_zret E dX12_canBeAsked_57 (Or.inl rfl)
          · refine g_aload_n E dX12_canBeAsked_47 0 rfl ?_
            refine gg_12_277 E (hN 12 (by decide)) dX12_canBeAsked_48 ?_
            refine g_bipush E (v := 9) dX12_canBeAsked_51 (by decide) ?_
            refine g_icmp_ne E 58 dX12_canBeAsked_53 (by decide) ?_ ?_
            · refine g_aload_n E dX12_canBeAsked_58 0 rfl ?_
              refine gg_12_116 E (hN 12 (by decide)) dX12_canBeAsked_59 ?_
              refine g_aload_n E dX12_canBeAsked_62 0 rfl ?_
              refine gg_12_277 E (hN 12 (by decide)) dX12_canBeAsked_63 ?_
              refine g_iload_n E dX12_canBeAsked_66 2 rfl ?_
              refine g_iastore E (hN 63 (by decide)) (by decide) rfl dX12_canBeAsked_67 (fun s5 => ?_)
              refine g_aload_n E dX12_canBeAsked_68 0 rfl ?_
              refine g_dup E dX12_canBeAsked_69 rfl ?_
              refine gg_12_277 E (hN 12 (by decide)) dX12_canBeAsked_70 ?_
              refine g_iconst E (v := 1) dX12_canBeAsked_73 (by decide) ?_
              refine g_iadd E dX12_canBeAsked_74 ?_
              refine gp_12_277 E (hN 12 (by decide)) dX12_canBeAsked_75 (fun s6 => ?_)
              refine g_sub [0, 1, 2] rfl ?_
              exact w_X12_canBeAsked_p78 E hap hN hkb7 x1 x2 s6
            · refine g_iconst E (v := 0) dX12_canBeAsked_56 (by decide) ?_
              exact g_zret E dX12_canBeAsked_57 (Or.inl rfl)
      · refine g_goto E 78 dX12_canBeAsked_25 (by decide) ?_
        refine g_sub [0, 1, 2] rfl ?_
        exact w_X12_canBeAsked_p78 E hap hN hkb7 x1 x2 s
set_option maxHeartbeats 4000000 in
set_option maxRecDepth 20000 in
theorem c_X12_canBeAsked (hap : dr_ap ad L) (hN : ∀ x ∈ nd_12, x ∈ L) (x1 : Int32) (s : dr_S) : dr_Mi l D cI cZ ad ln L yX12_canBeAsked cX12_canBeAsked 3 (some .boolean) 0 [.ref (ad 12), .int x1] s (f_X12_canBeAsked ln x1 s) := by
  refine dr_meti (own := RX12) (by decide) rfl (Nat.le_of_ble_eq_true rfl) hap ?_
  intro p e s0 m args below meth c A E
  unfold f_X12_canBeAsked
  refine g_eqL (lv' := [(0, .ref (ad 12)), (1, .int x1)]) rfl ?_
  refine g_aload_n E dX12_canBeAsked_0 0 rfl ?_
  refine g_iconst E (v := 0) dX12_canBeAsked_1 (by decide) ?_
  refine gp_12_277 E (hN 12 (by decide)) dX12_canBeAsked_2 (fun s1 => ?_)
  refine g_iconst E (v := 0) dX12_canBeAsked_5 (by decide) ?_
  refine g_istore_n E (lv' := [(2, .int 0), (0, .ref (ad 12)), (1, .int x1)]) dX12_canBeAsked_6 (by decide) rfl ?_
  refine g_sub [1, 2, 0] rfl ?_
  exact w_X12_canBeAsked_p7 E hap hN dr_N x1 0 s1
end

theorem dX12_isThere_0 : decode cX12_isThere 0 = .ok (.iconst 0, 1) := by decide +kernel
theorem dX12_isThere_1 : decode cX12_isThere 1 = .ok (.istore_n 2, 1) := by decide +kernel
theorem dX12_isThere_2 : decode cX12_isThere 2 = .ok (.iconst 0, 1) := by decide +kernel
theorem dX12_isThere_3 : decode cX12_isThere 3 = .ok (.istore_n 3, 1) := by decide +kernel
theorem dX12_isThere_4 : decode cX12_isThere 4 = .ok (.iload_n 3, 1) := by decide +kernel
theorem dX12_isThere_5 : decode cX12_isThere 5 = .ok (.aload_n 0, 1) := by decide +kernel
theorem dX12_isThere_6 : decode cX12_isThere 6 = .ok (.getfield 277, 3) := by decide +kernel
theorem dX12_isThere_9 : decode cX12_isThere 9 = .ok (.if_icmp .ge 76, 3) := by decide +kernel
theorem dX12_isThere_12 : decode cX12_isThere 12 = .ok (.iload_n 1, 1) := by decide +kernel
theorem dX12_isThere_13 : decode cX12_isThere 13 = .ok (.iload_n 3, 1) := by decide +kernel
theorem dX12_isThere_14 : decode cX12_isThere 14 = .ok (.ishr, 1) := by decide +kernel
theorem dX12_isThere_15 : decode cX12_isThere 15 = .ok (.iconst 1, 1) := by decide +kernel
theorem dX12_isThere_16 : decode cX12_isThere 16 = .ok (.iand, 1) := by decide +kernel
theorem dX12_isThere_17 : decode cX12_isThere 17 = .ok (.ifCond .eq 62, 3) := by decide +kernel
theorem dX12_isThere_20 : decode cX12_isThere 20 = .ok (.aload_n 0, 1) := by decide +kernel
theorem dX12_isThere_21 : decode cX12_isThere 21 = .ok (.getfield 83, 3) := by decide +kernel
theorem dX12_isThere_24 : decode cX12_isThere 24 = .ok (.aload_n 0, 1) := by decide +kernel
theorem dX12_isThere_25 : decode cX12_isThere 25 = .ok (.getfield 116, 3) := by decide +kernel
theorem dX12_isThere_28 : decode cX12_isThere 28 = .ok (.iload_n 3, 1) := by decide +kernel
theorem dX12_isThere_29 : decode cX12_isThere 29 = .ok (.iaload, 1) := by decide +kernel
theorem dX12_isThere_30 : decode cX12_isThere 30 = .ok (.iaload, 1) := by decide +kernel
theorem dX12_isThere_31 : decode cX12_isThere 31 = .ok (.ifCond .ne 6, 3) := by decide +kernel
theorem dX12_isThere_34 : decode cX12_isThere 34 = .ok (.goto 45, 3) := by decide +kernel
theorem dX12_isThere_37 : decode cX12_isThere 37 = .ok (.iload_n 2, 1) := by decide +kernel
theorem dX12_isThere_38 : decode cX12_isThere 38 = .ok (.aload_n 0, 1) := by decide +kernel
theorem dX12_isThere_39 : decode cX12_isThere 39 = .ok (.getfield 77, 3) := by decide +kernel
theorem dX12_isThere_42 : decode cX12_isThere 42 = .ok (.aload_n 0, 1) := by decide +kernel
theorem dX12_isThere_43 : decode cX12_isThere 43 = .ok (.getfield 116, 3) := by decide +kernel
theorem dX12_isThere_46 : decode cX12_isThere 46 = .ok (.iload_n 3, 1) := by decide +kernel
theorem dX12_isThere_47 : decode cX12_isThere 47 = .ok (.iaload, 1) := by decide +kernel
theorem dX12_isThere_48 : decode cX12_isThere 48 = .ok (.iaload, 1) := by decide +kernel
theorem dX12_isThere_49 : decode cX12_isThere 49 = .ok (.iconst 1, 1) := by decide +kernel
theorem dX12_isThere_50 : decode cX12_isThere 50 = .ok (.if_icmp .ne 7, 3) := by decide +kernel
theorem dX12_isThere_53 : decode cX12_isThere 53 = .ok (.iconst 1, 1) := by decide +kernel
theorem dX12_isThere_54 : decode cX12_isThere 54 = .ok (.goto 23, 3) := by decide +kernel
theorem dX12_isThere_57 : decode cX12_isThere 57 = .ok (.aload_n 0, 1) := by decide +kernel
theorem dX12_isThere_58 : decode cX12_isThere 58 = .ok (.getfield 77, 3) := by decide +kernel
theorem dX12_isThere_61 : decode cX12_isThere 61 = .ok (.aload_n 0, 1) := by decide +kernel
theorem dX12_isThere_62 : decode cX12_isThere 62 = .ok (.getfield 116, 3) := by decide +kernel
theorem dX12_isThere_65 : decode cX12_isThere 65 = .ok (.iload_n 3, 1) := by decide +kernel
theorem dX12_isThere_66 : decode cX12_isThere 66 = .ok (.iaload, 1) := by decide +kernel
theorem dX12_isThere_67 : decode cX12_isThere 67 = .ok (.iaload, 1) := by decide +kernel
theorem dX12_isThere_68 : decode cX12_isThere 68 = .ok (.iconst 2, 1) := by decide +kernel
theorem dX12_isThere_69 : decode cX12_isThere 69 = .ok (.if_icmp .ne 7, 3) := by decide +kernel
theorem dX12_isThere_72 : decode cX12_isThere 72 = .ok (.iconst (-1), 1) := by decide +kernel
theorem dX12_isThere_73 : decode cX12_isThere 73 = .ok (.goto 4, 3) := by decide +kernel
theorem dX12_isThere_76 : decode cX12_isThere 76 = .ok (.iconst 0, 1) := by decide +kernel
theorem dX12_isThere_77 : decode cX12_isThere 77 = .ok (.iadd, 1) := by decide +kernel
theorem dX12_isThere_78 : decode cX12_isThere 78 = .ok (.istore_n 2, 1) := by decide +kernel
theorem dX12_isThere_79 : decode cX12_isThere 79 = .ok (.iinc 3 1, 3) := by decide +kernel
theorem dX12_isThere_82 : decode cX12_isThere 82 = .ok (.goto (-78), 3) := by decide +kernel
theorem dX12_isThere_85 : decode cX12_isThere 85 = .ok (.iload_n 2, 1) := by decide +kernel
theorem dX12_isThere_86 : decode cX12_isThere 86 = .ok (.ifCond .le 7, 3) := by decide +kernel
theorem dX12_isThere_89 : decode cX12_isThere 89 = .ok (.iconst 1, 1) := by decide +kernel
theorem dX12_isThere_90 : decode cX12_isThere 90 = .ok (.goto 4, 3) := by decide +kernel
theorem dX12_isThere_93 : decode cX12_isThere 93 = .ok (.iconst 0, 1) := by decide +kernel
theorem dX12_isThere_94 : decode cX12_isThere 94 = .ok (.ireturn, 1) := by decide +kernel
def f_X12_isThere_p79 (ln : Nat → Nat) (kb4 : Int32 → Int32 → Int32 → dr_S → Option (Int32 × dr_S)) (x1 : Int32) (x2 : Int32) (x3 : Int32) (s : dr_S) : Option (Int32 × dr_S) := dr_let (x3 + 1) (fun y7 => (kb4 x1 x2 y7 s))
def f_X12_isThere_p77 (ln : Nat → Nat) (kb4 : Int32 → Int32 → Int32 → dr_S → Option (Int32 × dr_S)) (x1 : Int32) (x3 : Int32) (z0 : Int32) (z1 : Int32) (s : dr_S) : Option (Int32 × dr_S) := dr_let (z1 + z0) (fun y8 => (f_X12_isThere_p79 ln kb4 x1 y8 x3 s))
def f_X12_isThere_p4 (ln : Nat → Nat) : Nat → Int32 → Int32 → Int32 → dr_S → Option (Int32 × dr_S)
  | 0, _, _, _, _ => none
  | n + 1, x1, x2, x3, s => (if (s.2 1244) ≤ x3 then (if x2 ≤ 0 then some (0, s) else some (1, s)) else (if ((x1 >>> (x3 &&& 31)) &&& 1) = 0 then (f_X12_isThere_p79 ln (f_X12_isThere_p4 ln n) x1 x2 x3 s) else (dr_rd ln s 63 x3).bind (fun v1 => (dr_rd ln s 52 v1).bind (fun v2 => (if v2 = 0 then (f_X12_isThere_p79 ln (f_X12_isThere_p4 ln n) x1 x2 x3 s) else (dr_rd ln s 63 x3).bind (fun v3 => (dr_rd ln s 50 v3).bind (fun v4 => (if v4 = 1 then (f_X12_isThere_p77 ln (f_X12_isThere_p4 ln n) x1 x3 1 x2 s) else (dr_rd ln s 63 x3).bind (fun v5 => (dr_rd ln s 50 v5).bind (fun v6 => (if v6 = 2 then (f_X12_isThere_p77 ln (f_X12_isThere_p4 ln n) x1 x3 ((-1)) x2 s) else (f_X12_isThere_p77 ln (f_X12_isThere_p4 ln n) x1 x3 0 x2 s))))))))))))
def f_X12_isThere (ln : Nat → Nat) (x1 : Int32) (s : dr_S) : Option (Int32 × dr_S) := (f_X12_isThere_p4 ln dr_N x1 0 0 s)
section
variable {p : Program} {l : Launch} {e : Env} {s0 : State} {m : MethodId} {args : Array Value} {below : List Frame} {meth : Method} {c : Code} {A : Nat → Prop} {D : va_G} {cI cZ : ClassId} {ad ln : Nat → Nat} {L : List Nat}
set_option maxHeartbeats 4000000 in
set_option maxRecDepth 20000 in
theorem w_X12_isThere_p79 {kb4 : Int32 → Int32 → Int32 → dr_S → Option (Int32 × dr_S)} (E : dr_E p (dr_rm 0) s0 m args meth c 0 0 A s0.heap D cI cZ ad L cX12_isThere 4 RX12 (some .boolean)) (hap : dr_ap ad L) (hN : ∀ x ∈ nd_12, x ∈ L) (hkb4 : ∀ (x1 : Int32) (x2 : Int32) (x3 : Int32) (s : dr_S), dr_G p l e (dr_rm 0) s0 m args below meth c 0 0 A s0.heap D cI cZ ad ln L 4 (dr_Zi D cI cZ ad ln L A below args s0 0 0) 4 [(0, .ref (ad 12)), (1, .int x1), (2, .int x2), (3, .int x3)] [] s (kb4 x1 x2 x3 s)) : ∀ (x1 : Int32) (x2 : Int32) (x3 : Int32) (s : dr_S), dr_G p l e (dr_rm 0) s0 m args below meth c 0 0 A s0.heap D cI cZ ad ln L 4 (dr_Zi D cI cZ ad ln L A below args s0 0 0) 79 [(0, .ref (ad 12)), (1, .int x1), (2, .int x2), (3, .int x3)] [] s (f_X12_isThere_p79 ln kb4 x1 x2 x3 s) := by
  intro x1 x2 x3 s
  unfold f_X12_isThere_p79
  refine g_iinc E (lv' := []) (lv'' := fun y7 => [(3, .int y7), (0, .ref (ad 12)), (1, .int x1), (2, .int x2)]) (v := 1) dX12_isThere_79 3 rfl (by decide) (by decide) (fun _ => rfl) (fun y7 => ?_)
  refine g_goto E 4 dX12_isThere_82 (by decide) ?_
  refine g_sub [1, 2, 3, 0] rfl ?_
  exact hkb4 x1 x2 y7 s
set_option maxHeartbeats 4000000 in
set_option maxRecDepth 20000 in
theorem w_X12_isThere_p77 {kb4 : Int32 → Int32 → Int32 → dr_S → Option (Int32 × dr_S)} (E : dr_E p (dr_rm 0) s0 m args meth c 0 0 A s0.heap D cI cZ ad L cX12_isThere 4 RX12 (some .boolean)) (hap : dr_ap ad L) (hN : ∀ x ∈ nd_12, x ∈ L) (hkb4 : ∀ (x1 : Int32) (x2 : Int32) (x3 : Int32) (s : dr_S), dr_G p l e (dr_rm 0) s0 m args below meth c 0 0 A s0.heap D cI cZ ad ln L 4 (dr_Zi D cI cZ ad ln L A below args s0 0 0) 4 [(0, .ref (ad 12)), (1, .int x1), (2, .int x2), (3, .int x3)] [] s (kb4 x1 x2 x3 s)) : ∀ (x1 : Int32) (x3 : Int32) (z0 : Int32) (z1 : Int32) (s : dr_S), dr_G p l e (dr_rm 0) s0 m args below meth c 0 0 A s0.heap D cI cZ ad ln L 4 (dr_Zi D cI cZ ad ln L A below args s0 0 0) 77 [(0, .ref (ad 12)), (1, .int x1), (3, .int x3)] [.int z0, .int z1] s (f_X12_isThere_p77 ln kb4 x1 x3 z0 z1 s) := by
  intro x1 x3 z0 z1 s
  unfold f_X12_isThere_p77
  refine g_iadd E dX12_isThere_77 ?_
  refine g_let (fun y8 => ?_)
  refine g_istore_n E (lv' := [(2, .int y8), (0, .ref (ad 12)), (1, .int x1), (3, .int x3)]) dX12_isThere_78 (by decide) rfl ?_
  refine g_sub [1, 2, 0, 3] rfl ?_
  exact w_X12_isThere_p79 E hap hN hkb4 x1 y8 x3 s
set_option maxHeartbeats 4000000 in
set_option maxRecDepth 20000 in
theorem w_X12_isThere_p4 (E : dr_E p (dr_rm 0) s0 m args meth c 0 0 A s0.heap D cI cZ ad L cX12_isThere 4 RX12 (some .boolean)) (hap : dr_ap ad L) (hN : ∀ x ∈ nd_12, x ∈ L) : ∀ (n : Nat) (x1 : Int32) (x2 : Int32) (x3 : Int32) (s : dr_S), dr_G p l e (dr_rm 0) s0 m args below meth c 0 0 A s0.heap D cI cZ ad ln L 4 (dr_Zi D cI cZ ad ln L A below args s0 0 0) 4 [(0, .ref (ad 12)), (1, .int x1), (2, .int x2), (3, .int x3)] [] s (f_X12_isThere_p4 ln n x1 x2 x3 s) := by
  intro n
  induction n with
  | zero =>
    intro x1 x2 x3 s
    rw [f_X12_isThere_p4]
    exact g_none
  | succ n hkb4 =>
    intro x1 x2 x3 s
    rw [f_X12_isThere_p4]
    refine g_iload_n E dX12_isThere_4 3 rfl ?_
    refine g_aload_n E dX12_isThere_5 0 rfl ?_
    refine gg_12_277 E (hN 12 (by decide)) dX12_isThere_6 ?_
    refine g_icmp_ge E 85 dX12_isThere_9 (by decide) ?_ ?_
    · refine g_iload_n E dX12_isThere_85 2 rfl ?_
      refine g_if_le E 93 dX12_isThere_86 (by decide) ?_ ?_
      · refine g_iconst E (v := 0) dX12_isThere_93 (by decide) ?_
        exact g_zret E dX12_isThere_94 (Or.inl rfl)
      · refine g_iconst E (v := 1) dX12_isThere_89 (by decide) ?_
        refine g_goto E 94 dX12_isThere_90 (by decide) ?_
        exact g_zret E dX12_isThere_94 (Or.inr rfl)
    · refine g_iload_n E dX12_isThere_12 1 rfl ?_
      refine g_iload_n E dX12_isThere_13 3 rfl ?_
      refine g_ishr E dX12_isThere_14 ?_
      refine g_iconst E (v := 1) dX12_isThere_15 (by decide) ?_
      refine g_iand E dX12_isThere_16 ?_
      refine g_if_eq E 79 dX12_isThere_17 (by decide) ?_ ?_
      · refine g_sub [0, 1, 2, 3] rfl ?_
        exact w_X12_isThere_p79 E hap hN hkb4 x1 x2 x3 s
      · refine g_aload_n E dX12_isThere_20 0 rfl ?_
        refine gg_12_83 E (hN 12 (by decide)) dX12_isThere_21 ?_
        refine g_aload_n E dX12_isThere_24 0 rfl ?_
        refine gg_12_116 E (hN 12 (by decide)) dX12_isThere_25 ?_
        refine g_iload_n E dX12_isThere_28 3 rfl ?_
        refine g_iaload E (hN 63 (by decide)) (by decide) rfl dX12_isThere_29 (fun v1 => ?_)
        refine g_iaload E (hN 52 (by decide)) (by decide) rfl dX12_isThere_30 (fun v2 => ?_)
        refine g_if_ne E 37 dX12_isThere_31 (by decide) ?_ ?_
        · refine g_iload_n E dX12_isThere_37 2 rfl ?_
          refine g_aload_n E dX12_isThere_38 0 rfl ?_
          refine gg_12_77 E (hN 12 (by decide)) dX12_isThere_39 ?_
          refine g_aload_n E dX12_isThere_42 0 rfl ?_
          refine gg_12_116 E (hN 12 (by decide)) dX12_isThere_43 ?_
          refine g_iload_n E dX12_isThere_46 3 rfl ?_
          refine g_iaload E (hN 63 (by decide)) (by decide) rfl dX12_isThere_47 (fun v3 => ?_)
          refine g_iaload E (hN 50 (by decide)) (by decide) rfl dX12_isThere_48 (fun v4 => ?_)
          refine g_iconst E (v := 1) dX12_isThere_49 (by decide) ?_
          refine g_icmp_ne E 57 dX12_isThere_50 (by decide) ?_ ?_
          · refine g_aload_n E dX12_isThere_57 0 rfl ?_
            refine gg_12_77 E (hN 12 (by decide)) dX12_isThere_58 ?_
            refine g_aload_n E dX12_isThere_61 0 rfl ?_
            refine gg_12_116 E (hN 12 (by decide)) dX12_isThere_62 ?_
            refine g_iload_n E dX12_isThere_65 3 rfl ?_
            refine g_iaload E (hN 63 (by decide)) (by decide) rfl dX12_isThere_66 (fun v5 => ?_)
            refine g_iaload E (hN 50 (by decide)) (by decide) rfl dX12_isThere_67 (fun v6 => ?_)
            refine g_iconst E (v := 2) dX12_isThere_68 (by decide) ?_
            refine g_icmp_ne E 76 dX12_isThere_69 (by decide) ?_ ?_
            · refine g_iconst E (v := 0) dX12_isThere_76 (by decide) ?_
              refine g_sub [0, 1, 3] rfl ?_
              exact w_X12_isThere_p77 E hap hN hkb4 x1 x3 0 x2 s
            · refine g_iconst E (v := (-1)) dX12_isThere_72 (by decide) ?_
              refine g_goto E 77 dX12_isThere_73 (by decide) ?_
              refine g_sub [0, 1, 3] rfl ?_
              exact w_X12_isThere_p77 E hap hN hkb4 x1 x3 ((-1)) x2 s
          · refine g_iconst E (v := 1) dX12_isThere_53 (by decide) ?_
            refine g_goto E 77 dX12_isThere_54 (by decide) ?_
            refine g_sub [0, 1, 3] rfl ?_
            exact w_X12_isThere_p77 E hap hN hkb4 x1 x3 1 x2 s
        · refine g_goto E 79 dX12_isThere_34 (by decide) ?_
          refine g_sub [0, 1, 2, 3] rfl ?_
          exact w_X12_isThere_p79 E hap hN hkb4 x1 x2 x3 s
set_option maxHeartbeats 4000000 in
set_option maxRecDepth 20000 in
theorem c_X12_isThere (hap : dr_ap ad L) (hN : ∀ x ∈ nd_12, x ∈ L) (x1 : Int32) (s : dr_S) : dr_Mi l D cI cZ ad ln L yX12_isThere cX12_isThere 4 (some .boolean) 0 [.ref (ad 12), .int x1] s (f_X12_isThere ln x1 s) := by
  refine dr_meti (own := RX12) (by decide) rfl (Nat.le_of_ble_eq_true rfl) hap ?_
  intro p e s0 m args below meth c A E
  unfold f_X12_isThere
  refine g_eqL (lv' := [(0, .ref (ad 12)), (1, .int x1)]) rfl ?_
  refine g_iconst E (v := 0) dX12_isThere_0 (by decide) ?_
  refine g_istore_n E (lv' := [(2, .int 0), (0, .ref (ad 12)), (1, .int x1)]) dX12_isThere_1 (by decide) rfl ?_
  refine g_iconst E (v := 0) dX12_isThere_2 (by decide) ?_
  refine g_istore_n E (lv' := [(3, .int 0), (2, .int 0), (0, .ref (ad 12)), (1, .int x1)]) dX12_isThere_3 (by decide) rfl ?_
  refine g_sub [2, 3, 1, 0] rfl ?_
  exact w_X12_isThere_p4 E hap hN dr_N x1 0 0 s
end

theorem dX12_mayCome_0 : decode cX12_mayCome 0 = .ok (.aload_n 0, 1) := by decide +kernel
theorem dX12_mayCome_1 : decode cX12_mayCome 1 = .ok (.getfield 116, 3) := by decide +kernel
theorem dX12_mayCome_4 : decode cX12_mayCome 4 = .ok (.iload_n 2, 1) := by decide +kernel
theorem dX12_mayCome_5 : decode cX12_mayCome 5 = .ok (.iaload, 1) := by decide +kernel
theorem dX12_mayCome_6 : decode cX12_mayCome 6 = .ok (.istore_n 3, 1) := by decide +kernel
theorem dX12_mayCome_7 : decode cX12_mayCome 7 = .ok (.iload_n 1, 1) := by decide +kernel
theorem dX12_mayCome_8 : decode cX12_mayCome 8 = .ok (.iload_n 2, 1) := by decide +kernel
theorem dX12_mayCome_9 : decode cX12_mayCome 9 = .ok (.ishr, 1) := by decide +kernel
theorem dX12_mayCome_10 : decode cX12_mayCome 10 = .ok (.iconst 1, 1) := by decide +kernel
theorem dX12_mayCome_11 : decode cX12_mayCome 11 = .ok (.iand, 1) := by decide +kernel
theorem dX12_mayCome_12 : decode cX12_mayCome 12 = .ok (.iconst 1, 1) := by decide +kernel
theorem dX12_mayCome_13 : decode cX12_mayCome 13 = .ok (.if_icmp .ne 5, 3) := by decide +kernel
theorem dX12_mayCome_16 : decode cX12_mayCome 16 = .ok (.iconst 0, 1) := by decide +kernel
theorem dX12_mayCome_17 : decode cX12_mayCome 17 = .ok (.ireturn, 1) := by decide +kernel
theorem dX12_mayCome_18 : decode cX12_mayCome 18 = .ok (.iconst 0, 1) := by decide +kernel
theorem dX12_mayCome_19 : decode cX12_mayCome 19 = .ok (.istore 4, 2) := by decide +kernel
theorem dX12_mayCome_21 : decode cX12_mayCome 21 = .ok (.iload 4, 2) := by decide +kernel
theorem dX12_mayCome_23 : decode cX12_mayCome 23 = .ok (.aload_n 0, 1) := by decide +kernel
theorem dX12_mayCome_24 : decode cX12_mayCome 24 = .ok (.getfield 277, 3) := by decide +kernel
theorem dX12_mayCome_27 : decode cX12_mayCome 27 = .ok (.if_icmp .ge 47, 3) := by decide +kernel
theorem dX12_mayCome_30 : decode cX12_mayCome 30 = .ok (.iload 4, 2) := by decide +kernel
theorem dX12_mayCome_32 : decode cX12_mayCome 32 = .ok (.iload_n 2, 1) := by decide +kernel
theorem dX12_mayCome_33 : decode cX12_mayCome 33 = .ok (.if_icmp .eq 35, 3) := by decide +kernel
theorem dX12_mayCome_36 : decode cX12_mayCome 36 = .ok (.iload_n 1, 1) := by decide +kernel
theorem dX12_mayCome_37 : decode cX12_mayCome 37 = .ok (.iload 4, 2) := by decide +kernel
theorem dX12_mayCome_39 : decode cX12_mayCome 39 = .ok (.ishr, 1) := by decide +kernel
theorem dX12_mayCome_40 : decode cX12_mayCome 40 = .ok (.iconst 1, 1) := by decide +kernel
theorem dX12_mayCome_41 : decode cX12_mayCome 41 = .ok (.iand, 1) := by decide +kernel
theorem dX12_mayCome_42 : decode cX12_mayCome 42 = .ok (.ifCond .ne 26, 3) := by decide +kernel
theorem dX12_mayCome_45 : decode cX12_mayCome 45 = .ok (.aload_n 0, 1) := by decide +kernel
theorem dX12_mayCome_46 : decode cX12_mayCome 46 = .ok (.getfield 89, 3) := by decide +kernel
theorem dX12_mayCome_49 : decode cX12_mayCome 49 = .ok (.aload_n 0, 1) := by decide +kernel
theorem dX12_mayCome_50 : decode cX12_mayCome 50 = .ok (.getfield 116, 3) := by decide +kernel
theorem dX12_mayCome_53 : decode cX12_mayCome 53 = .ok (.iload 4, 2) := by decide +kernel
theorem dX12_mayCome_55 : decode cX12_mayCome 55 = .ok (.iaload, 1) := by decide +kernel
theorem dX12_mayCome_56 : decode cX12_mayCome 56 = .ok (.iaload, 1) := by decide +kernel
theorem dX12_mayCome_57 : decode cX12_mayCome 57 = .ok (.aload_n 0, 1) := by decide +kernel
theorem dX12_mayCome_58 : decode cX12_mayCome 58 = .ok (.getfield 86, 3) := by decide +kernel
theorem dX12_mayCome_61 : decode cX12_mayCome 61 = .ok (.iload_n 3, 1) := by decide +kernel
theorem dX12_mayCome_62 : decode cX12_mayCome 62 = .ok (.iaload, 1) := by decide +kernel
theorem dX12_mayCome_63 : decode cX12_mayCome 63 = .ok (.if_icmp .gt 5, 3) := by decide +kernel
theorem dX12_mayCome_66 : decode cX12_mayCome 66 = .ok (.iconst 0, 1) := by decide +kernel
theorem dX12_mayCome_67 : decode cX12_mayCome 67 = .ok (.ireturn, 1) := by decide +kernel
theorem dX12_mayCome_68 : decode cX12_mayCome 68 = .ok (.iinc 4 1, 3) := by decide +kernel
theorem dX12_mayCome_71 : decode cX12_mayCome 71 = .ok (.goto (-50), 3) := by decide +kernel
theorem dX12_mayCome_74 : decode cX12_mayCome 74 = .ok (.aload_n 0, 1) := by decide +kernel
theorem dX12_mayCome_75 : decode cX12_mayCome 75 = .ok (.iload_n 1, 1) := by decide +kernel
theorem dX12_mayCome_76 : decode cX12_mayCome 76 = .ok (.invokevirtual 280, 3) := by decide +kernel
theorem dX12_mayCome_79 : decode cX12_mayCome 79 = .ok (.istore 4, 2) := by decide +kernel
theorem dX12_mayCome_81 : decode cX12_mayCome 81 = .ok (.aload_n 0, 1) := by decide +kernel
theorem dX12_mayCome_82 : decode cX12_mayCome 82 = .ok (.getfield 83, 3) := by decide +kernel
theorem dX12_mayCome_85 : decode cX12_mayCome 85 = .ok (.iload_n 3, 1) := by decide +kernel
theorem dX12_mayCome_86 : decode cX12_mayCome 86 = .ok (.iaload, 1) := by decide +kernel
theorem dX12_mayCome_87 : decode cX12_mayCome 87 = .ok (.aload_n 0, 1) := by decide +kernel
theorem dX12_mayCome_88 : decode cX12_mayCome 88 = .ok (.getfield 77, 3) := by decide +kernel
theorem dX12_mayCome_91 : decode cX12_mayCome 91 = .ok (.iload_n 3, 1) := by decide +kernel
theorem dX12_mayCome_92 : decode cX12_mayCome 92 = .ok (.iaload, 1) := by decide +kernel
theorem dX12_mayCome_93 : decode cX12_mayCome 93 = .ok (.iconst 1, 1) := by decide +kernel
theorem dX12_mayCome_94 : decode cX12_mayCome 94 = .ok (.if_icmp .ne 11, 3) := by decide +kernel
theorem dX12_mayCome_97 : decode cX12_mayCome 97 = .ok (.iload 4, 2) := by decide +kernel
theorem dX12_mayCome_99 : decode cX12_mayCome 99 = .ok (.ifCond .ne 15, 3) := by decide +kernel
theorem dX12_mayCome_102 : decode cX12_mayCome 102 = .ok (.goto 8, 3) := by decide +kernel
theorem dX12_mayCome_105 : decode cX12_mayCome 105 = .ok (.iload 4, 2) := by decide +kernel
theorem dX12_mayCome_107 : decode cX12_mayCome 107 = .ok (.ifCond .eq 7, 3) := by decide +kernel
theorem dX12_mayCome_110 : decode cX12_mayCome 110 = .ok (.iconst 1, 1) := by decide +kernel
theorem dX12_mayCome_111 : decode cX12_mayCome 111 = .ok (.goto 4, 3) := by decide +kernel
theorem dX12_mayCome_114 : decode cX12_mayCome 114 = .ok (.iconst 0, 1) := by decide +kernel
theorem dX12_mayCome_115 : decode cX12_mayCome 115 = .ok (.if_icmp .ne 7, 3) := by decide +kernel
theorem dX12_mayCome_118 : decode cX12_mayCome 118 = .ok (.iconst 1, 1) := by decide +kernel
theorem dX12_mayCome_119 : decode cX12_mayCome 119 = .ok (.goto 4, 3) := by decide +kernel
theorem dX12_mayCome_122 : decode cX12_mayCome 122 = .ok (.iconst 0, 1) := by decide +kernel
theorem dX12_mayCome_123 : decode cX12_mayCome 123 = .ok (.ireturn, 1) := by decide +kernel
def f_X12_mayCome_p115 (ln : Nat → Nat) (z0 : Int32) (z1 : Int32) (s : dr_S) : Option (Int32 × dr_S) := (if z1 = z0 then some (1, s) else some (0, s))
def f_X12_mayCome_p114 (ln : Nat → Nat) (z0 : Int32) (s : dr_S) : Option (Int32 × dr_S) := (f_X12_mayCome_p115 ln 0 z0 s)
def f_X12_mayCome_p110 (ln : Nat → Nat) (z0 : Int32) (s : dr_S) : Option (Int32 × dr_S) := (f_X12_mayCome_p115 ln 1 z0 s)
def f_X12_mayCome_p68 (ln : Nat → Nat) (kb21 : Int32 → Int32 → Int32 → Int32 → dr_S → Option (Int32 × dr_S)) (x1 : Int32) (x2 : Int32) (x3 : Int32) (x4 : Int32) (s : dr_S) : Option (Int32 × dr_S) := dr_let (x4 + 1) (fun y9 => (kb21 x1 x2 x3 y9 s))
def f_X12_mayCome_p21 (ln : Nat → Nat) : Nat → Int32 → Int32 → Int32 → Int32 → dr_S → Option (Int32 × dr_S)
  | 0, _, _, _, _, _ => none
  | n + 1, x1, x2, x3, x4, s => (if (s.2 1244) ≤ x4 then dr_bnd (f_X12_isThere ln x1 s) (fun r3 s2 => (dr_rd ln s2 52 x3).bind (fun v4 => (dr_rd ln s2 50 x3).bind (fun v5 => (if v5 = 1 then (if r3 = 0 then (f_X12_mayCome_p110 ln v4 s2) else (f_X12_mayCome_p114 ln v4 s2)) else (if r3 = 0 then (f_X12_mayCome_p114 ln v4 s2) else (f_X12_mayCome_p110 ln v4 s2)))))) else (if x4 = x2 then (f_X12_mayCome_p68 ln (f_X12_mayCome_p21 ln n) x1 x2 x3 x4 s) else (if ((x1 >>> (x4 &&& 31)) &&& 1) = 0 then (dr_rd ln s 63 x4).bind (fun v6 => (dr_rd ln s 54 v6).bind (fun v7 => (dr_rd ln s 53 x3).bind (fun v8 => (if v8 < v7 then (f_X12_mayCome_p68 ln (f_X12_mayCome_p21 ln n) x1 x2 x3 x4 s) else some (0, s))))) else (f_X12_mayCome_p68 ln (f_X12_mayCome_p21 ln n) x1 x2 x3 x4 s))))
def f_X12_mayCome (ln : Nat → Nat) (x1 : Int32) (x2 : Int32) (s : dr_S) : Option (Int32 × dr_S) := (dr_rd ln s 63 x2).bind (fun v1 => (if ((x1 >>> (x2 &&& 31)) &&& 1) = 1 then some (0, s) else (f_X12_mayCome_p21 ln dr_N x1 x2 v1 0 s)))
section
variable {p : Program} {l : Launch} {e : Env} {s0 : State} {m : MethodId} {args : Array Value} {below : List Frame} {meth : Method} {c : Code} {A : Nat → Prop} {D : va_G} {cI cZ : ClassId} {ad ln : Nat → Nat} {L : List Nat}
set_option maxHeartbeats 4000000 in
set_option maxRecDepth 20000 in
theorem w_X12_mayCome_p115 (E : dr_E p (dr_rm 1) s0 m args meth c 0 0 A s0.heap D cI cZ ad L cX12_mayCome 5 RX12 (some .boolean)) (hap : dr_ap ad L) (hN : ∀ x ∈ nd_12, x ∈ L) : ∀ (z0 : Int32) (z1 : Int32) (s : dr_S), dr_G p l e (dr_rm 1) s0 m args below meth c 0 0 A s0.heap D cI cZ ad ln L 5 (dr_Zi D cI cZ ad ln L A below args s0 0 0) 115 [] [.int z0, .int z1] s (f_X12_mayCome_p115 ln z0 z1 s) := by
  intro z0 z1 s
  unfold f_X12_mayCome_p115
  refine g_icmp_ne E 122 dX12_mayCome_115 (by decide) ?_ ?_
  · refine g_iconst E (v := 0) dX12_mayCome_122 (by decide) ?_
    exact g_zret E dX12_mayCome_123 (Or.inl rfl)
  · refine g_iconst E (v := 1) dX12_mayCome_118 (by decide) ?_
    refine g_goto E 123 dX12_mayCome_119 (by decide) ?_
    exact g_zret E dX12_mayCome_123 (Or.inr rfl)
set_option maxHeartbeats 4000000 in
set_option maxRecDepth 20000 in
theorem w_X12_mayCome_p114 (E : dr_E p (dr_rm 1) s0 m args meth c 0 0 A s0.heap D cI cZ ad L cX12_mayCome 5 RX12 (some .boolean)) (hap : dr_ap ad L) (hN : ∀ x ∈ nd_12, x ∈ L) : ∀ (z0 : Int32) (s : dr_S), dr_G p l e (dr_rm 1) s0 m args below meth c 0 0 A s0.heap D cI cZ ad ln L 5 (dr_Zi D cI cZ ad ln L A below args s0 0 0) 114 [] [.int z0] s (f_X12_mayCome_p114 ln z0 s) := by
  intro z0 s
  unfold f_X12_mayCome_p114
  refine g_iconst E (v := 0) dX12_mayCome_114 (by decide) ?_
  refine g_sub [] rfl ?_
  exact w_X12_mayCome_p115 E hap hN 0 z0 s
set_option maxHeartbeats 4000000 in
set_option maxRecDepth 20000 in
theorem w_X12_mayCome_p110 (E : dr_E p (dr_rm 1) s0 m args meth c 0 0 A s0.heap D cI cZ ad L cX12_mayCome 5 RX12 (some .boolean)) (hap : dr_ap ad L) (hN : ∀ x ∈ nd_12, x ∈ L) : ∀ (z0 : Int32) (s : dr_S), dr_G p l e (dr_rm 1) s0 m args below meth c 0 0 A s0.heap D cI cZ ad ln L 5 (dr_Zi D cI cZ ad ln L A below args s0 0 0) 110 [] [.int z0] s (f_X12_mayCome_p110 ln z0 s) := by
  intro z0 s
  unfold f_X12_mayCome_p110
  refine g_iconst E (v := 1) dX12_mayCome_110 (by decide) ?_
  refine g_goto E 115 dX12_mayCome_111 (by decide) ?_
  refine g_sub [] rfl ?_
  exact w_X12_mayCome_p115 E hap hN 1 z0 s
set_option maxHeartbeats 4000000 in
set_option maxRecDepth 20000 in
theorem w_X12_mayCome_p68 {kb21 : Int32 → Int32 → Int32 → Int32 → dr_S → Option (Int32 × dr_S)} (E : dr_E p (dr_rm 1) s0 m args meth c 0 0 A s0.heap D cI cZ ad L cX12_mayCome 5 RX12 (some .boolean)) (hap : dr_ap ad L) (hN : ∀ x ∈ nd_12, x ∈ L) (hkb21 : ∀ (x1 : Int32) (x2 : Int32) (x3 : Int32) (x4 : Int32) (s : dr_S), dr_G p l e (dr_rm 1) s0 m args below meth c 0 0 A s0.heap D cI cZ ad ln L 5 (dr_Zi D cI cZ ad ln L A below args s0 0 0) 21 [(0, .ref (ad 12)), (1, .int x1), (2, .int x2), (3, .int x3), (4, .int x4)] [] s (kb21 x1 x2 x3 x4 s)) : ∀ (x1 : Int32) (x2 : Int32) (x3 : Int32) (x4 : Int32) (s : dr_S), dr_G p l e (dr_rm 1) s0 m args below meth c 0 0 A s0.heap D cI cZ ad ln L 5 (dr_Zi D cI cZ ad ln L A below args s0 0 0) 68 [(0, .ref (ad 12)), (1, .int x1), (2, .int x2), (3, .int x3), (4, .int x4)] [] s (f_X12_mayCome_p68 ln kb21 x1 x2 x3 x4 s) := by
  intro x1 x2 x3 x4 s
  unfold f_X12_mayCome_p68
  refine g_iinc E (lv' := []) (lv'' := fun y9 => [(4, .int y9), (0, .ref (ad 12)), (1, .int x1), (2, .int x2), (3, .int x3)]) (v := 1) dX12_mayCome_68 4 rfl (by decide) (by decide) (fun _ => rfl) (fun y9 => ?_)
  refine g_goto E 21 dX12_mayCome_71 (by decide) ?_
  refine g_sub [1, 2, 3, 4, 0] rfl ?_
  exact hkb21 x1 x2 x3 y9 s
set_option maxHeartbeats 4000000 in
set_option maxRecDepth 20000 in
theorem w_X12_mayCome_p21 (E : dr_E p (dr_rm 1) s0 m args meth c 0 0 A s0.heap D cI cZ ad L cX12_mayCome 5 RX12 (some .boolean)) (hap : dr_ap ad L) (hN : ∀ x ∈ nd_12, x ∈ L) : ∀ (n : Nat) (x1 : Int32) (x2 : Int32) (x3 : Int32) (x4 : Int32) (s : dr_S), dr_G p l e (dr_rm 1) s0 m args below meth c 0 0 A s0.heap D cI cZ ad ln L 5 (dr_Zi D cI cZ ad ln L A below args s0 0 0) 21 [(0, .ref (ad 12)), (1, .int x1), (2, .int x2), (3, .int x3), (4, .int x4)] [] s (f_X12_mayCome_p21 ln n x1 x2 x3 x4 s) := by
  intro n
  induction n with
  | zero =>
    intro x1 x2 x3 x4 s
    rw [f_X12_mayCome_p21]
    exact g_none
  | succ n hkb21 =>
    intro x1 x2 x3 x4 s
    rw [f_X12_mayCome_p21]
    refine g_iload E dX12_mayCome_21 4 rfl ?_
    refine g_aload_n E dX12_mayCome_23 0 rfl ?_
    refine gg_12_277 E (hN 12 (by decide)) dX12_mayCome_24 ?_
    refine g_icmp_ge E 74 dX12_mayCome_27 (by decide) ?_ ?_
    · refine g_aload_n E dX12_mayCome_74 0 rfl ?_
      refine g_iload_n E dX12_mayCome_75 1 rfl ?_
      refine g_cVi E [.int x1] rfl (c_X12_isThere hap hN x1 s) (hN 12 (by decide)) (by decide) rfl rfl mi_X12_isThere msl_X12_isThere mw_X12_isThere rfl ml_12_280 ⟨Nat.le_of_ble_eq_true rfl, Nat.le_of_ble_eq_true rfl⟩ (Nat.le_of_ble_eq_true rfl) dX12_mayCome_76 (fun r3 s2 => ?_)
      refine g_istore E (lv' := [(4, .int r3), (0, .ref (ad 12)), (1, .int x1), (2, .int x2), (3, .int x3)]) dX12_mayCome_79 (by decide) rfl ?_
      refine g_aload_n E dX12_mayCome_81 1 rfl ?_
      refine gg_12_83 E (hN 12 (by decide)) dX12_mayCome_82 ?_
      refine g_iload_n E dX12_mayCome_85 4 rfl ?_
      refine g_iaload E (hN 52 (by decide)) (by decide) rfl dX12_mayCome_86 (fun v4 => ?_)
      refine g_aload_n E dX12_mayCome_87 1 rfl ?_
      refine gg_12_77 E (hN 12 (by decide)) dX12_mayCome_88 ?_
      refine g_iload_n E dX12_mayCome_91 4 rfl ?_
      refine g_iaload E (hN 50 (by decide)) (by decide) rfl dX12_mayCome_92 (fun v5 => ?_)
      refine g_iconst E (v := 1) dX12_mayCome_93 (by decide) ?_
      refine g_icmp_ne E 105 dX12_mayCome_94 (by decide) ?_ ?_
      · refine g_iload E dX12_mayCome_105 0 rfl ?_
        refine g_if_eq E 114 dX12_mayCome_107 (by decide) ?_ ?_
        · refine g_sub [] rfl ?_
          exact w_X12_mayCome_p114 E hap hN v4 s2
        · refine g_sub [] rfl ?_
          exact w_X12_mayCome_p110 E hap hN v4 s2
      · refine g_iload E dX12_mayCome_97 0 rfl ?_
        refine g_if_ne E 114 dX12_mayCome_99 (by decide) ?_ ?_
        · refine g_sub [] rfl ?_
          exact w_X12_mayCome_p114 E hap hN v4 s2
        · refine g_goto E 110 dX12_mayCome_102 (by decide) ?_
          refine g_sub [] rfl ?_
          exact w_X12_mayCome_p110 E hap hN v4 s2
    · refine g_iload E dX12_mayCome_30 4 rfl ?_
      refine g_iload_n E dX12_mayCome_32 2 rfl ?_
      refine g_icmp_eq E 68 dX12_mayCome_33 (by decide) ?_ ?_
      · refine g_sub [0, 1, 2, 3, 4] rfl ?_
        exact w_X12_mayCome_p68 E hap hN hkb21 x1 x2 x3 x4 s
      · refine g_iload_n E dX12_mayCome_36 1 rfl ?_
        refine g_iload E dX12_mayCome_37 4 rfl ?_
        refine g_ishr E dX12_mayCome_39 ?_
        refine g_iconst E (v := 1) dX12_mayCome_40 (by decide) ?_
        refine g_iand E dX12_mayCome_41 ?_
        refine g_if_ne E 68 dX12_mayCome_42 (by decide) ?_ ?_
        · refine g_sub [0, 1, 2, 3, 4] rfl ?_
          exact w_X12_mayCome_p68 E hap hN hkb21 x1 x2 x3 x4 s
        · refine g_aload_n E dX12_mayCome_45 0 rfl ?_
          refine gg_12_89 E (hN 12 (by decide)) dX12_mayCome_46 ?_
          refine g_aload_n E dX12_mayCome_49 0 rfl ?_
          refine gg_12_116 E (hN 12 (by decide)) dX12_mayCome_50 ?_
          refine g_iload E dX12_mayCome_53 4 rfl ?_
          refine g_iaload E (hN 63 (by decide)) (by decide) rfl dX12_mayCome_55 (fun v6 => ?_)
          refine g_iaload E (hN 54 (by decide)) (by decide) rfl dX12_mayCome_56 (fun v7 => ?_)
          refine g_aload_n E dX12_mayCome_57 0 rfl ?_
          refine gg_12_86 E (hN 12 (by decide)) dX12_mayCome_58 ?_
          refine g_iload_n E dX12_mayCome_61 3 rfl ?_
          refine g_iaload E (hN 53 (by decide)) (by decide) rfl dX12_mayCome_62 (fun v8 => ?_)
          refine g_icmp_gt E 68 dX12_mayCome_63 (by decide) ?_ ?_
          · refine g_sub [0, 1, 2, 3, 4] rfl ?_
            exact w_X12_mayCome_p68 E hap hN hkb21 x1 x2 x3 x4 s
          · refine g_iconst E (v := 0) dX12_mayCome_66 (by decide) ?_
            exact g_zret E dX12_mayCome_67 (Or.inl rfl)
set_option maxHeartbeats 4000000 in
set_option maxRecDepth 20000 in
theorem c_X12_mayCome (hap : dr_ap ad L) (hN : ∀ x ∈ nd_12, x ∈ L) (x1 : Int32) (x2 : Int32) (s : dr_S) : dr_Mi l D cI cZ ad ln L yX12_mayCome cX12_mayCome 5 (some .boolean) 1 [.ref (ad 12), .int x1, .int x2] s (f_X12_mayCome ln x1 x2 s) := by
  refine dr_meti (own := RX12) (by decide) rfl (Nat.le_of_ble_eq_true rfl) hap ?_
  intro p e s0 m args below meth c A E
  unfold f_X12_mayCome
  refine g_eqL (lv' := [(0, .ref (ad 12)), (1, .int x1), (2, .int x2)]) rfl ?_
  refine g_aload_n E dX12_mayCome_0 0 rfl ?_
  refine gg_12_116 E (hN 12 (by decide)) dX12_mayCome_1 ?_
  refine g_iload_n E dX12_mayCome_4 2 rfl ?_
  refine g_iaload E (hN 63 (by decide)) (by decide) rfl dX12_mayCome_5 (fun v1 => ?_)
  refine g_istore_n E (lv' := [(3, .int v1), (0, .ref (ad 12)), (1, .int x1), (2, .int x2)]) dX12_mayCome_6 (by decide) rfl ?_
  refine g_iload_n E dX12_mayCome_7 2 rfl ?_
  refine g_iload_n E dX12_mayCome_8 3 rfl ?_
  refine g_ishr E dX12_mayCome_9 ?_
  refine g_iconst E (v := 1) dX12_mayCome_10 (by decide) ?_
  refine g_iand E dX12_mayCome_11 ?_
  refine g_iconst E (v := 1) dX12_mayCome_12 (by decide) ?_
  refine g_icmp_ne E 18 dX12_mayCome_13 (by decide) ?_ ?_
  · refine g_iconst E (v := 0) dX12_mayCome_18 (by decide) ?_
    refine g_istore E (lv' := [(4, .int 0), (3, .int v1), (0, .ref (ad 12)), (1, .int x1), (2, .int x2)]) dX12_mayCome_19 (by decide) rfl ?_
    refine g_sub [2, 3, 4, 1, 0] rfl ?_
    exact w_X12_mayCome_p21 E hap hN dr_N x1 x2 v1 0 s
  · refine g_iconst E (v := 0) dX12_mayCome_16 (by decide) ?_
    exact g_zret E dX12_mayCome_17 (Or.inl rfl)
end

theorem dX12_isSound_0 : decode cX12_isSound 0 = .ok (.iconst 1, 1) := by decide +kernel
theorem dX12_isSound_1 : decode cX12_isSound 1 = .ok (.aload_n 0, 1) := by decide +kernel
theorem dX12_isSound_2 : decode cX12_isSound 2 = .ok (.getfield 277, 3) := by decide +kernel
theorem dX12_isSound_5 : decode cX12_isSound 5 = .ok (.ishl, 1) := by decide +kernel
theorem dX12_isSound_6 : decode cX12_isSound 6 = .ok (.iconst 1, 1) := by decide +kernel
theorem dX12_isSound_7 : decode cX12_isSound 7 = .ok (.isub, 1) := by decide +kernel
theorem dX12_isSound_8 : decode cX12_isSound 8 = .ok (.istore_n 2, 1) := by decide +kernel
theorem dX12_isSound_9 : decode cX12_isSound 9 = .ok (.aload_n 0, 1) := by decide +kernel
theorem dX12_isSound_10 : decode cX12_isSound 10 = .ok (.getfield 119, 3) := by decide +kernel
theorem dX12_isSound_13 : decode cX12_isSound 13 = .ok (.iload_n 2, 1) := by decide +kernel
theorem dX12_isSound_14 : decode cX12_isSound 14 = .ok (.iconst 1, 1) := by decide +kernel
theorem dX12_isSound_15 : decode cX12_isSound 15 = .ok (.bastore, 1) := by decide +kernel
theorem dX12_isSound_16 : decode cX12_isSound 16 = .ok (.iload_n 2, 1) := by decide +kernel
theorem dX12_isSound_17 : decode cX12_isSound 17 = .ok (.iconst 1, 1) := by decide +kernel
theorem dX12_isSound_18 : decode cX12_isSound 18 = .ok (.isub, 1) := by decide +kernel
theorem dX12_isSound_19 : decode cX12_isSound 19 = .ok (.istore_n 3, 1) := by decide +kernel
theorem dX12_isSound_20 : decode cX12_isSound 20 = .ok (.iload_n 3, 1) := by decide +kernel
theorem dX12_isSound_21 : decode cX12_isSound 21 = .ok (.ifCond .lt 78, 3) := by decide +kernel
theorem dX12_isSound_24 : decode cX12_isSound 24 = .ok (.aload_n 0, 1) := by decide +kernel
theorem dX12_isSound_25 : decode cX12_isSound 25 = .ok (.getfield 119, 3) := by decide +kernel
theorem dX12_isSound_28 : decode cX12_isSound 28 = .ok (.iload_n 3, 1) := by decide +kernel
theorem dX12_isSound_29 : decode cX12_isSound 29 = .ok (.iconst 0, 1) := by decide +kernel
theorem dX12_isSound_30 : decode cX12_isSound 30 = .ok (.bastore, 1) := by decide +kernel
theorem dX12_isSound_31 : decode cX12_isSound 31 = .ok (.iconst 0, 1) := by decide +kernel
theorem dX12_isSound_32 : decode cX12_isSound 32 = .ok (.istore 4, 2) := by decide +kernel
theorem dX12_isSound_34 : decode cX12_isSound 34 = .ok (.iload 4, 2) := by decide +kernel
theorem dX12_isSound_36 : decode cX12_isSound 36 = .ok (.aload_n 0, 1) := by decide +kernel
theorem dX12_isSound_37 : decode cX12_isSound 37 = .ok (.getfield 277, 3) := by decide +kernel
theorem dX12_isSound_40 : decode cX12_isSound 40 = .ok (.if_icmp .ge 53, 3) := by decide +kernel
theorem dX12_isSound_43 : decode cX12_isSound 43 = .ok (.aload_n 0, 1) := by decide +kernel
theorem dX12_isSound_44 : decode cX12_isSound 44 = .ok (.getfield 119, 3) := by decide +kernel
theorem dX12_isSound_47 : decode cX12_isSound 47 = .ok (.iload_n 3, 1) := by decide +kernel
theorem dX12_isSound_48 : decode cX12_isSound 48 = .ok (.baload, 1) := by decide +kernel
theorem dX12_isSound_49 : decode cX12_isSound 49 = .ok (.ifCond .ne 44, 3) := by decide +kernel
theorem dX12_isSound_52 : decode cX12_isSound 52 = .ok (.aload_n 0, 1) := by decide +kernel
theorem dX12_isSound_53 : decode cX12_isSound 53 = .ok (.getfield 119, 3) := by decide +kernel
theorem dX12_isSound_56 : decode cX12_isSound 56 = .ok (.iload_n 3, 1) := by decide +kernel
theorem dX12_isSound_57 : decode cX12_isSound 57 = .ok (.aload_n 0, 1) := by decide +kernel
theorem dX12_isSound_58 : decode cX12_isSound 58 = .ok (.iload_n 3, 1) := by decide +kernel
theorem dX12_isSound_59 : decode cX12_isSound 59 = .ok (.iload 4, 2) := by decide +kernel
theorem dX12_isSound_61 : decode cX12_isSound 61 = .ok (.invokevirtual 283, 3) := by decide +kernel
theorem dX12_isSound_64 : decode cX12_isSound 64 = .ok (.ifCond .eq 21, 3) := by decide +kernel
theorem dX12_isSound_67 : decode cX12_isSound 67 = .ok (.aload_n 0, 1) := by decide +kernel
theorem dX12_isSound_68 : decode cX12_isSound 68 = .ok (.getfield 119, 3) := by decide +kernel
theorem dX12_isSound_71 : decode cX12_isSound 71 = .ok (.iload_n 3, 1) := by decide +kernel
theorem dX12_isSound_72 : decode cX12_isSound 72 = .ok (.iconst 1, 1) := by decide +kernel
theorem dX12_isSound_73 : decode cX12_isSound 73 = .ok (.iload 4, 2) := by decide +kernel
theorem dX12_isSound_75 : decode cX12_isSound 75 = .ok (.ishl, 1) := by decide +kernel
theorem dX12_isSound_76 : decode cX12_isSound 76 = .ok (.ior, 1) := by decide +kernel
theorem dX12_isSound_77 : decode cX12_isSound 77 = .ok (.baload, 1) := by decide +kernel
theorem dX12_isSound_78 : decode cX12_isSound 78 = .ok (.ifCond .eq 7, 3) := by decide +kernel
theorem dX12_isSound_81 : decode cX12_isSound 81 = .ok (.iconst 1, 1) := by decide +kernel
theorem dX12_isSound_82 : decode cX12_isSound 82 = .ok (.goto 4, 3) := by decide +kernel
theorem dX12_isSound_85 : decode cX12_isSound 85 = .ok (.iconst 0, 1) := by decide +kernel
theorem dX12_isSound_86 : decode cX12_isSound 86 = .ok (.bastore, 1) := by decide +kernel
theorem dX12_isSound_87 : decode cX12_isSound 87 = .ok (.iinc 4 1, 3) := by decide +kernel
theorem dX12_isSound_90 : decode cX12_isSound 90 = .ok (.goto (-56), 3) := by decide +kernel
theorem dX12_isSound_93 : decode cX12_isSound 93 = .ok (.iinc 3 (-1), 3) := by decide +kernel
theorem dX12_isSound_96 : decode cX12_isSound 96 = .ok (.goto (-76), 3) := by decide +kernel
theorem dX12_isSound_99 : decode cX12_isSound 99 = .ok (.aload_n 0, 1) := by decide +kernel
theorem dX12_isSound_100 : decode cX12_isSound 100 = .ok (.getfield 119, 3) := by decide +kernel
theorem dX12_isSound_103 : decode cX12_isSound 103 = .ok (.iconst 0, 1) := by decide +kernel
theorem dX12_isSound_104 : decode cX12_isSound 104 = .ok (.baload, 1) := by decide +kernel
theorem dX12_isSound_105 : decode cX12_isSound 105 = .ok (.ireturn, 1) := by decide +kernel
def f_X12_isSound_p93 (ln : Nat → Nat) (kb20 : Int32 → dr_S → Option (Int32 × dr_S)) (x3 : Int32) (s : dr_S) : Option (Int32 × dr_S) := dr_let (x3 + (-1)) (fun y12 => (kb20 y12 s))
def f_X12_isSound_p86 (ln : Nat → Nat) (kb20 : Int32 → dr_S → Option (Int32 × dr_S)) (kb34 : Int32 → Int32 → dr_S → Option (Int32 × dr_S)) (x3 : Int32) (x4 : Int32) (z0 : Int32) (z1 : Int32) (s : dr_S) : Option (Int32 × dr_S) := (dr_wz ln s 64 z1 z0).bind (fun s10 => dr_let (x4 + 1) (fun y11 => (kb34 x3 y11 s10)))
def f_X12_isSound_p85 (ln : Nat → Nat) (kb20 : Int32 → dr_S → Option (Int32 × dr_S)) (kb34 : Int32 → Int32 → dr_S → Option (Int32 × dr_S)) (x3 : Int32) (x4 : Int32) (z0 : Int32) (s : dr_S) : Option (Int32 × dr_S) := (f_X12_isSound_p86 ln kb20 kb34 x3 x4 0 z0 s)
def f_X12_isSound_p34 (ln : Nat → Nat) (kb20 : Int32 → dr_S → Option (Int32 × dr_S)) : Nat → Int32 → Int32 → dr_S → Option (Int32 × dr_S)
  | 0, _, _, _ => none
  | n + 1, x3, x4, s => (if (s.2 1244) ≤ x4 then (f_X12_isSound_p93 ln kb20 x3 s) else (dr_rd ln s 64 x3).bind (fun v6 => (if v6 = 0 then dr_bnd (f_X12_mayCome ln x3 x4 s) (fun r8 s7 => (if r8 = 0 then (f_X12_isSound_p85 ln kb20 (f_X12_isSound_p34 ln kb20 n) x3 x4 x3 s7) else (dr_rd ln s7 64 (x3 ||| (1 <<< (x4 &&& 31)))).bind (fun v9 => (if v9 = 0 then (f_X12_isSound_p85 ln kb20 (f_X12_isSound_p34 ln kb20 n) x3 x4 x3 s7) else (f_X12_isSound_p86 ln kb20 (f_X12_isSound_p34 ln kb20 n) x3 x4 1 x3 s7))))) else (f_X12_isSound_p93 ln kb20 x3 s))))
def f_X12_isSound_p20 (ln : Nat → Nat) : Nat → Int32 → dr_S → Option (Int32 × dr_S)
  | 0, _, _ => none
  | n + 1, x3, s => (if x3 < 0 then (dr_rd ln s 64 0).bind (fun v4 => dr_rz v4 s) else (dr_wz ln s 64 x3 0).bind (fun s5 => (f_X12_isSound_p34 ln (f_X12_isSound_p20 ln n) dr_N x3 0 s5)))
def f_X12_isSound (ln : Nat → Nat) (x1 : Int32) (s : dr_S) : Option (Int32 × dr_S) := dr_let ((1 <<< ((s.2 1244) &&& 31)) - 1) (fun y1 => (dr_wz ln s 64 y1 1).bind (fun s2 => dr_let (y1 - 1) (fun y3 => (f_X12_isSound_p20 ln dr_N y3 s2))))
section
variable {p : Program} {l : Launch} {e : Env} {s0 : State} {m : MethodId} {args : Array Value} {below : List Frame} {meth : Method} {c : Code} {A : Nat → Prop} {D : va_G} {cI cZ : ClassId} {ad ln : Nat → Nat} {L : List Nat}
set_option maxHeartbeats 4000000 in
set_option maxRecDepth 20000 in
theorem w_X12_isSound_p93 {kb20 : Int32 → dr_S → Option (Int32 × dr_S)} (E : dr_E p (dr_rm 2) s0 m args meth c 0 0 A s0.heap D cI cZ ad L cX12_isSound 5 RX12 (some .boolean)) (hap : dr_ap ad L) (hN : ∀ x ∈ nd_12, x ∈ L) (hkb20 : ∀ (x3 : Int32) (s : dr_S), dr_G p l e (dr_rm 2) s0 m args below meth c 0 0 A s0.heap D cI cZ ad ln L 5 (dr_Zi D cI cZ ad ln L A below args s0 0 0) 20 [(0, .ref (ad 12)), (3, .int x3)] [] s (kb20 x3 s)) : ∀ (x3 : Int32) (s : dr_S), dr_G p l e (dr_rm 2) s0 m args below meth c 0 0 A s0.heap D cI cZ ad ln L 5 (dr_Zi D cI cZ ad ln L A below args s0 0 0) 93 [(0, .ref (ad 12)), (3, .int x3)] [] s (f_X12_isSound_p93 ln kb20 x3 s) := by
  intro x3 s
  unfold f_X12_isSound_p93
  refine g_iinc E (lv' := []) (lv'' := fun y12 => [(3, .int y12), (0, .ref (ad 12))]) (v := (-1)) dX12_isSound_93 1 rfl (by decide) (by decide) (fun _ => rfl) (fun y12 => ?_)
  refine g_goto E 20 dX12_isSound_96 (by decide) ?_
  refine g_sub [1, 0] rfl ?_
  exact hkb20 y12 s
set_option maxHeartbeats 4000000 in
set_option maxRecDepth 20000 in
theorem w_X12_isSound_p86 {kb20 : Int32 → dr_S → Option (Int32 × dr_S)} {kb34 : Int32 → Int32 → dr_S → Option (Int32 × dr_S)} (E : dr_E p (dr_rm 2) s0 m args meth c 0 0 A s0.heap D cI cZ ad L cX12_isSound 5 RX12 (some .boolean)) (hap : dr_ap ad L) (hN : ∀ x ∈ nd_12, x ∈ L) (hkb20 : ∀ (x3 : Int32) (s : dr_S), dr_G p l e (dr_rm 2) s0 m args below meth c 0 0 A s0.heap D cI cZ ad ln L 5 (dr_Zi D cI cZ ad ln L A below args s0 0 0) 20 [(0, .ref (ad 12)), (3, .int x3)] [] s (kb20 x3 s)) (hkb34 : ∀ (x3 : Int32) (x4 : Int32) (s : dr_S), dr_G p l e (dr_rm 2) s0 m args below meth c 0 0 A s0.heap D cI cZ ad ln L 5 (dr_Zi D cI cZ ad ln L A below args s0 0 0) 34 [(0, .ref (ad 12)), (3, .int x3), (4, .int x4)] [] s (kb34 x3 x4 s)) : ∀ (x3 : Int32) (x4 : Int32) (z0 : Int32) (z1 : Int32) (s : dr_S), dr_G p l e (dr_rm 2) s0 m args below meth c 0 0 A s0.heap D cI cZ ad ln L 5 (dr_Zi D cI cZ ad ln L A below args s0 0 0) 86 [(0, .ref (ad 12)), (3, .int x3), (4, .int x4)] [.int z0, .int z1, .ref (ad 64)] s (f_X12_isSound_p86 ln kb20 kb34 x3 x4 z0 z1 s) := by
  intro x3 x4 z0 z1 s
  unfold f_X12_isSound_p86
  refine g_bastore E (hN 64 (by decide)) (by decide) rfl dX12_isSound_86 (fun s10 => ?_)
  refine g_iinc E (lv' := []) (lv'' := fun y11 => [(4, .int y11), (0, .ref (ad 12)), (3, .int x3)]) (v := 1) dX12_isSound_87 2 rfl (by decide) (by decide) (fun _ => rfl) (fun y11 => ?_)
  refine g_goto E 34 dX12_isSound_90 (by decide) ?_
  refine g_sub [1, 2, 0] rfl ?_
  exact hkb34 x3 y11 s10
set_option maxHeartbeats 4000000 in
set_option maxRecDepth 20000 in
theorem w_X12_isSound_p85 {kb20 : Int32 → dr_S → Option (Int32 × dr_S)} {kb34 : Int32 → Int32 → dr_S → Option (Int32 × dr_S)} (E : dr_E p (dr_rm 2) s0 m args meth c 0 0 A s0.heap D cI cZ ad L cX12_isSound 5 RX12 (some .boolean)) (hap : dr_ap ad L) (hN : ∀ x ∈ nd_12, x ∈ L) (hkb20 : ∀ (x3 : Int32) (s : dr_S), dr_G p l e (dr_rm 2) s0 m args below meth c 0 0 A s0.heap D cI cZ ad ln L 5 (dr_Zi D cI cZ ad ln L A below args s0 0 0) 20 [(0, .ref (ad 12)), (3, .int x3)] [] s (kb20 x3 s)) (hkb34 : ∀ (x3 : Int32) (x4 : Int32) (s : dr_S), dr_G p l e (dr_rm 2) s0 m args below meth c 0 0 A s0.heap D cI cZ ad ln L 5 (dr_Zi D cI cZ ad ln L A below args s0 0 0) 34 [(0, .ref (ad 12)), (3, .int x3), (4, .int x4)] [] s (kb34 x3 x4 s)) : ∀ (x3 : Int32) (x4 : Int32) (z0 : Int32) (s : dr_S), dr_G p l e (dr_rm 2) s0 m args below meth c 0 0 A s0.heap D cI cZ ad ln L 5 (dr_Zi D cI cZ ad ln L A below args s0 0 0) 85 [(0, .ref (ad 12)), (3, .int x3), (4, .int x4)] [.int z0, .ref (ad 64)] s (f_X12_isSound_p85 ln kb20 kb34 x3 x4 z0 s) := by
  intro x3 x4 z0 s
  unfold f_X12_isSound_p85
  refine g_iconst E (v := 0) dX12_isSound_85 (by decide) ?_
  refine g_sub [0, 1, 2] rfl ?_
  exact w_X12_isSound_p86 E hap hN hkb20 hkb34 x3 x4 0 z0 s
set_option maxHeartbeats 4000000 in
set_option maxRecDepth 20000 in
theorem w_X12_isSound_p34 {kb20 : Int32 → dr_S → Option (Int32 × dr_S)} (E : dr_E p (dr_rm 2) s0 m args meth c 0 0 A s0.heap D cI cZ ad L cX12_isSound 5 RX12 (some .boolean)) (hap : dr_ap ad L) (hN : ∀ x ∈ nd_12, x ∈ L) (hkb20 : ∀ (x3 : Int32) (s : dr_S), dr_G p l e (dr_rm 2) s0 m args below meth c 0 0 A s0.heap D cI cZ ad ln L 5 (dr_Zi D cI cZ ad ln L A below args s0 0 0) 20 [(0, .ref (ad 12)), (3, .int x3)] [] s (kb20 x3 s)) : ∀ (n : Nat) (x3 : Int32) (x4 : Int32) (s : dr_S), dr_G p l e (dr_rm 2) s0 m args below meth c 0 0 A s0.heap D cI cZ ad ln L 5 (dr_Zi D cI cZ ad ln L A below args s0 0 0) 34 [(0, .ref (ad 12)), (3, .int x3), (4, .int x4)] [] s (f_X12_isSound_p34 ln kb20 n x3 x4 s) := by
  intro n
  induction n with
  | zero =>
    intro x3 x4 s
    rw [f_X12_isSound_p34]
    exact g_none
  | succ n hkb34 =>
    intro x3 x4 s
    rw [f_X12_isSound_p34]
    refine g_iload E dX12_isSound_34 2 rfl ?_
    refine g_aload_n E dX12_isSound_36 0 rfl ?_
    refine gg_12_277 E (hN 12 (by decide)) dX12_isSound_37 ?_
    refine g_icmp_ge E 93 dX12_isSound_40 (by decide) ?_ ?_
    · refine g_sub [0, 1] rfl ?_
      exact w_X12_isSound_p93 E hap hN hkb20 x3 s
    · refine g_aload_n E dX12_isSound_43 0 rfl ?_
      refine gg_12_119 E (hN 12 (by decide)) dX12_isSound_44 ?_
      refine g_iload_n E dX12_isSound_47 1 rfl ?_
      refine g_baload E (hN 64 (by decide)) (by decide) rfl dX12_isSound_48 (fun v6 => ?_)
      refine g_if_ne E 93 dX12_isSound_49 (by decide) ?_ ?_
      · refine g_sub [0, 1] rfl ?_
        exact w_X12_isSound_p93 E hap hN hkb20 x3 s
      · refine g_aload_n E dX12_isSound_52 0 rfl ?_
        refine gg_12_119 E (hN 12 (by decide)) dX12_isSound_53 ?_
        refine g_iload_n E dX12_isSound_56 1 rfl ?_
        refine g_aload_n E dX12_isSound_57 0 rfl ?_
        refine g_iload_n E dX12_isSound_58 1 rfl ?_
        refine g_iload E dX12_isSound_59 2 rfl ?_
        refine g_cVi E [.int x3, .int x4] rfl (c_X12_mayCome hap hN x3 x4 s) (hN 12 (by decide)) (by decide) rfl rfl mi_X12_mayCome msl_X12_mayCome mw_X12_mayCome rfl ml_12_283 ⟨Nat.le_of_ble_eq_true rfl, Nat.le_of_ble_eq_true rfl⟩ (Nat.le_of_ble_eq_true rfl) dX12_isSound_61 (fun r8 s7 => ?_)
        refine g_if_eq E 85 dX12_isSound_64 (by decide) ?_ ?_
        · refine g_sub [0, 1, 2] rfl ?_
          exact w_X12_isSound_p85 E hap hN hkb20 hkb34 x3 x4 x3 s7
        · refine g_aload_n E dX12_isSound_67 0 rfl ?_
          refine gg_12_119 E (hN 12 (by decide)) dX12_isSound_68 ?_
          refine g_iload_n E dX12_isSound_71 1 rfl ?_
          refine g_iconst E (v := 1) dX12_isSound_72 (by decide) ?_
          refine g_iload E dX12_isSound_73 2 rfl ?_
          refine g_ishl E dX12_isSound_75 ?_
          refine g_ior E dX12_isSound_76 ?_
          refine g_baload E (hN 64 (by decide)) (by decide) rfl dX12_isSound_77 (fun v9 => ?_)
          refine g_if_eq E 85 dX12_isSound_78 (by decide) ?_ ?_
          · refine g_sub [0, 1, 2] rfl ?_
            exact w_X12_isSound_p85 E hap hN hkb20 hkb34 x3 x4 x3 s7
          · refine g_iconst E (v := 1) dX12_isSound_81 (by decide) ?_
            refine g_goto E 86 dX12_isSound_82 (by decide) ?_
            refine g_sub [0, 1, 2] rfl ?_
            exact w_X12_isSound_p86 E hap hN hkb20 hkb34 x3 x4 1 x3 s7
set_option maxHeartbeats 4000000 in
set_option maxRecDepth 20000 in
theorem w_X12_isSound_p20 (E : dr_E p (dr_rm 2) s0 m args meth c 0 0 A s0.heap D cI cZ ad L cX12_isSound 5 RX12 (some .boolean)) (hap : dr_ap ad L) (hN : ∀ x ∈ nd_12, x ∈ L) : ∀ (n : Nat) (x3 : Int32) (s : dr_S), dr_G p l e (dr_rm 2) s0 m args below meth c 0 0 A s0.heap D cI cZ ad ln L 5 (dr_Zi D cI cZ ad ln L A below args s0 0 0) 20 [(0, .ref (ad 12)), (3, .int x3)] [] s (f_X12_isSound_p20 ln n x3 s) := by
  intro n
  induction n with
  | zero =>
    intro x3 s
    rw [f_X12_isSound_p20]
    exact g_none
  | succ n hkb20 =>
    intro x3 s
    rw [f_X12_isSound_p20]
    refine g_iload_n E dX12_isSound_20 1 rfl ?_
    refine g_if_lt E 99 dX12_isSound_21 (by decide) ?_ ?_
    · refine g_aload_n E dX12_isSound_99 0 rfl ?_
      refine gg_12_119 E (hN 12 (by decide)) dX12_isSound_100 ?_
      refine g_iconst E (v := 0) dX12_isSound_103 (by decide) ?_
      refine g_baload E (hN 64 (by decide)) (by decide) rfl dX12_isSound_104 (fun v4 => ?_)
      exact g_zretV E dX12_isSound_105
    · refine g_aload_n E dX12_isSound_24 0 rfl ?_
      refine gg_12_119 E (hN 12 (by decide)) dX12_isSound_25 ?_
      refine g_iload_n E dX12_isSound_28 1 rfl ?_
      refine g_iconst E (v := 0) dX12_isSound_29 (by decide) ?_
      refine g_bastore E (hN 64 (by decide)) (by decide) rfl dX12_isSound_30 (fun s5 => ?_)
      refine g_iconst E (v := 0) dX12_isSound_31 (by decide) ?_
      refine g_istore E (lv' := [(4, .int 0), (0, .ref (ad 12)), (3, .int x3)]) dX12_isSound_32 (by decide) rfl ?_
      refine g_sub [1, 2, 0] rfl ?_
      exact w_X12_isSound_p34 E hap hN hkb20 dr_N x3 0 s5
set_option maxHeartbeats 4000000 in
set_option maxRecDepth 20000 in
theorem c_X12_isSound (hap : dr_ap ad L) (hN : ∀ x ∈ nd_12, x ∈ L) (x1 : Int32) (s : dr_S) : dr_Mi l D cI cZ ad ln L yX12_isSound cX12_isSound 5 (some .boolean) 2 [.ref (ad 12), .int x1] s (f_X12_isSound ln x1 s) := by
  refine dr_meti (own := RX12) (by decide) rfl (Nat.le_of_ble_eq_true rfl) hap ?_
  intro p e s0 m args below meth c A E
  unfold f_X12_isSound
  refine g_eqL (lv' := [(0, .ref (ad 12)), (1, .int x1)]) rfl ?_
  refine g_iconst E (v := 1) dX12_isSound_0 (by decide) ?_
  refine g_aload_n E dX12_isSound_1 0 rfl ?_
  refine gg_12_277 E (hN 12 (by decide)) dX12_isSound_2 ?_
  refine g_ishl E dX12_isSound_5 ?_
  refine g_iconst E (v := 1) dX12_isSound_6 (by decide) ?_
  refine g_isub E dX12_isSound_7 ?_
  refine g_let (fun y1 => ?_)
  refine g_istore_n E (lv' := [(2, .int y1), (0, .ref (ad 12)), (1, .int x1)]) dX12_isSound_8 (by decide) rfl ?_
  refine g_aload_n E dX12_isSound_9 1 rfl ?_
  refine gg_12_119 E (hN 12 (by decide)) dX12_isSound_10 ?_
  refine g_iload_n E dX12_isSound_13 0 rfl ?_
  refine g_iconst E (v := 1) dX12_isSound_14 (by decide) ?_
  refine g_bastore E (hN 64 (by decide)) (by decide) rfl dX12_isSound_15 (fun s2 => ?_)
  refine g_iload_n E dX12_isSound_16 0 rfl ?_
  refine g_iconst E (v := 1) dX12_isSound_17 (by decide) ?_
  refine g_isub E dX12_isSound_18 ?_
  refine g_let (fun y3 => ?_)
  refine g_istore_n E (lv' := [(3, .int y3), (2, .int y1), (0, .ref (ad 12)), (1, .int x1)]) dX12_isSound_19 (by decide) rfl ?_
  refine g_sub [2, 0] rfl ?_
  exact w_X12_isSound_p20 E hap hN dr_N y3 s2
end

theorem dX12_line_0 : decode cX12_line 0 = .ok (.iload_n 1, 1) := by decide +kernel
theorem dX12_line_1 : decode cX12_line 1 = .ok (.invokestatic 185, 3) := by decide +kernel
theorem dX12_line_4 : decode cX12_line 4 = .ok (.ifCond .eq 11, 3) := by decide +kernel
theorem dX12_line_7 : decode cX12_line 7 = .ok (.aload_n 0, 1) := by decide +kernel
theorem dX12_line_8 : decode cX12_line 8 = .ok (.iload_n 1, 1) := by decide +kernel
theorem dX12_line_9 : decode cX12_line 9 = .ok (.invokevirtual 286, 3) := by decide +kernel
theorem dX12_line_12 : decode cX12_line 12 = .ok (.ifCond .ne 7, 3) := by decide +kernel
theorem dX12_line_15 : decode cX12_line 15 = .ok (.iconst (-1), 1) := by decide +kernel
theorem dX12_line_16 : decode cX12_line 16 = .ok (.goto 16, 3) := by decide +kernel
theorem dX12_line_19 : decode cX12_line 19 = .ok (.aload_n 0, 1) := by decide +kernel
theorem dX12_line_20 : decode cX12_line 20 = .ok (.iload_n 1, 1) := by decide +kernel
theorem dX12_line_21 : decode cX12_line 21 = .ok (.invokevirtual 289, 3) := by decide +kernel
theorem dX12_line_24 : decode cX12_line 24 = .ok (.ifCond .eq 7, 3) := by decide +kernel
theorem dX12_line_27 : decode cX12_line 27 = .ok (.iconst 1, 1) := by decide +kernel
theorem dX12_line_28 : decode cX12_line 28 = .ok (.goto 4, 3) := by decide +kernel
theorem dX12_line_31 : decode cX12_line 31 = .ok (.iconst 0, 1) := by decide +kernel
theorem dX12_line_32 : decode cX12_line 32 = .ok (.ireturn, 1) := by decide +kernel
def f_X12_line (ln : Nat → Nat) (x1 : Int32) (s : dr_S) : Option (Int32 × dr_S) := dr_bnd (f_X12_isHeading ln x1 s) (fun r2 s1 => (if r2 = 0 then some ((-1), s1) else dr_bnd (f_X12_canBeAsked ln x1 s1) (fun r4 s3 => (if r4 = 0 then some ((-1), s3) else dr_bnd (f_X12_isSound ln x1 s3) (fun r6 s5 => (if r6 = 0 then some (0, s5) else some (1, s5)))))))
section
variable {p : Program} {l : Launch} {e : Env} {s0 : State} {m : MethodId} {args : Array Value} {below : List Frame} {meth : Method} {c : Code} {A : Nat → Prop} {D : va_G} {cI cZ : ClassId} {ad ln : Nat → Nat} {L : List Nat}
set_option maxHeartbeats 4000000 in
set_option maxRecDepth 20000 in
theorem c_X12_line (hap : dr_ap ad L) (hN : ∀ x ∈ nd_12, x ∈ L) (x1 : Int32) (s : dr_S) : dr_Mi l D cI cZ ad ln L yX12_line cX12_line 2 (some .int) 3 [.ref (ad 12), .int x1] s (f_X12_line ln x1 s) := by
  refine dr_meti (own := RX12) (by decide) rfl (Nat.le_of_ble_eq_true rfl) hap ?_
  intro p e s0 m args below meth c A E
  unfold f_X12_line
  refine g_eqL (lv' := [(0, .ref (ad 12)), (1, .int x1)]) rfl ?_
  refine g_iload_n E dX12_line_0 1 rfl ?_
  refine g_cSi E [.int x1] rfl (c_X12_isHeading hap hN x1 s) ms_X12_isHeading mw_X12_isHeading rfl ml_12_185 ⟨Nat.le_of_ble_eq_true rfl, Nat.le_of_ble_eq_true rfl⟩ (Nat.le_of_ble_eq_true rfl) dX12_line_1 (fun r2 s1 => ?_)
  refine g_if_eq E 15 dX12_line_4 (by decide) ?_ ?_
  · refine g_iconst E (v := (-1)) dX12_line_15 (by decide) ?_
    refine g_goto E 32 dX12_line_16 (by decide) ?_
    exact g_iret E dX12_line_32
  · refine g_aload_n E dX12_line_7 0 rfl ?_
    refine g_iload_n E dX12_line_8 1 rfl ?_
    refine g_cVi E [.int x1] rfl (c_X12_canBeAsked hap hN x1 s1) (hN 12 (by decide)) (by decide) rfl rfl mi_X12_canBeAsked msl_X12_canBeAsked mw_X12_canBeAsked rfl ml_12_286 ⟨Nat.le_of_ble_eq_true rfl, Nat.le_of_ble_eq_true rfl⟩ (Nat.le_of_ble_eq_true rfl) dX12_line_9 (fun r4 s3 => ?_)
    refine g_if_ne E 19 dX12_line_12 (by decide) ?_ ?_
    · refine g_aload_n E dX12_line_19 0 rfl ?_
      refine g_iload_n E dX12_line_20 1 rfl ?_
      refine g_cVi E [.int x1] rfl (c_X12_isSound hap hN x1 s3) (hN 12 (by decide)) (by decide) rfl rfl mi_X12_isSound msl_X12_isSound mw_X12_isSound rfl ml_12_289 ⟨Nat.le_of_ble_eq_true rfl, Nat.le_of_ble_eq_true rfl⟩ (Nat.le_of_ble_eq_true rfl) dX12_line_21 (fun r6 s5 => ?_)
      refine g_if_eq E 31 dX12_line_24 (by decide) ?_ ?_
      · refine g_iconst E (v := 0) dX12_line_31 (by decide) ?_
        exact g_iret E dX12_line_32
      · refine g_iconst E (v := 1) dX12_line_27 (by decide) ?_
        refine g_goto E 32 dX12_line_28 (by decide) ?_
        exact g_iret E dX12_line_32
    · refine g_iconst E (v := (-1)) dX12_line_15 (by decide) ?_
      refine g_goto E 32 dX12_line_16 (by decide) ?_
      exact g_iret E dX12_line_32
end

theorem dX12_order_0 : decode cX12_order 0 = .ok (.aload_n 0, 1) := by decide +kernel
theorem dX12_order_1 : decode cX12_order 1 = .ok (.iload_n 1, 1) := by decide +kernel
theorem dX12_order_2 : decode cX12_order 2 = .ok (.invokevirtual 292, 3) := by decide +kernel
theorem dX12_order_5 : decode cX12_order 5 = .ok (.iconst 1, 1) := by decide +kernel
theorem dX12_order_6 : decode cX12_order 6 = .ok (.if_icmp .ne 17, 3) := by decide +kernel
theorem dX12_order_9 : decode cX12_order 9 = .ok (.iload_n 2, 1) := by decide +kernel
theorem dX12_order_10 : decode cX12_order 10 = .ok (.iconst 0, 1) := by decide +kernel
theorem dX12_order_11 : decode cX12_order 11 = .ok (.aload_n 0, 1) := by decide +kernel
theorem dX12_order_12 : decode cX12_order 12 = .ok (.getfield 277, 3) := by decide +kernel
theorem dX12_order_15 : decode cX12_order 15 = .ok (.iconst 1, 1) := by decide +kernel
theorem dX12_order_16 : decode cX12_order 16 = .ok (.isub, 1) := by decide +kernel
theorem dX12_order_17 : decode cX12_order 17 = .ok (.invokestatic 160, 3) := by decide +kernel
theorem dX12_order_20 : decode cX12_order 20 = .ok (.ifCond .ne 5, 3) := by decide +kernel
theorem dX12_order_23 : decode cX12_order 23 = .ok (.iconst (-1), 1) := by decide +kernel
theorem dX12_order_24 : decode cX12_order 24 = .ok (.ireturn, 1) := by decide +kernel
theorem dX12_order_25 : decode cX12_order 25 = .ok (.iconst 0, 1) := by decide +kernel
theorem dX12_order_26 : decode cX12_order 26 = .ok (.istore_n 3, 1) := by decide +kernel
theorem dX12_order_27 : decode cX12_order 27 = .ok (.iconst (-1), 1) := by decide +kernel
theorem dX12_order_28 : decode cX12_order 28 = .ok (.istore 4, 2) := by decide +kernel
theorem dX12_order_30 : decode cX12_order 30 = .ok (.iconst 0, 1) := by decide +kernel
theorem dX12_order_31 : decode cX12_order 31 = .ok (.istore 5, 2) := by decide +kernel
theorem dX12_order_33 : decode cX12_order 33 = .ok (.iload 5, 2) := by decide +kernel
theorem dX12_order_35 : decode cX12_order 35 = .ok (.iload_n 2, 1) := by decide +kernel
theorem dX12_order_36 : decode cX12_order 36 = .ok (.if_icmp .gt 58, 3) := by decide +kernel
theorem dX12_order_39 : decode cX12_order 39 = .ok (.iconst 0, 1) := by decide +kernel
theorem dX12_order_40 : decode cX12_order 40 = .ok (.istore 6, 2) := by decide +kernel
theorem dX12_order_42 : decode cX12_order 42 = .ok (.aload_n 0, 1) := by decide +kernel
theorem dX12_order_43 : decode cX12_order 43 = .ok (.iload_n 3, 1) := by decide +kernel
theorem dX12_order_44 : decode cX12_order 44 = .ok (.iload 6, 2) := by decide +kernel
theorem dX12_order_46 : decode cX12_order 46 = .ok (.invokevirtual 283, 3) := by decide +kernel
theorem dX12_order_49 : decode cX12_order 49 = .ok (.ifCond .eq 17, 3) := by decide +kernel
theorem dX12_order_52 : decode cX12_order 52 = .ok (.aload_n 0, 1) := by decide +kernel
theorem dX12_order_53 : decode cX12_order 53 = .ok (.getfield 119, 3) := by decide +kernel
theorem dX12_order_56 : decode cX12_order 56 = .ok (.iload_n 3, 1) := by decide +kernel
theorem dX12_order_57 : decode cX12_order 57 = .ok (.iconst 1, 1) := by decide +kernel
theorem dX12_order_58 : decode cX12_order 58 = .ok (.iload 6, 2) := by decide +kernel
theorem dX12_order_60 : decode cX12_order 60 = .ok (.ishl, 1) := by decide +kernel
theorem dX12_order_61 : decode cX12_order 61 = .ok (.ior, 1) := by decide +kernel
theorem dX12_order_62 : decode cX12_order 62 = .ok (.baload, 1) := by decide +kernel
theorem dX12_order_63 : decode cX12_order 63 = .ok (.ifCond .ne 9, 3) := by decide +kernel
theorem dX12_order_66 : decode cX12_order 66 = .ok (.iinc 6 1, 3) := by decide +kernel
theorem dX12_order_69 : decode cX12_order 69 = .ok (.goto (-27), 3) := by decide +kernel
theorem dX12_order_72 : decode cX12_order 72 = .ok (.iload_n 3, 1) := by decide +kernel
theorem dX12_order_73 : decode cX12_order 73 = .ok (.iconst 1, 1) := by decide +kernel
theorem dX12_order_74 : decode cX12_order 74 = .ok (.iload 6, 2) := by decide +kernel
theorem dX12_order_76 : decode cX12_order 76 = .ok (.ishl, 1) := by decide +kernel
theorem dX12_order_77 : decode cX12_order 77 = .ok (.ior, 1) := by decide +kernel
theorem dX12_order_78 : decode cX12_order 78 = .ok (.istore_n 3, 1) := by decide +kernel
theorem dX12_order_79 : decode cX12_order 79 = .ok (.aload_n 0, 1) := by decide +kernel
theorem dX12_order_80 : decode cX12_order 80 = .ok (.getfield 116, 3) := by decide +kernel
theorem dX12_order_83 : decode cX12_order 83 = .ok (.iload 6, 2) := by decide +kernel
theorem dX12_order_85 : decode cX12_order 85 = .ok (.iaload, 1) := by decide +kernel
theorem dX12_order_86 : decode cX12_order 86 = .ok (.istore 4, 2) := by decide +kernel
theorem dX12_order_88 : decode cX12_order 88 = .ok (.iinc 5 1, 3) := by decide +kernel
theorem dX12_order_91 : decode cX12_order 91 = .ok (.goto (-58), 3) := by decide +kernel
theorem dX12_order_94 : decode cX12_order 94 = .ok (.iload 4, 2) := by decide +kernel
theorem dX12_order_96 : decode cX12_order 96 = .ok (.ireturn, 1) := by decide +kernel
def f_X12_order_p66 (ln : Nat → Nat) (kb33 : Int32 → Int32 → Int32 → Int32 → dr_S → Option (Int32 × dr_S)) (kb42 : Int32 → Int32 → Int32 → Int32 → dr_S → Option (Int32 × dr_S)) (x2 : Int32) (x3 : Int32) (x5 : Int32) (x6 : Int32) (s : dr_S) : Option (Int32 × dr_S) := dr_let (x6 + 1) (fun y11 => (kb42 x2 x3 x5 y11 s))
def f_X12_order_p42 (ln : Nat → Nat) (kb33 : Int32 → Int32 → Int32 → Int32 → dr_S → Option (Int32 × dr_S)) : Nat → Int32 → Int32 → Int32 → Int32 → dr_S → Option (Int32 × dr_S)
  | 0, _, _, _, _, _ => none
  | n + 1, x2, x3, x5, x6, s => dr_bnd (f_X12_mayCome ln x3 x6 s) (fun r6 s5 => (if r6 = 0 then (f_X12_order_p66 ln kb33 (f_X12_order_p42 ln kb33 n) x2 x3 x5 x6 s5) else (dr_rd ln s5 64 (x3 ||| (1 <<< (x6 &&& 31)))).bind (fun v7 => (if v7 = 0 then (f_X12_order_p66 ln kb33 (f_X12_order_p42 ln kb33 n) x2 x3 x5 x6 s5) else dr_let (x3 ||| (1 <<< (x6 &&& 31))) (fun y8 => (dr_rd ln s5 63 x6).bind (fun v9 => dr_let (x5 + 1) (fun y10 => (kb33 x2 y8 v9 y10 s5))))))))
def f_X12_order_p33 (ln : Nat → Nat) : Nat → Int32 → Int32 → Int32 → Int32 → dr_S → Option (Int32 × dr_S)
  | 0, _, _, _, _, _ => none
  | n + 1, x2, x3, x4, x5, s => (if x2 < x5 then some (x4, s) else (f_X12_order_p42 ln (f_X12_order_p33 ln n) dr_N x2 x3 x5 0 s))
def f_X12_order (ln : Nat → Nat) (x1 : Int32) (x2 : Int32) (s : dr_S) : Option (Int32 × dr_S) := dr_bnd (f_X12_line ln x1 s) (fun r2 s1 => (if r2 = 1 then dr_bnd (f_X12_in ln x2 0 (((s1.2 1244) - 1)) s1) (fun r4 s3 => (if r4 = 0 then some ((-1), s3) else (f_X12_order_p33 ln dr_N x2 0 ((-1)) 0 s3))) else some ((-1), s1)))
section
variable {p : Program} {l : Launch} {e : Env} {s0 : State} {m : MethodId} {args : Array Value} {below : List Frame} {meth : Method} {c : Code} {A : Nat → Prop} {D : va_G} {cI cZ : ClassId} {ad ln : Nat → Nat} {L : List Nat}
set_option maxHeartbeats 4000000 in
set_option maxRecDepth 20000 in
theorem w_X12_order_p66 {kb33 : Int32 → Int32 → Int32 → Int32 → dr_S → Option (Int32 × dr_S)} {kb42 : Int32 → Int32 → Int32 → Int32 → dr_S → Option (Int32 × dr_S)} (E : dr_E p (dr_rm 4) s0 m args meth c 0 0 A s0.heap D cI cZ ad L cX12_order 7 RX12 (some .int)) (hap : dr_ap ad L) (hN : ∀ x ∈ nd_12, x ∈ L) (hkb33 : ∀ (x2 : Int32) (x3 : Int32) (x4 : Int32) (x5 : Int32) (s : dr_S), dr_G p l e (dr_rm 4) s0 m args below meth c 0 0 A s0.heap D cI cZ ad ln L 7 (dr_Zi D cI cZ ad ln L A below args s0 0 0) 33 [(0, .ref (ad 12)), (2, .int x2), (3, .int x3), (4, .int x4), (5, .int x5)] [] s (kb33 x2 x3 x4 x5 s)) (hkb42 : ∀ (x2 : Int32) (x3 : Int32) (x5 : Int32) (x6 : Int32) (s : dr_S), dr_G p l e (dr_rm 4) s0 m args below meth c 0 0 A s0.heap D cI cZ ad ln L 7 (dr_Zi D cI cZ ad ln L A below args s0 0 0) 42 [(0, .ref (ad 12)), (2, .int x2), (3, .int x3), (5, .int x5), (6, .int x6)] [] s (kb42 x2 x3 x5 x6 s)) : ∀ (x2 : Int32) (x3 : Int32) (x5 : Int32) (x6 : Int32) (s : dr_S), dr_G p l e (dr_rm 4) s0 m args below meth c 0 0 A s0.heap D cI cZ ad ln L 7 (dr_Zi D cI cZ ad ln L A below args s0 0 0) 66 [(0, .ref (ad 12)), (2, .int x2), (3, .int x3), (5, .int x5), (6, .int x6)] [] s (f_X12_order_p66 ln kb33 kb42 x2 x3 x5 x6 s) := by
  intro x2 x3 x5 x6 s
  unfold f_X12_order_p66
  refine g_iinc E (lv' := []) (lv'' := fun y11 => [(6, .int y11), (0, .ref (ad 12)), (2, .int x2), (3, .int x3), (5, .int x5)]) (v := 1) dX12_order_66 4 rfl (by decide) (by decide) (fun _ => rfl) (fun y11 => ?_)
  refine g_goto E 42 dX12_order_69 (by decide) ?_
  refine g_sub [1, 2, 3, 4, 0] rfl ?_
  exact hkb42 x2 x3 x5 y11 s
set_option maxHeartbeats 4000000 in
set_option maxRecDepth 20000 in
theorem w_X12_order_p42 {kb33 : Int32 → Int32 → Int32 → Int32 → dr_S → Option (Int32 × dr_S)} (E : dr_E p (dr_rm 4) s0 m args meth c 0 0 A s0.heap D cI cZ ad L cX12_order 7 RX12 (some .int)) (hap : dr_ap ad L) (hN : ∀ x ∈ nd_12, x ∈ L) (hkb33 : ∀ (x2 : Int32) (x3 : Int32) (x4 : Int32) (x5 : Int32) (s : dr_S), dr_G p l e (dr_rm 4) s0 m args below meth c 0 0 A s0.heap D cI cZ ad ln L 7 (dr_Zi D cI cZ ad ln L A below args s0 0 0) 33 [(0, .ref (ad 12)), (2, .int x2), (3, .int x3), (4, .int x4), (5, .int x5)] [] s (kb33 x2 x3 x4 x5 s)) : ∀ (n : Nat) (x2 : Int32) (x3 : Int32) (x5 : Int32) (x6 : Int32) (s : dr_S), dr_G p l e (dr_rm 4) s0 m args below meth c 0 0 A s0.heap D cI cZ ad ln L 7 (dr_Zi D cI cZ ad ln L A below args s0 0 0) 42 [(0, .ref (ad 12)), (2, .int x2), (3, .int x3), (5, .int x5), (6, .int x6)] [] s (f_X12_order_p42 ln kb33 n x2 x3 x5 x6 s) := by
  intro n
  induction n with
  | zero =>
    intro x2 x3 x5 x6 s
    rw [f_X12_order_p42]
    exact g_none
  | succ n hkb42 =>
    intro x2 x3 x5 x6 s
    rw [f_X12_order_p42]
    refine g_aload_n E dX12_order_42 0 rfl ?_
    refine g_iload_n E dX12_order_43 2 rfl ?_
    refine g_iload E dX12_order_44 4 rfl ?_
    refine g_cVi E [.int x3, .int x6] rfl (c_X12_mayCome hap hN x3 x6 s) (hN 12 (by decide)) (by decide) rfl rfl mi_X12_mayCome msl_X12_mayCome mw_X12_mayCome rfl ml_12_283 ⟨Nat.le_of_ble_eq_true rfl, Nat.le_of_ble_eq_true rfl⟩ (Nat.le_of_ble_eq_true rfl) dX12_order_46 (fun r6 s5 => ?_)
    refine g_if_eq E 66 dX12_order_49 (by decide) ?_ ?_
    · refine g_sub [0, 1, 2, 3, 4] rfl ?_
      exact w_X12_order_p66 E hap hN hkb33 hkb42 x2 x3 x5 x6 s5
    · refine g_aload_n E dX12_order_52 0 rfl ?_
      refine gg_12_119 E (hN 12 (by decide)) dX12_order_53 ?_
      refine g_iload_n E dX12_order_56 2 rfl ?_
      refine g_iconst E (v := 1) dX12_order_57 (by decide) ?_
      refine g_iload E dX12_order_58 4 rfl ?_
      refine g_ishl E dX12_order_60 ?_
      refine g_ior E dX12_order_61 ?_
      refine g_baload E (hN 64 (by decide)) (by decide) rfl dX12_order_62 (fun v7 => ?_)
      refine g_if_ne E 72 dX12_order_63 (by decide) ?_ ?_
      · refine g_iload_n E dX12_order_72 2 rfl ?_
        refine g_iconst E (v := 1) dX12_order_73 (by decide) ?_
        refine g_iload E dX12_order_74 4 rfl ?_
        refine g_ishl E dX12_order_76 ?_
        refine g_ior E dX12_order_77 ?_
        refine g_let (fun y8 => ?_)
        refine g_istore_n E (lv' := [(3, .int y8), (0, .ref (ad 12)), (2, .int x2), (5, .int x5), (6, .int x6)]) dX12_order_78 (by decide) rfl ?_
        refine g_aload_n E dX12_order_79 1 rfl ?_
        refine gg_12_116 E (hN 12 (by decide)) dX12_order_80 ?_
        refine g_iload E dX12_order_83 4 rfl ?_
        refine g_iaload E (hN 63 (by decide)) (by decide) rfl dX12_order_85 (fun v9 => ?_)
        refine g_istore E (lv' := [(4, .int v9), (3, .int y8), (0, .ref (ad 12)), (2, .int x2), (5, .int x5), (6, .int x6)]) dX12_order_86 (by decide) rfl ?_
        refine g_iinc E (lv' := []) (lv'' := fun y10 => [(5, .int y10), (4, .int v9), (3, .int y8), (0, .ref (ad 12)), (2, .int x2), (6, .int x6)]) (v := 1) dX12_order_88 4 rfl (by decide) (by decide) (fun _ => rfl) (fun y10 => ?_)
        refine g_goto E 33 dX12_order_91 (by decide) ?_
        refine g_sub [3, 4, 2, 1, 0] rfl ?_
        exact hkb33 x2 y8 v9 y10 s5
      · refine g_sub [0, 1, 2, 3, 4] rfl ?_
        exact w_X12_order_p66 E hap hN hkb33 hkb42 x2 x3 x5 x6 s5
set_option maxHeartbeats 4000000 in
set_option maxRecDepth 20000 in
theorem w_X12_order_p33 (E : dr_E p (dr_rm 4) s0 m args meth c 0 0 A s0.heap D cI cZ ad L cX12_order 7 RX12 (some .int)) (hap : dr_ap ad L) (hN : ∀ x ∈ nd_12, x ∈ L) : ∀ (n : Nat) (x2 : Int32) (x3 : Int32) (x4 : Int32) (x5 : Int32) (s : dr_S), dr_G p l e (dr_rm 4) s0 m args below meth c 0 0 A s0.heap D cI cZ ad ln L 7 (dr_Zi D cI cZ ad ln L A below args s0 0 0) 33 [(0, .ref (ad 12)), (2, .int x2), (3, .int x3), (4, .int x4), (5, .int x5)] [] s (f_X12_order_p33 ln n x2 x3 x4 x5 s) := by
  intro n
  induction n with
  | zero =>
    intro x2 x3 x4 x5 s
    rw [f_X12_order_p33]
    exact g_none
  | succ n hkb33 =>
    intro x2 x3 x4 x5 s
    rw [f_X12_order_p33]
    refine g_iload E dX12_order_33 4 rfl ?_
    refine g_iload_n E dX12_order_35 1 rfl ?_
    refine g_icmp_gt E 94 dX12_order_36 (by decide) ?_ ?_
    · refine g_iload E dX12_order_94 3 rfl ?_
      exact g_iret E dX12_order_96
    · refine g_iconst E (v := 0) dX12_order_39 (by decide) ?_
      refine g_istore E (lv' := [(6, .int 0), (0, .ref (ad 12)), (2, .int x2), (3, .int x3), (4, .int x4), (5, .int x5)]) dX12_order_40 (by decide) rfl ?_
      refine g_sub [1, 2, 3, 5, 0] rfl ?_
      exact w_X12_order_p42 E hap hN hkb33 dr_N x2 x3 x5 0 s
set_option maxHeartbeats 4000000 in
set_option maxRecDepth 20000 in
theorem c_X12_order (hap : dr_ap ad L) (hN : ∀ x ∈ nd_12, x ∈ L) (x1 : Int32) (x2 : Int32) (s : dr_S) : dr_Mi l D cI cZ ad ln L yX12_order cX12_order 7 (some .int) 4 [.ref (ad 12), .int x1, .int x2] s (f_X12_order ln x1 x2 s) := by
  refine dr_meti (own := RX12) (by decide) rfl (Nat.le_of_ble_eq_true rfl) hap ?_
  intro p e s0 m args below meth c A E
  unfold f_X12_order
  refine g_eqL (lv' := [(0, .ref (ad 12)), (1, .int x1), (2, .int x2)]) rfl ?_
  refine g_aload_n E dX12_order_0 0 rfl ?_
  refine g_iload_n E dX12_order_1 1 rfl ?_
  refine g_cVi E [.int x1] rfl (c_X12_line hap hN x1 s) (hN 12 (by decide)) (by decide) rfl rfl mi_X12_line msl_X12_line mw_X12_line rfl ml_12_292 ⟨Nat.le_of_ble_eq_true rfl, Nat.le_of_ble_eq_true rfl⟩ (Nat.le_of_ble_eq_true rfl) dX12_order_2 (fun r2 s1 => ?_)
  refine g_iconst E (v := 1) dX12_order_5 (by decide) ?_
  refine g_icmp_ne E 23 dX12_order_6 (by decide) ?_ ?_
  · refine g_iconst E (v := (-1)) dX12_order_23 (by decide) ?_
    exact g_iret E dX12_order_24
  · refine g_iload_n E dX12_order_9 2 rfl ?_
    refine g_iconst E (v := 0) dX12_order_10 (by decide) ?_
    refine g_aload_n E dX12_order_11 0 rfl ?_
    refine gg_12_277 E (hN 12 (by decide)) dX12_order_12 ?_
    refine g_iconst E (v := 1) dX12_order_15 (by decide) ?_
    refine g_isub E dX12_order_16 ?_
    refine g_cSi E [.int x2, .int 0, .int ((s1.2 1244) - 1)] rfl (c_X12_in hap hN x2 0 (((s1.2 1244) - 1)) s1) ms_X12_in mw_X12_in rfl ml_12_160 ⟨Nat.le_of_ble_eq_true rfl, Nat.le_of_ble_eq_true rfl⟩ (Nat.le_of_ble_eq_true rfl) dX12_order_17 (fun r4 s3 => ?_)
    refine g_if_ne E 25 dX12_order_20 (by decide) ?_ ?_
    · refine g_iconst E (v := 0) dX12_order_25 (by decide) ?_
      refine g_istore_n E (lv' := [(3, .int 0), (0, .ref (ad 12)), (1, .int x1), (2, .int x2)]) dX12_order_26 (by decide) rfl ?_
      refine g_iconst E (v := (-1)) dX12_order_27 (by decide) ?_
      refine g_istore E (lv' := [(4, .int (-1)), (3, .int 0), (0, .ref (ad 12)), (1, .int x1), (2, .int x2)]) dX12_order_28 (by decide) rfl ?_
      refine g_iconst E (v := 0) dX12_order_30 (by decide) ?_
      refine g_istore E (lv' := [(5, .int 0), (4, .int (-1)), (3, .int 0), (0, .ref (ad 12)), (1, .int x1), (2, .int x2)]) dX12_order_31 (by decide) rfl ?_
      refine g_sub [3, 5, 2, 1, 0] rfl ?_
      exact w_X12_order_p33 E hap hN dr_N x2 0 ((-1)) 0 s3
    · refine g_iconst E (v := (-1)) dX12_order_23 (by decide) ?_
      exact g_iret E dX12_order_24
end

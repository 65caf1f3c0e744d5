def dr_ln (N : Nat) : Nat → Nat := fun i => match i with
  | 13 => 120
  | 14 => N
  | 15 => 1024
  | 16 => 1024
  | 17 => 5
  | 18 => 4
  | 19 => 4
  | 20 => 9
  | 21 => 9
  | 22 => 9
  | 23 => 9
  | 24 => 9
  | 25 => 9
  | 26 => 16
  | 27 => 8
  | 28 => 4
  | 29 => 4
  | 30 => 256
  | 31 => 256
  | 32 => 256
  | 33 => 3584
  | 34 => 3584
  | 35 => 256
  | 36 => 256
  | 37 => 256
  | 38 => 4
  | 39 => 4
  | 40 => 4
  | 41 => 4
  | 42 => 4
  | 43 => 4
  | 44 => 256
  | 45 => 4
  | 46 => 56
  | 47 => 56
  | 48 => 4
  | 49 => 4
  | 50 => 120
  | 51 => 120
  | 52 => 120
  | 53 => 120
  | 54 => 120
  | 55 => 120
  | 56 => 120
  | 57 => 120
  | 58 => 120
  | 59 => 120
  | 60 => 4
  | 61 => 4
  | 62 => 3600
  | 63 => 9
  | 64 => 512
  | 65 => 256
  | 66 => 1280
  | 67 => 3584
  | 68 => 3584
  | 69 => 32
  | 70 => 256
  | 71 => 56
  | 72 => 56
  | 73 => 360
  | 74 => 8
  | _ => 0
def dr_s0 : dr_S := (fun _ _ => 0, fun _ => 0)
theorem dr_apD {A : Nat → Prop} {ws : va_W} {ad : Nat → Nat} {L : List Nat} (h : va_D A ws) (hm : ws.map (fun q => q.1) = L.map ad) (hn : L.Nodup) : dr_ap ad L := by
  refine ⟨hn, fun i hi j hj e => ?_⟩
  obtain ⟨x, hx⟩ := List.getElem?_of_mem hi
  obtain ⟨y, hy⟩ := List.getElem?_of_mem hj
  have hx2 : (ws.map (fun q => q.1))[x]? = some (ad i) := by rw [hm, List.getElem?_map, hx]; rfl
  have hy2 : (ws.map (fun q => q.1))[y]? = some (ad j) := by rw [hm, List.getElem?_map, hy]; rfl
  rw [List.getElem?_map] at hx2 hy2
  cases hp : ws[x]? with
  | none => rw [hp] at hx2; cases hx2
  | some u =>
    cases hq : ws[y]? with
    | none => rw [hq] at hy2; cases hy2
    | some v =>
      rw [hp] at hx2
      rw [hq] at hy2
      have e1 : u.1 = ad i := Option.some.inj hx2
      have e2 : v.1 = ad j := Option.some.inj hy2
      have hxy := h.1 x y u v hp hq (by rw [e1, e2, e])
      subst hxy
      exact Option.some.inj (hx.symm.trans hy)
/-- as dr_K, where the method also needs a word that binds nest mates -/
def dr_KN (wn : Cond) (l : Launch) (D : va_G) (cI cZ : ClassId) (y : MethodName) (bytes : ByteArray) (maxL : Nat) (rm : Room) (av : List Value) (wc : va_W) {S : Type} (post : S → Prop) (Bw : S → va_W) : Prop :=
  ∀ sz : Nat, Met l y (.code y bytes maxL none :: dr_tbl) rm (va_Pc av (fun U => U.heap.size = sz ∧ va_P D vwCl wc U.heap ∧ va_K D vwCl (dr_tys cI cZ) U ∧ va_D (fun _ => True) wc ∧ va_Nw wn U)) (va_Qv post (fun u t => va_P D vwCl (Bw u) t.heap ∧ va_D (va_A wc sz) (Bw u)) (va_A wc sz)) rm.cells rm.slots (va_A wc sz)
section DC
variable {p : Program} {l : Launch} {e : Env} {R : Room} {s0 : State} {m : MethodId} {args : Array Value} {below : List Frame} {meth : Method} {c : Code} {A : Nat → Prop} {H0 : Heap} {D : va_G} {cI cZ : ClassId} {ad : Nat → Nat} {cc : ByteArray} {nL : Nat} {own : String} {ret : Option FieldType} {Q : State → Prop}
variable {cells slots pc : Nat} {lv : List (Nat × Value)} {st : List Value} {ws : va_W}

theorem k_D (kk : va_D A ws → dr_C p l e R s0 m args below meth c A H0 D nL Q cells slots pc lv st ws) : dr_C p l e R s0 m args below meth c A H0 D nL Q cells slots pc lv st ws := fun H locs ls hP hD hS hl => kk hD H locs ls hP hD hS hl
theorem k_startN {wn : Cond} {y : MethodName} {rm : Room} {av : List Value} {wc : va_W} {S : Type} {post : S → Prop} {Bw : S → va_W} (hy : plainName y.cls = true) (hown : y.cls = own) (hlen : (lg_sl av).length ≤ nL) (hnm : y.name = "<init>") (body : ∀ (p : Program) (e : Env) (s0 : State) (m : MethodId) (args : Array Value) (below : List Frame) (meth : Method) (c : Code) (A : Nat → Prop), A = va_A wc s0.heap.size → va_Nw wn s0 → meth.name = "<init>" → dr_E p rm s0 m args meth c 0 0 A s0.heap D cI cZ (fun _ => 0) [] cc nL own none → dr_C p l e rm s0 m args below meth c A s0.heap D nL (MQ below (va_Qv post (fun u t => va_P D vwCl (Bw u) t.heap ∧ va_D A (Bw u)) A) args s0 rm.cells rm.slots A) 0 0 0 (lv_args 0 av) [] wc) : dr_KN wn l D cI cZ y cc nL rm av wc post Bw := by
  intro sz
  refine Met.ofW (cc := cc) (maxL := nL) (ret := none) hy rfl ?_
  intro p e s0 m args below meth c s₁ B hml hv
  obtain ⟨rfl, hsz, hP, hK, hD0, hNw⟩ := hv
  have hts := atoms_spec (ws := .code y cc nL none :: dr_tbl) B.pre
  have hown' : s0.vm.findClass own = some m.cls := hown ▸ findClass_of_methodNamed B.named
  have hmn : meth.name = "<init>" := (name_of_methodNamed B.named B.method).1.trans hnm
  subst hsz
  have hE : dr_E p rm s0 m av.toArray meth c 0 0 (va_A wc s0.heap.size) s0.heap D cI cZ (fun _ => 0) [] cc nL own none := ⟨B.exec, B.bytes, hml, B.returns, B.notSynchronized, hown', fun w hw => hts w (List.mem_cons_of_mem _ hw), hK, ⟨List.nodup_nil, fun i h => (by cases h)⟩, (fun id h => (by cases h)), fun q h => Or.inr h, Nat.zero_le _, Nat.zero_le _⟩
  rw [lg_entry_eq]
  exact body p e s0 m _ below meth c _ rfl hNw hmn hE s0.heap [] _ hP hD0.self va_S.rf (lv_entry av hlen)
end DC
theorem dX11_init_0 : decode cX11_init 0 = .ok (.aload_n 0, 1) := by decide +kernel
theorem dX11_init_1 : decode cX11_init 1 = .ok (.invokespecial 1, 3) := by decide +kernel
theorem dX11_init_4 : decode cX11_init 4 = .ok (.iconst 2, 1) := by decide +kernel
theorem dX11_init_5 : decode cX11_init 5 = .ok (.iconst 5, 1) := by decide +kernel
theorem dX11_init_6 : decode cX11_init 6 = .ok (.iload_n 1, 1) := by decide +kernel
theorem dX11_init_7 : decode cX11_init 7 = .ok (.invokestatic 7, 3) := by decide +kernel
theorem dX11_init_10 : decode cX11_init 10 = .ok (.invokestatic 13, 3) := by decide +kernel
theorem dX11_init_13 : decode cX11_init 13 = .ok (.istore_n 2, 1) := by decide +kernel
theorem dX11_init_14 : decode cX11_init 14 = .ok (.iload_n 2, 1) := by decide +kernel
theorem dX11_init_15 : decode cX11_init 15 = .ok (.invokestatic 16, 3) := by decide +kernel
theorem dX11_init_18 : decode cX11_init 18 = .ok (.istore_n 3, 1) := by decide +kernel
theorem dX11_init_19 : decode cX11_init 19 = .ok (.iload_n 3, 1) := by decide +kernel
theorem dX11_init_20 : decode cX11_init 20 = .ok (.sipush 512, 3) := by decide +kernel
theorem dX11_init_23 : decode cX11_init 23 = .ok (.iadd, 1) := by decide +kernel
theorem dX11_init_24 : decode cX11_init 24 = .ok (.istore 4, 2) := by decide +kernel
theorem dX11_init_26 : decode cX11_init 26 = .ok (.new 24, 3) := by decide +kernel
theorem dX11_init_29 : decode cX11_init 29 = .ok (.dup, 1) := by decide +kernel
theorem dX11_init_30 : decode cX11_init 30 = .ok (.iload 4, 2) := by decide +kernel
theorem dX11_init_32 : decode cX11_init 32 = .ok (.sipush 962, 3) := by decide +kernel
theorem dX11_init_35 : decode cX11_init 35 = .ok (.iadd, 1) := by decide +kernel
theorem dX11_init_36 : decode cX11_init 36 = .ok (.invokespecial 28, 3) := by decide +kernel
theorem dX11_init_39 : decode cX11_init 39 = .ok (.astore 5, 2) := by decide +kernel
theorem dX11_init_41 : decode cX11_init 41 = .ok (.aload_n 0, 1) := by decide +kernel
theorem dX11_init_42 : decode cX11_init 42 = .ok (.new 31, 3) := by decide +kernel
theorem dX11_init_45 : decode cX11_init 45 = .ok (.dup, 1) := by decide +kernel
theorem dX11_init_46 : decode cX11_init 46 = .ok (.invokespecial 33, 3) := by decide +kernel
theorem dX11_init_49 : decode cX11_init 49 = .ok (.putfield 34, 3) := by decide +kernel
theorem dX11_init_52 : decode cX11_init 52 = .ok (.aload_n 0, 1) := by decide +kernel
theorem dX11_init_53 : decode cX11_init 53 = .ok (.new 17, 3) := by decide +kernel
theorem dX11_init_56 : decode cX11_init 56 = .ok (.dup, 1) := by decide +kernel
theorem dX11_init_57 : decode cX11_init 57 = .ok (.aload 5, 2) := by decide +kernel
theorem dX11_init_59 : decode cX11_init 59 = .ok (.aload_n 0, 1) := by decide +kernel
theorem dX11_init_60 : decode cX11_init 60 = .ok (.getfield 34, 3) := by decide +kernel
theorem dX11_init_63 : decode cX11_init 63 = .ok (.iload_n 2, 1) := by decide +kernel
theorem dX11_init_64 : decode cX11_init 64 = .ok (.invokespecial 40, 3) := by decide +kernel
theorem dX11_init_67 : decode cX11_init 67 = .ok (.putfield 43, 3) := by decide +kernel
theorem dX11_init_70 : decode cX11_init 70 = .ok (.aload_n 0, 1) := by decide +kernel
theorem dX11_init_71 : decode cX11_init 71 = .ok (.new 22, 3) := by decide +kernel
theorem dX11_init_74 : decode cX11_init 74 = .ok (.dup, 1) := by decide +kernel
theorem dX11_init_75 : decode cX11_init 75 = .ok (.aload 5, 2) := by decide +kernel
theorem dX11_init_77 : decode cX11_init 77 = .ok (.iload_n 3, 1) := by decide +kernel
theorem dX11_init_78 : decode cX11_init 78 = .ok (.invokespecial 47, 3) := by decide +kernel
theorem dX11_init_81 : decode cX11_init 81 = .ok (.putfield 50, 3) := by decide +kernel
theorem dX11_init_84 : decode cX11_init 84 = .ok (.aload_n 0, 1) := by decide +kernel
theorem dX11_init_85 : decode cX11_init 85 = .ok (.new 26, 3) := by decide +kernel
theorem dX11_init_88 : decode cX11_init 88 = .ok (.dup, 1) := by decide +kernel
theorem dX11_init_89 : decode cX11_init 89 = .ok (.aload 5, 2) := by decide +kernel
theorem dX11_init_91 : decode cX11_init 91 = .ok (.iload 4, 2) := by decide +kernel
theorem dX11_init_93 : decode cX11_init 93 = .ok (.invokespecial 54, 3) := by decide +kernel
theorem dX11_init_96 : decode cX11_init 96 = .ok (.putfield 55, 3) := by decide +kernel
theorem dX11_init_99 : decode cX11_init 99 = .ok (.aload_n 0, 1) := by decide +kernel
theorem dX11_init_100 : decode cX11_init 100 = .ok (.new 59, 3) := by decide +kernel
theorem dX11_init_103 : decode cX11_init 103 = .ok (.dup, 1) := by decide +kernel
theorem dX11_init_104 : decode cX11_init 104 = .ok (.aload_n 0, 1) := by decide +kernel
theorem dX11_init_105 : decode cX11_init 105 = .ok (.getfield 43, 3) := by decide +kernel
theorem dX11_init_108 : decode cX11_init 108 = .ok (.aload_n 0, 1) := by decide +kernel
theorem dX11_init_109 : decode cX11_init 109 = .ok (.getfield 50, 3) := by decide +kernel
theorem dX11_init_112 : decode cX11_init 112 = .ok (.aload_n 0, 1) := by decide +kernel
theorem dX11_init_113 : decode cX11_init 113 = .ok (.getfield 55, 3) := by decide +kernel
theorem dX11_init_116 : decode cX11_init 116 = .ok (.invokespecial 61, 3) := by decide +kernel
theorem dX11_init_119 : decode cX11_init 119 = .ok (.putfield 64, 3) := by decide +kernel
theorem dX11_init_122 : decode cX11_init 122 = .ok (.aload_n 0, 1) := by decide +kernel
theorem dX11_init_123 : decode cX11_init 123 = .ok (.new 68, 3) := by decide +kernel
theorem dX11_init_126 : decode cX11_init 126 = .ok (.dup, 1) := by decide +kernel
theorem dX11_init_127 : decode cX11_init 127 = .ok (.aload_n 0, 1) := by decide +kernel
theorem dX11_init_128 : decode cX11_init 128 = .ok (.getfield 43, 3) := by decide +kernel
theorem dX11_init_131 : decode cX11_init 131 = .ok (.aload_n 0, 1) := by decide +kernel
theorem dX11_init_132 : decode cX11_init 132 = .ok (.getfield 34, 3) := by decide +kernel
theorem dX11_init_135 : decode cX11_init 135 = .ok (.invokespecial 70, 3) := by decide +kernel
theorem dX11_init_138 : decode cX11_init 138 = .ok (.putfield 73, 3) := by decide +kernel
theorem dX11_init_141 : decode cX11_init 141 = .ok (.aload_n 0, 1) := by decide +kernel
theorem dX11_init_142 : decode cX11_init 142 = .ok (.new 77, 3) := by decide +kernel
theorem dX11_init_145 : decode cX11_init 145 = .ok (.dup, 1) := by decide +kernel
theorem dX11_init_146 : decode cX11_init 146 = .ok (.aload_n 0, 1) := by decide +kernel
theorem dX11_init_147 : decode cX11_init 147 = .ok (.getfield 55, 3) := by decide +kernel
theorem dX11_init_150 : decode cX11_init 150 = .ok (.invokespecial 79, 3) := by decide +kernel
theorem dX11_init_153 : decode cX11_init 153 = .ok (.putfield 82, 3) := by decide +kernel
theorem dX11_init_156 : decode cX11_init 156 = .ok (.aload_n 0, 1) := by decide +kernel
theorem dX11_init_157 : decode cX11_init 157 = .ok (.new 86, 3) := by decide +kernel
theorem dX11_init_160 : decode cX11_init 160 = .ok (.dup, 1) := by decide +kernel
theorem dX11_init_161 : decode cX11_init 161 = .ok (.aload_n 0, 1) := by decide +kernel
theorem dX11_init_162 : decode cX11_init 162 = .ok (.getfield 43, 3) := by decide +kernel
theorem dX11_init_165 : decode cX11_init 165 = .ok (.aload_n 0, 1) := by decide +kernel
theorem dX11_init_166 : decode cX11_init 166 = .ok (.getfield 34, 3) := by decide +kernel
theorem dX11_init_169 : decode cX11_init 169 = .ok (.invokespecial 88, 3) := by decide +kernel
theorem dX11_init_172 : decode cX11_init 172 = .ok (.putfield 89, 3) := by decide +kernel
theorem dX11_init_175 : decode cX11_init 175 = .ok (.aload_n 0, 1) := by decide +kernel
theorem dX11_init_176 : decode cX11_init 176 = .ok (.new 93, 3) := by decide +kernel
theorem dX11_init_179 : decode cX11_init 179 = .ok (.dup, 1) := by decide +kernel
theorem dX11_init_180 : decode cX11_init 180 = .ok (.aload 5, 2) := by decide +kernel
theorem dX11_init_182 : decode cX11_init 182 = .ok (.aload_n 0, 1) := by decide +kernel
theorem dX11_init_183 : decode cX11_init 183 = .ok (.getfield 50, 3) := by decide +kernel
theorem dX11_init_186 : decode cX11_init 186 = .ok (.aload_n 0, 1) := by decide +kernel
theorem dX11_init_187 : decode cX11_init 187 = .ok (.getfield 55, 3) := by decide +kernel
theorem dX11_init_190 : decode cX11_init 190 = .ok (.aload_n 0, 1) := by decide +kernel
theorem dX11_init_191 : decode cX11_init 191 = .ok (.getfield 64, 3) := by decide +kernel
theorem dX11_init_194 : decode cX11_init 194 = .ok (.aload_n 0, 1) := by decide +kernel
theorem dX11_init_195 : decode cX11_init 195 = .ok (.getfield 82, 3) := by decide +kernel
theorem dX11_init_198 : decode cX11_init 198 = .ok (.aload_n 0, 1) := by decide +kernel
theorem dX11_init_199 : decode cX11_init 199 = .ok (.getfield 89, 3) := by decide +kernel
theorem dX11_init_202 : decode cX11_init 202 = .ok (.invokespecial 95, 3) := by decide +kernel
theorem dX11_init_205 : decode cX11_init 205 = .ok (.putfield 98, 3) := by decide +kernel
theorem dX11_init_208 : decode cX11_init 208 = .ok (.aload_n 0, 1) := by decide +kernel
theorem dX11_init_209 : decode cX11_init 209 = .ok (.new 102, 3) := by decide +kernel
theorem dX11_init_212 : decode cX11_init 212 = .ok (.dup, 1) := by decide +kernel
theorem dX11_init_213 : decode cX11_init 213 = .ok (.aload_n 0, 1) := by decide +kernel
theorem dX11_init_214 : decode cX11_init 214 = .ok (.getfield 43, 3) := by decide +kernel
theorem dX11_init_217 : decode cX11_init 217 = .ok (.aload_n 0, 1) := by decide +kernel
theorem dX11_init_218 : decode cX11_init 218 = .ok (.getfield 73, 3) := by decide +kernel
theorem dX11_init_221 : decode cX11_init 221 = .ok (.invokespecial 104, 3) := by decide +kernel
theorem dX11_init_224 : decode cX11_init 224 = .ok (.putfield 107, 3) := by decide +kernel
theorem dX11_init_227 : decode cX11_init 227 = .ok (.return_, 1) := by decide +kernel
def r_k (x1 : Int32) : Int32 := dr_max 2 (dr_min 5 x1)
def r_cf (x1 : Int32) : Int32 := ((260 * ((5 + ((2 * (r_k x1)) + 1)) + ((2 * (r_k x1)) + 2))) + 2)
def s_room (s3 : dr_S) (x1 : Int32) : dr_S := (dr_set (dr_set (dr_set (dr_set (dr_set (dr_set (dr_set (dr_set (dr_set (dr_pf (dr_pf (dr_pf (dr_pf (dr_pf (dr_pf (dr_pf s3 601 (r_cf x1 + 512)) 602 ((r_cf x1 + 512) + 960)) 603 (((r_cf x1 + 512) + 960) + 1)) 103 0) 708 0) 807 (-1)) 808 (-1)) 13 (fun _ => 0)) 20 (fun _ => 0)) 21 (fun _ => 0)) 22 (fun _ => 0)) 23 (fun _ => 0)) 24 (fun _ => 0)) 25 (fun _ => 0)) 26 (fun _ => 0)) 27 (fun _ => 0))
abbrev L_room : List Nat := [11, 3, 4, 2, 14, 15, 16, 5, 17, 18, 19, 6, 10, 1, 13, 7, 20, 21, 22, 23, 24, 25, 26, 9, 8, 27, 0]
set_option maxHeartbeats 4000000 in
set_option maxRecDepth 40000 in
theorem k_X11_init {l : Launch} {D : va_G} {cI cZ : ClassId} (a : Nat) (x1 : Int32) (N : Nat) (hz0 : ¬ dr_max 0 ((r_cf x1 + 512) + 962) < 0) (hz : (dr_max 0 ((r_cf x1 + 512) + 962)).toNatClampNeg = N) (hNN : N ≤ 100000) (s2 s3 : dr_S) (h4 : f_X4_init (dr_ln N) (s_X4_init dr_s0 (r_k x1)) = some (0, s2)) (h3 : f_X3_init (dr_ln N) (s_X3_init s2 (r_cf x1)) = some (0, s3)) : dr_KN (.methodLinkNest RX11 33 yX5_init RX11) l D cI cZ yX11_init cX11_init 6 ({ frames := 12, cells := 26, slots := 2311 + N, locals := 768 } : Room) [.ref a, .int x1] [(a, .inr (11, [.null, .null, .null, .null, .null, .null, .null, .null, .null, .null]))] (fun u : Nat → Nat => u 11 = a) (fun u => dr_w cI cZ u (dr_ln N) L_room (s_room s3 x1)) := by
  refine k_startN (own := RX11) (by decide) rfl (Nat.le_of_ble_eq_true rfl) rfl ?_
  intro p e s0 m args below meth c A hA hNw hmn E
  refine k_lv (lv' := [(0, .ref a), (1, .int x1)]) rfl ?_
  refine k_aload_n E dX11_init_0 0 rfl ?_
  refine k_obj E mo_11 dX11_init_1 ⟨Nat.le_of_ble_eq_true rfl, Nat.le_of_ble_eq_true rfl⟩ ?_
  refine k_iconst E (v := 2) dX11_init_4 (by decide) ?_
  refine k_iconst E (v := 5) dX11_init_5 (by decide) ?_
  refine k_iload_n E dX11_init_6 1 rfl ?_
  refine k_mmin E ml_11_7 ⟨Nat.le_of_ble_eq_true rfl, Nat.le_of_ble_eq_true rfl⟩ ⟨(by first | (dsimp only [dr_rm]; omega) | (dsimp only [dr_rm]; done)), (by first | (dsimp only [dr_rm]; omega) | (dsimp only [dr_rm]; done))⟩ dX11_init_7 ?_
  refine k_mmax E ml_11_13 ⟨Nat.le_of_ble_eq_true rfl, Nat.le_of_ble_eq_true rfl⟩ ⟨(by first | (dsimp only [dr_rm]; omega) | (dsimp only [dr_rm]; done)), (by first | (dsimp only [dr_rm]; omega) | (dsimp only [dr_rm]; done))⟩ dX11_init_10 ?_
  refine k_istore_n E (lv' := [(2, .int (r_k x1)), (0, .ref a), (1, .int x1)]) dX11_init_13 (by decide) rfl ?_
  refine k_iload_n E dX11_init_14 0 rfl ?_
  refine k_cSi E (ln := dr_ln N) (s := dr_s0) (s1 := dr_s0) (r1 := r_cf x1) [.int (r_k x1)] rfl (c0_X4_cellsFor ⟨List.nodup_nil, fun i h => (by cases h)⟩ (r_k x1) dr_s0) ms_X4_cellsFor mw_X4_cellsFor rfl ml_11_16 ⟨Nat.le_of_ble_eq_true rfl, Nat.le_of_ble_eq_true rfl⟩ (Nat.le_of_ble_eq_true rfl) ⟨(by first | (dsimp only [dr_rm]; omega) | (dsimp only [dr_rm]; done)), (by first | (dsimp only [dr_rm]; omega) | (dsimp only [dr_rm]; done))⟩ dX11_init_15 ?_
  refine k_istore_n E (lv' := [(3, .int (r_cf x1)), (2, .int (r_k x1)), (0, .ref a), (1, .int x1)]) dX11_init_18 (by decide) rfl ?_
  refine k_iload_n E dX11_init_19 0 rfl ?_
  refine k_sipush E (v := 512) dX11_init_20 (by decide) ?_
  refine k_iadd E dX11_init_23 ?_
  refine k_istore E (lv' := [(4, .int ((r_cf x1) + 512)), (3, .int (r_cf x1)), (2, .int (r_k x1)), (0, .ref a), (1, .int x1)]) dX11_init_24 (by decide) rfl ?_
  refine k_new E (ci := 2) (fs := [.null, .null, .null, .int 0, .int 0]) tyX2 tyX2_ok rfl wu_2 wc_11_24 wn_2 wi_2 (by decide) (by first | (dsimp only [dr_rm]; omega) | (dsimp only [dr_rm]; done)) (by first | (dsimp only [dr_rm]; omega) | (dsimp only [dr_rm]; done)) dX11_init_26 (fun q2 => ?_)
  refine k_ws (ws' := ((a, .inr (11, [.null, .null, .null, .null, .null, .null, .null, .null, .null, .null])) :: [(q2, .inr (2, [.null, .null, .null, .int 0, .int 0]))])) rfl ?_
  refine k_dup E dX11_init_29 rfl ?_
  refine k_iload E dX11_init_30 0 rfl ?_
  refine k_sipush E (v := 962) dX11_init_32 (by decide) ?_
  refine k_iadd E dX11_init_35 ?_
  refine k_callI E (b := q2) [.int (((r_cf x1) + 512) + 962)] [(q2, .inr (2, [.null, .null, .null, .int 0, .int 0]))] ((a, .inr (11, [.null, .null, .null, .null, .null, .null, .null, .null, .null, .null])) :: []) [1] [0] rfl (k_X2_init q2 ((((r_cf x1) + 512) + 962)) N hz0 hz hNN) rfl rfl (by decide) (by decide) (by decide) mw_X2_init rfl rfl mi_X2_init ml_11_28 ⟨Nat.le_of_ble_eq_true rfl, Nat.le_of_ble_eq_true rfl⟩ (Nat.le_of_ble_eq_true rfl) ⟨(by first | (dsimp only [dr_rm]; omega) | (dsimp only [dr_rm]; done)), (by first | (dsimp only [dr_rm]; omega) | (dsimp only [dr_rm]; done))⟩ dX11_init_36 (fun u2 _ => ?_)
  generalize u2 14 = q14
  generalize u2 15 = q15
  generalize u2 16 = q16
  refine k_ws (ws' := ((a, .inr (11, [.null, .null, .null, .null, .null, .null, .null, .null, .null, .null])) :: [(q2, .inr (2, [.ref q14, .ref q15, .ref q16, .int 0, .int 0])), (q15, .inl (cI, 1024, .inl (fun _ => 0))), (q16, .inl (cI, 1024, .inl (fun _ => 0))), (q14, .inl (cI, N, .inl (fun _ => 0)))])) rfl ?_
  refine k_astore E (lv' := [(5, .ref q2), (4, .int ((r_cf x1) + 512)), (3, .int (r_cf x1)), (2, .int (r_k x1)), (0, .ref a), (1, .int x1)]) dX11_init_39 (by decide) rfl ?_
  refine k_aload_n E dX11_init_41 4 rfl ?_
  refine k_new E (ci := 5) (fs := [.null, .null, .null, .int 0, .int 0]) tyX5 tyX5_ok rfl wu_5 wc_11_31 wn_5 wi_5 (by decide) (by first | (dsimp only [dr_rm]; omega) | (dsimp only [dr_rm]; done)) (by first | (dsimp only [dr_rm]; omega) | (dsimp only [dr_rm]; done)) dX11_init_42 (fun q5 => ?_)
  refine k_ws (ws' := ((a, .inr (11, [.null, .null, .null, .null, .null, .null, .null, .null, .null, .null])) :: [(q2, .inr (2, [.ref q14, .ref q15, .ref q16, .int 0, .int 0])), (q15, .inl (cI, 1024, .inl (fun _ => 0))), (q16, .inl (cI, 1024, .inl (fun _ => 0))), (q14, .inl (cI, N, .inl (fun _ => 0))), (q5, .inr (5, [.null, .null, .null, .int 0, .int 0]))])) rfl ?_
  refine k_dup E dX11_init_45 rfl ?_
  refine k_callIN E (b := q5) [] [(q5, .inr (5, [.null, .null, .null, .int 0, .int 0]))] ((a, .inr (11, [.null, .null, .null, .null, .null, .null, .null, .null, .null, .null])) :: [(q2, .inr (2, [.ref q14, .ref q15, .ref q16, .int 0, .int 0])), (q15, .inl (cI, 1024, .inl (fun _ => 0))), (q16, .inl (cI, 1024, .inl (fun _ => 0))), (q14, .inl (cI, N, .inl (fun _ => 0)))]) [5] [0, 1, 2, 3, 4] rfl (k_X5_init q5) rfl rfl (by decide) (by decide) (by decide) mw_X5_init rfl rfl mi_X5_init hNw ⟨Nat.le_of_ble_eq_true rfl, Nat.le_of_ble_eq_true rfl⟩ (Nat.le_of_ble_eq_true rfl) ⟨(by first | (dsimp only [dr_rm]; omega) | (dsimp only [dr_rm]; done)), (by first | (dsimp only [dr_rm]; omega) | (dsimp only [dr_rm]; done))⟩ dX11_init_46 (fun u5 _ => ?_)
  generalize u5 17 = q17
  generalize u5 18 = q18
  generalize u5 19 = q19
  refine k_ws (ws' := ((a, .inr (11, [.null, .null, .null, .null, .null, .null, .null, .null, .null, .null])) :: [(q2, .inr (2, [.ref q14, .ref q15, .ref q16, .int 0, .int 0])), (q15, .inl (cI, 1024, .inl (fun _ => 0))), (q16, .inl (cI, 1024, .inl (fun _ => 0))), (q14, .inl (cI, N, .inl (fun _ => 0))), (q5, .inr (5, [.ref q17, .ref q18, .ref q19, .int 0, .int 0])), (q17, .inl (cI, 5, .inl (fun _ => 0))), (q18, .inl (cI, 4, .inl (fun _ => 0))), (q19, .inl (cI, 4, .inl (fun _ => 0)))])) rfl ?_
  refine k_putF E (q0 := 0) (k := 0) rfl rfl wu_11 tyX11 tyX11_ok nmX11 (by decide) wf_11_34 rfl hmn rfl (ty := (.object "DrawerRoom$Filing")) (by decide +kernel) rfl rfl (Nat.le_of_ble_eq_true rfl) dX11_init_49 ?_
  refine k_ws (ws' := ((a, .inr (11, [.ref q5, .null, .null, .null, .null, .null, .null, .null, .null, .null])) :: [(q2, .inr (2, [.ref q14, .ref q15, .ref q16, .int 0, .int 0])), (q15, .inl (cI, 1024, .inl (fun _ => 0))), (q16, .inl (cI, 1024, .inl (fun _ => 0))), (q14, .inl (cI, N, .inl (fun _ => 0))), (q5, .inr (5, [.ref q17, .ref q18, .ref q19, .int 0, .int 0])), (q17, .inl (cI, 5, .inl (fun _ => 0))), (q18, .inl (cI, 4, .inl (fun _ => 0))), (q19, .inl (cI, 4, .inl (fun _ => 0)))])) rfl ?_
  refine k_aload_n E dX11_init_52 4 rfl ?_
  refine k_new E (ci := 4) (fs := [.null, .null, .int 0, .int 0, .int 0, .int 0, .int 0]) tyX4 tyX4_ok rfl wu_4 wc_11_17 wn_4 wi_4 (by decide) (by first | (dsimp only [dr_rm]; omega) | (dsimp only [dr_rm]; done)) (by first | (dsimp only [dr_rm]; omega) | (dsimp only [dr_rm]; done)) dX11_init_53 (fun q4 => ?_)
  refine k_ws (ws' := ((a, .inr (11, [.ref q5, .null, .null, .null, .null, .null, .null, .null, .null, .null])) :: [(q2, .inr (2, [.ref q14, .ref q15, .ref q16, .int 0, .int 0])), (q15, .inl (cI, 1024, .inl (fun _ => 0))), (q16, .inl (cI, 1024, .inl (fun _ => 0))), (q14, .inl (cI, N, .inl (fun _ => 0))), (q5, .inr (5, [.ref q17, .ref q18, .ref q19, .int 0, .int 0])), (q17, .inl (cI, 5, .inl (fun _ => 0))), (q18, .inl (cI, 4, .inl (fun _ => 0))), (q19, .inl (cI, 4, .inl (fun _ => 0))), (q4, .inr (4, [.null, .null, .int 0, .int 0, .int 0, .int 0, .int 0]))])) rfl ?_
  refine k_dup E dX11_init_56 rfl ?_
  refine k_aload E dX11_init_57 0 rfl ?_
  refine k_aload_n E dX11_init_59 4 rfl ?_
  refine k_get E (q0 := 0) (k := 0) rfl rfl wu_11 (by decide) wf_11_34 rfl dX11_init_60 ?_
  refine k_iload_n E dX11_init_63 3 rfl ?_
  obtain ⟨ad, rfl, rfl, rfl, rfl, rfl, rfl, rfl, rfl, rfl⟩ : ∃ ad : Nat → Nat, q4 = ad 4 ∧ q2 = ad 2 ∧ q14 = ad 14 ∧ q15 = ad 15 ∧ q16 = ad 16 ∧ q5 = ad 5 ∧ q17 = ad 17 ∧ q18 = ad 18 ∧ q19 = ad 19 := ⟨fun i => if i = 4 then q4 else if i = 2 then q2 else if i = 14 then q14 else if i = 15 then q15 else if i = 16 then q16 else if i = 5 then q5 else if i = 17 then q17 else if i = 18 then q18 else q19, rfl, rfl, rfl, rfl, rfl, rfl, rfl, rfl, rfl⟩
  refine k_D (fun hD0 => ?_)
  have hap : dr_ap ad [4, 2, 14, 15, 16, 5, 17, 18, 19] := dr_apD (hD0.sub (ws' := ((ad 4, .inr (4, [.null, .null, .int 0, .int 0, .int 0, .int 0, .int 0])) :: dr_w cI cZ ad (dr_ln N) [2, 14, 15, 16, 5, 17, 18, 19] dr_s0)) [9, 1, 4, 2, 3, 5, 6, 7, 8] (by decide) rfl) rfl (by decide)
  refine k_callI E (b := ad 4) [.ref (ad 2), .ref (ad 5), .int (r_k x1)] ((ad 4, .inr (4, [.null, .null, .int 0, .int 0, .int 0, .int 0, .int 0])) :: dr_w cI cZ ad (dr_ln N) [2, 14, 15, 16, 5, 17, 18, 19] dr_s0) [(a, .inr (11, [.ref (ad 5), .null, .null, .null, .null, .null, .null, .null, .null, .null]))] [9, 1, 4, 2, 3, 5, 6, 7, 8] [0] rfl (k_X4_init hap (r_k x1) dr_s0 s2 h4) rfl rfl (by decide) (by decide) (by decide) mw_X4_init rfl rfl mi_X4_init ml_11_40 ⟨Nat.le_of_ble_eq_true rfl, Nat.le_of_ble_eq_true rfl⟩ (Nat.le_of_ble_eq_true rfl) ⟨(by first | (dsimp only [dr_rm]; omega) | (dsimp only [dr_rm]; done)), (by first | (dsimp only [dr_rm]; omega) | (dsimp only [dr_rm]; done))⟩ dX11_init_64 (fun u hu => ?_)
  subst hu
  refine k_ws (ws' := ((a, .inr (11, [.ref (ad 5), .null, .null, .null, .null, .null, .null, .null, .null, .null])) :: (dr_w cI cZ ad (dr_ln N) [4, 2, 14, 15, 16, 5, 17, 18, 19] u))) rfl ?_
  refine k_putF E (q0 := 0) (k := 1) rfl rfl wu_11 tyX11 tyX11_ok nmX11 (by decide) wf_11_43 rfl hmn rfl (ty := (.object "DrawerRoom$Drawers")) (by decide +kernel) rfl rfl (Nat.le_of_ble_eq_true rfl) dX11_init_67 ?_
  refine k_ws (ws' := ((a, .inr (11, [.ref (ad 5), .ref (ad 4), .null, .null, .null, .null, .null, .null, .null, .null])) :: (dr_w cI cZ ad (dr_ln N) [4, 2, 14, 15, 16, 5, 17, 18, 19] u))) rfl ?_
  refine k_aload_n E dX11_init_70 4 rfl ?_
  refine k_new E (ci := 3) (fs := [.null, .int 0]) tyX3 tyX3_ok rfl wu_3 wc_11_22 wn_3 wi_3 (by decide) (by first | (dsimp only [dr_rm]; omega) | (dsimp only [dr_rm]; done)) (by first | (dsimp only [dr_rm]; omega) | (dsimp only [dr_rm]; done)) dX11_init_71 (fun q3 => ?_)
  refine k_ws (ws' := ((a, .inr (11, [.ref (ad 5), .ref (ad 4), .null, .null, .null, .null, .null, .null, .null, .null])) :: (dr_w cI cZ ad (dr_ln N) [4, 2, 14, 15, 16, 5, 17, 18, 19] u ++ [(q3, .inr (3, [.null, .int 0]))]))) rfl ?_
  refine k_dup E dX11_init_74 rfl ?_
  refine k_aload E dX11_init_75 0 rfl ?_
  refine k_iload_n E dX11_init_77 2 rfl ?_
  refine k_D (fun hD0 => ?_)
  have hap3 : dr_ap (va_up ad 3 q3) [3, 4, 2, 14, 15, 16, 5, 17, 18, 19] := dr_apD (hD0.sub (ws' := ((va_up ad 3 q3 3, .inr (3, [.null, .int 0])) :: dr_w cI cZ (va_up ad 3 q3) (dr_ln N) [4, 2, 14, 15, 16, 5, 17, 18, 19] u)) [10, 1, 2, 3, 4, 5, 6, 7, 8, 9] (by decide) rfl) rfl (by decide)
  refine k_callI E (b := q3) [.ref (ad 2), .int (r_cf x1)] ((va_up ad 3 q3 3, .inr (3, [.null, .int 0])) :: dr_w cI cZ (va_up ad 3 q3) (dr_ln N) [4, 2, 14, 15, 16, 5, 17, 18, 19] u) [(a, .inr (11, [.ref (ad 5), .ref (ad 4), .null, .null, .null, .null, .null, .null, .null, .null]))] [10, 1, 2, 3, 4, 5, 6, 7, 8, 9] [0] rfl (k_X3_init (ad := va_up ad 3 q3) hap3 (r_cf x1) u s3 h3) rfl rfl (by decide) (by decide) (by decide) mw_X3_init rfl rfl mi_X3_init ml_11_47 ⟨Nat.le_of_ble_eq_true rfl, Nat.le_of_ble_eq_true rfl⟩ (Nat.le_of_ble_eq_true rfl) ⟨(by first | (dsimp only [dr_rm]; omega) | (dsimp only [dr_rm]; done)), (by first | (dsimp only [dr_rm]; omega) | (dsimp only [dr_rm]; done))⟩ dX11_init_78 (fun u3 hu3 => ?_)
  subst hu3
  refine k_ws (ws' := ((a, .inr (11, [.ref (ad 5), .ref (ad 4), .null, .null, .null, .null, .null, .null, .null, .null])) :: (dr_w cI cZ (va_up ad 3 q3) (dr_ln N) [3, 4, 2, 14, 15, 16, 5, 17, 18, 19] u3))) rfl ?_
  refine k_putF E (q0 := 0) (k := 2) rfl rfl wu_11 tyX11 tyX11_ok nmX11 (by decide) wf_11_50 rfl hmn rfl (ty := (.object "DrawerRoom$Clerks")) (by decide +kernel) rfl rfl (Nat.le_of_ble_eq_true rfl) dX11_init_81 ?_
  refine k_ws (ws' := ((a, .inr (11, [.ref (ad 5), .ref (ad 4), .ref q3, .null, .null, .null, .null, .null, .null, .null])) :: (dr_w cI cZ (va_up ad 3 q3) (dr_ln N) [3, 4, 2, 14, 15, 16, 5, 17, 18, 19] u3))) rfl ?_
  refine k_aload_n E dX11_init_84 4 rfl ?_
  refine k_new E (ci := 6) (fs := [.null, .int 0, .int 0, .int 0]) tyX6 tyX6_ok rfl wu_6 wc_11_26 wn_6 wi_6 (by decide) (by first | (dsimp only [dr_rm]; omega) | (dsimp only [dr_rm]; done)) (by first | (dsimp only [dr_rm]; omega) | (dsimp only [dr_rm]; done)) dX11_init_85 (fun q6 => ?_)
  refine k_ws (ws' := ((a, .inr (11, [.ref (ad 5), .ref (ad 4), .ref q3, .null, .null, .null, .null, .null, .null, .null])) :: (dr_w cI cZ (va_up ad 3 q3) (dr_ln N) [3, 4, 2, 14, 15, 16, 5, 17, 18, 19] u3 ++ [(q6, .inr (6, [.null, .int 0, .int 0, .int 0]))]))) rfl ?_
  refine k_dup E dX11_init_88 rfl ?_
  refine k_aload E dX11_init_89 0 rfl ?_
  refine k_iload E dX11_init_91 1 rfl ?_
  refine k_callI E (b := q6) [.ref (ad 2), .int ((r_cf x1) + 512)] [(q6, .inr (6, [.null, .int 0, .int 0, .int 0]))] ((a, .inr (11, [.ref (ad 5), .ref (ad 4), .ref q3, .null, .null, .null, .null, .null, .null, .null])) :: (dr_w cI cZ (va_up ad 3 q3) (dr_ln N) [3, 4, 2, 14, 15, 16, 5, 17, 18, 19] u3)) [11] [0, 1, 2, 3, 4, 5, 6, 7, 8, 9, 10] rfl (k_X6_init q6 ((ad 2)) (((r_cf x1) + 512))) rfl rfl (by decide) (by decide) (by decide) mw_X6_init rfl rfl mi_X6_init ml_11_54 ⟨Nat.le_of_ble_eq_true rfl, Nat.le_of_ble_eq_true rfl⟩ (Nat.le_of_ble_eq_true rfl) ⟨(by first | (dsimp only [dr_rm]; omega) | (dsimp only [dr_rm]; done)), (by first | (dsimp only [dr_rm]; omega) | (dsimp only [dr_rm]; done))⟩ dX11_init_93 (fun u6 _ => ?_)
  refine k_ws (ws' := ((a, .inr (11, [.ref (ad 5), .ref (ad 4), .ref q3, .null, .null, .null, .null, .null, .null, .null])) :: (dr_w cI cZ (va_up ad 3 q3) (dr_ln N) [3, 4, 2, 14, 15, 16, 5, 17, 18, 19] u3 ++ [(q6, .inr (6, [.ref (ad 2), .int ((r_cf x1) + 512), .int (((r_cf x1) + 512) + 960), .int ((((r_cf x1) + 512) + 960) + 1)]))]))) rfl ?_
  refine k_putF E (q0 := 0) (k := 3) rfl rfl wu_11 tyX11 tyX11_ok nmX11 (by decide) wf_11_55 rfl hmn rfl (ty := (.object "DrawerRoom$Jobs")) (by decide +kernel) rfl rfl (Nat.le_of_ble_eq_true rfl) dX11_init_96 ?_
  refine k_ws (ws' := ((a, .inr (11, [.ref (ad 5), .ref (ad 4), .ref q3, .ref q6, .null, .null, .null, .null, .null, .null])) :: (dr_w cI cZ (va_up ad 3 q3) (dr_ln N) [3, 4, 2, 14, 15, 16, 5, 17, 18, 19] u3 ++ [(q6, .inr (6, [.ref (ad 2), .int ((r_cf x1) + 512), .int (((r_cf x1) + 512) + 960), .int ((((r_cf x1) + 512) + 960) + 1)]))]))) rfl ?_
  refine k_aload_n E dX11_init_99 4 rfl ?_
  refine k_new E (ci := 10) (fs := [.null, .null, .null]) tyX10 tyX10_ok rfl wu_10 wc_11_59 wn_10 wi_10 (by decide) (by first | (dsimp only [dr_rm]; omega) | (dsimp only [dr_rm]; done)) (by first | (dsimp only [dr_rm]; omega) | (dsimp only [dr_rm]; done)) dX11_init_100 (fun q10 => ?_)
  refine k_ws (ws' := ((a, .inr (11, [.ref (ad 5), .ref (ad 4), .ref q3, .ref q6, .null, .null, .null, .null, .null, .null])) :: (dr_w cI cZ (va_up ad 3 q3) (dr_ln N) [3, 4, 2, 14, 15, 16, 5, 17, 18, 19] u3 ++ [(q6, .inr (6, [.ref (ad 2), .int ((r_cf x1) + 512), .int (((r_cf x1) + 512) + 960), .int ((((r_cf x1) + 512) + 960) + 1)])), (q10, .inr (10, [.null, .null, .null]))]))) rfl ?_
  refine k_dup E dX11_init_103 rfl ?_
  refine k_aload_n E dX11_init_104 4 rfl ?_
  refine k_get E (q0 := 0) (k := 1) rfl rfl wu_11 (by decide) wf_11_43 rfl dX11_init_105 ?_
  refine k_aload_n E dX11_init_108 4 rfl ?_
  refine k_get E (q0 := 0) (k := 2) rfl rfl wu_11 (by decide) wf_11_50 rfl dX11_init_109 ?_
  refine k_aload_n E dX11_init_112 4 rfl ?_
  refine k_get E (q0 := 0) (k := 3) rfl rfl wu_11 (by decide) wf_11_55 rfl dX11_init_113 ?_
  refine k_callI E (b := q10) [.ref (ad 4), .ref q3, .ref q6] [(q10, .inr (10, [.null, .null, .null]))] ((a, .inr (11, [.ref (ad 5), .ref (ad 4), .ref q3, .ref q6, .null, .null, .null, .null, .null, .null])) :: (dr_w cI cZ (va_up ad 3 q3) (dr_ln N) [3, 4, 2, 14, 15, 16, 5, 17, 18, 19] u3 ++ [(q6, .inr (6, [.ref (ad 2), .int ((r_cf x1) + 512), .int (((r_cf x1) + 512) + 960), .int ((((r_cf x1) + 512) + 960) + 1)]))])) [12] [0, 1, 2, 3, 4, 5, 6, 7, 8, 9, 10, 11] rfl (k_X10_init q10 ((ad 4)) (q3) (q6)) rfl rfl (by decide) (by decide) (by decide) mw_X10_init rfl rfl mi_X10_init ml_11_61 ⟨Nat.le_of_ble_eq_true rfl, Nat.le_of_ble_eq_true rfl⟩ (Nat.le_of_ble_eq_true rfl) ⟨(by first | (dsimp only [dr_rm]; omega) | (dsimp only [dr_rm]; done)), (by first | (dsimp only [dr_rm]; omega) | (dsimp only [dr_rm]; done))⟩ dX11_init_116 (fun u10 _ => ?_)
  refine k_ws (ws' := ((a, .inr (11, [.ref (ad 5), .ref (ad 4), .ref q3, .ref q6, .null, .null, .null, .null, .null, .null])) :: (dr_w cI cZ (va_up ad 3 q3) (dr_ln N) [3, 4, 2, 14, 15, 16, 5, 17, 18, 19] u3 ++ [(q6, .inr (6, [.ref (ad 2), .int ((r_cf x1) + 512), .int (((r_cf x1) + 512) + 960), .int ((((r_cf x1) + 512) + 960) + 1)])), (q10, .inr (10, [.ref (ad 4), .ref q3, .ref q6]))]))) rfl ?_
  refine k_putF E (q0 := 0) (k := 4) rfl rfl wu_11 tyX11 tyX11_ok nmX11 (by decide) wf_11_64 rfl hmn rfl (ty := (.object "DrawerRoom$Steps")) (by decide +kernel) rfl rfl (Nat.le_of_ble_eq_true rfl) dX11_init_119 ?_
  refine k_ws (ws' := ((a, .inr (11, [.ref (ad 5), .ref (ad 4), .ref q3, .ref q6, .ref q10, .null, .null, .null, .null, .null])) :: (dr_w cI cZ (va_up ad 3 q3) (dr_ln N) [3, 4, 2, 14, 15, 16, 5, 17, 18, 19] u3 ++ [(q6, .inr (6, [.ref (ad 2), .int ((r_cf x1) + 512), .int (((r_cf x1) + 512) + 960), .int ((((r_cf x1) + 512) + 960) + 1)])), (q10, .inr (10, [.ref (ad 4), .ref q3, .ref q6]))]))) rfl ?_
  refine k_aload_n E dX11_init_122 4 rfl ?_
  refine k_new E (ci := 1) (fs := [.null, .null, .null, .int 0]) tyX1 tyX1_ok rfl wu_1 wc_11_68 wn_1 wi_1 (by decide) (by first | (dsimp only [dr_rm]; omega) | (dsimp only [dr_rm]; done)) (by first | (dsimp only [dr_rm]; omega) | (dsimp only [dr_rm]; done)) dX11_init_123 (fun q1 => ?_)
  refine k_ws (ws' := ((a, .inr (11, [.ref (ad 5), .ref (ad 4), .ref q3, .ref q6, .ref q10, .null, .null, .null, .null, .null])) :: (dr_w cI cZ (va_up ad 3 q3) (dr_ln N) [3, 4, 2, 14, 15, 16, 5, 17, 18, 19] u3 ++ [(q6, .inr (6, [.ref (ad 2), .int ((r_cf x1) + 512), .int (((r_cf x1) + 512) + 960), .int ((((r_cf x1) + 512) + 960) + 1)])), (q10, .inr (10, [.ref (ad 4), .ref q3, .ref q6])), (q1, .inr (1, [.null, .null, .null, .int 0]))]))) rfl ?_
  refine k_dup E dX11_init_126 rfl ?_
  refine k_aload_n E dX11_init_127 4 rfl ?_
  refine k_get E (q0 := 0) (k := 1) rfl rfl wu_11 (by decide) wf_11_43 rfl dX11_init_128 ?_
  refine k_aload_n E dX11_init_131 4 rfl ?_
  refine k_get E (q0 := 0) (k := 0) rfl rfl wu_11 (by decide) wf_11_34 rfl dX11_init_132 ?_
  refine k_callI E (b := q1) [.ref (ad 4), .ref (ad 5)] [(q1, .inr (1, [.null, .null, .null, .int 0]))] ((a, .inr (11, [.ref (ad 5), .ref (ad 4), .ref q3, .ref q6, .ref q10, .null, .null, .null, .null, .null])) :: (dr_w cI cZ (va_up ad 3 q3) (dr_ln N) [3, 4, 2, 14, 15, 16, 5, 17, 18, 19] u3 ++ [(q6, .inr (6, [.ref (ad 2), .int ((r_cf x1) + 512), .int (((r_cf x1) + 512) + 960), .int ((((r_cf x1) + 512) + 960) + 1)])), (q10, .inr (10, [.ref (ad 4), .ref q3, .ref q6]))])) [13] [0, 1, 2, 3, 4, 5, 6, 7, 8, 9, 10, 11, 12] rfl (k_X1_init q1 ((ad 4)) ((ad 5))) rfl rfl (by decide) (by decide) (by decide) mw_X1_init rfl rfl mi_X1_init ml_11_70 ⟨Nat.le_of_ble_eq_true rfl, Nat.le_of_ble_eq_true rfl⟩ (Nat.le_of_ble_eq_true rfl) ⟨(by first | (dsimp only [dr_rm]; omega) | (dsimp only [dr_rm]; done)), (by first | (dsimp only [dr_rm]; omega) | (dsimp only [dr_rm]; done))⟩ dX11_init_135 (fun u1 _ => ?_)
  generalize u1 13 = q13
  refine k_ws (ws' := ((a, .inr (11, [.ref (ad 5), .ref (ad 4), .ref q3, .ref q6, .ref q10, .null, .null, .null, .null, .null])) :: (dr_w cI cZ (va_up ad 3 q3) (dr_ln N) [3, 4, 2, 14, 15, 16, 5, 17, 18, 19] u3 ++ [(q6, .inr (6, [.ref (ad 2), .int ((r_cf x1) + 512), .int (((r_cf x1) + 512) + 960), .int ((((r_cf x1) + 512) + 960) + 1)])), (q10, .inr (10, [.ref (ad 4), .ref q3, .ref q6])), (q1, .inr (1, [.ref (ad 4), .ref (ad 5), .ref q13, .int 0])), (q13, .inl (cI, 120, .inl (fun _ => 0)))]))) rfl ?_
  refine k_putF E (q0 := 0) (k := 5) rfl rfl wu_11 tyX11 tyX11_ok nmX11 (by decide) wf_11_73 rfl hmn rfl (ty := (.object "DrawerRoom$Cards")) (by decide +kernel) rfl rfl (Nat.le_of_ble_eq_true rfl) dX11_init_138 ?_
  refine k_ws (ws' := ((a, .inr (11, [.ref (ad 5), .ref (ad 4), .ref q3, .ref q6, .ref q10, .ref q1, .null, .null, .null, .null])) :: (dr_w cI cZ (va_up ad 3 q3) (dr_ln N) [3, 4, 2, 14, 15, 16, 5, 17, 18, 19] u3 ++ [(q6, .inr (6, [.ref (ad 2), .int ((r_cf x1) + 512), .int (((r_cf x1) + 512) + 960), .int ((((r_cf x1) + 512) + 960) + 1)])), (q10, .inr (10, [.ref (ad 4), .ref q3, .ref q6])), (q1, .inr (1, [.ref (ad 4), .ref (ad 5), .ref q13, .int 0])), (q13, .inl (cI, 120, .inl (fun _ => 0)))]))) rfl ?_
  refine k_aload_n E dX11_init_141 4 rfl ?_
  refine k_new E (ci := 7) (fs := [.null, .null, .null, .null, .null, .null, .null, .null, .int 0]) tyX7 tyX7_ok rfl wu_7 wc_11_77 wn_7 wi_7 (by decide) (by first | (dsimp only [dr_rm]; omega) | (dsimp only [dr_rm]; done)) (by first | (dsimp only [dr_rm]; omega) | (dsimp only [dr_rm]; done)) dX11_init_142 (fun q7 => ?_)
  refine k_ws (ws' := ((a, .inr (11, [.ref (ad 5), .ref (ad 4), .ref q3, .ref q6, .ref q10, .ref q1, .null, .null, .null, .null])) :: (dr_w cI cZ (va_up ad 3 q3) (dr_ln N) [3, 4, 2, 14, 15, 16, 5, 17, 18, 19] u3 ++ [(q6, .inr (6, [.ref (ad 2), .int ((r_cf x1) + 512), .int (((r_cf x1) + 512) + 960), .int ((((r_cf x1) + 512) + 960) + 1)])), (q10, .inr (10, [.ref (ad 4), .ref q3, .ref q6])), (q1, .inr (1, [.ref (ad 4), .ref (ad 5), .ref q13, .int 0])), (q13, .inl (cI, 120, .inl (fun _ => 0))), (q7, .inr (7, [.null, .null, .null, .null, .null, .null, .null, .null, .int 0]))]))) rfl ?_
  refine k_dup E dX11_init_145 rfl ?_
  refine k_aload_n E dX11_init_146 4 rfl ?_
  refine k_get E (q0 := 0) (k := 3) rfl rfl wu_11 (by decide) wf_11_55 rfl dX11_init_147 ?_
  refine k_callI E (b := q7) [.ref q6] [(q7, .inr (7, [.null, .null, .null, .null, .null, .null, .null, .null, .int 0]))] ((a, .inr (11, [.ref (ad 5), .ref (ad 4), .ref q3, .ref q6, .ref q10, .ref q1, .null, .null, .null, .null])) :: (dr_w cI cZ (va_up ad 3 q3) (dr_ln N) [3, 4, 2, 14, 15, 16, 5, 17, 18, 19] u3 ++ [(q6, .inr (6, [.ref (ad 2), .int ((r_cf x1) + 512), .int (((r_cf x1) + 512) + 960), .int ((((r_cf x1) + 512) + 960) + 1)])), (q10, .inr (10, [.ref (ad 4), .ref q3, .ref q6])), (q1, .inr (1, [.ref (ad 4), .ref (ad 5), .ref q13, .int 0])), (q13, .inl (cI, 120, .inl (fun _ => 0)))])) [15] [0, 1, 2, 3, 4, 5, 6, 7, 8, 9, 10, 11, 12, 13, 14] rfl (k_X7_init q7 (q6)) rfl rfl (by decide) (by decide) (by decide) mw_X7_init rfl rfl mi_X7_init ml_11_79 ⟨Nat.le_of_ble_eq_true rfl, Nat.le_of_ble_eq_true rfl⟩ (Nat.le_of_ble_eq_true rfl) ⟨(by first | (dsimp only [dr_rm]; omega) | (dsimp only [dr_rm]; done)), (by first | (dsimp only [dr_rm]; omega) | (dsimp only [dr_rm]; done))⟩ dX11_init_150 (fun u7 _ => ?_)
  generalize u7 20 = q20
  generalize u7 21 = q21
  generalize u7 22 = q22
  generalize u7 23 = q23
  generalize u7 24 = q24
  generalize u7 25 = q25
  generalize u7 26 = q26
  refine k_ws (ws' := ((a, .inr (11, [.ref (ad 5), .ref (ad 4), .ref q3, .ref q6, .ref q10, .ref q1, .null, .null, .null, .null])) :: (dr_w cI cZ (va_up ad 3 q3) (dr_ln N) [3, 4, 2, 14, 15, 16, 5, 17, 18, 19] u3 ++ [(q6, .inr (6, [.ref (ad 2), .int ((r_cf x1) + 512), .int (((r_cf x1) + 512) + 960), .int ((((r_cf x1) + 512) + 960) + 1)])), (q10, .inr (10, [.ref (ad 4), .ref q3, .ref q6])), (q1, .inr (1, [.ref (ad 4), .ref (ad 5), .ref q13, .int 0])), (q13, .inl (cI, 120, .inl (fun _ => 0))), (q7, .inr (7, [.ref q6, .ref q20, .ref q21, .ref q22, .ref q23, .ref q24, .ref q25, .ref q26, .int 0])), (q20, .inl (cI, 9, .inl (fun _ => 0))), (q21, .inl (cI, 9, .inl (fun _ => 0))), (q22, .inl (cI, 9, .inl (fun _ => 0))), (q23, .inl (cI, 9, .inl (fun _ => 0))), (q24, .inl (cI, 9, .inl (fun _ => 0))), (q25, .inl (cI, 9, .inl (fun _ => 0))), (q26, .inl (cI, 16, .inl (fun _ => 0)))]))) rfl ?_
  refine k_putF E (q0 := 0) (k := 6) rfl rfl wu_11 tyX11 tyX11_ok nmX11 (by decide) wf_11_82 rfl hmn rfl (ty := (.object "DrawerRoom$Line")) (by decide +kernel) rfl rfl (Nat.le_of_ble_eq_true rfl) dX11_init_153 ?_
  refine k_ws (ws' := ((a, .inr (11, [.ref (ad 5), .ref (ad 4), .ref q3, .ref q6, .ref q10, .ref q1, .ref q7, .null, .null, .null])) :: (dr_w cI cZ (va_up ad 3 q3) (dr_ln N) [3, 4, 2, 14, 15, 16, 5, 17, 18, 19] u3 ++ [(q6, .inr (6, [.ref (ad 2), .int ((r_cf x1) + 512), .int (((r_cf x1) + 512) + 960), .int ((((r_cf x1) + 512) + 960) + 1)])), (q10, .inr (10, [.ref (ad 4), .ref q3, .ref q6])), (q1, .inr (1, [.ref (ad 4), .ref (ad 5), .ref q13, .int 0])), (q13, .inl (cI, 120, .inl (fun _ => 0))), (q7, .inr (7, [.ref q6, .ref q20, .ref q21, .ref q22, .ref q23, .ref q24, .ref q25, .ref q26, .int 0])), (q20, .inl (cI, 9, .inl (fun _ => 0))), (q21, .inl (cI, 9, .inl (fun _ => 0))), (q22, .inl (cI, 9, .inl (fun _ => 0))), (q23, .inl (cI, 9, .inl (fun _ => 0))), (q24, .inl (cI, 9, .inl (fun _ => 0))), (q25, .inl (cI, 9, .inl (fun _ => 0))), (q26, .inl (cI, 16, .inl (fun _ => 0)))]))) rfl ?_
  refine k_aload_n E dX11_init_156 4 rfl ?_
  refine k_new E (ci := 9) (fs := [.null, .null]) tyX9 tyX9_ok rfl wu_9 wc_11_86 wn_9 wi_9 (by decide) (by first | (dsimp only [dr_rm]; omega) | (dsimp only [dr_rm]; done)) (by first | (dsimp only [dr_rm]; omega) | (dsimp only [dr_rm]; done)) dX11_init_157 (fun q9 => ?_)
  refine k_ws (ws' := ((a, .inr (11, [.ref (ad 5), .ref (ad 4), .ref q3, .ref q6, .ref q10, .ref q1, .ref q7, .null, .null, .null])) :: (dr_w cI cZ (va_up ad 3 q3) (dr_ln N) [3, 4, 2, 14, 15, 16, 5, 17, 18, 19] u3 ++ [(q6, .inr (6, [.ref (ad 2), .int ((r_cf x1) + 512), .int (((r_cf x1) + 512) + 960), .int ((((r_cf x1) + 512) + 960) + 1)])), (q10, .inr (10, [.ref (ad 4), .ref q3, .ref q6])), (q1, .inr (1, [.ref (ad 4), .ref (ad 5), .ref q13, .int 0])), (q13, .inl (cI, 120, .inl (fun _ => 0))), (q7, .inr (7, [.ref q6, .ref q20, .ref q21, .ref q22, .ref q23, .ref q24, .ref q25, .ref q26, .int 0])), (q20, .inl (cI, 9, .inl (fun _ => 0))), (q21, .inl (cI, 9, .inl (fun _ => 0))), (q22, .inl (cI, 9, .inl (fun _ => 0))), (q23, .inl (cI, 9, .inl (fun _ => 0))), (q24, .inl (cI, 9, .inl (fun _ => 0))), (q25, .inl (cI, 9, .inl (fun _ => 0))), (q26, .inl (cI, 16, .inl (fun _ => 0))), (q9, .inr (9, [.null, .null]))]))) rfl ?_
  refine k_dup E dX11_init_160 rfl ?_
  refine k_aload_n E dX11_init_161 4 rfl ?_
  refine k_get E (q0 := 0) (k := 1) rfl rfl wu_11 (by decide) wf_11_43 rfl dX11_init_162 ?_
  refine k_aload_n E dX11_init_165 4 rfl ?_
  refine k_get E (q0 := 0) (k := 0) rfl rfl wu_11 (by decide) wf_11_34 rfl dX11_init_166 ?_
  refine k_callI E (b := q9) [.ref (ad 4), .ref (ad 5)] [(q9, .inr (9, [.null, .null]))] ((a, .inr (11, [.ref (ad 5), .ref (ad 4), .ref q3, .ref q6, .ref q10, .ref q1, .ref q7, .null, .null, .null])) :: (dr_w cI cZ (va_up ad 3 q3) (dr_ln N) [3, 4, 2, 14, 15, 16, 5, 17, 18, 19] u3 ++ [(q6, .inr (6, [.ref (ad 2), .int ((r_cf x1) + 512), .int (((r_cf x1) + 512) + 960), .int ((((r_cf x1) + 512) + 960) + 1)])), (q10, .inr (10, [.ref (ad 4), .ref q3, .ref q6])), (q1, .inr (1, [.ref (ad 4), .ref (ad 5), .ref q13, .int 0])), (q13, .inl (cI, 120, .inl (fun _ => 0))), (q7, .inr (7, [.ref q6, .ref q20, .ref q21, .ref q22, .ref q23, .ref q24, .ref q25, .ref q26, .int 0])), (q20, .inl (cI, 9, .inl (fun _ => 0))), (q21, .inl (cI, 9, .inl (fun _ => 0))), (q22, .inl (cI, 9, .inl (fun _ => 0))), (q23, .inl (cI, 9, .inl (fun _ => 0))), (q24, .inl (cI, 9, .inl (fun _ => 0))), (q25, .inl (cI, 9, .inl (fun _ => 0))), (q26, .inl (cI, 16, .inl (fun _ => 0)))])) [23] [0, 1, 2, 3, 4, 5, 6, 7, 8, 9, 10, 11, 12, 13, 14, 15, 16, 17, 18, 19, 20, 21, 22] rfl (k_X9_init q9 ((ad 4)) ((ad 5))) rfl rfl (by decide) (by decide) (by decide) mw_X9_init rfl rfl mi_X9_init ml_11_88 ⟨Nat.le_of_ble_eq_true rfl, Nat.le_of_ble_eq_true rfl⟩ (Nat.le_of_ble_eq_true rfl) ⟨(by first | (dsimp only [dr_rm]; omega) | (dsimp only [dr_rm]; done)), (by first | (dsimp only [dr_rm]; omega) | (dsimp only [dr_rm]; done))⟩ dX11_init_169 (fun u9 _ => ?_)
  refine k_ws (ws' := ((a, .inr (11, [.ref (ad 5), .ref (ad 4), .ref q3, .ref q6, .ref q10, .ref q1, .ref q7, .null, .null, .null])) :: (dr_w cI cZ (va_up ad 3 q3) (dr_ln N) [3, 4, 2, 14, 15, 16, 5, 17, 18, 19] u3 ++ [(q6, .inr (6, [.ref (ad 2), .int ((r_cf x1) + 512), .int (((r_cf x1) + 512) + 960), .int ((((r_cf x1) + 512) + 960) + 1)])), (q10, .inr (10, [.ref (ad 4), .ref q3, .ref q6])), (q1, .inr (1, [.ref (ad 4), .ref (ad 5), .ref q13, .int 0])), (q13, .inl (cI, 120, .inl (fun _ => 0))), (q7, .inr (7, [.ref q6, .ref q20, .ref q21, .ref q22, .ref q23, .ref q24, .ref q25, .ref q26, .int 0])), (q20, .inl (cI, 9, .inl (fun _ => 0))), (q21, .inl (cI, 9, .inl (fun _ => 0))), (q22, .inl (cI, 9, .inl (fun _ => 0))), (q23, .inl (cI, 9, .inl (fun _ => 0))), (q24, .inl (cI, 9, .inl (fun _ => 0))), (q25, .inl (cI, 9, .inl (fun _ => 0))), (q26, .inl (cI, 16, .inl (fun _ => 0))), (q9, .inr (9, [.ref (ad 4), .ref (ad 5)]))]))) rfl ?_
  refine k_putF E (q0 := 0) (k := 7) rfl rfl wu_11 tyX11 tyX11_ok nmX11 (by decide) wf_11_89 rfl hmn rfl (ty := (.object "DrawerRoom$Shape")) (by decide +kernel) rfl rfl (Nat.le_of_ble_eq_true rfl) dX11_init_172 ?_
  refine k_ws (ws' := ((a, .inr (11, [.ref (ad 5), .ref (ad 4), .ref q3, .ref q6, .ref q10, .ref q1, .ref q7, .ref q9, .null, .null])) :: (dr_w cI cZ (va_up ad 3 q3) (dr_ln N) [3, 4, 2, 14, 15, 16, 5, 17, 18, 19] u3 ++ [(q6, .inr (6, [.ref (ad 2), .int ((r_cf x1) + 512), .int (((r_cf x1) + 512) + 960), .int ((((r_cf x1) + 512) + 960) + 1)])), (q10, .inr (10, [.ref (ad 4), .ref q3, .ref q6])), (q1, .inr (1, [.ref (ad 4), .ref (ad 5), .ref q13, .int 0])), (q13, .inl (cI, 120, .inl (fun _ => 0))), (q7, .inr (7, [.ref q6, .ref q20, .ref q21, .ref q22, .ref q23, .ref q24, .ref q25, .ref q26, .int 0])), (q20, .inl (cI, 9, .inl (fun _ => 0))), (q21, .inl (cI, 9, .inl (fun _ => 0))), (q22, .inl (cI, 9, .inl (fun _ => 0))), (q23, .inl (cI, 9, .inl (fun _ => 0))), (q24, .inl (cI, 9, .inl (fun _ => 0))), (q25, .inl (cI, 9, .inl (fun _ => 0))), (q26, .inl (cI, 16, .inl (fun _ => 0))), (q9, .inr (9, [.ref (ad 4), .ref (ad 5)]))]))) rfl ?_
  refine k_aload_n E dX11_init_175 4 rfl ?_
  refine k_new E (ci := 8) (fs := [.null, .null, .null, .null, .null, .null, .null, .int 0, .int 0]) tyX8 tyX8_ok rfl wu_8 wc_11_93 wn_8 wi_8 (by decide) (by first | (dsimp only [dr_rm]; omega) | (dsimp only [dr_rm]; done)) (by first | (dsimp only [dr_rm]; omega) | (dsimp only [dr_rm]; done)) dX11_init_176 (fun q8 => ?_)
  refine k_ws (ws' := ((a, .inr (11, [.ref (ad 5), .ref (ad 4), .ref q3, .ref q6, .ref q10, .ref q1, .ref q7, .ref q9, .null, .null])) :: (dr_w cI cZ (va_up ad 3 q3) (dr_ln N) [3, 4, 2, 14, 15, 16, 5, 17, 18, 19] u3 ++ [(q6, .inr (6, [.ref (ad 2), .int ((r_cf x1) + 512), .int (((r_cf x1) + 512) + 960), .int ((((r_cf x1) + 512) + 960) + 1)])), (q10, .inr (10, [.ref (ad 4), .ref q3, .ref q6])), (q1, .inr (1, [.ref (ad 4), .ref (ad 5), .ref q13, .int 0])), (q13, .inl (cI, 120, .inl (fun _ => 0))), (q7, .inr (7, [.ref q6, .ref q20, .ref q21, .ref q22, .ref q23, .ref q24, .ref q25, .ref q26, .int 0])), (q20, .inl (cI, 9, .inl (fun _ => 0))), (q21, .inl (cI, 9, .inl (fun _ => 0))), (q22, .inl (cI, 9, .inl (fun _ => 0))), (q23, .inl (cI, 9, .inl (fun _ => 0))), (q24, .inl (cI, 9, .inl (fun _ => 0))), (q25, .inl (cI, 9, .inl (fun _ => 0))), (q26, .inl (cI, 16, .inl (fun _ => 0))), (q9, .inr (9, [.ref (ad 4), .ref (ad 5)])), (q8, .inr (8, [.null, .null, .null, .null, .null, .null, .null, .int 0, .int 0]))]))) rfl ?_
  refine k_dup E dX11_init_179 rfl ?_
  refine k_aload E dX11_init_180 0 rfl ?_
  refine k_aload_n E dX11_init_182 4 rfl ?_
  refine k_get E (q0 := 0) (k := 2) rfl rfl wu_11 (by decide) wf_11_50 rfl dX11_init_183 ?_
  refine k_aload_n E dX11_init_186 4 rfl ?_
  refine k_get E (q0 := 0) (k := 3) rfl rfl wu_11 (by decide) wf_11_55 rfl dX11_init_187 ?_
  refine k_aload_n E dX11_init_190 4 rfl ?_
  refine k_get E (q0 := 0) (k := 4) rfl rfl wu_11 (by decide) wf_11_64 rfl dX11_init_191 ?_
  refine k_aload_n E dX11_init_194 4 rfl ?_
  refine k_get E (q0 := 0) (k := 6) rfl rfl wu_11 (by decide) wf_11_82 rfl dX11_init_195 ?_
  refine k_aload_n E dX11_init_198 4 rfl ?_
  refine k_get E (q0 := 0) (k := 7) rfl rfl wu_11 (by decide) wf_11_89 rfl dX11_init_199 ?_
  refine k_callI E (b := q8) [.ref (ad 2), .ref q3, .ref q6, .ref q10, .ref q7, .ref q9] [(q8, .inr (8, [.null, .null, .null, .null, .null, .null, .null, .int 0, .int 0]))] ((a, .inr (11, [.ref (ad 5), .ref (ad 4), .ref q3, .ref q6, .ref q10, .ref q1, .ref q7, .ref q9, .null, .null])) :: (dr_w cI cZ (va_up ad 3 q3) (dr_ln N) [3, 4, 2, 14, 15, 16, 5, 17, 18, 19] u3 ++ [(q6, .inr (6, [.ref (ad 2), .int ((r_cf x1) + 512), .int (((r_cf x1) + 512) + 960), .int ((((r_cf x1) + 512) + 960) + 1)])), (q10, .inr (10, [.ref (ad 4), .ref q3, .ref q6])), (q1, .inr (1, [.ref (ad 4), .ref (ad 5), .ref q13, .int 0])), (q13, .inl (cI, 120, .inl (fun _ => 0))), (q7, .inr (7, [.ref q6, .ref q20, .ref q21, .ref q22, .ref q23, .ref q24, .ref q25, .ref q26, .int 0])), (q20, .inl (cI, 9, .inl (fun _ => 0))), (q21, .inl (cI, 9, .inl (fun _ => 0))), (q22, .inl (cI, 9, .inl (fun _ => 0))), (q23, .inl (cI, 9, .inl (fun _ => 0))), (q24, .inl (cI, 9, .inl (fun _ => 0))), (q25, .inl (cI, 9, .inl (fun _ => 0))), (q26, .inl (cI, 16, .inl (fun _ => 0))), (q9, .inr (9, [.ref (ad 4), .ref (ad 5)]))])) [24] [0, 1, 2, 3, 4, 5, 6, 7, 8, 9, 10, 11, 12, 13, 14, 15, 16, 17, 18, 19, 20, 21, 22, 23] rfl (k_X8_init q8 ((ad 2)) (q3) (q6) (q10) (q7) (q9)) rfl rfl (by decide) (by decide) (by decide) mw_X8_init rfl rfl mi_X8_init ml_11_95 ⟨Nat.le_of_ble_eq_true rfl, Nat.le_of_ble_eq_true rfl⟩ (Nat.le_of_ble_eq_true rfl) ⟨(by first | (dsimp only [dr_rm]; omega) | (dsimp only [dr_rm]; done)), (by first | (dsimp only [dr_rm]; omega) | (dsimp only [dr_rm]; done))⟩ dX11_init_202 (fun u8 _ => ?_)
  generalize u8 27 = q27
  refine k_ws (ws' := ((a, .inr (11, [.ref (ad 5), .ref (ad 4), .ref q3, .ref q6, .ref q10, .ref q1, .ref q7, .ref q9, .null, .null])) :: (dr_w cI cZ (va_up ad 3 q3) (dr_ln N) [3, 4, 2, 14, 15, 16, 5, 17, 18, 19] u3 ++ [(q6, .inr (6, [.ref (ad 2), .int ((r_cf x1) + 512), .int (((r_cf x1) + 512) + 960), .int ((((r_cf x1) + 512) + 960) + 1)])), (q10, .inr (10, [.ref (ad 4), .ref q3, .ref q6])), (q1, .inr (1, [.ref (ad 4), .ref (ad 5), .ref q13, .int 0])), (q13, .inl (cI, 120, .inl (fun _ => 0))), (q7, .inr (7, [.ref q6, .ref q20, .ref q21, .ref q22, .ref q23, .ref q24, .ref q25, .ref q26, .int 0])), (q20, .inl (cI, 9, .inl (fun _ => 0))), (q21, .inl (cI, 9, .inl (fun _ => 0))), (q22, .inl (cI, 9, .inl (fun _ => 0))), (q23, .inl (cI, 9, .inl (fun _ => 0))), (q24, .inl (cI, 9, .inl (fun _ => 0))), (q25, .inl (cI, 9, .inl (fun _ => 0))), (q26, .inl (cI, 16, .inl (fun _ => 0))), (q9, .inr (9, [.ref (ad 4), .ref (ad 5)])), (q8, .inr (8, [.ref (ad 2), .ref q3, .ref q6, .ref q10, .ref q7, .ref q9, .ref q27, .int (-1), .int (-1)])), (q27, .inl (cI, 8, .inl (fun _ => 0)))]))) rfl ?_
  refine k_putF E (q0 := 0) (k := 8) rfl rfl wu_11 tyX11 tyX11_ok nmX11 (by decide) wf_11_98 rfl hmn rfl (ty := (.object "DrawerRoom$Search")) (by decide +kernel) rfl rfl (Nat.le_of_ble_eq_true rfl) dX11_init_205 ?_
  refine k_ws (ws' := ((a, .inr (11, [.ref (ad 5), .ref (ad 4), .ref q3, .ref q6, .ref q10, .ref q1, .ref q7, .ref q9, .ref q8, .null])) :: (dr_w cI cZ (va_up ad 3 q3) (dr_ln N) [3, 4, 2, 14, 15, 16, 5, 17, 18, 19] u3 ++ [(q6, .inr (6, [.ref (ad 2), .int ((r_cf x1) + 512), .int (((r_cf x1) + 512) + 960), .int ((((r_cf x1) + 512) + 960) + 1)])), (q10, .inr (10, [.ref (ad 4), .ref q3, .ref q6])), (q1, .inr (1, [.ref (ad 4), .ref (ad 5), .ref q13, .int 0])), (q13, .inl (cI, 120, .inl (fun _ => 0))), (q7, .inr (7, [.ref q6, .ref q20, .ref q21, .ref q22, .ref q23, .ref q24, .ref q25, .ref q26, .int 0])), (q20, .inl (cI, 9, .inl (fun _ => 0))), (q21, .inl (cI, 9, .inl (fun _ => 0))), (q22, .inl (cI, 9, .inl (fun _ => 0))), (q23, .inl (cI, 9, .inl (fun _ => 0))), (q24, .inl (cI, 9, .inl (fun _ => 0))), (q25, .inl (cI, 9, .inl (fun _ => 0))), (q26, .inl (cI, 16, .inl (fun _ => 0))), (q9, .inr (9, [.ref (ad 4), .ref (ad 5)])), (q8, .inr (8, [.ref (ad 2), .ref q3, .ref q6, .ref q10, .ref q7, .ref q9, .ref q27, .int (-1), .int (-1)])), (q27, .inl (cI, 8, .inl (fun _ => 0)))]))) rfl ?_
  refine k_aload_n E dX11_init_208 4 rfl ?_
  refine k_new E (ci := 0) (fs := [.null, .null]) tyX0 tyX0_ok rfl wu_0 wc_11_102 wn_0 wi_0 (by decide) (by first | (dsimp only [dr_rm]; omega) | (dsimp only [dr_rm]; done)) (by first | (dsimp only [dr_rm]; omega) | (dsimp only [dr_rm]; done)) dX11_init_209 (fun q0 => ?_)
  refine k_ws (ws' := ((a, .inr (11, [.ref (ad 5), .ref (ad 4), .ref q3, .ref q6, .ref q10, .ref q1, .ref q7, .ref q9, .ref q8, .null])) :: (dr_w cI cZ (va_up ad 3 q3) (dr_ln N) [3, 4, 2, 14, 15, 16, 5, 17, 18, 19] u3 ++ [(q6, .inr (6, [.ref (ad 2), .int ((r_cf x1) + 512), .int (((r_cf x1) + 512) + 960), .int ((((r_cf x1) + 512) + 960) + 1)])), (q10, .inr (10, [.ref (ad 4), .ref q3, .ref q6])), (q1, .inr (1, [.ref (ad 4), .ref (ad 5), .ref q13, .int 0])), (q13, .inl (cI, 120, .inl (fun _ => 0))), (q7, .inr (7, [.ref q6, .ref q20, .ref q21, .ref q22, .ref q23, .ref q24, .ref q25, .ref q26, .int 0])), (q20, .inl (cI, 9, .inl (fun _ => 0))), (q21, .inl (cI, 9, .inl (fun _ => 0))), (q22, .inl (cI, 9, .inl (fun _ => 0))), (q23, .inl (cI, 9, .inl (fun _ => 0))), (q24, .inl (cI, 9, .inl (fun _ => 0))), (q25, .inl (cI, 9, .inl (fun _ => 0))), (q26, .inl (cI, 16, .inl (fun _ => 0))), (q9, .inr (9, [.ref (ad 4), .ref (ad 5)])), (q8, .inr (8, [.ref (ad 2), .ref q3, .ref q6, .ref q10, .ref q7, .ref q9, .ref q27, .int (-1), .int (-1)])), (q27, .inl (cI, 8, .inl (fun _ => 0))), (q0, .inr (0, [.null, .null]))]))) rfl ?_
  refine k_dup E dX11_init_212 rfl ?_
  refine k_aload_n E dX11_init_213 4 rfl ?_
  refine k_get E (q0 := 0) (k := 1) rfl rfl wu_11 (by decide) wf_11_43 rfl dX11_init_214 ?_
  refine k_aload_n E dX11_init_217 4 rfl ?_
  refine k_get E (q0 := 0) (k := 5) rfl rfl wu_11 (by decide) wf_11_73 rfl dX11_init_218 ?_
  refine k_callI E (b := q0) [.ref (ad 4), .ref q1] [(q0, .inr (0, [.null, .null]))] ((a, .inr (11, [.ref (ad 5), .ref (ad 4), .ref q3, .ref q6, .ref q10, .ref q1, .ref q7, .ref q9, .ref q8, .null])) :: (dr_w cI cZ (va_up ad 3 q3) (dr_ln N) [3, 4, 2, 14, 15, 16, 5, 17, 18, 19] u3 ++ [(q6, .inr (6, [.ref (ad 2), .int ((r_cf x1) + 512), .int (((r_cf x1) + 512) + 960), .int ((((r_cf x1) + 512) + 960) + 1)])), (q10, .inr (10, [.ref (ad 4), .ref q3, .ref q6])), (q1, .inr (1, [.ref (ad 4), .ref (ad 5), .ref q13, .int 0])), (q13, .inl (cI, 120, .inl (fun _ => 0))), (q7, .inr (7, [.ref q6, .ref q20, .ref q21, .ref q22, .ref q23, .ref q24, .ref q25, .ref q26, .int 0])), (q20, .inl (cI, 9, .inl (fun _ => 0))), (q21, .inl (cI, 9, .inl (fun _ => 0))), (q22, .inl (cI, 9, .inl (fun _ => 0))), (q23, .inl (cI, 9, .inl (fun _ => 0))), (q24, .inl (cI, 9, .inl (fun _ => 0))), (q25, .inl (cI, 9, .inl (fun _ => 0))), (q26, .inl (cI, 16, .inl (fun _ => 0))), (q9, .inr (9, [.ref (ad 4), .ref (ad 5)])), (q8, .inr (8, [.ref (ad 2), .ref q3, .ref q6, .ref q10, .ref q7, .ref q9, .ref q27, .int (-1), .int (-1)])), (q27, .inl (cI, 8, .inl (fun _ => 0)))])) [26] [0, 1, 2, 3, 4, 5, 6, 7, 8, 9, 10, 11, 12, 13, 14, 15, 16, 17, 18, 19, 20, 21, 22, 23, 24, 25] rfl (k_X0_init q0 ((ad 4)) (q1)) rfl rfl (by decide) (by decide) (by decide) mw_X0_init rfl rfl mi_X0_init ml_11_104 ⟨Nat.le_of_ble_eq_true rfl, Nat.le_of_ble_eq_true rfl⟩ (Nat.le_of_ble_eq_true rfl) ⟨(by first | (dsimp only [dr_rm]; omega) | (dsimp only [dr_rm]; done)), (by first | (dsimp only [dr_rm]; omega) | (dsimp only [dr_rm]; done))⟩ dX11_init_221 (fun u0 _ => ?_)
  refine k_ws (ws' := ((a, .inr (11, [.ref (ad 5), .ref (ad 4), .ref q3, .ref q6, .ref q10, .ref q1, .ref q7, .ref q9, .ref q8, .null])) :: (dr_w cI cZ (va_up ad 3 q3) (dr_ln N) [3, 4, 2, 14, 15, 16, 5, 17, 18, 19] u3 ++ [(q6, .inr (6, [.ref (ad 2), .int ((r_cf x1) + 512), .int (((r_cf x1) + 512) + 960), .int ((((r_cf x1) + 512) + 960) + 1)])), (q10, .inr (10, [.ref (ad 4), .ref q3, .ref q6])), (q1, .inr (1, [.ref (ad 4), .ref (ad 5), .ref q13, .int 0])), (q13, .inl (cI, 120, .inl (fun _ => 0))), (q7, .inr (7, [.ref q6, .ref q20, .ref q21, .ref q22, .ref q23, .ref q24, .ref q25, .ref q26, .int 0])), (q20, .inl (cI, 9, .inl (fun _ => 0))), (q21, .inl (cI, 9, .inl (fun _ => 0))), (q22, .inl (cI, 9, .inl (fun _ => 0))), (q23, .inl (cI, 9, .inl (fun _ => 0))), (q24, .inl (cI, 9, .inl (fun _ => 0))), (q25, .inl (cI, 9, .inl (fun _ => 0))), (q26, .inl (cI, 16, .inl (fun _ => 0))), (q9, .inr (9, [.ref (ad 4), .ref (ad 5)])), (q8, .inr (8, [.ref (ad 2), .ref q3, .ref q6, .ref q10, .ref q7, .ref q9, .ref q27, .int (-1), .int (-1)])), (q27, .inl (cI, 8, .inl (fun _ => 0))), (q0, .inr (0, [.ref (ad 4), .ref q1]))]))) rfl ?_
  refine k_putF E (q0 := 0) (k := 9) rfl rfl wu_11 tyX11 tyX11_ok nmX11 (by decide) wf_11_107 rfl hmn rfl (ty := (.object "DrawerRoom$Builder")) (by decide +kernel) rfl rfl (Nat.le_of_ble_eq_true rfl) dX11_init_224 ?_
  refine k_ws (ws' := ((a, .inr (11, [.ref (ad 5), .ref (ad 4), .ref q3, .ref q6, .ref q10, .ref q1, .ref q7, .ref q9, .ref q8, .ref q0])) :: (dr_w cI cZ (va_up ad 3 q3) (dr_ln N) [3, 4, 2, 14, 15, 16, 5, 17, 18, 19] u3 ++ [(q6, .inr (6, [.ref (ad 2), .int ((r_cf x1) + 512), .int (((r_cf x1) + 512) + 960), .int ((((r_cf x1) + 512) + 960) + 1)])), (q10, .inr (10, [.ref (ad 4), .ref q3, .ref q6])), (q1, .inr (1, [.ref (ad 4), .ref (ad 5), .ref q13, .int 0])), (q13, .inl (cI, 120, .inl (fun _ => 0))), (q7, .inr (7, [.ref q6, .ref q20, .ref q21, .ref q22, .ref q23, .ref q24, .ref q25, .ref q26, .int 0])), (q20, .inl (cI, 9, .inl (fun _ => 0))), (q21, .inl (cI, 9, .inl (fun _ => 0))), (q22, .inl (cI, 9, .inl (fun _ => 0))), (q23, .inl (cI, 9, .inl (fun _ => 0))), (q24, .inl (cI, 9, .inl (fun _ => 0))), (q25, .inl (cI, 9, .inl (fun _ => 0))), (q26, .inl (cI, 16, .inl (fun _ => 0))), (q9, .inr (9, [.ref (ad 4), .ref (ad 5)])), (q8, .inr (8, [.ref (ad 2), .ref q3, .ref q6, .ref q10, .ref q7, .ref q9, .ref q27, .int (-1), .int (-1)])), (q27, .inl (cI, 8, .inl (fun _ => 0))), (q0, .inr (0, [.ref (ad 4), .ref q1]))]))) rfl ?_
  exact k_ret E (fun i => if i = 11 then a else if i = 6 then q6 else if i = 10 then q10 else if i = 1 then q1 else if i = 13 then q13 else if i = 7 then q7 else if i = 20 then q20 else if i = 21 then q21 else if i = 22 then q22 else if i = 23 then q23 else if i = 24 then q24 else if i = 25 then q25 else if i = 26 then q26 else if i = 9 then q9 else if i = 8 then q8 else if i = 27 then q27 else if i = 0 then q0 else va_up ad 3 q3 i) rfl rfl ⟨(by first | (dsimp only [dr_rm]; omega) | (dsimp only [dr_rm]; done)), (by first | (dsimp only [dr_rm]; omega) | (dsimp only [dr_rm]; done))⟩ dX11_init_227

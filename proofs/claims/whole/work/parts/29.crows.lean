/-! constructors: worlds that grow -/
def dr_C (p : Program) (l : Launch) (e : Env) (R : Room) (s0 : State) (m : MethodId) (args : Array Value) (below : List Frame) (meth : Method) (c : Code) (A : Nat → Prop) (H0 : Heap) (D : va_G) (nL : Nat) (Q : State → Prop) (cells slots pc : Nat) (lv : List (Nat × Value)) (st : List Value) (ws : va_W) : Prop :=
  ∀ (H : Heap) (locs : List Loc) (ls : Array Slot), va_P D vwCl ws H → va_D A ws → va_S A H0 H locs → lv_has ls nL lv → W p l e R s0 m args below meth c H locs cells slots Q (F0 m pc ls st)
theorem w_obj : Cond.instanceMethod objectInit ∈ dr_tbl ∧ Cond.code objectInit ⟨#[0xb1]⟩ 1 none ∈ dr_tbl := ⟨dr_in (i := 89) (by decide +kernel) (by decide +kernel), dr_in (i := 90) (by decide +kernel) (by decide +kernel)⟩
theorem w_arr : Cond.arrayClass .int ∈ dr_tbl ∧ Cond.arrayClass .boolean ∈ dr_tbl := ⟨dr_in (i := 126) (by decide +kernel) (by decide +kernel), dr_in (i := 1085) (by decide +kernel) (by decide +kernel)⟩
theorem mo_11 : Cond.methodLink RX11 1 objectInit ∈ dr_tbl := dr_in (i := 88) (by decide +kernel) (by decide +kernel)
theorem mo_2 : Cond.methodLink RX2 3 objectInit ∈ dr_tbl := dr_in (i := 108) (by decide +kernel) (by decide +kernel)
theorem mo_5 : Cond.methodLink RX5 3 objectInit ∈ dr_tbl := dr_in (i := 132) (by decide +kernel) (by decide +kernel)
theorem mo_4 : Cond.methodLink RX4 3 objectInit ∈ dr_tbl := dr_in (i := 154) (by decide +kernel) (by decide +kernel)
theorem mo_3 : Cond.methodLink RX3 5 objectInit ∈ dr_tbl := dr_in (i := 210) (by decide +kernel) (by decide +kernel)
theorem mo_6 : Cond.methodLink RX6 5 objectInit ∈ dr_tbl := dr_in (i := 232) (by decide +kernel) (by decide +kernel)
theorem mo_10 : Cond.methodLink RX10 3 objectInit ∈ dr_tbl := dr_in (i := 251) (by decide +kernel) (by decide +kernel)
theorem mo_1 : Cond.methodLink RX1 3 objectInit ∈ dr_tbl := dr_in (i := 267) (by decide +kernel) (by decide +kernel)
theorem mo_7 : Cond.methodLink RX7 5 objectInit ∈ dr_tbl := dr_in (i := 286) (by decide +kernel) (by decide +kernel)
theorem mo_9 : Cond.methodLink RX9 3 objectInit ∈ dr_tbl := dr_in (i := 320) (by decide +kernel) (by decide +kernel)
theorem mo_8 : Cond.methodLink RX8 3 objectInit ∈ dr_tbl := dr_in (i := 333) (by decide +kernel) (by decide +kernel)
theorem mo_0 : Cond.methodLink RX0 3 objectInit ∈ dr_tbl := dr_in (i := 367) (by decide +kernel) (by decide +kernel)
theorem mo_12 : Cond.methodLink RX12 1 objectInit ∈ dr_tbl := dr_in (i := 902) (by decide +kernel) (by decide +kernel)
theorem wn_0 : Cond.instantiable RX0 2 ∈ dr_tbl := dr_in (i := 363) (by decide +kernel) (by decide +kernel)
theorem wn_1 : Cond.instantiable RX1 4 ∈ dr_tbl := dr_in (i := 263) (by decide +kernel) (by decide +kernel)
theorem wn_2 : Cond.instantiable RX2 5 ∈ dr_tbl := dr_in (i := 104) (by decide +kernel) (by decide +kernel)
theorem wn_3 : Cond.instantiable RX3 2 ∈ dr_tbl := dr_in (i := 206) (by decide +kernel) (by decide +kernel)
theorem wn_4 : Cond.instantiable RX4 7 ∈ dr_tbl := dr_in (i := 150) (by decide +kernel) (by decide +kernel)
theorem wn_5 : Cond.instantiable RX5 5 ∈ dr_tbl := dr_in (i := 128) (by decide +kernel) (by decide +kernel)
theorem wn_6 : Cond.instantiable RX6 4 ∈ dr_tbl := dr_in (i := 228) (by decide +kernel) (by decide +kernel)
theorem wn_7 : Cond.instantiable RX7 9 ∈ dr_tbl := dr_in (i := 282) (by decide +kernel) (by decide +kernel)
theorem wn_8 : Cond.instantiable RX8 9 ∈ dr_tbl := dr_in (i := 329) (by decide +kernel) (by decide +kernel)
theorem wn_9 : Cond.instantiable RX9 2 ∈ dr_tbl := dr_in (i := 316) (by decide +kernel) (by decide +kernel)
theorem wn_10 : Cond.instantiable RX10 3 ∈ dr_tbl := dr_in (i := 247) (by decide +kernel) (by decide +kernel)
theorem wn_11 : Cond.instantiable RX11 10 ∈ dr_tbl := dr_in (i := 84) (by decide +kernel) (by decide +kernel)
theorem wn_12 : Cond.instantiable RX12 59 ∈ dr_tbl := dr_in (i := 898) (by decide +kernel) (by decide +kernel)
theorem wc_L_7 : Cond.classLink RL 7 RX11 ∈ dr_tbl := dr_in (i := 83) (by decide +kernel) (by decide +kernel)
theorem wc_11_24 : Cond.classLink RX11 24 RX2 ∈ dr_tbl := dr_in (i := 103) (by decide +kernel) (by decide +kernel)
theorem wc_11_31 : Cond.classLink RX11 31 RX5 ∈ dr_tbl := dr_in (i := 127) (by decide +kernel) (by decide +kernel)
theorem wc_11_17 : Cond.classLink RX11 17 RX4 ∈ dr_tbl := dr_in (i := 149) (by decide +kernel) (by decide +kernel)
theorem wc_11_22 : Cond.classLink RX11 22 RX3 ∈ dr_tbl := dr_in (i := 205) (by decide +kernel) (by decide +kernel)
theorem wc_11_26 : Cond.classLink RX11 26 RX6 ∈ dr_tbl := dr_in (i := 227) (by decide +kernel) (by decide +kernel)
theorem wc_11_59 : Cond.classLink RX11 59 RX10 ∈ dr_tbl := dr_in (i := 246) (by decide +kernel) (by decide +kernel)
theorem wc_11_68 : Cond.classLink RX11 68 RX1 ∈ dr_tbl := dr_in (i := 262) (by decide +kernel) (by decide +kernel)
theorem wc_11_77 : Cond.classLink RX11 77 RX7 ∈ dr_tbl := dr_in (i := 281) (by decide +kernel) (by decide +kernel)
theorem wc_11_86 : Cond.classLink RX11 86 RX9 ∈ dr_tbl := dr_in (i := 315) (by decide +kernel) (by decide +kernel)
theorem wc_11_93 : Cond.classLink RX11 93 RX8 ∈ dr_tbl := dr_in (i := 328) (by decide +kernel) (by decide +kernel)
theorem wc_11_102 : Cond.classLink RX11 102 RX0 ∈ dr_tbl := dr_in (i := 362) (by decide +kernel) (by decide +kernel)
theorem wc_L_18 : Cond.classLink RL 18 RX12 ∈ dr_tbl := dr_in (i := 897) (by decide +kernel) (by decide +kernel)
section DC
variable {p : Program} {l : Launch} {e : Env} {R : Room} {s0 : State} {m : MethodId} {args : Array Value} {below : List Frame} {meth : Method} {c : Code} {A : Nat → Prop} {H0 : Heap} {D : va_G} {cI cZ : ClassId} {ad : Nat → Nat} {cc : ByteArray} {nL : Nat} {own : String} {ret : Option FieldType} {Q : State → Prop}
variable {cells slots pc : Nat} {lv : List (Nat × Value)} {st : List Value} {ws : va_W}

theorem k_iconst (E : dr_E p R s0 m args meth c 0 0 A H0 D cI cZ ad [] cc nL own ret) {n : Int} {v : Int32} (hdg : decode cc pc = .ok (.iconst n, 1)) (hv : Int32.ofInt n = v) (kk : dr_C p l e R s0 m args below meth c A H0 D nL Q cells slots (pc + 1) lv (.int v :: st) ws) : dr_C p l e R s0 m args below meth c A H0 D nL Q cells slots pc lv st ws := fun H locs ls hP hD hS hl => lv_iconst E.1 E.2.1 hdg hv (kk H locs ls hP hD hS hl)
theorem k_bipush (E : dr_E p R s0 m args meth c 0 0 A H0 D cI cZ ad [] cc nL own ret) {n : Int} {v : Int32} (hdg : decode cc pc = .ok (.bipush n, 2)) (hv : (Int8.ofInt n).toInt32 = v) (kk : dr_C p l e R s0 m args below meth c A H0 D nL Q cells slots (pc + 2) lv (.int v :: st) ws) : dr_C p l e R s0 m args below meth c A H0 D nL Q cells slots pc lv st ws := fun H locs ls hP hD hS hl => lv_bipush E.1 E.2.1 hdg hv (kk H locs ls hP hD hS hl)
theorem k_sipush (E : dr_E p R s0 m args meth c 0 0 A H0 D cI cZ ad [] cc nL own ret) {n : Int} {v : Int32} (hdg : decode cc pc = .ok (.sipush n, 3)) (hv : (Int16.ofInt n).toInt32 = v) (kk : dr_C p l e R s0 m args below meth c A H0 D nL Q cells slots (pc + 3) lv (.int v :: st) ws) : dr_C p l e R s0 m args below meth c A H0 D nL Q cells slots pc lv st ws := fun H locs ls hP hD hS hl => lv_sipush E.1 E.2.1 hdg hv (kk H locs ls hP hD hS hl)
theorem k_iload_n (E : dr_E p R s0 m args meth c 0 0 A H0 D cI cZ ad [] cc nL own ret) {k : Fin 4} {x : Int32} (hdg : decode cc pc = .ok (.iload_n k, 1)) (q : Nat) (hq : lv[q]? = some ((k : Nat), .int x)) (kk : dr_C p l e R s0 m args below meth c A H0 D nL Q cells slots (pc + 1) lv (.int x :: st) ws) : dr_C p l e R s0 m args below meth c A H0 D nL Q cells slots pc lv st ws := fun H locs ls hP hD hS hl => lv_iload_n E.1 E.2.1 hdg rfl (lv_at hl q hq) (kk H locs ls hP hD hS hl)
theorem k_iload (E : dr_E p R s0 m args meth c 0 0 A H0 D cI cZ ad [] cc nL own ret) {i : Nat} {x : Int32} (hdg : decode cc pc = .ok (.iload i, 2)) (q : Nat) (hq : lv[q]? = some (i, .int x)) (kk : dr_C p l e R s0 m args below meth c A H0 D nL Q cells slots (pc + 2) lv (.int x :: st) ws) : dr_C p l e R s0 m args below meth c A H0 D nL Q cells slots pc lv st ws := fun H locs ls hP hD hS hl => lv_iload E.1 E.2.1 hdg (lv_at hl q hq) (kk H locs ls hP hD hS hl)
theorem k_aload_n (E : dr_E p R s0 m args meth c 0 0 A H0 D cI cZ ad [] cc nL own ret) {k : Fin 4} {x : Nat} (hdg : decode cc pc = .ok (.aload_n k, 1)) (q : Nat) (hq : lv[q]? = some ((k : Nat), .ref x)) (kk : dr_C p l e R s0 m args below meth c A H0 D nL Q cells slots (pc + 1) lv (.ref x :: st) ws) : dr_C p l e R s0 m args below meth c A H0 D nL Q cells slots pc lv st ws := fun H locs ls hP hD hS hl => lv_aload_n E.1 E.2.1 hdg rfl (lv_at hl q hq) (kk H locs ls hP hD hS hl)
theorem k_aload (E : dr_E p R s0 m args meth c 0 0 A H0 D cI cZ ad [] cc nL own ret) {i : Nat} {x : Nat} (hdg : decode cc pc = .ok (.aload i, 2)) (q : Nat) (hq : lv[q]? = some (i, .ref x)) (kk : dr_C p l e R s0 m args below meth c A H0 D nL Q cells slots (pc + 2) lv (.ref x :: st) ws) : dr_C p l e R s0 m args below meth c A H0 D nL Q cells slots pc lv st ws := fun H locs ls hP hD hS hl => lv_aload E.1 E.2.1 hdg (lv_at hl q hq) (kk H locs ls hP hD hS hl)
theorem k_iadd (E : dr_E p R s0 m args meth c 0 0 A H0 D cI cZ ad [] cc nL own ret) {x y : Int32} (hdg : decode cc pc = .ok (.iadd, 1)) (kk : dr_C p l e R s0 m args below meth c A H0 D nL Q cells slots (pc + 1) lv (.int (x + y) :: st) ws) : dr_C p l e R s0 m args below meth c A H0 D nL Q cells slots pc lv (.int y :: .int x :: st) ws := fun H locs ls hP hD hS hl => lv_iadd E.1 E.2.1 hdg (kk H locs ls hP hD hS hl)
theorem k_imul (E : dr_E p R s0 m args meth c 0 0 A H0 D cI cZ ad [] cc nL own ret) {x y : Int32} (hdg : decode cc pc = .ok (.imul, 1)) (kk : dr_C p l e R s0 m args below meth c A H0 D nL Q cells slots (pc + 1) lv (.int (x * y) :: st) ws) : dr_C p l e R s0 m args below meth c A H0 D nL Q cells slots pc lv (.int y :: .int x :: st) ws := fun H locs ls hP hD hS hl => lv_imul E.1 E.2.1 hdg (kk H locs ls hP hD hS hl)
theorem k_dup (E : dr_E p R s0 m args meth c 0 0 A H0 D cI cZ ad [] cc nL own ret) {va : Value} (hdg : decode cc pc = .ok (.dup, 1)) (hva : va.category = 1) (kk : dr_C p l e R s0 m args below meth c A H0 D nL Q cells slots (pc + 1) lv (va :: va :: st) ws) : dr_C p l e R s0 m args below meth c A H0 D nL Q cells slots pc lv (va :: st) ws := fun H locs ls hP hD hS hl => lv_dup E.1 E.2.1 hdg hva (kk H locs ls hP hD hS hl)
theorem k_istore_n (E : dr_E p R s0 m args meth c 0 0 A H0 D cI cZ ad [] cc nL own ret) {k : Fin 4} {x : Int32} {lv' : List (Nat × Value)} (hdg : decode cc pc = .ok (.istore_n k, 1)) (hn : (k : Nat) < nL) (hl' : ((k : Nat), Value.int x) :: lv.filter (fun q => !(q.1 == (k : Nat)) && !(q.1 + 1 == (k : Nat) && q.2.category == 2)) = lv') (kk : dr_C p l e R s0 m args below meth c A H0 D nL Q cells slots (pc + 1) lv' st ws) : dr_C p l e R s0 m args below meth c A H0 D nL Q cells slots pc lv (.int x :: st) ws := fun H locs ls hP hD hS hl => lv_istore_n E.1 E.2.1 hdg rfl hl hn hl' (fun ls' h' => kk H locs ls' hP hD hS h')
theorem k_istore (E : dr_E p R s0 m args meth c 0 0 A H0 D cI cZ ad [] cc nL own ret) {i : Nat} {x : Int32} {lv' : List (Nat × Value)} (hdg : decode cc pc = .ok (.istore i, 2)) (hn : i < nL) (hl' : (i, Value.int x) :: lv.filter (fun q => !(q.1 == i) && !(q.1 + 1 == i && q.2.category == 2)) = lv') (kk : dr_C p l e R s0 m args below meth c A H0 D nL Q cells slots (pc + 2) lv' st ws) : dr_C p l e R s0 m args below meth c A H0 D nL Q cells slots pc lv (.int x :: st) ws := fun H locs ls hP hD hS hl => lv_istore E.1 E.2.1 hdg hl hn hl' (fun ls' h' => kk H locs ls' hP hD hS h')
theorem k_astore_n (E : dr_E p R s0 m args meth c 0 0 A H0 D cI cZ ad [] cc nL own ret) {k : Fin 4} {x : Nat} {lv' : List (Nat × Value)} (hdg : decode cc pc = .ok (.astore_n k, 1)) (hn : (k : Nat) < nL) (hl' : ((k : Nat), Value.ref x) :: lv.filter (fun q => !(q.1 == (k : Nat)) && !(q.1 + 1 == (k : Nat) && q.2.category == 2)) = lv') (kk : dr_C p l e R s0 m args below meth c A H0 D nL Q cells slots (pc + 1) lv' st ws) : dr_C p l e R s0 m args below meth c A H0 D nL Q cells slots pc lv (.ref x :: st) ws := fun H locs ls hP hD hS hl => lv_astore_n E.1 E.2.1 hdg rfl hl hn hl' (fun ls' h' => kk H locs ls' hP hD hS h')
theorem k_astore (E : dr_E p R s0 m args meth c 0 0 A H0 D cI cZ ad [] cc nL own ret) {i : Nat} {x : Nat} {lv' : List (Nat × Value)} (hdg : decode cc pc = .ok (.astore i, 2)) (hn : i < nL) (hl' : (i, Value.ref x) :: lv.filter (fun q => !(q.1 == i) && !(q.1 + 1 == i && q.2.category == 2)) = lv') (kk : dr_C p l e R s0 m args below meth c A H0 D nL Q cells slots (pc + 2) lv' st ws) : dr_C p l e R s0 m args below meth c A H0 D nL Q cells slots pc lv (.ref x :: st) ws := fun H locs ls hP hD hS hl => lv_astore E.1 E.2.1 hdg hl hn hl' (fun ls' h' => kk H locs ls' hP hD hS h')
theorem k_ws {ws' : va_W} (h : ws = ws') (kk : dr_C p l e R s0 m args below meth c A H0 D nL Q cells slots pc lv st ws') : dr_C p l e R s0 m args below meth c A H0 D nL Q cells slots pc lv st ws := h ▸ kk
theorem k_lv {lv' : List (Nat × Value)} (h : lv = lv') (kk : dr_C p l e R s0 m args below meth c A H0 D nL Q cells slots pc lv' st ws) : dr_C p l e R s0 m args below meth c A H0 D nL Q cells slots pc lv st ws := h ▸ kk
theorem k_top {x : Int32} (kk : ∀ y : Int32, y = x → dr_C p l e R s0 m args below meth c A H0 D nL Q cells slots pc lv (.int y :: st) ws) : dr_C p l e R s0 m args below meth c A H0 D nL Q cells slots pc lv (.int x :: st) ws := kk x rfl
theorem k_obj (E : dr_E p R s0 m args meth c 0 0 A H0 D cI cZ ad [] cc nL own ret) {a idx : Nat} (hlink : Cond.methodLink own idx objectInit ∈ dr_tbl) (hdg : decode cc pc = .ok (.invokespecial idx, 3)) (hR : 1 ≤ R.frames ∧ (st.map fun v => v.category).sum + 12 ≤ R.locals) (kk : dr_C p l e R s0 m args below meth c A H0 D nL Q cells slots (pc + 3) lv st ws) : dr_C p l e R s0 m args below meth c A H0 D nL Q cells slots pc lv (.ref a :: st) ws := fun H locs ls hP hD hS hl => W.objInit E.1 E.2.1 E.2.2.2.2.2.1 (E.2.2.2.2.2.2.1 _ hlink) (E.2.2.2.2.2.2.1 _ w_obj.1) (E.2.2.2.2.2.2.1 _ w_obj.2) (g := F0 m pc ls (.ref a :: st)) rfl (hl.1.trans E.2.2.1.symm) rfl hdg hR.1 (by show 2 * 0 + _ + 12 ≤ _; omega) (kk H locs ls hP hD hS hl)
theorem k_newI (E : dr_E p R s0 m args meth c 0 0 A H0 D cI cZ ad [] cc nL own ret) {n : Int32} {N : Nat} (hn : ¬ n < 0) (hN : n.toNatClampNeg = N) (hbytes : N * componentBytes .int ≤ 536870912) (hcells : cells + 1 ≤ R.cells) (hslots : slots + N ≤ R.slots) (hdg : decode cc pc = .ok (.newarray .int, 2)) (kk : ∀ q : Nat, dr_C p l e R s0 m args below meth c A H0 D nL Q (cells + 1) (slots + N) (pc + 2) lv (.ref q :: st) (ws ++ [(q, .inl (cI, N, .inl (fun _ => 0)))])) : dr_C p l e R s0 m args below meth c A H0 D nL Q cells slots pc lv (.int n :: st) ws := by
  intro H locs ls hP hD hS hl
  have hK := E.2.2.2.2.2.2.2.1
  refine va_newaK (atype := .int) E.1 E.2.1 (E.2.2.2.2.2.2.1 _ w_arr.1) (g := F0 m pc ls (.int n :: st)) rfl hdg rfl hn hN hbytes hcells hslots rfl fun H1 cA e1 z1 o1 hAr hNm => ?_
  have hc2 : s0.vm.findClass ("[" ++ FieldType.int.toString) = some cI := (hK.2 0 _ rfl).2
  have hcA : cA = cI := Option.some.inj (hNm.symm.trans hc2)
  subst hcA
  have hk : ∀ (k : Nat) (x : Nat × va_E), ws[k]? = some x → H1[x.1]? = H[x.1]? := fun k x hx => o1 x.1 ((hP k x hx).lt)
  refine kk H.size H1 locs ls ((hP.kept hk).app (fun k x hx => ?_)) (hD.push hP rfl (E.2.2.2.2.2.2.2.2.2.2.1 _ hS.1)) ⟨Nat.le_trans hS.1 (by omega), fun x h1 h2 => (o1 x (Nat.lt_of_lt_of_le h1 hS.1)).trans (hS.2.1 x h1 h2), hS.2.2⟩ hl
  have hz : k < 1 := (List.getElem?_eq_some_iff.mp hx).1
  rw [show k = 0 by omega] at hx
  cases hx
  show H1[H.size]? = some (vp_cell _ _)
  exact e1
theorem k_newZ (E : dr_E p R s0 m args meth c 0 0 A H0 D cI cZ ad [] cc nL own ret) {n : Int32} {N : Nat} (hn : ¬ n < 0) (hN : n.toNatClampNeg = N) (hbytes : N * componentBytes .boolean ≤ 536870912) (hcells : cells + 1 ≤ R.cells) (hslots : slots + N ≤ R.slots) (hdg : decode cc pc = .ok (.newarray .boolean, 2)) (kk : ∀ q : Nat, dr_C p l e R s0 m args below meth c A H0 D nL Q (cells + 1) (slots + N) (pc + 2) lv (.ref q :: st) (ws ++ [(q, .inl (cZ, N, .inl (fun _ => 0)))])) : dr_C p l e R s0 m args below meth c A H0 D nL Q cells slots pc lv (.int n :: st) ws := by
  intro H locs ls hP hD hS hl
  have hK := E.2.2.2.2.2.2.2.1
  refine va_newaK (atype := .boolean) E.1 E.2.1 (E.2.2.2.2.2.2.1 _ w_arr.2) (g := F0 m pc ls (.int n :: st)) rfl hdg rfl hn hN hbytes hcells hslots rfl fun H1 cA e1 z1 o1 hAr hNm => ?_
  have hc2 : s0.vm.findClass ("[" ++ FieldType.boolean.toString) = some cZ := (hK.2 1 _ rfl).2
  have hcA : cA = cZ := Option.some.inj (hNm.symm.trans hc2)
  subst hcA
  have hk : ∀ (k : Nat) (x : Nat × va_E), ws[k]? = some x → H1[x.1]? = H[x.1]? := fun k x hx => o1 x.1 ((hP k x hx).lt)
  refine kk H.size H1 locs ls ((hP.kept hk).app (fun k x hx => ?_)) (hD.push hP rfl (E.2.2.2.2.2.2.2.2.2.2.1 _ hS.1)) ⟨Nat.le_trans hS.1 (by omega), fun x h1 h2 => (o1 x (Nat.lt_of_lt_of_le h1 hS.1)).trans (hS.2.1 x h1 h2), hS.2.2⟩ hl
  have hz : k < 1 := (List.getElem?_eq_some_iff.mp hx).1
  rw [show k = 0 by omega] at hx
  cases hx
  show H1[H.size]? = some (vp_cell _ _)
  exact e1
theorem k_new (E : dr_E p R s0 m args meth c 0 0 A H0 D cI cZ ad [] cc nL own ret) {C : String} {T : u_T} {N ci index : Nat} (ty : Nat → FieldType) (hty : ∀ k, k < N → parseFieldDescriptor (T k).2.2.1 = some (ty k)) (hc : vwCl[ci]? = some (C, T, N)) (hin : ∀ w ∈ u_ws C T N, w ∈ dr_tbl) (hcl : Cond.classLink own index C ∈ dr_tbl) (hinst : Cond.instantiable C N ∈ dr_tbl) (hini : Cond.initialized C ∈ dr_tbl) {fs : List Value} (hfs : ∀ j, j < N → defaultValue (ty j) = vp_V fs j) (hcells : cells + 1 ≤ R.cells) (hslots : slots + N ≤ R.slots) (hdg : decode cc pc = .ok (.new index, 3)) (kk : ∀ q : Nat, dr_C p l e R s0 m args below meth c A H0 D nL Q (cells + 1) (slots + N) (pc + 3) lv (.ref q :: st) (ws ++ [(q, .inr (ci, fs))])) : dr_C p l e R s0 m args below meth c A H0 D nL Q cells slots pc lv st ws := fun H locs ls hP hD hS hl => va_new E.1 E.2.1 E.2.2.2.2.2.2.1 hin ty hty E.2.2.2.2.2.1 (E.2.2.2.2.2.2.1 _ hcl) (E.2.2.2.2.2.2.1 _ hinst) (E.2.2.2.2.2.2.1 _ hini) E.2.2.2.2.2.2.2.1 hP hD hS E.2.2.2.2.2.2.2.2.2.2.1 hc hfs hcells hslots hdg (fun q H1 hP1 hD1 hS1 => kk q H1 locs ls hP1 hD1 hS1 hl)
theorem k_get (E : dr_E p R s0 m args meth c 0 0 A H0 D cI cZ ad [] cc nL own ret) {C : String} {T : u_T} {N ci a q0 index k : Nat} {v : Value} {fs : List Value} (he : ws[q0]? = some (a, .inr (ci, fs))) (hc : vwCl[ci]? = some (C, T, N)) (hin : ∀ w ∈ u_ws C T N, w ∈ dr_tbl) (hk : k < N) (hlink : Cond.fieldLink own index (T k).1 (T k).2.1 (T k).2.2.1 ∈ dr_tbl) (hv : fs[k]? = some v) (hdg : decode cc pc = .ok (.getfield index, 3)) (kk : dr_C p l e R s0 m args below meth c A H0 D nL Q cells slots (pc + 3) lv (v :: st) ws) : dr_C p l e R s0 m args below meth c A H0 D nL Q cells slots pc lv (.ref a :: st) ws := fun H locs ls hP hD hS hl => va_get E.1 E.2.1 E.2.2.2.2.2.2.1 hin E.2.2.2.2.2.1 E.2.2.2.2.2.2.2.1 hP q0 he hc k hk (E.2.2.2.2.2.2.1 _ hlink) (fun _ h => h) hv hdg (kk H locs ls hP hD hS hl)
theorem k_putF (E : dr_E p R s0 m args meth c 0 0 A H0 D cI cZ ad [] cc nL own ret) {C : String} {T : u_T} {N ci a q0 index k : Nat} {v : Value} {fs : List Value} (he : ws[q0]? = some (a, .inr (ci, fs))) (hc : vwCl[ci]? = some (C, T, N)) (hin : ∀ w ∈ u_ws C T N, w ∈ dr_tbl) (ty0 : Nat → FieldType) (hty : ∀ k, k < N → parseFieldDescriptor (T k).2.2.1 = some (ty0 k)) (hnm : ∀ a, a < N → ∀ b, b < N → a ≠ b → (T a).2.1 ≠ (T b).2.1) (hk : k < N) (hlink : Cond.fieldLink own index (T k).1 (T k).2.1 (T k).2.2.1 ∈ dr_tbl) (hfin : (T k).2.2.2 = true) (hin2 : meth.name = "<init>") (hdecl : (T k).1 = own) {ty : FieldType} (hd : parseFieldDescriptor (T k).2.2.1 = some ty) (hn : narrow ty v = v) (hfit : fits ty v = true) (hlen : k < fs.length) (hdg : decode cc pc = .ok (.putfield index, 3)) (kk : dr_C p l e R s0 m args below meth c A H0 D nL Q cells slots (pc + 3) lv st (ws.set q0 (a, .inr (ci, fs.set k v)))) : dr_C p l e R s0 m args below meth c A H0 D nL Q cells slots pc lv (v :: .ref a :: st) ws := fun H locs ls hP hD hS hl => va_putF E.1 E.2.1 E.2.2.2.2.2.2.1 hin ty0 hty hnm E.2.2.2.2.2.1 E.2.2.2.2.2.2.2.1 hP hD hS q0 he hc k hk (E.2.2.2.2.2.2.1 _ hlink) (fun _ h => h) hfin hin2 hdecl hd hn hfit hlen hdg (fun H1 locs1 hP1 hD1 hS1 => kk H1 locs1 ls hP1 hD1 hS1 hl)
theorem k_put (E : dr_E p R s0 m args meth c 0 0 A H0 D cI cZ ad [] cc nL own ret) {C : String} {T : u_T} {N ci a q0 index k : Nat} {v : Value} {fs : List Value} (he : ws[q0]? = some (a, .inr (ci, fs))) (hc : vwCl[ci]? = some (C, T, N)) (hin : ∀ w ∈ u_ws C T N, w ∈ dr_tbl) (ty0 : Nat → FieldType) (hty : ∀ k, k < N → parseFieldDescriptor (T k).2.2.1 = some (ty0 k)) (hnm : ∀ a, a < N → ∀ b, b < N → a ≠ b → (T a).2.1 ≠ (T b).2.1) (hk : k < N) (hlink : Cond.fieldLink own index (T k).1 (T k).2.1 (T k).2.2.1 ∈ dr_tbl) (hfin : (T k).2.2.2 = false) {ty : FieldType} (hd : parseFieldDescriptor (T k).2.2.1 = some ty) (hn : narrow ty v = v) (hfit : fits ty v = true) (hlen : k < fs.length) (hdg : decode cc pc = .ok (.putfield index, 3)) (kk : dr_C p l e R s0 m args below meth c A H0 D nL Q cells slots (pc + 3) lv st (ws.set q0 (a, .inr (ci, fs.set k v)))) : dr_C p l e R s0 m args below meth c A H0 D nL Q cells slots pc lv (v :: .ref a :: st) ws := fun H locs ls hP hD hS hl => va_put E.1 E.2.1 E.2.2.2.2.2.2.1 hin ty0 hty hnm E.2.2.2.2.2.1 E.2.2.2.2.2.2.2.1 hP hD hS q0 he hc k hk (E.2.2.2.2.2.2.1 _ hlink) (fun _ h => h) hfin hd hn hfit hlen hdg (fun H1 locs1 hP1 hD1 hS1 => kk H1 locs1 ls hP1 hD1 hS1 hl)
theorem k_mmin (E : dr_E p R s0 m args meth c 0 0 A H0 D cI cZ ad [] cc nL own ret) {index : Nat} {x y : Int32} (hlink : Cond.methodLink own index Lib.Math.min.name ∈ dr_tbl) (hR : 1 ≤ R.frames ∧ (st.map fun v => v.category).sum + 13 ≤ R.locals) (hcs : cells ≤ R.cells ∧ slots ≤ R.slots) (hdg : decode cc pc = .ok (.invokestatic index, 3)) (kk : dr_C p l e R s0 m args below meth c A H0 D nL Q cells slots (pc + 3) lv (.int (dr_min x y) :: st) ws) : dr_C p l e R s0 m args below meth c A H0 D nL Q cells slots pc lv (.int y :: .int x :: st) ws := fun H locs ls hP hD hS hl => va_mmin E.1 E.2.1 (E.2.2.1.trans hl.1.symm) E.2.2.2.2.2.1 (E.2.2.2.2.2.2.1 _ hlink) (E.2.2.2.2.2.2.1 _ w_mmin.1) (E.2.2.2.2.2.2.1 _ w_mmin.2.1) (E.2.2.2.2.2.2.1 _ w_mmin.2.2) hR.1 hR.2 hcs.1 hcs.2 hdg (kk H locs ls hP hD hS hl)
theorem k_mmax (E : dr_E p R s0 m args meth c 0 0 A H0 D cI cZ ad [] cc nL own ret) {index : Nat} {x y : Int32} (hlink : Cond.methodLink own index Lib.Math.max.name ∈ dr_tbl) (hR : 1 ≤ R.frames ∧ (st.map fun v => v.category).sum + 13 ≤ R.locals) (hcs : cells ≤ R.cells ∧ slots ≤ R.slots) (hdg : decode cc pc = .ok (.invokestatic index, 3)) (kk : dr_C p l e R s0 m args below meth c A H0 D nL Q cells slots (pc + 3) lv (.int (dr_max x y) :: st) ws) : dr_C p l e R s0 m args below meth c A H0 D nL Q cells slots pc lv (.int y :: .int x :: st) ws := fun H locs ls hP hD hS hl => va_mmax E.1 E.2.1 (E.2.2.1.trans hl.1.symm) E.2.2.2.2.2.1 (E.2.2.2.2.2.2.1 _ hlink) (E.2.2.2.2.2.2.1 _ w_mmax.1) (E.2.2.2.2.2.2.1 _ w_mmax.2.1) (E.2.2.2.2.2.2.1 _ w_mmax.2.2) hR.1 hR.2 hcs.1 hcs.2 hdg (kk H locs ls hP hD hS hl)
/-- a constructor's contract: from the cells wc to the cells Bw u, for some u with post u -/
def dr_K (l : Launch) (D : va_G) (cI cZ : ClassId) (y : MethodName) (bytes : ByteArray) (maxL : Nat) (rm : Room) (av : List Value) (wc : va_W) {S : Type} (post : S → Prop) (Bw : S → va_W) : Prop :=
  ∀ sz : Nat, Met l y (.code y bytes maxL none :: dr_tbl) rm (va_Pc av (fun U => U.heap.size = sz ∧ va_P D vwCl wc U.heap ∧ va_K D vwCl (dr_tys cI cZ) U ∧ va_D (fun _ => True) wc)) (va_Qv post (fun u t => va_P D vwCl (Bw u) t.heap ∧ va_D (va_A wc sz) (Bw u)) (va_A wc sz)) rm.cells rm.slots (va_A wc sz)
theorem k_start {y : MethodName} {rm : Room} {av : List Value} {wc : va_W} {S : Type} {post : S → Prop} {Bw : S → va_W} (hy : plainName y.cls = true) (hown : y.cls = own) (hlen : (lg_sl av).length ≤ nL) (hnm : y.name = "<init>") (body : ∀ (p : Program) (e : Env) (s0 : State) (m : MethodId) (args : Array Value) (below : List Frame) (meth : Method) (c : Code) (A : Nat → Prop), A = va_A wc s0.heap.size → meth.name = "<init>" → dr_E p rm s0 m args meth c 0 0 A s0.heap D cI cZ (fun _ => 0) [] cc nL own none → dr_C p l e rm s0 m args below meth c A s0.heap D nL (MQ below (va_Qv post (fun u t => va_P D vwCl (Bw u) t.heap ∧ va_D A (Bw u)) A) args s0 rm.cells rm.slots A) 0 0 0 (lv_args 0 av) [] wc) : dr_K l D cI cZ y cc nL rm av wc post Bw := by
  intro sz
  refine Met.ofW (cc := cc) (maxL := nL) (ret := none) hy rfl ?_
  intro p e s0 m args below meth c s₁ B hml hv
  obtain ⟨rfl, hsz, hP, hK, hD0⟩ := hv
  have hts := atoms_spec (ws := .code y cc nL none :: dr_tbl) B.pre
  have hown' : s0.vm.findClass own = some m.cls := hown ▸ findClass_of_methodNamed B.named
  have hmn : meth.name = "<init>" := (name_of_methodNamed B.named B.method).1.trans hnm
  subst hsz
  have hE : dr_E p rm s0 m av.toArray meth c 0 0 (va_A wc s0.heap.size) s0.heap D cI cZ (fun _ => 0) [] cc nL own none := ⟨B.exec, B.bytes, hml, B.returns, B.notSynchronized, hown', fun w hw => hts w (List.mem_cons_of_mem _ hw), hK, ⟨List.nodup_nil, fun i h => (by cases h)⟩, (fun id h => (by cases h)), fun q h => Or.inr h, Nat.zero_le _, Nat.zero_le _⟩
  rw [lg_entry_eq]
  exact body p e s0 m _ below meth c _ rfl hmn hE s0.heap [] _ hP hD0.self va_S.rf (lv_entry av hlen)
theorem k_ret {S : Type} {post : S → Prop} {Bw : S → va_W} (E : dr_E p R s0 m args meth c 0 0 A s0.heap D cI cZ ad [] cc nL own none) (u : S) (hu : post u) (hw : ws = Bw u) (hm : cells ≤ R.cells ∧ slots ≤ R.slots) (hdg : decode cc pc = .ok (.return_, 1)) : dr_C p l e R s0 m args below meth c A s0.heap D nL (MQ below (va_Qv post (fun u t => va_P D vwCl (Bw u) t.heap ∧ va_D A (Bw u)) A) args s0 R.cells R.slots A) cells slots pc lv [] ws := by
  intro H locs ls hP hD hS hl
  subst hw
  refine W.widen hm.1 hm.2 ?_
  exact W.vret E.1 E.2.1 E.2.2.2.1 (fun t ht hW => ⟨⟨u, rfl, hu, (show va_P D vwCl (Bw u) t.heap from by rw [ht]; exact hP), hD⟩, hS.F ht⟩) hS.2.2 hdg E.2.2.2.2.1
theorem k_callI (E : dr_E p R s0 m args meth c 0 0 A H0 D cI cZ ad [] cc nL own ret) {stk : List Value} {S : Type} {post : S → Prop} {Bw : S → va_W} {y : MethodName} {bytes : ByteArray} {maxL n index b : Nat} {rm : Room} (As : List Value) (wc wr : va_W) (isC isR : List Nat) (hst : stk = As.reverse ++ .ref b :: st) (hM : dr_K l D cI cZ y bytes maxL rm (.ref b :: As) wc post Bw) (hC : isC.map (fun i => ws[i]?) = wc.map some) (hRr : isR.map (fun i => ws[i]?) = wr.map some) (hnd : va_nd isR = true) (hndC : va_nd isC = true) (hdis : ∀ i ∈ isR, i ∉ isC) (hmw : dr_mw y bytes maxL none n) (hn : As.length = n) (hy1 : y.name = "<init>") (hins : Cond.instanceMethod y ∈ dr_tbl) (hlink : Cond.methodLink own index y ∈ dr_tbl) (hR : rm.frames + 1 ≤ R.frames ∧ 8 + (maxL + 11) + rm.locals ≤ R.locals) (hroom : (st.map fun v => v.category).sum ≤ 8) (hcs : cells + rm.cells ≤ R.cells ∧ slots + rm.slots ≤ R.slots) (hdg : decode cc pc = .ok (.invokespecial index, 3)) (kk : ∀ u : S, post u → dr_C p l e R s0 m args below meth c A H0 D nL Q (cells + rm.cells) (slots + rm.slots) (pc + 3) lv st (wr ++ Bw u)) : dr_C p l e R s0 m args below meth c A H0 D nL Q cells slots pc lv stk ws := by
  intro H locs ls hP hD hS hl
  subst hst
  have hts := E.2.2.2.2.2.2.1
  have hK := E.2.2.2.2.2.2.2.1
  have hPc : va_P D vwCl wc H := by
    intro k q hq
    have h1 : (isC.map (fun i => ws[i]?))[k]? = some (some q) := by rw [hC, List.getElem?_map, hq]; rfl
    rw [List.getElem?_map] at h1
    cases hi : isC[k]? with
    | none => rw [hi] at h1; cases h1
    | some i => rw [hi] at h1; exact hP i q (Option.some.inj h1)
  have hDc : va_D A wc := hD.sub isC hndC hC
  have hFc := va_free (wc := wc) hD hS E.2.2.2.2.2.2.2.2.2.2.1 isC hC
  have cb := callB_of (own := own) (index := index) (R := R) (rm := rm) (mc := rm.cells) (ms := rm.slots) n hts (dr_goodC hmw.1) rfl rfl rfl (hts _ hmw.2.1) (hts _ hlink) hmw.2.2 hR
  refine va_callv (va_runI (As := As) (rest := st) ⟨E.1, E.2.1, E.2.2.1, E.2.2.2.2.2.1, hts⟩ (hM H.size) ⟨cb, hy1, hts _ hins⟩ ⟨fun a U g mk q => ⟨q.1, q.2.1, q.2.2.1, va_K.moved (u := U) (U := U.calling g mk a) (Vm.Alike.refl U.vm) q.2.2.2.1, q.2.2.2.2⟩, fun U hU hW => ⟨rfl, by rw [hU], by rw [hU]; exact hPc, va_K.moved hW.alike hK, hDc.weaken (fun _ _ _ _ => trivial)⟩⟩ rfl hn hl.1 rfl (lv_room hroom) hdg hcs) hS (fun q _ h => hFc q h) hFc (fun u t H1 locs1 ht hvm hw2 hB hz1 hk1 hS1 => ?_)
  obtain ⟨hP1, hD1⟩ := hB
  rw [ht] at hP1
  obtain ⟨hP2, hD2⟩ := va_join (wr := wr) (w1 := Bw u) hP hD isC isR hC hRr hnd hdis hk1 hFc hP1 hD1
  exact kk u hw2 H1 locs1 ls hP2 hD2 hS1 hl
theorem k_callIN (E : dr_E p R s0 m args meth c 0 0 A H0 D cI cZ ad [] cc nL own ret) {stk : List Value} {S : Type} {post : S → Prop} {Bw : S → va_W} {y : MethodName} {bytes : ByteArray} {maxL n index b : Nat} {rm : Room} (As : List Value) (wc wr : va_W) (isC isR : List Nat) (hst : stk = As.reverse ++ .ref b :: st) (hM : dr_K l D cI cZ y bytes maxL rm (.ref b :: As) wc post Bw) (hC : isC.map (fun i => ws[i]?) = wc.map some) (hRr : isR.map (fun i => ws[i]?) = wr.map some) (hnd : va_nd isR = true) (hndC : va_nd isC = true) (hdis : ∀ i ∈ isR, i ∉ isC) (hmw : dr_mw y bytes maxL none n) (hn : As.length = n) (hy1 : y.name = "<init>") (hins : Cond.instanceMethod y ∈ dr_tbl) {host : String} (hlink : va_Nw (.methodLinkNest own index y host) s0) (hR : rm.frames + 1 ≤ R.frames ∧ 8 + (maxL + 11) + rm.locals ≤ R.locals) (hroom : (st.map fun v => v.category).sum ≤ 8) (hcs : cells + rm.cells ≤ R.cells ∧ slots + rm.slots ≤ R.slots) (hdg : decode cc pc = .ok (.invokespecial index, 3)) (kk : ∀ u : S, post u → dr_C p l e R s0 m args below meth c A H0 D nL Q (cells + rm.cells) (slots + rm.slots) (pc + 3) lv st (wr ++ Bw u)) : dr_C p l e R s0 m args below meth c A H0 D nL Q cells slots pc lv stk ws := by
  intro H locs ls hP hD hS hl
  subst hst
  have hts := E.2.2.2.2.2.2.1
  have hK := E.2.2.2.2.2.2.2.1
  have hPc : va_P D vwCl wc H := by
    intro k q hq
    have h1 : (isC.map (fun i => ws[i]?))[k]? = some (some q) := by rw [hC, List.getElem?_map, hq]; rfl
    rw [List.getElem?_map] at h1
    cases hi : isC[k]? with
    | none => rw [hi] at h1; cases h1
    | some i => rw [hi] at h1; exact hP i q (Option.some.inj h1)
  have hDc : va_D A wc := hD.sub isC hndC hC
  have hFc := va_free (wc := wc) hD hS E.2.2.2.2.2.2.2.2.2.2.1 isC hC
  have cb := va_cnB (own := own) (host := host) (index := index) (R := R) (rm := rm) (mc := rm.cells) (ms := rm.slots) n hts (dr_goodC hmw.1) rfl rfl rfl hlink (hts _ hmw.2.1) hmw.2.2 hR
  refine va_callv (va_runIN (As := As) (rest := st) ⟨E.1, E.2.1, E.2.2.1, E.2.2.2.2.2.1, hts⟩ (hM H.size) ⟨cb, hy1, hts _ hins⟩ ⟨fun a U g mk q => ⟨q.1, q.2.1, q.2.2.1, va_K.moved (u := U) (U := U.calling g mk a) (Vm.Alike.refl U.vm) q.2.2.2.1, q.2.2.2.2⟩, fun U hU hW => ⟨rfl, by rw [hU], by rw [hU]; exact hPc, va_K.moved hW.alike hK, hDc.weaken (fun _ _ _ _ => trivial)⟩⟩ rfl hn hl.1 rfl (lv_room hroom) hdg hcs) hS (fun q _ h => hFc q h) hFc (fun u t H1 locs1 ht hvm hw2 hB hz1 hk1 hS1 => ?_)
  obtain ⟨hP1, hD1⟩ := hB
  rw [ht] at hP1
  obtain ⟨hP2, hD2⟩ := va_join (wr := wr) (w1 := Bw u) hP hD isC isR hC hRr hnd hdis hk1 hFc hP1 hD1
  exact kk u hw2 H1 locs1 ls hP2 hD2 hS1 hl
end DC

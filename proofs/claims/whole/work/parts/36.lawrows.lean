/-! THE CLAIM OUT OF ONE WALK OF THE LAW'S BODY. Your part is whole_start (and what it stands on); all else here is the same for every law, but numbers. -/
def R_law : String := "DrawerRoomLaw"
def lw_P (b : Addr) (xs : List Int32) (args : Array Value) (s : State) : Prop := args = #[.ref b] ∧ s.IntsAt b xs ∧ xs.length ≤ 3585 ∧ (Jvm.Cond.and given_1 narrow_1).before args s = true
def lw_Q (_ : Array Value) (s : State) (o : Outcome) (t : State) : Prop := o = .returned (some (.int 1)) ∧ Framed s o t [] 600000 7302250
def lw_Z (below : List Frame) (a : Array Value) (s : State) : State → Prop := fun t => ∃ o, t.status = .running ∧ Ended t below o ∧ lw_Q a s o t
/-- the law's own end, with 1 on the stack, nothing written that was there before, its room as the claim has it -/
theorem lw_ret {p : Program} {l : Launch} {e : Env} {s : State} {m : MethodId} {below : List Frame} {meth : Method} {c : Code} {b : Nat} (hx : p.tables.exec = Jvm.exec) (hb : c.code = code) (hr : meth.sig.returnType = ret) (hlocks : meth.locks = false) {pc : Nat} {H : Heap} {ls : Array Slot} (hdg : decode code pc = .ok (.ireturn, 1)) : W p l e room_1 s m #[Value.ref b] below meth c H [] 600000 7302250 (lw_Z below #[Value.ref b] s) (F0 m pc ls [.int 1]) := by
  intro T hT X
  obtain ⟨fs, hret, hrun, hended, hW, hframe⟩ := X.leave (v := some (.int 1)) (hlocks := hlocks) (fun h => by rw [hr] at h; cases h)
  have hmeth' : T.vm.method? m = some meth := X.method'
  refine ⟨T.setFrames fs, ?_, .returned (some (.int 1)), hrun, hended, rfl, ⟨_, rfl⟩, hW, hframe⟩
  jvm_step X.here [X.here.top, hx, hb, hdg, hmeth', hr, ret, narrow_b1]
  (try refine ⟨rfl, ?_⟩); (try refine ⟨rfl, ?_⟩)
  first | (intro acts; rw [hret _ acts rfl rfl rfl]) | rw [hret _ _ rfl rfl rfl]
  exact Steps.refl _
/-- what holds at the law's entry: the machine, the code, the tables' words (any of lw_tbl by 'hts w (by decide +kernel)'), the script of L ints xs at the cell b, what the Statement gives of the start (any of its parts by flat_of_before) -/
def lw_At (p : Program) (s : State) (m : MethodId) (meth : Method) (c : Code) (b L : Nat) (xs : Nat → Int32) : Prop :=
  p.tables.exec = Jvm.exec ∧ c.code = code ∧ meth.sig.returnType = ret ∧ c.maxLocals = 4 ∧ s.vm.findClass R_law = some m.cls ∧ (∀ w ∈ lw_tbl, w.before #[Value.ref b] s = true) ∧ va_X b L xs s s.heap ∧ b < s.heap.size ∧ meth.locks = false ∧ (Jvm.Cond.and given_1 narrow_1).before #[Value.ref b] s = true

def dr_rds (Lx : Nat) (xs : Nat → Int32) (i : Int32) : Option Int32 := if i < 0 ∨ Lx ≤ i.toNatClampNeg then none else some (xs i.toNatClampNeg)
section DR
variable {p : Program} {l : Launch} {e : Env} {R : Room} {s0 : State} {m : MethodId} {args : Array Value} {below : List Frame} {meth : Method} {c : Code} {cells slots : Nat} {A : Nat → Prop} {H0 : Heap} {D : va_G} {cI cZ : ClassId} {ad ln : Nat → Nat} {L : List Nat} {cc : ByteArray} {nL : Nat} {own : String} {ret : Option FieldType} {Z : Int32 → dr_S → State → Prop}
variable {pc : Nat} {lv : List (Nat × Value)} {st : List Value} {s : dr_S} {F F1 F2 : Option (Int32 × dr_S)}

theorem g_sld (E : dr_E p R s0 m args meth c cells slots A H0 D cI cZ ad L cc nL own ret) {b Lx : Nat} {xs : Nat → Int32} (hX : va_X b Lx xs s0 H0) (hbl : b < H0.size) (hbA : ¬ A b) {i : Int32} (hdg : decode cc pc = .ok (.iaload, 1)) {Kx : Int32 → Option (Int32 × dr_S)} (kk : ∀ v : Int32, dr_G p l e R s0 m args below meth c cells slots A H0 D cI cZ ad ln L nL Z (pc + 1) lv (.int v :: st) s (Kx v)) : dr_G p l e R s0 m args below meth c cells slots A H0 D cI cZ ad ln L nL Z pc lv (.int i :: .ref b :: st) s ((dr_rds Lx xs i).bind Kx) := by
  intro r s' hF H locs ls hP hS hl
  obtain ⟨v, hv, hK⟩ := Option.bind_eq_some_iff.mp hF
  unfold dr_rds at hv
  split at hv
  · cases hv
  · next hin =>
    cases hv
    exact va_sld E.1 E.2.1 hX hbl hbA hS hin hdg (kk _ r s' hK H locs ls hP hS hl)
theorem g_slen (E : dr_E p R s0 m args meth c cells slots A H0 D cI cZ ad L cc nL own ret) {b Lx : Nat} {xs : Nat → Int32} (hX : va_X b Lx xs s0 H0) (hbl : b < H0.size) (hbA : ¬ A b) (hdg : decode cc pc = .ok (.arraylength, 1)) (kk : dr_G p l e R s0 m args below meth c cells slots A H0 D cI cZ ad ln L nL Z (pc + 1) lv (.int (Int32.ofNat Lx) :: st) s F) : dr_G p l e R s0 m args below meth c cells slots A H0 D cI cZ ad ln L nL Z pc lv (.ref b :: st) s F := fun r s' hF H locs ls hP hS hl => va_slen E.1 E.2.1 hX hbl hbA hS hdg (kk r s' hF H locs ls hP hS hl)
end DR
section
variable {p : Program} {l : Launch} {e : Env} {s0 : State} {m : MethodId} {below : List Frame} {meth : Method} {c : Code} {cells slots : Nat} {D : va_G} {cI cZ : ClassId} {ad ln : Nat → Nat} {L : List Nat} {b Lx : Nat} {xs : Nat → Int32}
theorem g_lawret {pc : Nat} {lv : List (Nat × Value)} {s : dr_S} (E : dr_E p room_1 s0 m #[Value.ref b] meth c cells slots (fun q : Nat => s0.heap.size ≤ q) s0.heap D cI cZ ad L code 4 RL ret) (hcs : cells ≤ 600000 ∧ slots ≤ 7302250) (hdg : decode code pc = .ok (.ireturn, 1)) : dr_G p l e room_1 s0 m #[Value.ref b] below meth c cells slots (fun q : Nat => s0.heap.size ≤ q) s0.heap D cI cZ ad ln L 4 (fun _ _ => lw_Z below #[Value.ref b] s0) pc lv [.int 1] s (some (1, s)) := fun r s' hF H locs ls hP hS hl => va_forget hS.2.2 (W.widen hcs.1 hcs.2 (lw_ret E.1 E.2.1 E.2.2.2.1 E.2.2.2.2.1 hdg))
end
section DR
variable {p : Program} {l : Launch} {e : Env} {R : Room} {s0 : State} {m : MethodId} {args : Array Value} {below : List Frame} {meth : Method} {c : Code} {cells slots : Nat} {A : Nat → Prop} {H0 : Heap} {D : va_G} {cI cZ : ClassId} {ad ln : Nat → Nat} {L : List Nat} {cc : ByteArray} {nL : Nat} {own : String} {ret : Option FieldType} {Z : Int32 → dr_S → State → Prop}
variable {pc : Nat} {lv : List (Nat × Value)} {st : List Value} {s : dr_S} {F F1 F2 : Option (Int32 × dr_S)}

theorem g_cVM (E : dr_E p R s0 m args meth c cells slots A H0 D cI cZ ad L cc nL own ret) {wn : Cond} {stk : List Value} {C : String} {T : u_T} {N ci : Nat} {index n : Nat} {y : MethodName} {bytes : ByteArray} {maxL d : Nat} {ret2 : Option FieldType} (As : List Value) {Kx : Int32 → dr_S → Option (Int32 × dr_S)} (hst : stk = As.reverse ++ .ref (ad ci) :: st) (hM : dr_MN wn l D cI cZ ad ln L y bytes maxL ret2 d (.ref (ad ci) :: As) s F1) (hid : ci ∈ L) (hci : ci < 13) (hc : vwCl[ci]? = some (C, T, N)) (hcy : y.cls = C) (hins : Cond.instanceMethod y ∈ dr_tbl) (hsel : Cond.selects y.cls y y ∈ dr_tbl) (hmw : dr_mw y bytes maxL ret2 n) (hn : As.length = n) (hlink : Cond.methodLink own index y ∈ dr_tbl) (hot : wn.onTables = true) (hNw : ∀ U : State, s0.WarmedH U.vm → va_Nw wn U) (hR : d + 1 ≤ R.frames ∧ 8 + (maxL + 11) + 64 * d ≤ R.locals) (hroom : (st.map fun v => v.category).sum ≤ 8) (hdg : decode cc pc = .ok (.invokevirtual index, 3)) (kk : ∀ (r1 : Int32) (s1 : dr_S), dr_G p l e R s0 m args below meth c cells slots A H0 D cI cZ ad ln L nL Z (pc + 3) lv (.int r1 :: st) s1 (Kx r1 s1)) : dr_G p l e R s0 m args below meth c cells slots A H0 D cI cZ ad ln L nL Z pc lv stk s (dr_bnd F1 Kx) := by
  intro r s' hF H locs ls hP hS hl
  obtain ⟨⟨r1, s1⟩, h1, hK⟩ := Option.bind_eq_some_iff.mp hF
  subst hst
  obtain ⟨q, hq⟩ := List.getElem?_of_mem hid
  have cb := callB_of (own := own) (index := index) (R := R) (rm := dr_rm d) (mc := 0) (ms := 0) n E.2.2.2.2.2.2.1 (dr_goodC hmw.1) rfl rfl rfl (E.2.2.2.2.2.2.1 _ hmw.2.1) (E.2.2.2.2.2.2.1 _ hlink) hmw.2.2 hR
  refine va_calli (va_runV (As := As) (rest := st) ⟨E.1, E.2.1, E.2.2.1, E.2.2.2.2.2.1, E.2.2.2.2.2.2.1⟩ (hM r1 s1 h1 H.size) ⟨cb, E.2.2.2.2.2.2.1 _ hins, E.2.2.2.2.2.2.1 _ hsel⟩ ⟨fun a U g mk q => ⟨q.1, q.2.1, q.2.2.1, va_K.moved (u := U) (U := U.calling g mk a) (Vm.Alike.refl U.vm) q.2.2.2.1, va_Nw.same hot (u := U) (U := U.calling g mk a) rfl q.2.2.2.2⟩, hcy ▸ va_recv E.2.2.2.2.2.2.2.1 hP hc ((dr_wget hq).trans (by rw [dr_eO hci])), fun U hU hW => ⟨rfl, by rw [hU], by rw [hU]; exact hP, va_K.moved hW.alike E.2.2.2.2.2.2.2.1, hNw U hW⟩⟩ rfl hn hl.1 rfl (lv_room hroom) hdg ⟨E.2.2.2.2.2.2.2.2.2.2.2.1, E.2.2.2.2.2.2.2.2.2.2.2.2⟩) hS (fun q _ h => dr_AA E hS q h) (dr_AA E hS) (fun r2 u t H1 locs1 ht hvm hw2 hB hz1 hk1 hS1 => ?_)
  obtain ⟨rfl, rfl⟩ := hw2
  exact kk r2 u r s' hK H1 locs1 ls (by rw [← ht]; exact hB) hS1 hl
end DR

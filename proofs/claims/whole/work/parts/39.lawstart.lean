theorem dL_cell_0 : decode cL_cell 0 = .ok (.iload_n 1, 1) := by decide +kernel
theorem dL_cell_1 : decode cL_cell 1 = .ok (.aload_n 0, 1) := by decide +kernel
theorem dL_cell_2 : decode cL_cell 2 = .ok (.arraylength, 1) := by decide +kernel
theorem dL_cell_3 : decode cL_cell 3 = .ok (.if_icmp .ge 9, 3) := by decide +kernel
theorem dL_cell_6 : decode cL_cell 6 = .ok (.aload_n 0, 1) := by decide +kernel
theorem dL_cell_7 : decode cL_cell 7 = .ok (.iload_n 1, 1) := by decide +kernel
theorem dL_cell_8 : decode cL_cell 8 = .ok (.iaload, 1) := by decide +kernel
theorem dL_cell_9 : decode cL_cell 9 = .ok (.goto 4, 3) := by decide +kernel
theorem dL_cell_12 : decode cL_cell 12 = .ok (.iconst 0, 1) := by decide +kernel
theorem dL_cell_13 : decode cL_cell 13 = .ok (.ireturn, 1) := by decide +kernel
def r_0 (Lx : Nat) (xs : Nat → Int32) : Int32 := if 0 < Lx then xs 0 else 0
theorem c_cell (l : Launch) (b Lx : Nat) (xs : Nat → Int32) (hLx : Lx ≤ 3585) (sz : Nat) : Met l yL_cell (.code yL_cell cL_cell 2 (some .int) :: dr_tbl) (dr_rm 0) (va_Pc [.ref b, .int 0] (fun U => U.heap.size = sz ∧ va_X b Lx xs U U.heap ∧ b < sz)) (va_Qi (fun (r : Int32) (_ : Unit) => r = r_0 Lx xs) (fun _ _ => True) (fun q => sz ≤ q)) 0 0 (fun q => sz ≤ q) := by
  refine Met.ofW (cc := cL_cell) (maxL := 2) (ret := some .int) (by decide) rfl ?_
  intro p e s m args below meth c s₁ B hml hv
  obtain ⟨rfl, hsz, hX, hbl⟩ := hv
  have hx := B.exec
  have hb := B.bytes
  have hr := B.returns
  have hlocks := B.notSynchronized
  subst hsz
  have hS : va_S (fun q : Nat => s.heap.size ≤ q) s.heap s.heap [] := va_S.rf
  have hbA : ¬ (fun q : Nat => s.heap.size ≤ q) b := Nat.not_le.mpr hbl
  have hl := lv_entry ([.ref b, .int 0]) (n := 2) (Nat.le_of_ble_eq_true rfl)
  rw [lg_entry_eq]
  generalize (lg_sl ([.ref b, .int 0]) ++ List.replicate (2 - (lg_sl ([.ref b, .int 0])).length) Slot.unset).toArray = ls at hl ⊢
  have hl : lv_has ls 2 [(0, .ref b), (1, .int 0)] := hl
  refine lv_iload_n hx hb dL_cell_0 rfl (lv_at hl 1 rfl) ?_
  refine lv_aload_n hx hb dL_cell_1 rfl (lv_at hl 0 rfl) ?_
  refine va_slen hx hb hX hbl hbA hS dL_cell_2 ?_
  have hle : Int32.ofNat Lx ≤ 0 ↔ Lx ≤ 0 := nI_leI (a := Lx) (b := 0) (by omega) (by omega)
  refine lv_icmp_ge (tgt := 12) hx hb dL_cell_3 (by decide) (fun h => ?_) (fun h => ?_)
  · have h0 := hle.mp h
    refine lv_iconst (v := 0) hx hb dL_cell_12 (by decide) ?_
    exact W.iret (v := 0) hx hb hr (fun t ht hW => ⟨⟨0, (), rfl, (by unfold r_0; rw [if_neg (by omega)]), trivial⟩, hS.F ht⟩) hS.2.2 dL_cell_13
  · have h0 : 0 < Lx := Nat.pos_of_ne_zero (fun q => h (hle.mpr (by omega)))
    refine lv_aload_n hx hb dL_cell_6 rfl (lv_at hl 0 rfl) ?_
    refine lv_iload_n hx hb dL_cell_7 rfl (lv_at hl 1 rfl) ?_
    refine va_sld hx hb hX hbl hbA hS (vp_in_nI (n := 0) h0 (by omega)) dL_cell_8 ?_
    refine lv_goto (tgt := 13) hx hb dL_cell_9 (by decide) ?_
    exact W.iret hx hb hr (fun t ht hW => ⟨⟨_, (), rfl, (by unfold r_0; rw [if_pos h0]; rfl), trivial⟩, hS.F ht⟩) hS.2.2 dL_cell_13
section DC
variable {p : Program} {l : Launch} {e : Env} {R : Room} {s0 : State} {m : MethodId} {args : Array Value} {below : List Frame} {meth : Method} {c : Code} {A : Nat → Prop} {H0 : Heap} {D : va_G} {cI cZ : ClassId} {ad : Nat → Nat} {cc : ByteArray} {nL : Nat} {own : String} {ret : Option FieldType} {Q : State → Prop}
variable {cells slots pc : Nat} {lv : List (Nat × Value)} {st : List Value} {ws : va_W}

theorem k_cell (E : dr_E p R s0 m args meth c 0 0 A H0 D cI cZ ad [] cc nL RL ret) {b Lx : Nat} {xs : Nat → Int32} (hX : va_X b Lx xs s0 H0) (hbl : b < H0.size) (hbA : ¬ A b) (hLx : Lx ≤ 3585) (hR : 1 ≤ R.frames ∧ 21 ≤ R.locals) (hroom : (st.map fun v => v.category).sum ≤ 8) (hcs : cells ≤ R.cells ∧ slots ≤ R.slots) (hdg : decode cc pc = .ok (.invokestatic 9, 3)) (kk : dr_C p l e R s0 m args below meth c A H0 D nL Q cells slots (pc + 3) lv (.int (r_0 Lx xs) :: st) ws) : dr_C p l e R s0 m args below meth c A H0 D nL Q cells slots pc lv (.int 0 :: .ref b :: st) ws := by
  intro H locs ls hP hD hS hl
  have hts := E.2.2.2.2.2.2.1
  have hA1 : ∀ q, H.size ≤ q → A q := fun q h => E.2.2.2.2.2.2.2.2.2.2.1 q (Nat.le_trans hS.1 h)
  have cb := callB_of (own := RL) (index := 9) (R := R) (rm := dr_rm 0) (mc := 0) (ms := 0) 2 hts (dr_goodC mw_L_cell.1) rfl rfl rfl (hts _ mw_L_cell.2.1) (hts _ ml_L_9) mw_L_cell.2.2 ⟨hR.1, hR.2⟩
  have hX1 : va_X b Lx xs s0 H := hX.kept (hS.2.1 b hbl hbA)
  refine va_calli (va_runS (As := [.ref b, .int 0]) (rest := st) ⟨E.1, E.2.1, E.2.2.1, E.2.2.2.2.2.1, hts⟩ (c_cell l b Lx xs hLx H.size) ⟨cb, hts _ ms_L_cell⟩ ⟨fun a U g mk q => ⟨q.1, q.2.1, va_X.moved (u := U) (U := U.calling g mk a) (Vm.Alike.refl U.vm) q.2.2.1, q.2.2.2⟩, fun U hU hW => ⟨rfl, by rw [hU], by rw [hU]; exact hX1.moved hW.alike, Nat.lt_of_lt_of_le hbl hS.1⟩⟩ rfl rfl hl.1 rfl (lv_room hroom) hdg hcs) hS (fun q _ h => hA1 q h) hA1 (fun r2 u t H1 locs1 ht hvm hw2 hB hz1 hk1 hS1 => ?_)
  have hw2 : r2 = r_0 Lx xs := hw2
  subst hw2
  exact kk H1 locs1 ls (hP.kept (fun k q hq => hk1 q.1 ((hP k q hq).lt) (fun h => absurd ((hP k q hq).lt) (Nat.not_lt.mpr h)))) hD hS1 hl
theorem k_callIK (E : dr_E p R s0 m args meth c 0 0 A H0 D cI cZ ad [] cc nL own ret) {wn : Cond} {stk : List Value} {S : Type} {post : S → Prop} {Bw : S → va_W} {y : MethodName} {bytes : ByteArray} {maxL n index b : Nat} {rm : Room} (As : List Value) (wc wr : va_W) (isC isR : List Nat) (hst : stk = As.reverse ++ .ref b :: st) (hM : dr_KN wn l D cI cZ y bytes maxL rm (.ref b :: As) wc post Bw) (hC : isC.map (fun i => ws[i]?) = wc.map some) (hRr : isR.map (fun i => ws[i]?) = wr.map some) (hnd : va_nd isR = true) (hndC : va_nd isC = true) (hdis : ∀ i ∈ isR, i ∉ isC) (hmw : dr_mw y bytes maxL none n) (hn : As.length = n) (hy1 : y.name = "<init>") (hins : Cond.instanceMethod y ∈ dr_tbl) (hlink : Cond.methodLink own index y ∈ dr_tbl) (hot : wn.onTables = true) (hNw : ∀ U : State, s0.WarmedH U.vm → va_Nw wn U) (hR : rm.frames + 1 ≤ R.frames ∧ 8 + (maxL + 11) + rm.locals ≤ R.locals) (hroom : (st.map fun v => v.category).sum ≤ 8) (hcs : cells + rm.cells ≤ R.cells ∧ slots + rm.slots ≤ R.slots) (hdg : decode cc pc = .ok (.invokespecial index, 3)) (kk : ∀ u : S, post u → dr_C p l e R s0 m args below meth c A H0 D nL Q (cells + rm.cells) (slots + rm.slots) (pc + 3) lv st (wr ++ Bw u)) : dr_C p l e R s0 m args below meth c A H0 D nL Q cells slots pc lv stk ws := by
  intro H locs ls hP hD hS hl
  subst hst
  have hts := E.2.2.2.2.2.2.1
  have hK := E.2.2.2.2.2.2.2.1
  have hPc : va_P D vwCl wc H := by
    intro k q hq
    have h1 : (isC.map (fun i => ws[i]?))[k]? = some (some q) := by rw [hC, List.getElem?_map, hq]; rfl
    rw [List.getElem?_map] at h1
    cases hi : isC[k]? with
    | none => rw [hi] at h1; cases h1
    | some i => rw [hi] at h1; exact hP i q (Option.some.inj h1)
  have hDc : va_D A wc := hD.sub isC hndC hC
  have hFc := va_free (wc := wc) hD hS E.2.2.2.2.2.2.2.2.2.2.1 isC hC
  have cb := callB_of (own := own) (index := index) (R := R) (rm := rm) (mc := rm.cells) (ms := rm.slots) n hts (dr_goodC hmw.1) rfl rfl rfl (hts _ hmw.2.1) (hts _ hlink) hmw.2.2 hR
  refine va_callv (va_runI (As := As) (rest := st) ⟨E.1, E.2.1, E.2.2.1, E.2.2.2.2.2.1, hts⟩ (hM H.size) ⟨cb, hy1, hts _ hins⟩ ⟨fun a U g mk q => ⟨q.1, q.2.1, q.2.2.1, va_K.moved (u := U) (U := U.calling g mk a) (Vm.Alike.refl U.vm) q.2.2.2.1, q.2.2.2.2.1, va_Nw.same hot (u := U) (U := U.calling g mk a) rfl q.2.2.2.2.2⟩, fun U hU hW => ⟨rfl, by rw [hU], by rw [hU]; exact hPc, va_K.moved hW.alike hK, hDc.weaken (fun _ _ _ _ => trivial), hNw U hW⟩⟩ rfl hn hl.1 rfl (lv_room hroom) hdg hcs) hS (fun q _ h => hFc q h) hFc (fun u t H1 locs1 ht hvm hw2 hB hz1 hk1 hS1 => ?_)
  obtain ⟨hP1, hD1⟩ := hB
  rw [ht] at hP1
  obtain ⟨hP2, hD2⟩ := va_join (wr := wr) (w1 := Bw u) hP hD isC isR hC hRr hnd hdis hk1 hFc hP1 hD1
  exact kk u hw2 H1 locs1 ls hP2 hD2 hS1 hl
end DC
theorem r_k_in (x : Int32) : r_k x = 2 ∨ r_k x = 3 ∨ r_k x = 4 ∨ r_k x = 5 := by
  have key : ∀ y : Int32, 2 ≤ y.toInt → y.toInt ≤ 5 → (y = 2 ∨ y = 3 ∨ y = 4 ∨ y = 5) := by
    intro y h1 h2
    have e2 : (2 : Int32).toInt = 2 := by decide
    have e3 : (3 : Int32).toInt = 3 := by decide
    have e4 : (4 : Int32).toInt = 4 := by decide
    have e5 : (5 : Int32).toInt = 5 := by decide
    rcases (by omega : y.toInt = 2 ∨ y.toInt = 3 ∨ y.toInt = 4 ∨ y.toInt = 5) with h | h | h | h
    · exact Or.inl (Int32.toInt_inj.mp (h.trans e2.symm))
    · exact Or.inr (Or.inl (Int32.toInt_inj.mp (h.trans e3.symm)))
    · exact Or.inr (Or.inr (Or.inl (Int32.toInt_inj.mp (h.trans e4.symm))))
    · exact Or.inr (Or.inr (Or.inr (Int32.toInt_inj.mp (h.trans e5.symm))))
  have e2 : (2 : Int32).toInt = 2 := by decide
  have e5 : (5 : Int32).toInt = 5 := by decide
  apply key
  · unfold r_k dr_max
    split
    · next h => rw [Int32.lt_iff_toInt_lt] at h; omega
    · omega
  · unfold r_k dr_max dr_min
    by_cases h1 : x < 5
    · simp only [if_pos h1]
      by_cases h2 : (2 : Int32) < x
      · rw [if_pos h2]
        rw [Int32.lt_iff_toInt_lt] at h1
        omega
      · rw [if_neg h2]
        omega
    · simp only [if_neg h1]
      decide
def r_N (x : Int32) : Nat := (dr_max 0 ((r_cf x + 512) + 962)).toNatClampNeg
theorem r_N_ok (x : Int32) : ¬ dr_max 0 ((r_cf x + 512) + 962) < 0 ∧ r_N x ≤ 100000 := by
  unfold r_N r_cf
  rcases r_k_in x with h | h | h | h <;> rw [h] <;> decide
def s_all (sr sm : dr_S) : dr_S := (fun a => if 28 ≤ a then sm.1 a else sr.1 a, fun f => if 1200 ≤ f then sm.2 f else sr.2 f)
/-- WHAT IS LEFT: the pure statement, of functions alone -/
def dr_pure : Prop := ∀ (Lx : Nat) (xs : Nat → Int32), Lx ≤ 3585 → ∃ (s2 s3 sm s9 : dr_S),
  f_X4_init (dr_ln (r_N (r_0 Lx xs))) (s_X4_init dr_s0 (r_k (r_0 Lx xs))) = some (0, s2) ∧
  f_X3_init (dr_ln (r_N (r_0 Lx xs))) (s_X3_init s2 (r_cf (r_0 Lx xs))) = some (0, s3) ∧
  f_X12_init (dr_ln (r_N (r_0 Lx xs))) (s_model (r_b (r_0 Lx xs))) = some (0, sm) ∧
  f_L_law_p28 (dr_ln (r_N (r_0 Lx xs))) Lx xs dr_N 1 (s_all (s_room s3 (r_0 Lx xs)) sm) = some (1, s9)
theorem wn_a : lw_tbl[129]? = some (.methodLinkNest RX11 33 yX5_init RX11) := by decide +kernel
theorem wn_b : lw_tbl[798]? = some (.methodLinkNest RX11 200 yX8_goesWrong RX11) := by decide +kernel
theorem dr_arrK {args : Array Value} {s : State} {ty : FieldType} (h : (Cond.arrayClass ty).before args s = true) (hp : ∀ C, ty ≠ .object C) : ∃ cA, ArrOfT s cA ty ∧ va_RA s cA ty := by
  obtain ⟨cA, kA, comp, hfc, hk, hkind⟩ := Cond.arrayClass_spec h
  refine ⟨cA, fun n z => ⟨fun k h => (by cases h), kA, hk, comp, hkind⟩, ?_⟩
  cases ty with
  | object C => exact absurd rfl (hp C)
  | _ => exact hfc
set_option maxHeartbeats 8000000 in
set_option maxRecDepth 100000 in
/-- the law from its entry, out of the pure statement -/
theorem whole_open (hp : dr_pure) {p : Program} {e : Env} {s : State} {m : MethodId} {below : List Frame} {meth : Method} {c : Code} (l : Launch) {b L : Nat} {xs : Nat → Int32} (hL : L ≤ 3585) (C0 : lw_At p s m meth c b L xs) : W p l e room_1 s m #[Value.ref b] below meth c s.heap [] 0 0 (lw_Z below #[Value.ref b] s) (entryFrame m ([Value.ref b] : List Value).toArray 4) := by
  obtain ⟨hx, hb, hr, hml, hown, hts0, hX, hbl, hlocks, hgv⟩ := id C0
  obtain ⟨s2, s3, sm, s9, h4, h3, hm, hF⟩ := hp L xs hL
  have hts : ∀ w ∈ dr_tbl, w.before #[Value.ref b] s = true := fun w hw => hts0 w (List.mem_filter.mp hw).1
  have hNa : ∀ U : State, s.WarmedH U.vm → va_Nw (.methodLinkNest RX11 33 yX5_init RX11) U := fun U hW => va_Nw.warmM hW (va_Nw.of rfl (hts0 _ (List.mem_of_getElem? wn_a)))
  have hNb : ∀ U : State, s.WarmedH U.vm → va_Nw (.methodLinkNest RX11 200 yX8_goesWrong RX11) U := fun U hW => va_Nw.warmM hW (va_Nw.of rfl (hts0 _ (List.mem_of_getElem? wn_b)))
  have hbA : ¬ (fun q : Nat => s.heap.size ≤ q) b := Nat.not_le.mpr hbl
  obtain ⟨c0, iS0, hKn0⟩ := u_known (C := RX0) (T := TX0) (N := 2) (n := 2) hts wu_0 (hts (.instantiable RX0 2) wn_0)
  obtain ⟨c1, iS1, hKn1⟩ := u_known (C := RX1) (T := TX1) (N := 4) (n := 4) hts wu_1 (hts (.instantiable RX1 4) wn_1)
  obtain ⟨c2, iS2, hKn2⟩ := u_known (C := RX2) (T := TX2) (N := 5) (n := 5) hts wu_2 (hts (.instantiable RX2 5) wn_2)
  obtain ⟨c3, iS3, hKn3⟩ := u_known (C := RX3) (T := TX3) (N := 2) (n := 2) hts wu_3 (hts (.instantiable RX3 2) wn_3)
  obtain ⟨c4, iS4, hKn4⟩ := u_known (C := RX4) (T := TX4) (N := 7) (n := 7) hts wu_4 (hts (.instantiable RX4 7) wn_4)
  obtain ⟨c5, iS5, hKn5⟩ := u_known (C := RX5) (T := TX5) (N := 5) (n := 5) hts wu_5 (hts (.instantiable RX5 5) wn_5)
  obtain ⟨c6, iS6, hKn6⟩ := u_known (C := RX6) (T := TX6) (N := 4) (n := 4) hts wu_6 (hts (.instantiable RX6 4) wn_6)
  obtain ⟨c7, iS7, hKn7⟩ := u_known (C := RX7) (T := TX7) (N := 9) (n := 9) hts wu_7 (hts (.instantiable RX7 9) wn_7)
  obtain ⟨c8, iS8, hKn8⟩ := u_known (C := RX8) (T := TX8) (N := 9) (n := 9) hts wu_8 (hts (.instantiable RX8 9) wn_8)
  obtain ⟨c9, iS9, hKn9⟩ := u_known (C := RX9) (T := TX9) (N := 2) (n := 2) hts wu_9 (hts (.instantiable RX9 2) wn_9)
  obtain ⟨c10, iS10, hKn10⟩ := u_known (C := RX10) (T := TX10) (N := 3) (n := 3) hts wu_10 (hts (.instantiable RX10 3) wn_10)
  obtain ⟨c11, iS11, hKn11⟩ := u_known (C := RX11) (T := TX11) (N := 10) (n := 10) hts wu_11 (hts (.instantiable RX11 10) wn_11)
  obtain ⟨c12, iS12, hKn12⟩ := u_known (C := RX12) (T := TX12) (N := 59) (n := 59) hts wu_12 (hts (.instantiable RX12 59) wn_12)
  obtain ⟨cI, hI1, hI2⟩ := dr_arrK (hts (.arrayClass .int) w_arr.1) (fun C h => by cases h)
  obtain ⟨cZ, hZ1, hZ2⟩ := dr_arrK (hts (.arrayClass .boolean) w_arr.2) (fun C h => by cases h)
  obtain ⟨dC, dI, hKc⟩ : ∃ (dC : Nat → ClassId) (dI : Nat → Nat → Nat), ∀ (k : Nat) (q : vw_C), vwCl[k]? = some q → u_Kn s q.1 q.2.1 q.2.2 (dC k) (dI k) := by
    refine ⟨fun k => match k with | 0 => c0 | 1 => c1 | 2 => c2 | 3 => c3 | 4 => c4 | 5 => c5 | 6 => c6 | 7 => c7 | 8 => c8 | 9 => c9 | 10 => c10 | 11 => c11 | _ => c12, fun k => match k with | 0 => iS0 | 1 => iS1 | 2 => iS2 | 3 => iS3 | 4 => iS4 | 5 => iS5 | 6 => iS6 | 7 => iS7 | 8 => iS8 | 9 => iS9 | 10 => iS10 | 11 => iS11 | _ => iS12, ?_⟩
    intro k q hq
    match k, hq with
    | 0, hq => cases hq; exact hKn0
    | 1, hq => cases hq; exact hKn1
    | 2, hq => cases hq; exact hKn2
    | 3, hq => cases hq; exact hKn3
    | 4, hq => cases hq; exact hKn4
    | 5, hq => cases hq; exact hKn5
    | 6, hq => cases hq; exact hKn6
    | 7, hq => cases hq; exact hKn7
    | 8, hq => cases hq; exact hKn8
    | 9, hq => cases hq; exact hKn9
    | 10, hq => cases hq; exact hKn10
    | 11, hq => cases hq; exact hKn11
    | 12, hq => cases hq; exact hKn12
    | k + 13, hq => simp [vwCl] at hq
  have hK : va_K (dC, dI) vwCl (dr_tys cI cZ) s := by
    refine ⟨hKc, fun k q h => ?_⟩
    match k, h with
    | 0, h => cases h; exact ⟨hI1, hI2⟩
    | 1, h => cases h; exact ⟨hZ1, hZ2⟩
    | k + 2, h => simp at h
  have E : dr_E p room_1 s m #[Value.ref b] meth c 0 0 (fun q : Nat => s.heap.size ≤ q) s.heap (dC, dI) cI cZ (fun _ => 0) [] code 4 RL ret := ⟨hx, hb, hml, hr, hlocks, hown, hts, hK, ⟨List.nodup_nil, fun i h => (by cases h)⟩, (fun id h => (by cases h)), fun q h => h, Nat.zero_le _, Nat.zero_le _⟩
  rw [lg_entry_eq]
  have KK : dr_C p l e room_1 s m #[Value.ref b] below meth c (fun q : Nat => s.heap.size ≤ q) s.heap (dC, dI) 4 (lw_Z below #[Value.ref b] s) 0 0 0 [(0, .ref b)] [] [] := by
    refine k_new E (ci := 11) (fs := [.null, .null, .null, .null, .null, .null, .null, .null, .null, .null]) tyX11 tyX11_ok rfl wu_11 wc_L_7 wn_11 wi_11 (by decide) (by first | (dsimp only [room_1]; omega) | (dsimp only [room_1]; done)) (by first | (dsimp only [room_1]; omega) | (dsimp only [room_1]; done)) dL_law_0 (fun q11 => ?_)
    refine k_dup E dL_law_3 rfl ?_
    refine k_aload_n E dL_law_4 0 rfl ?_
    refine k_iconst E (v := 0) dL_law_5 (by decide) ?_
    refine k_cell E hX hbl hbA hL ⟨Nat.le_of_ble_eq_true rfl, Nat.le_of_ble_eq_true rfl⟩ (Nat.le_of_ble_eq_true rfl) ⟨(by first | (dsimp only [room_1]; omega) | (dsimp only [room_1]; done)), (by first | (dsimp only [room_1]; omega) | (dsimp only [room_1]; done))⟩ dL_law_6 ?_
    refine k_callIK E (b := q11) [.int (r_0 L xs)] [(q11, .inr (11, [.null, .null, .null, .null, .null, .null, .null, .null, .null, .null]))] [] [0] [] rfl (k_X11_init q11 (r_0 L xs) (r_N (r_0 L xs)) (r_N_ok (r_0 L xs)).1 rfl (r_N_ok (r_0 L xs)).2 s2 s3 h4 h3) rfl rfl (by decide) (by decide) (by decide) mw_X11_init rfl rfl mi_X11_init ml_L_15 rfl hNa ⟨Nat.le_of_ble_eq_true rfl, Nat.le_of_ble_eq_true rfl⟩ (Nat.le_of_ble_eq_true rfl) ⟨(by first | (dsimp only [room_1]; have := (r_N_ok (r_0 L xs)).2; omega) | (dsimp only [room_1]; done)), (by first | (dsimp only [room_1]; have := (r_N_ok (r_0 L xs)).2; omega) | (dsimp only [room_1]; done))⟩ dL_law_9 (fun u1 hu1 => ?_)
    subst hu1
    refine k_ws (ws' := dr_w cI cZ u1 (dr_ln (r_N (r_0 L xs))) L_room (s_room s3 (r_0 L xs))) rfl ?_
    refine k_astore_n E (lv' := [(1, .ref (u1 11)), (0, .ref b)]) dL_law_12 (by decide) rfl ?_
    refine k_new E (ci := 12) (fs := [.int 0, .int 0, .null, .null, .int 0, .int 0, .null, .null, .null, .null, .null, .null, .null, .null, .null, .null, .null, .null, .null, .null, .null, .null, .null, .null, .null, .null, .int 0, .null, .null, .null, .null, .null, .null, .null, .int 0, .null, .null, .null, .null, .null, .int 0, .null, .int 0, .null, .int 0, .null, .null, .null, .null, .null, .null, .null, .null, .null, .null, .int 0, .int 0, .int 0, .null]) tyX12 tyX12_ok rfl wu_12 wc_L_18 wn_12 wi_12 (by decide) (by first | (dsimp only [room_1]; have := (r_N_ok (r_0 L xs)).2; omega) | (dsimp only [room_1]; done)) (by first | (dsimp only [room_1]; have := (r_N_ok (r_0 L xs)).2; omega) | (dsimp only [room_1]; done)) dL_law_13 (fun q12 => ?_)
    refine k_dup E dL_law_16 rfl ?_
    refine k_aload_n E dL_law_17 1 rfl ?_
    refine k_iconst E (v := 0) dL_law_18 (by decide) ?_
    refine k_cell E hX hbl hbA hL ⟨Nat.le_of_ble_eq_true rfl, Nat.le_of_ble_eq_true rfl⟩ (Nat.le_of_ble_eq_true rfl) ⟨(by first | (dsimp only [room_1]; have := (r_N_ok (r_0 L xs)).2; omega) | (dsimp only [room_1]; done)), (by first | (dsimp only [room_1]; have := (r_N_ok (r_0 L xs)).2; omega) | (dsimp only [room_1]; done))⟩ dL_law_19 ?_
    refine k_callI E (b := q12) [.int (r_0 L xs)] [(q12, .inr (12, [.int 0, .int 0, .null, .null, .int 0, .int 0, .null, .null, .null, .null, .null, .null, .null, .null, .null, .null, .null, .null, .null, .null, .null, .null, .null, .null, .null, .null, .int 0, .null, .null, .null, .null, .null, .null, .null, .int 0, .null, .null, .null, .null, .null, .int 0, .null, .int 0, .null, .int 0, .null, .null, .null, .null, .null, .null, .null, .null, .null, .null, .int 0, .int 0, .int 0, .null]))] (dr_w cI cZ u1 (dr_ln (r_N (r_0 L xs))) L_room (s_room s3 (r_0 L xs))) [27] [0, 1, 2, 3, 4, 5, 6, 7, 8, 9, 10, 11, 12, 13, 14, 15, 16, 17, 18, 19, 20, 21, 22, 23, 24, 25, 26] rfl (k_X12_init (N := (r_N (r_0 L xs))) q12 (r_0 L xs) sm hm) rfl rfl (by decide) (by decide) (by decide) mw_X12_init rfl rfl mi_X12_init ml_L_20 ⟨Nat.le_of_ble_eq_true rfl, Nat.le_of_ble_eq_true rfl⟩ (Nat.le_of_ble_eq_true rfl) ⟨(by first | (dsimp only [room_1]; have := (r_N_ok (r_0 L xs)).2; omega) | (dsimp only [room_1]; done)), (by first | (dsimp only [room_1]; have := (r_N_ok (r_0 L xs)).2; omega) | (dsimp only [room_1]; done))⟩ dL_law_22 (fun u2 hu2 => ?_)
    subst hu2
    refine k_astore_n E (lv' := [(2, .ref (u2 12)), (1, .ref (u1 11)), (0, .ref b)]) dL_law_25 (by decide) rfl ?_
    refine k_iconst E (v := 1) dL_law_26 (by decide) ?_
    refine k_istore_n E (lv' := [(3, .int 1), (2, .ref (u2 12)), (1, .ref (u1 11)), (0, .ref b)]) dL_law_27 (by decide) rfl ?_
    refine k_ws (ws' := dr_w cI cZ (fun i => if i = 12 ∨ 28 ≤ i then u2 i else u1 i) (dr_ln (r_N (r_0 L xs))) nd_L (s_all (s_room s3 (r_0 L xs)) sm)) rfl ?_
    intro H locs ls hP hD hS hl
    generalize hAD : (fun i => if i = 12 ∨ 28 ≤ i then u2 i else u1 i) = ad at hP hD
    have hap : dr_ap ad nd_L := dr_apD hD rfl (by decide)
    have hAd : ∀ id, id ∈ nd_L → s.heap.size ≤ ad id := fun id h => by
      obtain ⟨k, hk⟩ := List.getElem?_of_mem h
      exact hD.2 k _ (dr_wget hk)
    have e1 : u1 11 = ad 11 := by rw [← hAD]; rfl
    have e2 : u2 12 = ad 12 := by rw [← hAD]; rfl
    rw [e1, e2] at hl
    have E2 : dr_E p room_1 s m #[Value.ref b] meth c (0 + 1 + 26 + 1 + 47) (0 + 10 + (2311 + (r_N (r_0 L xs))) + 59 + 23917) (fun q : Nat => s.heap.size ≤ q) s.heap (dC, dI) cI cZ ad nd_L code 4 RL ret := ⟨hx, hb, hml, hr, hlocks, hown, hts, hK, hap, hAd, fun q h => h, (by first | (dsimp only [room_1]; have := (r_N_ok (r_0 L xs)).2; omega) | (dsimp only [room_1]; done)), (by first | (dsimp only [room_1]; have := (r_N_ok (r_0 L xs)).2; omega) | (dsimp only [room_1]; done))⟩
    exact w_L_law_p28 E2 hap (fun x h => h) hNb ⟨by omega, by have := (r_N_ok (r_0 L xs)).2; omega⟩ hX hbl hbA dr_N 1 _ 1 s9 hF H locs ls hP hS (lv_sub hl [3, 2, 1, 0] rfl)
  exact KK s.heap [] _ (fun k q h => by simp at h) ⟨fun i j p q h => by simp at h, fun k q h => by simp at h⟩ va_S.rf (lv_entry [.ref b] (n := 4) (Nat.le_of_ble_eq_true rfl))

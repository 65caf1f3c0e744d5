def dr_bnd (F1 : Option (Int32 × dr_S)) (Kx : Int32 → dr_S → Option (Int32 × dr_S)) : Option (Int32 × dr_S) := F1.bind (fun q => Kx q.1 q.2)
def dr_bndv (F1 : Option (Int32 × dr_S)) (Kx : dr_S → Option (Int32 × dr_S)) : Option (Int32 × dr_S) := F1.bind (fun q => Kx q.2)
/-- no loop of the class or the reference runs longer -/
def dr_N : Nat := 1000000
theorem w_copy : Cond.static arraycopyName ∈ dr_tbl ∧ Cond.native arraycopyName ∈ dr_tbl ∧ Cond.initialized "java/lang/System" ∈ dr_tbl := ⟨dr_in (i := 446) (by decide +kernel) (by decide +kernel), dr_in (i := 447) (by decide +kernel) (by decide +kernel), dr_in (i := 81) (by decide +kernel) (by decide +kernel)⟩
theorem ml_5_copy : Cond.methodLink RX5 39 arraycopyName ∈ dr_tbl := dr_in (i := 445) (by decide +kernel) (by decide +kernel)
section DR
variable {p : Program} {l : Launch} {e : Env} {R : Room} {s0 : State} {m : MethodId} {args : Array Value} {below : List Frame} {meth : Method} {c : Code} {cells slots : Nat} {A : Nat → Prop} {H0 : Heap} {D : va_G} {cI cZ : ClassId} {ad ln : Nat → Nat} {L : List Nat} {cc : ByteArray} {nL : Nat} {own : String} {ret : Option FieldType} {Z : Int32 → dr_S → State → Prop}
variable {pc : Nat} {lv : List (Nat × Value)} {st : List Value} {s : dr_S} {F F1 F2 : Option (Int32 × dr_S)}

theorem g_cVi (E : dr_E p R s0 m args meth c cells slots A H0 D cI cZ ad L cc nL own ret) {stk : List Value} {C : String} {T : u_T} {N ci : Nat} {index n : Nat} {y : MethodName} {bytes : ByteArray} {maxL d : Nat} {ret2 : Option FieldType} (As : List Value) {Kx : Int32 → dr_S → Option (Int32 × dr_S)} (hst : stk = As.reverse ++ .ref (ad ci) :: st) (hM : dr_Mi l D cI cZ ad ln L y bytes maxL ret2 d (.ref (ad ci) :: As) s F1) (hid : ci ∈ L) (hci : ci < 13) (hc : vwCl[ci]? = some (C, T, N)) (hcy : y.cls = C) (hins : Cond.instanceMethod y ∈ dr_tbl) (hsel : Cond.selects y.cls y y ∈ dr_tbl) (hmw : dr_mw y bytes maxL ret2 n) (hn : As.length = n) (hlink : Cond.methodLink own index y ∈ dr_tbl) (hR : d + 1 ≤ R.frames ∧ 8 + (maxL + 11) + 64 * d ≤ R.locals) (hroom : (st.map fun v => v.category).sum ≤ 8) (hdg : decode cc pc = .ok (.invokevirtual index, 3)) (kk : ∀ (r1 : Int32) (s1 : dr_S), dr_G p l e R s0 m args below meth c cells slots A H0 D cI cZ ad ln L nL Z (pc + 3) lv (.int r1 :: st) s1 (Kx r1 s1)) : dr_G p l e R s0 m args below meth c cells slots A H0 D cI cZ ad ln L nL Z pc lv stk s (dr_bnd F1 Kx) := g_callVi E As hst hM hid hci hc hcy hins hsel hmw hn hlink hR hroom hdg kk
theorem g_cSi (E : dr_E p R s0 m args meth c cells slots A H0 D cI cZ ad L cc nL own ret) {stk : List Value} {index n : Nat} {y : MethodName} {bytes : ByteArray} {maxL d : Nat} {ret2 : Option FieldType} (As : List Value) {Kx : Int32 → dr_S → Option (Int32 × dr_S)} (hst : stk = As.reverse ++ st) (hM : dr_Mi l D cI cZ ad ln L y bytes maxL ret2 d As s F1) (hst2 : Cond.static y ∈ dr_tbl) (hmw : dr_mw y bytes maxL ret2 n) (hn : As.length = n) (hlink : Cond.methodLink own index y ∈ dr_tbl) (hR : d + 1 ≤ R.frames ∧ 8 + (maxL + 11) + 64 * d ≤ R.locals) (hroom : (st.map fun v => v.category).sum ≤ 8) (hdg : decode cc pc = .ok (.invokestatic index, 3)) (kk : ∀ (r1 : Int32) (s1 : dr_S), dr_G p l e R s0 m args below meth c cells slots A H0 D cI cZ ad ln L nL Z (pc + 3) lv (.int r1 :: st) s1 (Kx r1 s1)) : dr_G p l e R s0 m args below meth c cells slots A H0 D cI cZ ad ln L nL Z pc lv stk s (dr_bnd F1 Kx) := g_callSi (T := fun _ => ("", "", "", false)) (N := 0) (C := "") (ci := 0) E As hst hM hst2 hmw hn hlink hR hroom hdg kk
theorem g_cVv (E : dr_E p R s0 m args meth c cells slots A H0 D cI cZ ad L cc nL own ret) {stk : List Value} {C : String} {T : u_T} {N ci : Nat} {index n : Nat} {y : MethodName} {bytes : ByteArray} {maxL d : Nat} (As : List Value) {Kx : dr_S → Option (Int32 × dr_S)} (hst : stk = As.reverse ++ .ref (ad ci) :: st) (hM : dr_Mv l D cI cZ ad ln L y bytes maxL d (.ref (ad ci) :: As) s F1) (hid : ci ∈ L) (hci : ci < 13) (hc : vwCl[ci]? = some (C, T, N)) (hcy : y.cls = C) (hins : Cond.instanceMethod y ∈ dr_tbl) (hsel : Cond.selects y.cls y y ∈ dr_tbl) (hmw : dr_mw y bytes maxL none n) (hn : As.length = n) (hlink : Cond.methodLink own index y ∈ dr_tbl) (hR : d + 1 ≤ R.frames ∧ 8 + (maxL + 11) + 64 * d ≤ R.locals) (hroom : (st.map fun v => v.category).sum ≤ 8) (hdg : decode cc pc = .ok (.invokevirtual index, 3)) (kk : ∀ (s1 : dr_S), dr_G p l e R s0 m args below meth c cells slots A H0 D cI cZ ad ln L nL Z (pc + 3) lv st s1 (Kx s1)) : dr_G p l e R s0 m args below meth c cells slots A H0 D cI cZ ad ln L nL Z pc lv stk s (dr_bndv F1 Kx) := g_callVv (ret2 := none) E As hst hM hid hci hc hcy hins hsel hmw hn hlink hR hroom hdg kk
theorem g_cSv (E : dr_E p R s0 m args meth c cells slots A H0 D cI cZ ad L cc nL own ret) {stk : List Value} {index n : Nat} {y : MethodName} {bytes : ByteArray} {maxL d : Nat} (As : List Value) {Kx : dr_S → Option (Int32 × dr_S)} (hst : stk = As.reverse ++ st) (hM : dr_Mv l D cI cZ ad ln L y bytes maxL d As s F1) (hst2 : Cond.static y ∈ dr_tbl) (hmw : dr_mw y bytes maxL none n) (hn : As.length = n) (hlink : Cond.methodLink own index y ∈ dr_tbl) (hR : d + 1 ≤ R.frames ∧ 8 + (maxL + 11) + 64 * d ≤ R.locals) (hroom : (st.map fun v => v.category).sum ≤ 8) (hdg : decode cc pc = .ok (.invokestatic index, 3)) (kk : ∀ (s1 : dr_S), dr_G p l e R s0 m args below meth c cells slots A H0 D cI cZ ad ln L nL Z (pc + 3) lv st s1 (Kx s1)) : dr_G p l e R s0 m args below meth c cells slots A H0 D cI cZ ad ln L nL Z pc lv stk s (dr_bndv F1 Kx) := g_callSv (T := fun _ => ("", "", "", false)) (N := 0) (C := "") (ci := 0) (ret2 := none) E As hst hM hst2 hmw hn hlink hR hroom hdg kk
theorem g_none : dr_G p l e R s0 m args below meth c cells slots A H0 D cI cZ ad ln L nL Z pc lv st s none := fun _ _ h => by cases h
theorem g_tsw (E : dr_E p R s0 m args meth c cells slots A H0 D cI cZ ad L cc nL own ret) {x : Int32} {dflt lo hi : Int} {offs : Array Int} {len : Nat} (Fs : List (Option (Int32 × dr_S))) (Fd : Option (Int32 × dr_S)) (tgts : List Nat) (td : Nat) (hdg : decode cc pc = .ok (.tableswitch dflt lo hi offs, len)) (hl1 : (tgts.length : Int) = hi - lo + 1) (ht : offs.toList.map (fun o => (pc : Int) + o) = tgts.map (fun t : Nat => (t : Int))) (htd : (pc : Int) + dflt = (td : Int)) (kd : dr_G p l e R s0 m args below meth c cells slots A H0 D cI cZ ad ln L nL Z td lv st s Fd) (kk : ∀ (j : Nat) (Fj : Option (Int32 × dr_S)) (t : Nat), Fs[j]? = some Fj → tgts[j]? = some t → dr_G p l e R s0 m args below meth c cells slots A H0 D cI cZ ad ln L nL Z t lv st s Fj) : dr_G p l e R s0 m args below meth c cells slots A H0 D cI cZ ad ln L nL Z pc lv (.int x :: st) s (dr_sw x lo hi Fs Fd) := by
  intro r s' hF H locs ls hP hS hl
  unfold dr_sw at hF
  split at hF
  · next h => exact lv_tableOut E.1 E.2.1 hdg h htd (kd r s' hF H locs ls hP hS hl)
  · next h =>
    rw [List.getD_eq_getElem?_getD] at hF
    cases hj : Fs[(x.toInt - lo).toNat]? with
    | none => rw [hj] at hF; cases hF
    | some Fj =>
      rw [hj] at hF
      have hlt : (x.toInt - lo).toNat < tgts.length := by omega
      obtain ⟨t, htj⟩ : ∃ t, tgts[(x.toInt - lo).toNat]? = some t := ⟨_, List.getElem?_eq_getElem hlt⟩
      have h2 : (offs.toList.map (fun o => (pc : Int) + o))[(x.toInt - lo).toNat]? = some (t : Int) := by rw [ht, List.getElem?_map, htj]; rfl
      rw [List.getElem?_map] at h2
      cases ho : offs.toList[(x.toInt - lo).toNat]? with
      | none => rw [ho] at h2; cases h2
      | some off =>
        rw [ho] at h2
        have h3 : (pc : Int) + off = (t : Int) := Option.some.inj h2
        exact lv_tableIn E.1 E.2.1 hdg (fun q => h (Or.inl q)) (fun q => h (Or.inr q)) (by rw [← Array.getElem?_toList]; exact ho) h3 (kk _ Fj t hj htj r s' hF H locs ls hP hS hl)
theorem g_copy (E : dr_E p R s0 m args meth c cells slots A H0 D cI cZ ad L cc nL own ret) {index a0 a1 : Nat} {sp dp n : Int32} (h0 : a0 ∈ L) (h1 : a1 ∈ L) (hb0 : 13 ≤ a0) (hb1 : 13 ≤ a1) (hz0 : dr_z a0 = false) (hz1 : dr_z a1 = false) (hlink : Cond.methodLink own index arraycopyName ∈ dr_tbl) (hR : 1 ≤ R.frames ∧ (st.map fun v => v.category).sum + (nativeFrameWords "java/lang/System" "arraycopy" 5 + 11) ≤ R.locals) (hdg : decode cc pc = .ok (.invokestatic index, 3)) {Kx : dr_S → Option (Int32 × dr_S)} (kk : ∀ s1 : dr_S, dr_G p l e R s0 m args below meth c cells slots A H0 D cI cZ ad ln L nL Z (pc + 3) lv st s1 (Kx s1)) : dr_G p l e R s0 m args below meth c cells slots A H0 D cI cZ ad ln L nL Z pc lv (.int n :: .int dp :: .ref (ad a1) :: .int sp :: .ref (ad a0) :: st) s ((dr_cp ln s a0 a1 sp dp n).bind Kx) := by
  intro r s' hF H locs ls hP hS hl
  obtain ⟨s1, hv, hK⟩ := Option.bind_eq_some_iff.mp hF
  unfold dr_cp at hv
  split at hv
  · cases hv
  · next hin =>
    cases hv
    obtain ⟨q0, hq0⟩ := List.getElem?_of_mem h0
    obtain ⟨q1, hq1⟩ := List.getElem?_of_mem h1
    have hD := dr_wD (cI := cI) (cZ := cZ) (ln := ln) s E.2.2.2.2.2.2.2.2.1 E.2.2.2.2.2.2.2.2.2.1
    have hts := E.2.2.2.2.2.2.1
    refine va_copyi E.1 E.2.1 (E.2.2.1.trans hl.1.symm) E.2.2.2.2.2.1 (hts _ hlink) (hts _ w_copy.2.1) (hts _ w_copy.1) (hts _ w_copy.2.2) E.2.2.2.2.2.2.2.1 hP hD hS q0 q1 0 0 ((dr_wget hq0).trans (by rw [dr_eI hb0 hz0])) ((dr_wget hq1).trans (by rw [dr_eI hb1 hz1])) rfl rfl rfl (fun q => hin (Or.inl q)) (fun q => hin (Or.inr (Or.inl q))) (fun q => hin (Or.inr (Or.inr (Or.inl q)))) (Nat.le_of_not_lt fun q => hin (Or.inr (Or.inr (Or.inr (Or.inl q))))) (Nat.le_of_not_lt fun q => hin (Or.inr (Or.inr (Or.inr (Or.inr q))))) (fun i _ => rfl) hR.1 hR.2 hdg (fun H1 locs1 hP1 hD1 hS1 => ?_)
    refine kk _ r s' hK H1 locs1 ls ?_ hS1 hl
    have e := dr_wset (cI := cI) (cZ := cZ) (ad := ad) (ln := ln) (s := s) (s' := dr_set s a1 (va_cpy (s.1 a0) (s.1 a1) sp.toNatClampNeg dp.toNatClampNeg n.toNatClampNeg)) E.2.2.2.2.2.2.2.2.1.1 hq1 (fun j _ hj => dr_set_e j hj)
    rw [← e, dr_eI hb1 hz1]
    simp only [dr_set, if_true]
    exact hP1
end DR

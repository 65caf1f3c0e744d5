/-! 97w: the class's search -/
def gw_F (ln : Nat → Nat) (s s' : dr_S) (j q : Nat) : Prop := (∀ mark, mark ≤ j → ag (ln 14) (dq_un (s'.1 15) (s'.1 16) mark j (s'.1 14)) (dq_un (s.1 15) (s.1 16) mark j (s.1 14))) ∧ (∀ i, i < j → ¬ s'.1 15 i < 0) ∧ s'.2 203 = nI j ∧ (∀ a, (a < 14 ∨ (16 < a ∧ a < 20) ∨ 27 < a) → s'.1 a = s.1 a) ∧ (∀ f, f ≠ 203 → f ≠ 204 → f ≠ 708 → s'.2 f = s.2 f) ∧ (s'.2 204 = s.2 204 ∨ s'.2 204 = (if j = 0 then 0 else 1)) ∧ ∀ p, p < q → s'.1 27 p = s.1 27 p
theorem gw_tr {ln : Nat → Nat} {s s1 s2 : dr_S} {j q : Nat} (h1 : gw_F ln s s1 j q) (h2 : gw_F ln s1 s2 j q) : gw_F ln s s2 j q := by
  obtain ⟨a1, a2, a3, a4, a5, a6, a7⟩ := h1
  obtain ⟨b1, b2, b3, b4, b5, b6, b7⟩ := h2
  refine ⟨fun m hm => ag_tr (b1 m hm) (a1 m hm), b2, b3, fun a h => (b4 a h).trans (a4 a h), fun f x y z => (b5 f x y z).trans (a5 f x y z), ?_, fun p hp => (b7 p hp).trans (a7 p hp)⟩
  rcases b6 with b6 | b6
  · rw [b6]; exact a6
  · exact Or.inr b6
theorem gw_C {ln : Nat → Nat} {s s' : dr_S} {r : sg_R} {j q : Nat} (F : gw_F ln s s' j q) (hC : rp_C ln s r) (hw : wf_sz r) : rp_C ln s' r := by
  obtain ⟨a1, a2, a3, a4, a5, a6, a7⟩ := F
  have a1 := a1 j (Nat.le_refl _)
  rw [un_self, un_self] at a1
  exact rC_ag hC hw a1 (a4 18 (by omega)) (fun f hf => a5 f (by simp only [List.mem_cons, List.not_mem_nil, or_false] at hf; omega) (by simp only [List.mem_cons, List.not_mem_nil, or_false] at hf; omega) (by simp only [List.mem_cons, List.not_mem_nil, or_false] at hf; omega))
theorem gw_lq {ln : Nat → Nat} {s s' : dr_S} {j q : Nat} (F : lq_F s s') (h3 : s.2 203 = nI j) (hnn : ∀ i, i < j → ¬ s.1 15 i < 0) : gw_F ln s s' j q := by
  refine ⟨fun m hm => ?_, fun i hi => ?_, (F.2 203 (by decide)).trans h3, fun a h => F.1 a (by omega), fun f x y z => F.2 f z, Or.inl (F.2 204 (by decide)), fun p hp => by rw [F.1 27 (by decide)]⟩
  · rw [F.1 14 (by decide), F.1 15 (by decide), F.1 16 (by decide)]
    exact ag_rf _ _
  · rw [F.1 15 (by decide)]
    exact hnn i hi
def gw_ok (ln : Nat → Nat) (a c h1 h2 N n : Nat) (F : Int32 → Int32 → dr_S → Option (Int32 × dr_S)) : Prop := ∀ (s : dr_S) (r : sg_R) (j : Nat), gw_P a c h1 h2 r → rp_C ln s r → s.2 807 = nI a → s.2 808 = nI c → s.2 203 = nI j → j + 100 * n ≤ 1024 → (∀ i, i < j → ¬ s.1 15 i < 0) → rm_ti r + n < 2 ^ 30 → ∃ s', F (nI (N - n)) (nI N) s = some (bI (fs a c h1 h2 n r).isSome, s') ∧ gw_F ln s s' j (N - n) ∧ ∀ l, fs a c h1 h2 n r = some l → ∀ (k : Nat) (o : Option Nat), l[k]? = some o → s'.1 27 (N - n + k) = nO o
theorem dc_rz (b : Bool) (s : dr_S) : dr_rz (bI b) s = some (bI b, s) := by cases b <;> rfl
/-- one clerk's step, what comes behind it, and all taken back -/
theorem q8_try {ln : Nat → Nat} {a c h1 h2 N n x j : Nat} {rc : Int32 → Int32 → dr_S → Option (Int32 × dr_S)} {kb : Int32 → Int32 → Int32 → Int32 → dr_S → Option (Int32 × dr_S)} {x3 x4 : Int32} {s : dr_S} {r : sg_R} (hrc : gw_ok ln a c h1 h2 N n rc) (hN : N ≤ 8) (hn : n + 1 ≤ N) (hP : gw_P a c h1 h2 r) (hC : rp_C ln s r) (e7 : s.2 807 = nI a) (e8 : s.2 808 = nI c) (h203 : s.2 203 = nI j) (hj : j + 100 * (n + 1) ≤ 1024) (hnn : ∀ i, i < j → ¬ s.1 15 i < 0) (hti : rm_ti r + (n + 1) < 2 ^ 30) (hx : x < 4) (hat : ck_at (rm_ck r x) ≠ 0) : ∃ s', f_X8_goesWrong_p95 ln rc kb (nI (N - (n + 1))) (nI N) x3 x4 (nI x) s = kb (nI (N - (n + 1))) (nI N) (bI (fs a c h1 h2 n (sg_step r x)).isSome) (x4 + 1) s' ∧ gw_F ln s s' j (N - (n + 1)) ∧ s'.1 27 (N - (n + 1)) = nI x ∧ ∀ l, fs a c h1 h2 n (sg_step r x) = some l → ∀ (k : Nat) (o : Option Nat), l[k]? = some o → s'.1 27 (N - n + k) = nO o := by
  have hiv := hP.1
  obtain ⟨rk, t, st, hp, hT, hcn⟩ := hiv
  have hat4 := (st.2.2.2.1 x hx).2.1
  have l27 : ln 27 = 8 := hC.2.1.2.2.2.2.2.2
  unfold f_X8_goesWrong_p95
  rw [q11_idle hC hx hat4, q_bi, if_neg hat, if_pos rfl, q_wr (a := 27) (i := N - (n + 1)) (by omega) (by omega), Option.bind_some]
  unfold f_X2_startTrying
  rw [q_letS, q_bi]
  generalize hs : dr_pf (dr_put s 27 (N - (n + 1)) (nI x)) 204 1 = s13
  have A13 : ∀ b, b ≠ 27 → s13.1 b = s.1 b := fun b hb => by rw [← hs, q_pf1, q_putO hb]
  have F13 : ∀ f, f ≠ 204 → s13.2 f = s.2 f := fun f hf => by rw [← hs, q_pfO hf]; rfl
  have v27 : s13.1 27 = upd (s.1 27) (N - (n + 1)) (nI x) := by rw [← hs, q_pf1, q_put1]
  have h204 : s13.2 204 = 1 := by rw [← hs, q_pf2]
  have C13 : rp_C ln s13 r := rC_fr hC ⟨A13 14 (by decide), A13 18 (by decide)⟩ (fun f hf => F13 f (by simp only [List.mem_cons, List.not_mem_nil, or_false] at hf; omega))
  have e203 : s13.2 203 = nI j := (F13 203 (by decide)).trans h203
  obtain ⟨s15, g, g1, g2, g3⟩ := q10_go C13 (iv_one hP.1 hx hat).1 (Or.inr ⟨j, e203, by omega⟩)
  obtain ⟨sk, _⟩ := sk_step (c := x) hat
  have C15 : rp_C ln s15 (sg_step r x) := rp_C_of C13 g2 sk.2.2.1.1 sk.2.2.1.2.1 g3
  obtain ⟨j1, k1, k2, k3, k4, k5⟩ := g2.2.2.2.2.1 (by rw [h204]; decide) j e203 (by omega)
  have nn13 : ∀ i, i < j → ¬ s13.1 15 i < 0 := fun i hi => by rw [A13 15 (by decide)]; exact hnn i hi
  obtain ⟨s16, r1, r2, r3⟩ := hrc s15 (sg_step r x) j1 (gw_step hP hx hat) C15 (by rw [g2.2.2.1 807 (by decide), F13 807 (by decide)]; exact e7) (by rw [g2.2.2.1 808 (by decide), F13 808 (by decide)]; exact e8) k3 (by omega) (k5 nn13) (by rw [ti_step]; omega)
  obtain ⟨f1, f2, f3, f4, f5, f6, f7⟩ := r2
  obtain ⟨s18, t1, t2, t3, t4, t5, t6⟩ := q2_back (mark := j) (j := j1) (s := s16) (q_GL hC.1) k1 (by omega) f3 f2
  rw [g1, q_bv, nI_1, show N - (n + 1) + 1 = N - n by omega, r1, q_bi, e203, t1, q_bv]
  unfold f_X8_goesWrong_p153
  rw [q_let]
  refine ⟨s18, rfl, ⟨fun m hm => ?_, fun i hi => ?_, t2, fun b hb => ?_, fun f x y z => ?_, Or.inr t3, fun p hp => ?_⟩, ?_, fun l hl k o hk => ?_⟩
  · rw [t4 15 (by decide), t4 16 (by decide)]
    refine ag_tr (un_ag j _ _ t6) ?_
    rw [← un_comp hm j1 _ k1]
    refine ag_tr (f1 m (by omega)) ?_
    have e15 : s15.1 14 = g := g2.1
    rw [e15, k4 m hm, A13 14 (by decide), A13 15 (by decide), A13 16 (by decide)]
    exact ag_rf _ _
  · rw [t4 15 (by decide)]
    exact f2 i (by omega)
  · rw [t4 b (by omega), f4 b hb, g2.2.1 b (by omega) (by omega) (by omega), A13 b (by omega)]
  · rw [t5 f x y, f5 f x y z, g2.2.2.1 f x, F13 f y]
  · rw [t4 27 (by decide), f7 p (by omega), g2.2.1 27 (by decide) (by decide) (by decide), v27, q_updO (by omega)]
  · rw [t4 27 (by decide), f7 _ (by omega), g2.2.1 27 (by decide) (by decide) (by decide), v27, q_updS]
  · rw [t4 27 (by decide)]
    exact r3 l hl k o hk
theorem q8_goes {ln : Nat → Nat} {a c h1 h2 N : Nat} (hN : N ≤ 8) : ∀ (D n : Nat), n < D → n ≤ N → gw_ok ln a c h1 h2 N n (f_X8_goesWrong ln D)
  | 0, _, h, _ => absurd h (Nat.not_lt_zero _)
  | D + 1, 0, _, _ => by
    intro s r j hP hC e7 e8 h203 hj hnn hti
    obtain ⟨s', a1, a2⟩ := q8_wrong hC hP (by omega) e7 e8
    rw [f_X8_goesWrong, Nat.sub_zero]
    unfold f_X8_goesWrong_b f_X8_goesWrong_p15
    rw [if_neg (nI_pos (by omega)), if_pos (nI_le (Nat.le_refl _) (by omega)), a1, q_bi, dc_rz, fs]
    refine ⟨s', ?_, gw_lq a2 h203 hnn, fun l hl k o hk => ?_⟩
    · cases sw r h1 h2 <;> rfl
    · split at hl
      · cases hl
        cases hk
      · cases hl
  | D + 1, n + 1, hD, hn => by
    intro s r j hP hC e7 e8 h203 hj hnn hti
    have hrc := q8_goes (ln := ln) (a := a) (c := c) (h1 := h1) (h2 := h2) hN D n (by omega) (by omega)
    obtain ⟨rk, t, st, hp, hT, hcn⟩ := hP.1
    obtain ⟨ha, hc⟩ := hP.2.1
    have ha4 := (st.2.2.2.1 a ha).2.1
    have hc4 := (st.2.2.2.1 c hc).2.1
    have l27 : ln 27 = 8 := hC.2.1.2.2.2.2.2.2
    have hw := iv_sz st
    rw [f_X8_goesWrong]
    unfold f_X8_goesWrong_b
    rw [if_neg (nI_pos (by omega)), if_neg (nI_ge (by omega) (by omega)), if_pos (show nI (N - (n + 1)) < 8 from nI_lt (b := 8) (by omega) (by omega)), e7, q11_idle hC ha ha4, q_bi, fs]
    by_cases hb : ck_at (rm_ck r a) = 0 ∧ ck_at (rm_ck r c) = 0
    · rw [if_pos hb.1, if_neg (by decide), e8, q11_idle hC hc hc4, q_bi, if_pos hb.2, if_neg (by decide), if_pos hb, q_wr (a := 27) (i := N - (n + 1)) (by omega) (by omega), Option.bind_some, nI_1, show N - (n + 1) + 1 = N - n by omega]
      generalize hs : dr_put s 27 (N - (n + 1)) (-1) = s5
      have A5 : ∀ b, b ≠ 27 → s5.1 b = s.1 b := fun b hb => by rw [← hs, q_putO hb]
      have F5 : s5.2 = s.2 := by rw [← hs]; rfl
      have v27 : s5.1 27 = upd (s.1 27) (N - (n + 1)) (-1) := by rw [← hs, q_put1]
      have C5 : rp_C ln s5 r := rC_fr hC ⟨A5 14 (by decide), A5 18 (by decide)⟩ (fun f hf => by rw [F5])
      obtain ⟨s6, r1, r2, r3⟩ := hrc s5 r j hP C5 (by rw [F5]; exact e7) (by rw [F5]; exact e8) (by rw [F5]; exact h203) (by omega) (fun i hi => by rw [A5 15 (by decide)]; exact hnn i hi) (by omega)
      obtain ⟨f1, f2, f3, f4, f5, f6, f7⟩ := r2
      rw [r1, q_bi, dc_rz]
      refine ⟨s6, by rw [Option.isSome_map], ⟨fun m hm => ?_, f2, f3, fun b hb => by rw [f4 b hb, A5 b (by omega)], fun f x y z => by rw [f5 f x y z, F5], by rw [F5] at f6; exact f6, fun p hp => by rw [f7 p (by omega), v27, q_updO (by omega)]⟩, fun l hl k o hk => ?_⟩
      · have := f1 m hm
        rw [A5 14 (by decide), A5 15 (by decide), A5 16 (by decide)] at this
        exact this
      · cases hf : fs a c h1 h2 n r with
        | none =>
          rw [hf] at hl
          cases hl
        | some l' =>
          rw [hf] at hl
          cases hl
          cases k with
          | zero =>
            cases hk
            rw [Nat.add_zero, f7 _ (by omega), v27, q_updS]
            rfl
          | succ k =>
            rw [show N - (n + 1) + (k + 1) = N - n + k by omega]
            exact r3 l' hf k o hk
    · rw [if_neg hb]
      -- into the loop, from wherever
      have loop : ∃ s', f_X8_goesWrong_p64 ln (f_X8_goesWrong ln D) (nI (N - (n + 1))) (nI N) s = some (bI ((match (if ck_at (rm_ck r a) = 0 then none else (fs a c h1 h2 n (sg_step r a)).map (fun l => some a :: l)) with | some l => some l | none => if ck_at (rm_ck r c) = 0 then none else (fs a c h1 h2 n (sg_step r c)).map (fun l => some c :: l)) : Option (List (Option Nat))).isSome, s') ∧ gw_F ln s s' j (N - (n + 1)) ∧ ∀ l, (match (if ck_at (rm_ck r a) = 0 then none else (fs a c h1 h2 n (sg_step r a)).map (fun l => some a :: l)) with | some l => some l | none => if ck_at (rm_ck r c) = 0 then none else (fs a c h1 h2 n (sg_step r c)).map (fun l => some c :: l)) = some l → ∀ (k : Nat) (o : Option Nat), l[k]? = some o → s'.1 27 (N - (n + 1) + k) = nO o := by
        unfold f_X8_goesWrong_p64
        -- the end of the loop
        have fin : ∀ (fu : Nat) (b : Bool) (u : dr_S), f_X8_goesWrong_p69 ln (f_X8_goesWrong ln D) (fu + 1) (nI (N - (n + 1))) (nI N) (bI b) 2 u = some (bI b, u) := by
          intro fu b u
          rw [f_X8_goesWrong_p69, if_pos (by decide), dc_rz]
        have fin1 : ∀ (fu : Nat) (u : dr_S), f_X8_goesWrong_p69 ln (f_X8_goesWrong ln D) (fu + 1) (nI (N - (n + 1))) (nI N) (bI true) 1 u = some (bI true, u) := by
          intro fu u
          rw [f_X8_goesWrong_p69, if_neg (by decide), if_neg (by decide), dc_rz]
        have rows : ∀ (x : Nat) (u : dr_S) (l : List (Option Nat)), u.1 27 (N - (n + 1)) = nI x → (∀ (k : Nat) (o : Option Nat), l[k]? = some o → u.1 27 (N - n + k) = nO o) → ∀ (k : Nat) (o : Option Nat), (some x :: l)[k]? = some o → u.1 27 (N - (n + 1) + k) = nO o := by
          intro x u l h0 hl k o hk
          cases k with
          | zero =>
            cases hk
            exact h0
          | succ k =>
            rw [show N - (n + 1) + (k + 1) = N - n + k by omega]
            exact hl k o hk
        -- the upper clerk
        have second : ∀ (u : dr_S) (fu : Nat), gw_F ln s u j (N - (n + 1)) → ∃ s', f_X8_goesWrong_p69 ln (f_X8_goesWrong ln D) (fu + 2) (nI (N - (n + 1))) (nI N) 0 1 u = some (bI (if ck_at (rm_ck r c) = 0 then none else (fs a c h1 h2 n (sg_step r c)).map (fun l => some c :: l)).isSome, s') ∧ gw_F ln s s' j (N - (n + 1)) ∧ ∀ l, (if ck_at (rm_ck r c) = 0 then none else (fs a c h1 h2 n (sg_step r c)).map (fun l => some c :: l)) = some l → ∀ (k : Nat) (o : Option Nat), l[k]? = some o → s'.1 27 (N - (n + 1) + k) = nO o := by
          intro u fu F
          have Cu := gw_C F hC hw
          have F0 := F
          obtain ⟨f1, f2, f3, f4, f5, f6, f7⟩ := F
          have e8u : u.2 808 = nI c := (f5 808 (by decide) (by decide) (by decide)).trans e8
          have e7u : u.2 807 = nI a := (f5 807 (by decide) (by decide) (by decide)).trans e7
          rw [f_X8_goesWrong_p69, if_neg (by decide), if_pos rfl, if_neg (by decide), e8u]
          by_cases z : ck_at (rm_ck r c) = 0
          · rw [if_pos z]
            unfold f_X8_goesWrong_p95 f_X8_goesWrong_p153
            rw [q11_idle Cu hc hc4, q_bi, if_pos z, if_neg (by decide), q_let]
            exact ⟨u, fin fu false u, F0, fun l hl => by cases hl⟩
          · rw [if_neg z]
            obtain ⟨s', t1, t2, t3, t4⟩ := q8_try (kb := f_X8_goesWrong_p69 ln (f_X8_goesWrong ln D) (fu + 1)) (x3 := 0) (x4 := 1) hrc hN hn hP Cu e7u e8u f3 hj f2 hti hc z
            refine ⟨s', ?_, gw_tr F0 t2, fun l hl => ?_⟩
            · rw [t1, Option.isSome_map]
              exact fin fu _ s'
            · cases hf : fs a c h1 h2 n (sg_step r c) with
              | none =>
                rw [hf] at hl
                cases hl
              | some l' =>
                rw [hf] at hl
                cases hl
                exact rows c s' l' t3 (t4 l' hf)
        rw [show dr_N = 999997 + 3 from rfl, f_X8_goesWrong_p69, if_neg (by decide), if_pos rfl, if_pos rfl, e7]
        by_cases z : ck_at (rm_ck r a) = 0
        · rw [if_pos z]
          unfold f_X8_goesWrong_p95 f_X8_goesWrong_p153
          rw [q11_idle hC ha ha4, q_bi, if_pos z, if_neg (by decide), q_let]
          exact second s 999997 ⟨fun m hm => ag_rf _ _, hnn, h203, fun _ _ => rfl, fun _ _ _ _ => rfl, Or.inl rfl, fun _ _ => rfl⟩
        · rw [if_neg z]
          obtain ⟨s', t1, t2, t3, t4⟩ := q8_try (kb := f_X8_goesWrong_p69 ln (f_X8_goesWrong ln D) (999997 + 2)) (x3 := 0) (x4 := 0) hrc hN hn hP hC e7 e8 h203 hj hnn hti ha z
          cases hf : fs a c h1 h2 n (sg_step r a) with
          | none =>
            rw [hf] at t1
            obtain ⟨s2, v1, v2, v3⟩ := second s' 999997 t2
            exact ⟨s2, by rw [t1]; exact v1, v2, v3⟩
          | some l' =>
            rw [hf] at t1
            refine ⟨s', by rw [t1]; exact fin1 _ s', t2, fun l hl => ?_⟩
            cases hl
            exact rows a s' l' t3 (t4 l' hf)
      obtain ⟨s', v1, v2, v3⟩ := loop
      by_cases z : ck_at (rm_ck r a) = 0
      · have z2 : ck_at (rm_ck r c) ≠ 0 := fun q => hb ⟨z, q⟩
        rw [if_pos z, if_neg (by decide), e8, q11_idle hC hc hc4, q_bi, if_neg z2, if_pos rfl]
        exact ⟨s', v1, v2, v3⟩
      · rw [if_neg z, if_pos rfl]
        exact ⟨s', v1, v2, v3⟩

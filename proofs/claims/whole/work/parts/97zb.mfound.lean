/-! 97zb: the call found -/
theorem bt_sl : ∀ (N : Fin 9), (1 <<< (nI N.1 &&& 31) : Int32) = nI (2 ^ N.1) := by decide +kernel
theorem qm_broken {ln : Nat → Nat} {s : dr_S} {r : sg_R} {h : Nat} (hM : rp_M ln s r) (hh : h < 10000) (hti : rm_ti r < 2 ^ 30) (hnj : rm_nj r ≤ 120) (hv : ∀ i, i < rm_nj r → iv_jb (rm_ti r) (rm_jb r i)) : ∃ s1, f_X12_isBroken ln (nI h) s = some (bI (decide (jd r h = 0)), s1) ∧ lm_F s s1 := by
  obtain ⟨s1, a1, a2, a3⟩ := qm_can hM hh hti hnj hv
  rw [jd_jr hv]
  unfold f_X12_isBroken jr
  rw [a1, q_bi]
  cases hA : l_ask r h (rm_nj r) 0 [] with
  | none =>
    rw [show bI (none : Option (List Nat)).isSome = (0 : Int32) from rfl, if_pos rfl]
    exact ⟨s1, rfl, a2⟩
  | some J =>
    have hJ : l_ok r J := l_ask_ok hv (rm_nj r) 0 [] J (by omega) ⟨Nat.zero_le _, fun k hk => absurd hk (Nat.not_lt_zero _)⟩ hA
    rw [if_neg (show ¬ bI (some J).isSome = (0 : Int32) by show ¬ (1 : Int32) = 0; decide)]
    obtain ⟨s2, b1, b2, b3⟩ := qm_sound (x := nI h) hnj hti hJ (lm_M hM a2) (a3 J hA)
    rw [b1, q_bi]
    refine ⟨s2, ?_, lm_tr a2 (l64_lm b2)⟩
    show (if bI (l_L (l_mr r J) J.length J.length 0) = 0 then some (1, s2) else some (0, s2)) = some (bI (decide (bI (l_L (l_mr r J) J.length J.length 0) = 0)), s2)
    cases l_L (l_mr r J) J.length J.length 0 <;> rfl
def dn_F (s s' : dr_S) : Prop := (∀ a, a < 28 → s'.1 a = s.1 a) ∧ ∀ f, f < 1200 → s'.2 f = s.2 f
theorem dn_tr {s s1 s2 : dr_S} (h1 : dn_F s s1) (h2 : dn_F s1 s2) : dn_F s s2 := ⟨fun a h => (h2.1 a h).trans (h1.1 a h), fun a h => (h2.2 a h).trans (h1.2 a h)⟩
/-- behind a row that shows it: the answer -/
theorem qm_174 {ln : Nat → Nat} {s : dr_S} {l : List (Option Nat)} {N : Nat} {y : Int32} (L : dq_ML ln) (hN : N ≤ 8) (hy1 : ¬ y < -1) (hy2 : ¬ nI N ≤ y) (hl : l.length = N) (hr : ∀ (k : Nat) (o : Option Nat), l[k]? = some o → s.1 74 k = nO o) : f_X12_found_p174 ln y 1 s = some (fv (some l) y, s) := by
  unfold f_X12_found_p174 fv
  rw [if_neg (by decide)]
  rcases y_cases hN hy1 hy2 with q | ⟨q, hq, eq⟩
  · rw [if_pos q]
    show _ = some ((if y = -1 then 1 else nO ((l[y.toNatClampNeg]?).getD none)), s)
    rw [if_pos q]
  · have hne : ¬ y = -1 := by rw [eq]; exact n1_ne (by omega)
    rw [if_neg hne]
    show _ = some ((if y = -1 then 1 else nO ((l[y.toNatClampNeg]?).getD none)), s)
    have hk : l[q]? = some l[q] := List.getElem?_eq_getElem (by omega)
    rw [if_neg hne, eq, m_rdb L 74 8 rfl (by decide) (by decide) (by omega), hr q _ hk, nI_clamp (by omega), hk]
    rfl
theorem qm_found_p {ln : Nat → Nat} {s0 : dr_S} {r : sg_R} {a c h1 h2 N : Nat} {y : Int32} (hM0 : rp_M ln s0 r) (hiv : iv r) (hP : gw_P a c h1 h2 r) (hac : a < c ∧ c < 4) (hN : N ≤ 8) (hti : rm_ti r < 2 ^ 29) (hy1 : ¬ y < -1) (hy2 : ¬ nI N ≤ y) : ∀ (k fu code : Nat) (s : dr_S), 2 ^ N = code + k → k < fu → rp_M ln s r → svd s s0 (rm_nj r) → ∃ s', f_X12_found_p105 ln fu (nI N) y (nI a) (nI c) (nI h1) (nI h2) 0 (nI code) s = some (fv ((List.range' code k).findSome? (gP a c h1 h2 N r)) y, s') ∧ dn_F s s' ∧ rp_M ln s' r
  | k, 0, _, _, _, q, _, _ => absurd q (Nat.not_lt_zero _)
  | 0, fu + 1, code, s, hk, hf, hM, hsv => by
    have e2 : (1 <<< (nI N &&& 31) : Int32) = nI (2 ^ N) := bt_sl ⟨N, by omega⟩
    have hp := p2_le (m := N) (by omega)
    rw [f_X12_found_p105, e2, if_pos (nI_le (by omega) (by omega))]
    unfold f_X12_found_p174
    rw [if_pos rfl]
    exact ⟨s, rfl, ⟨fun _ _ => rfl, fun _ _ => rfl⟩, hM⟩
  | k + 1, fu + 1, code, s, hk, hf, hM, hsv => by
    have L := mM_L hM
    have e2 : (1 <<< (nI N &&& 31) : Int32) = nI (2 ^ N) := bt_sl ⟨N, by omega⟩
    have hp := p2_le (m := N) (by omega)
    obtain ⟨rk, t, st, hpt, hT, hcn⟩ := id hiv
    have hw := iv_sz st
    have hnj := st.1.2.2.1
    obtain ⟨_, _, _, _, hh1⟩ := jh_ok st hP.2.1.1 hP.2.2.1
    obtain ⟨_, _, _, _, hh2⟩ := jh_ok st hP.2.1.2 hP.2.2.2
    rw [f_X12_found_p105, e2, if_neg (nI_ge (by omega) (by omega)), if_pos rfl, List.range'_succ, List.findSome?_cons]
    obtain ⟨s15, r15, b1, b2, b3, b4, b5, b6, b7⟩ := qm_goesBy_p (ln := ln) (a := a) (c := c) (N := N) (code := code) hac hN (by omega) N dr_N 0 s r (by omega) (by unfold dr_N; omega) hM hiv
    rw [show f_X12_goesBy ln (nI code) (nI N) (nI a) (nI c) s = _ from b1, q_bi]
    have sv15 : svd s15 s0 (rm_nj r) := svd_fr hsv (fun x h1 h2 => b6.1 x (by omega)) (fun f h => b6.2.1 f (by omega))
    have dn15 : dn_F s s15 := ⟨fun x h => b6.1 x (by omega), fun f h => b6.2.1 f (by omega)⟩
    -- back, and on to the next code
    have endF : ∀ u, rp_M ln u r15 → svd u s0 (rm_nj r) → dn_F s u → ∃ s', f_X12_found_p161 ln (f_X12_found_p105 ln fu) (nI N) y (nI a) (nI c) (nI h1) (nI h2) (nI code) u = some (fv ((List.range' (code + 1) k).findSome? (gP a c h1 h2 N r)) y, s') ∧ dn_F s s' ∧ rp_M ln s' r := by
      intro u hu hs hd
      obtain ⟨s23, p1, p2, p3, p4⟩ := qm_back hM0 hu b4 hw hs
      unfold f_X12_found_p161 f_X12_found_p162
      rw [p1, q_bv, q_let, nI_1]
      obtain ⟨s', q1, q2, q3⟩ := qm_found_p (y := y) hM0 hiv hP hac hN hti hy1 hy2 k fu (code + 1) s23 (by omega) (by omega) p4 (svd_fr hs (fun x h1 h2 => p2 x (by omega)) (fun f h => p3 f (by omega)))
      exact ⟨s', q1, dn_tr (dn_tr hd ⟨fun x h => p2 x (by omega), fun f h => p3 f (by omega)⟩) q2, q3⟩
    -- back, and the answer
    have endT : ∀ u l, rp_M ln u r15 → svd u s0 (rm_nj r) → dn_F s u → l.length = N → (∀ (k : Nat) (o : Option Nat), l[k]? = some o → u.1 74 k = nO o) → ∃ s', f_X12_found_p157 ln (f_X12_found_p105 ln fu) (nI N) y (nI a) (nI c) (nI h1) (nI h2) (nI code) u = some (fv (some l) y, s') ∧ dn_F s s' ∧ rp_M ln s' r := by
      intro u l hu hs hd hl hr
      obtain ⟨s23, p1, p2, p3, p4⟩ := qm_back hM0 hu b4 hw hs
      unfold f_X12_found_p157 f_X12_found_p162
      rw [p1, q_bv, q_let, nI_1]
      refine ⟨s23, ?_, dn_tr hd ⟨fun x h => p2 x (by omega), fun f h => p3 f (by omega)⟩, p4⟩
      obtain ⟨fu', efu⟩ : ∃ fu', fu = fu' + 1 := ⟨fu - 1, by omega⟩
      have e174 := qm_174 (s := s23) (y := y) L hN hy1 hy2 hl (fun k o hk => by rw [p2 74 (by omega)]; exact hr k o hk)
      rw [efu, f_X12_found_p105, if_neg (show ¬ (1 : Int32) = 0 by decide)]
      split <;> exact e174
    cases hg : gb a c N code r with
    | none =>
      rw [if_pos (show bI (none : Option (sg_R × List (Option Nat))).isSome = (0 : Int32) from rfl), show gP a c h1 h2 N r code = none by unfold gP; rw [hg]; rfl]
      exact endF s15 b2 sv15 dn15
    | some q =>
      obtain ⟨c1, c2⟩ := b7 q hg
      have hl := gb_len N code r q hg
      have c2 : ∀ (k : Nat) (o : Option Nat), q.2[k]? = some o → s15.1 74 k = nO o := fun k o hk => by
        have := c2 k o hk
        rw [Nat.zero_add] at this
        exact this
      rw [if_neg (show ¬ bI (some q).isSome = (0 : Int32) by show ¬ (1 : Int32) = 0; decide), show gP a c h1 h2 N r code = if sw q.1 h1 h2 = true then some q.2 else none by unfold gP; rw [hg]; rfl, ← c1]
      obtain ⟨rk2, t2, st2, hpt2, hT2, hcn2⟩ := id b3
      have hti2 : rm_ti r15 < 2 ^ 30 := by omega
      have hnj2 := st2.1.2.2.1
      have hv2 := st2.2.2.2.2.2.2
      rw [qm_shape b2 (iv_sh st2 hcn2), q_bi]
      unfold sw
      cases hsh : sg_shp r15 (rm_us r15) 0 with
      | some d =>
        have hd : d < 2 ^ 31 := by
          have key : ∀ (k i : Nat), sg_shp r15 k i = some d → d < i + k := by
            intro k
            induction k with
            | zero => intro i q; cases q
            | succ k ih =>
              intro i q
              rw [sg_shp] at q
              split at q
              · cases q; omega
              · have := ih (i + 1) q
                omega
          have := key _ _ hsh
          have := st2.1.2.1
          omega
        rw [if_neg (show ¬ nO (some d) = (-1 : Int32) from n1_ne hd)]
        exact endT s15 q.2 b2 sv15 dn15 hl c2
      | none =>
        rw [if_pos (show nO none = (-1 : Int32) from rfl)]
        have lmx : ∀ {u v : dr_S}, lm_F u v → svd u s0 (rm_nj r) → svd v s0 (rm_nj r) := fun F hs => svd_fr hs (fun x h1 h2 => F.1 x (by omega) (by omega)) (fun f h => F.2 f (by omega))
        have lmd : ∀ {u v : dr_S}, lm_F u v → dn_F s u → dn_F s v := fun F hd => dn_tr hd ⟨fun x h => F.1 x (by omega) (by omega), fun f h => F.2 f (by omega)⟩
        have lmr : ∀ {u v : dr_S}, lm_F u v → (∀ (k : Nat) (o : Option Nat), q.2[k]? = some o → u.1 74 k = nO o) → ∀ (k : Nat) (o : Option Nat), q.2[k]? = some o → v.1 74 k = nO o := fun F hr k o hk => by rw [F.1 74 (by decide) (by decide)]; exact hr k o hk
        obtain ⟨s19, d1, d2⟩ := qm_broken b2 hh1 hti2 hnj2 hv2
        rw [d1, q_bi]
        by_cases z1 : jd r15 h1 = 0
        · rw [decide_eq_true z1, if_neg (show ¬ bI true = (0 : Int32) by decide)]
          exact endT s19 q.2 (lm_M b2 d2) (lmx d2 sv15) (lmd d2 dn15) hl (lmr d2 c2)
        · rw [decide_eq_false z1, if_pos (show bI false = (0 : Int32) from rfl)]
          obtain ⟨s21, f1, f2⟩ := qm_broken (lm_M b2 d2) hh2 hti2 hnj2 hv2
          rw [f1, q_bi]
          by_cases z2 : jd r15 h2 = 0
          · rw [decide_eq_true z2, if_neg (show ¬ bI true = (0 : Int32) by decide)]
            exact endT s21 q.2 (lm_M (lm_M b2 d2) f2) (lmx f2 (lmx d2 sv15)) (lmd f2 (lmd d2 dn15)) hl (lmr f2 (lmr d2 c2))
          · rw [decide_eq_false z2, if_pos (show bI false = (0 : Int32) from rfl)]
            exact endF s21 (lm_M (lm_M b2 d2) f2) (lmx f2 (lmx d2 sv15)) (lmd f2 (lmd d2 dn15))
theorem qm_first_p {ln : Nat → Nat} {s : dr_S} {r : sg_R} {a c : Nat} {x y : Int32} (hM : rp_M ln s r) (hat : ∀ c, c < 4 → ck_at (rm_ck r c) ≤ 4) (h2 : two r a c) : ∀ (k fu i : Nat), a = i + k → k < fu → f_X12_found_p32 ln fu x y (nI i) s = f_X12_found_p52 ln dr_N x y (nI a) (nI (a + 1)) s
  | k, 0, _, _, q => absurd q (Nat.not_lt_zero _)
  | 0, fu + 1, i, hk, hf => by
    have L := mM_L hM
    obtain ⟨h21, h22, ⟨h23, h24⟩, h25⟩ := h2
    have e : i = a := by omega
    rw [e, f_X12_found_p32, m_rdb L 39 4 rfl (by decide) (by decide) (by omega), (mM_ck hM a (by omega)).2.1, at_ite (hat a (by omega)), if_neg h23, q_let, nI_1]
  | k + 1, fu + 1, i, hk, hf => by
    have L := mM_L hM
    have h20 := h2
    obtain ⟨h21, h22, ⟨h23, h24⟩, h25⟩ := h2
    have hz : ck_at (rm_ck r i) = 0 := by
      by_cases q : ck_at (rm_ck r i) = 0
      · exact q
      · have := h25 i (by omega) q
        omega
    rw [f_X12_found_p32, m_rdb L 39 4 rfl (by decide) (by decide) (by omega), (mM_ck hM i (by omega)).2.1, at_ite (hat i (by omega)), if_pos hz, q_let, nI_1]
    exact qm_first_p hM hat h20 k fu (i + 1) (by omega) (by omega)
theorem qm_second_p {ln : Nat → Nat} {s : dr_S} {r : sg_R} {a c ja jc : Nat} {x y : Int32} (hM : rp_M ln s r) (hat : ∀ c, c < 4 → ck_at (rm_ck r c) ≤ 4) (h2 : two r a c) (ha : ck_jo (rm_ck r a) = some ja ∧ ja < rm_nj r) (hc : ck_jo (rm_ck r c) = some jc ∧ jc < rm_nj r) (hnj : rm_nj r ≤ 120) : ∀ (k fu i : Nat), c = i + k → a < i → k < fu → f_X12_found_p52 ln fu x y (nI a) (nI i) s = dr_bndv (f_X12_saves ln s) (fun s13 => f_X12_found_p105 ln dr_N x y (nI a) (nI c) (nI (jb_he (rm_jb r ja))) (nI (jb_he (rm_jb r jc))) 0 0 s13)
  | k, 0, _, _, _, q => absurd q (Nat.not_lt_zero _)
  | 0, fu + 1, i, hk, hai, hf => by
    have L := mM_L hM
    obtain ⟨h21, h22, ⟨h23, h24⟩, h25⟩ := h2
    have e : i = c := by omega
    rw [e, f_X12_found_p52, m_rdb L 39 4 rfl (by decide) (by decide) (by omega), (mM_ck hM c (by omega)).2.1, at_ite (hat c (by omega)), if_neg h24, m_rdb L 41 4 rfl (by decide) (by decide) (by omega), (mM_ck hM a (by omega)).2.2.2.1, ha.1, show nO (some ja) = nI ja from rfl, m_rdb L 51 120 rfl (by decide) (by decide) (by omega), (mM_jb hM ja ha.2).2.1, m_rdb L 41 4 rfl (by decide) (by decide) (by omega), (mM_ck hM c (by omega)).2.2.2.1, hc.1, show nO (some jc) = nI jc from rfl, m_rdb L 51 120 rfl (by decide) (by decide) (by omega), (mM_jb hM jc hc.2).2.1]
  | k + 1, fu + 1, i, hk, hai, hf => by
    have L := mM_L hM
    have h20 := h2
    obtain ⟨h21, h22, ⟨h23, h24⟩, h25⟩ := h2
    have hz : ck_at (rm_ck r i) = 0 := by
      by_cases q : ck_at (rm_ck r i) = 0
      · exact q
      · have := h25 i (by omega) q
        omega
    rw [f_X12_found_p52, m_rdb L 39 4 rfl (by decide) (by decide) (by omega), (mM_ck hM i (by omega)).2.1, at_ite (hat i (by omega)), if_pos hz, q_let, nI_1]
    exact qm_second_p hM hat h20 ha hc hnj k fu (i + 1) (by omega) (by omega) (by omega)
theorem ok_found {ln : Nat → Nat} {s : dr_S} {r : sg_R} (h : rr ln s r) (hti : rm_ti r < 2 ^ 29) (x y : Int32) : call_ok ln (f_X11_found ln x y) (f_X12_found ln x y) s r := by
  have h0 := h
  obtain ⟨hC, hM, ⟨hiv, hi2⟩, h204, h203⟩ := h
  have hiv0 := hiv
  obtain ⟨rk, t, st, hp, hT, hcn⟩ := hiv
  have hat : ∀ c, c < 4 → ck_at (rm_ck r c) ≤ 4 := fun c hc => (st.2.2.2.1 c hc).2.1
  have hnj := st.1.2.2.1
  have hbz : sg_busy r ≤ 4 := nbz_le 4
  have e8 : (8 : Int32).toInt = 8 := rfl
  have e1 : (1 : Int32).toInt = 1 := rfl
  -- n
  by_cases n1 : x < 1
  · refine call_ro h0 (-1) ?_ ?_
    · unfold f_X11_found
      rw [if_pos n1]
    · unfold f_X12_found f_X12_in
      rw [if_pos n1, q_bi, if_pos rfl]
  · by_cases n2 : (8 : Int32) < x
    · refine call_ro h0 (-1) ?_ ?_
      · unfold f_X11_found
        rw [if_neg n1, if_pos n2]
      · unfold f_X12_found f_X12_in
        rw [if_neg n1, if_pos n2, q_bi, if_pos rfl]
    · obtain ⟨N, hN31, eN⟩ : ∃ N : Nat, N < 2 ^ 31 ∧ x = nI N := nI_of (by
        intro q
        rw [Int32.lt_iff_toInt_lt] at q n1
        have e0 : (0 : Int32).toInt = 0 := rfl
        omega)
      have hN : 1 ≤ N ∧ N ≤ 8 := by
        rw [eN, Int32.lt_iff_toInt_lt, nI_toInt hN31] at n1 n2
        omega
      have inx : ∀ s', f_X12_in ln x 1 8 s' = some (1, s') := fun s' => by
        unfold f_X12_in
        rw [if_neg n1, if_neg n2]
      by_cases hb : sg_busy r = 2
      · by_cases y1 : y < -1
        · refine call_ro h0 (-1) ?_ ?_
          · unfold f_X11_found
            rw [if_neg n1, if_neg n2, if_pos y1]
          · unfold f_X12_found
            rw [inx s, q_bi, if_neg (by decide), qm_atJobs hM hat, q_bi, hb, if_pos (show nI 2 = (2 : Int32) from rfl), if_pos y1]
        · by_cases y2 : x ≤ y
          · refine call_ro h0 (-1) ?_ ?_
            · unfold f_X11_found
              rw [if_neg n1, if_neg n2, if_neg y1, if_pos y2]
            · unfold f_X12_found
              rw [inx s, q_bi, if_neg (by decide), qm_atJobs hM hat, q_bi, hb, if_pos (show nI 2 = (2 : Int32) from rfl), if_neg y1, if_neg (by
                intro q
                rw [Int32.lt_iff_toInt_lt] at q
                rw [Int32.le_iff_toInt_le] at y2
                omega)]
          · obtain ⟨a, c, h2⟩ := two_ex hb
            have h20 := h2
            obtain ⟨h21, h22, ⟨h23, h24⟩, h25⟩ := h2
            obtain ⟨_, ⟨ja, ja1, _⟩, _⟩ := (st.2.2.2.1 a (by omega)).2.2.2 h23
            obtain ⟨_, ⟨jc, jc1, _⟩, _⟩ := (st.2.2.2.1 c h22).2.2.2 h24
            have ja2 := (st.2.2.2.1 a (by omega)).2.2.1 ja ja1
            have jc2 := (st.2.2.2.1 c h22).2.2.1 jc jc1
            have hP : gw_P a c (jb_he (rm_jb r ja)) (jb_he (rm_jb r jc)) r := ⟨hiv0, ⟨by omega, h22⟩, ⟨ja, ja1, rfl⟩, ⟨jc, jc1, rfl⟩⟩
            rw [eN] at y2
            obtain ⟨s1, a1, a2, a3⟩ := q11_found h0 hti hN h20 hP y1 y2 hb
            rw [← eN] at a1
            have M1 := rM_dc hM a2
            obtain ⟨s13, b1, b2, b3, b4⟩ := qm_saves M1 hnj
            have M13 : rp_M ln s13 r := rM_fr M1 (fun k h1 h2 => b2 k (by omega)) (fun f h1 h2 => b3 f (by omega))
            have hp8 := p2_le (m := N) (by omega)
            obtain ⟨s2, c1, c2, c3⟩ := qm_found_p (y := y) M1 hiv0 hP ⟨h21, h22⟩ hN.2 hti y1 y2 (2 ^ N) dr_N 0 s13 (by omega) (by unfold dr_N; omega) M13 b4
            rw [code_eq] at c1
            have e12 : f_X12_found ln x y s1 = some (fv (fs a c (jb_he (rm_jb r ja)) (jb_he (rm_jb r jc)) N r) y, s2) := by
              unfold f_X12_found
              rw [inx s1, q_bi, if_neg (by decide), qm_atJobs M1 hat, q_bi, hb, if_pos (show nI 2 = (2 : Int32) from rfl), if_neg y1, if_pos (by
                rw [eN, Int32.lt_iff_toInt_lt]
                rw [Int32.le_iff_toInt_le] at y2
                omega), show f_X12_found_p32 ln dr_N x y 0 s1 = _ from qm_first_p (x := x) (y := y) M1 hat h20 a dr_N 0 (by omega) (by unfold dr_N; omega), qm_second_p (x := x) (y := y) M1 hat h20 ⟨ja1, ja2⟩ ⟨jc1, jc2⟩ hnj (c - (a + 1)) dr_N (a + 1) (by omega) (by omega) (by unfold dr_N; omega), b1, q_bv, eN]
              exact c1
            have dn : dn_F s1 s2 := dn_tr ⟨fun k hk => b2 k (by omega), fun f hf => b3 f (by omega)⟩ c2
            refine ⟨_, s1, s2, r, a1, e12, ⟨?_, c3, ⟨hiv0, hi2⟩, ?_, ?_⟩, Nat.le_add_right _ _⟩
            · exact rC_fr a3 ⟨dn.1 14 (by decide), dn.1 18 (by decide)⟩ (fun f hf => dn.2 f (by
                simp only [List.mem_cons, List.not_mem_nil, or_false] at hf
                omega))
            · rw [dn.2 204 (by decide), a2.2.2.1]
              exact h204
            · rw [dn.2 203 (by decide), a2.2.2.2]
              exact h203
      · have nb : ¬ nI (sg_busy r) = (2 : Int32) := nI_lit (k := 2) (by omega) (by omega) hb
        refine call_ro h0 (-1) ?_ ?_
        · unfold f_X11_found
          rw [if_neg n1, if_neg n2]
          by_cases y1 : y < -1
          · rw [if_pos y1]
          · rw [if_neg y1]
            by_cases y2 : x ≤ y
            · rw [if_pos y2]
            · rw [if_neg y2, q3_atJobs hC hat, q_bi, if_neg nb]
        · unfold f_X12_found
          rw [inx s, q_bi, if_neg (by decide), qm_atJobs hM hat, q_bi, if_neg nb]

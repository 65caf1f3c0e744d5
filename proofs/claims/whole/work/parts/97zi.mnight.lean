/-! 97zi: a night, of the reference: guides, levels; the call night -/
theorem qm_guide_p {ln : Nat → Nat} {f u lev to k0 n : Nat} {D : Nat → sg_D} {kb210 : Int32 → Int32 → Int32 → Int32 → dr_S → Option (Int32 × dr_S)} {kb226 : Int32 → Int32 → Int32 → Int32 → Int32 → dr_S → Option (Int32 × dr_S)} (L : dq_ML ln) (hu : u < 256) (hto : to ≤ u) (hn0 : 1 ≤ n) (hn : n ≤ 11) (hk0 : k0 + n ≤ to) : ∀ (j fu k : Nat) (s : dr_S), n = k + j → j < fu → (∀ m, m < k → s.1 34 (14 * u + m) = nI (k0 + m)) → (∀ m, m < k → m + 1 < n → s.1 33 (14 * u + m) = nO (dv_hi (D (k0 + m)))) → (∀ d, d < to → s.1 35 d = nO (dv_hi (D d))) → ∃ s', f_X12_night_p285 ln kb210 kb226 fu (nI f) (nI to) (nI lev) (nI u) (nI k0) (nI n) (nI k) s = kb226 (nI f) (nI to) (nI lev) (nI (u + 1)) (nI (k0 + (f + 1))) s' ∧ mfr s s' u ∧ (∀ a, a ≠ 33 → a ≠ 34 → a ≠ 35 → s'.1 a = s.1 a) ∧ (∀ m, m < n → s'.1 34 (14 * u + m) = nI (k0 + m)) ∧ (∀ m, m + 1 < n → s'.1 33 (14 * u + m) = nO (dv_hi (D (k0 + m)))) ∧ s'.1 35 u = nO (dv_hi (D (k0 + n - 1)))
  | j, 0, _, _, _, q, _, _, _ => absurd q (Nat.not_lt_zero _)
  | 0, fu + 1, k, s, hk, hfu, h34, h33, h35 => by
    rw [f_X12_night_p285, if_pos (nI_le (by omega) (by omega)), nI_add, show nI (k0 + n) - 1 = nI (k0 + n - 1) by rw [show k0 + n = (k0 + n - 1) + 1 by omega, nI_pred, Nat.add_sub_cancel], m_rdb L 35 256 rfl (by decide) (by decide) (by omega), h35 _ (by omega), m_wrb L 35 256 rfl (by decide) (by decide) hu, q_let, nI_1, q_let, nI_1, nI_add]
    exact ⟨_, rfl, mfr_put (by decide) (by decide) (by decide) (by decide), fun a x y z => q_putO z, fun m hm => by rw [q_putO (by decide)]; exact h34 m (by omega), fun m hm => by rw [q_putO (by decide)]; exact h33 m (by omega) hm, by rw [q_put1, q_updS]⟩
  | j + 1, fu + 1, k, s, hk, hfu, h34, h33, h35 => by
    have e14 : (14 : Int32) * nI u = nI (14 * u) := by rw [show (14 : Int32) = nI 14 from rfl, pk_mul]
    rw [f_X12_night_p285, if_neg (nI_ge (by omega) (by omega)), e14, nI_add, nI_add, m_wrb L 34 3584 rfl (by decide) (by decide) (by omega), show nI n - 1 = nI (n - 1) by rw [show n = (n - 1) + 1 by omega, nI_pred, Nat.add_sub_cancel]]
    unfold f_X12_night_p342
    have F1 : mfr s (dr_put s 34 (14 * u + k) (nI (k0 + k))) u := mfr_row (Or.inr rfl) (by omega) (by omega)
    have v34 : ∀ m, m < k + 1 → (dr_put s 34 (14 * u + k) (nI (k0 + k))).1 34 (14 * u + m) = nI (k0 + m) := fun m hm => by
      rw [q_put1]
      by_cases e : m = k
      · rw [e, q_updS]
      · rw [q_updO (by omega)]
        exact h34 m (by omega)
    by_cases q : n - 1 ≤ k
    · rw [if_pos (nI_le q (by omega)), q_let, nI_1]
      obtain ⟨s', a1, a2, a3, a4, a5, a6⟩ := qm_guide_p (f := f) (lev := lev) (D := D) (kb210 := kb210) (kb226 := kb226) L hu hto hn0 hn hk0 j fu (k + 1) (dr_put s 34 (14 * u + k) (nI (k0 + k))) (by omega) (by omega) v34 (fun m hm h2 => by rw [q_putO (by decide)]; exact h33 m (by omega) h2) h35
      exact ⟨s', a1, mfr_tr F1 a2, fun a x y z => by rw [a3 a x y z, q_putO y], a4, a5, a6⟩
    · rw [if_neg (nI_ge (by omega) (by omega)), m_rdb L 35 256 rfl (by decide) (by decide) (by omega), show (dr_put s 34 (14 * u + k) (nI (k0 + k))).1 35 (k0 + k) = _ from h35 _ (by omega), m_wrb L 33 3584 rfl (by decide) (by decide) (by omega), q_let, nI_1]
      obtain ⟨s', a1, a2, a3, a4, a5, a6⟩ := qm_guide_p (f := f) (lev := lev) (D := D) (kb210 := kb210) (kb226 := kb226) L hu hto hn0 hn hk0 j fu (k + 1) (dr_put (dr_put s 34 (14 * u + k) (nI (k0 + k))) 33 (14 * u + k) (nO (dv_hi (D (k0 + k))))) (by omega) (by omega) (fun m hm => by rw [q_putO (by decide)]; exact v34 m hm) (fun m hm h2 => by
        rw [q_put1]
        by_cases e : m = k
        · rw [e, q_updS]
        · rw [q_updO (by omega), q_putO (by decide)]
          exact h33 m (by omega) h2) h35
      exact ⟨s', a1, mfr_tr (mfr_tr F1 (mfr_row (Or.inl rfl) (by omega) (by omega))) a2, fun a x y z => by rw [a3 a x y z, q_putO x, q_putO y], a4, a5, a6⟩
def yy (D : Nat → sg_D) (lev f fr to : Nat) : Nat → sg_D := fun d => if d < to then D d else yg D lev f fr to (d - to)
theorem qm_guides_p {ln : Nat → Nat} {s0 : dr_S} {f lev fr to : Nat} {D : Nat → sg_D} {kb210 : Int32 → Int32 → Int32 → Int32 → dr_S → Option (Int32 × dr_S)} (L : dq_ML ln) (hf1 : 2 ≤ f) (hf2 : f ≤ 10) (hl0 : 0 < lev) (hw : fr < to) (hhi : ∀ d, fr ≤ d → d + 1 < to → dv_hi (D d) ≠ none) (hbd : to + n_nl (to - fr) (f + 1) ≤ 256) : ∀ (j fu i : Nat) (s : dr_S), n_nl (to - fr) (f + 1) = i + j → j < fu → mS s0 s (to + i) (yy D lev f fr to) → ∃ s', f_X12_night_p226 ln kb210 fu (nI f) (nI to) (nI lev) (nI (to + i)) (nI (fr + i * (f + 1))) s = dr_bndv (f_X12_binds ln (nI to) (nI (to + n_nl (to - fr) (f + 1))) s') (fun s24 => kb210 (nI f) (nI to) (nI (to + n_nl (to - fr) (f + 1))) (nI lev) s24) ∧ mS s0 s' (to + n_nl (to - fr) (f + 1)) (yy D lev f fr to)
  | j, 0, _, _, _, q, _ => absurd q (Nat.not_lt_zero _)
  | 0, fu + 1, i, s, hi, hfu, hS => by
    obtain ⟨p1, p2, p3⟩ := nl_p (n := to - fr) (g := f + 1) (by omega)
    have e : i = n_nl (to - fr) (f + 1) := by omega
    rw [← e] at p2
    have hif : i * (f + 1) ≤ 256 * 11 := Nat.mul_le_mul (by omega) (by omega)
    rw [f_X12_night_p226, if_pos (nI_le (by omega) (by omega)), ← e]
    exact ⟨s, rfl, hS⟩
  | j + 1, fu + 1, i, s, hi, hfu, hS => by
    obtain ⟨p1, p2, p3⟩ := nl_p (n := to - fr) (g := f + 1) (by omega)
    obtain ⟨y1, y2, y3, y4, y5⟩ := yw_ok (f := f) (fr := fr) (to := to) (i := i) hw (by omega)
    have hu : to + i < 256 := by omega
    have ew : fr + (i + 1) * (f + 1) = fr + i * (f + 1) + (f + 1) := by rw [Nat.add_mul i 1, Nat.one_mul, Nat.add_assoc]
    rw [f_X12_night_p226, if_neg (nI_ge (by omega) (by omega)), pk_sub (by omega), nI_1]
    have fin : ∃ s', f_X12_night_p252 ln kb210 (f_X12_night_p226 ln kb210 fu) (nI f) (nI to) (nI lev) (nI (to + i)) (nI (fr + i * (f + 1))) (nI (yw f fr to i)) s = dr_bndv (f_X12_binds ln (nI to) (nI (to + n_nl (to - fr) (f + 1))) s') (fun s24 => kb210 (nI f) (nI to) (nI (to + n_nl (to - fr) (f + 1))) (nI lev) s24) ∧ mS s0 s' (to + n_nl (to - fr) (f + 1)) (yy D lev f fr to) := by
      unfold f_X12_night_p252
      rw [m_wzb L 30 256 rfl (by decide) (by decide) hu, m_wrb L 31 256 rfl (by decide) (by decide) hu, m_wrb L 32 256 rfl (by decide) (by decide) hu]
      generalize hs1 : dr_put (dr_put (dr_put s 30 (to + i) (vp_nar .boolean 1)) 31 (to + i) (nI lev)) 32 (to + i) (nI (yw f fr to i) - 1) = s1
      have F1 : mfr s s1 (to + i) := by rw [← hs1]; exact mfr_tr (mfr_tr (mfr_put (by decide) (by decide) (by decide) (by decide)) (mfr_put (by decide) (by decide) (by decide) (by decide))) (mfr_put (by decide) (by decide) (by decide) (by decide))
      have v30 : s1.1 30 (to + i) = 1 := by rw [← hs1, q_putO (by decide), q_putO (by decide), q_put1, q_updS]; rfl
      have v31 : s1.1 31 (to + i) = nI lev := by rw [← hs1, q_putO (by decide), q_put1, q_updS]
      have v32 : s1.1 32 (to + i) = nI (yw f fr to i - 1) := by rw [← hs1, q_put1, q_updS, show nI (yw f fr to i) - 1 = nI (yw f fr to i - 1) by rw [show yw f fr to i = (yw f fr to i - 1) + 1 by omega, nI_pred, Nat.add_sub_cancel]]
      have o1 : ∀ a, a ≠ 30 → a ≠ 31 → a ≠ 32 → s1.1 a = s.1 a := fun a x y z => by rw [← hs1, q_putO z, q_putO y, q_putO x]
      obtain ⟨s2, a1, a2, a3, a4, a5, a6⟩ := qm_guide_p (ln := ln) (f := f) (u := to + i) (lev := lev) (to := to) (k0 := fr + i * (f + 1)) (n := yw f fr to i) (D := D) (kb210 := kb210) (kb226 := f_X12_night_p226 ln kb210 fu) L hu (by omega) y1 (by omega) y2 (yw f fr to i) dr_N 0 s1 (by omega) (by unfold dr_N; omega) (fun m hm => absurd hm (Nat.not_lt_zero _)) (fun m hm => absurd hm (Nat.not_lt_zero _)) (fun d hd => by
        have z := (hS.2.2.2.1 d (by omega)).1.2.2.1
        rw [o1 35 (by decide) (by decide) (by decide), z, show yy D lev f fr to d = D d from if_pos hd])
      rw [show f_X12_night_p285 ln kb210 (f_X12_night_p226 ln kb210 fu) dr_N (nI f) (nI to) (nI lev) (nI (to + i)) (nI (fr + i * (f + 1))) (nI (yw f fr to i)) 0 s1 = _ from a1, ← ew]
      have eD : yy D lev f fr to (to + i) = yg D lev f fr to i := by
        show (if to + i < to then D (to + i) else yg D lev f fr to (to + i - to)) = _
        rw [if_neg (by omega), show to + i - to = i by omega]
      have hst := hS.2.2.2.2 (to + i) (Nat.le_refl _) hu
      refine qm_guides_p L hf1 hf2 hl0 hw hhi hbd j fu (i + 1) s2 (by omega) (by omega) (mS_add (u := to + i) hS hu (mfr_tr F1 a2) (by rw [a3 30 (by decide) (by decide) (by decide), v30]) (by rw [a3 37 (by decide) (by decide) (by decide), o1 37 (by decide) (by decide) (by decide)]) ?_ ?_ ?_)
      · rw [a3 31 (by decide) (by decide) (by decide), v31, eD]
        rfl
      · rw [eD]
        refine ⟨?_, a6, ?_, fun k g hk => ?_, fun _ k g hk => ?_⟩
        · rw [a3 32 (by decide) (by decide) (by decide), v32]
          show _ = nI ((List.range' (fr + i * (f + 1)) (yw f fr to i - 1)).map (fun c => (dv_hi (D c)).getD 0)).length
          rw [List.length_map, List.length_range']
        · rw [a3 36 (by decide) (by decide) (by decide), o1 36 (by decide) (by decide) (by decide), hst.2]
          rfl
        · have hk : ((List.range' (fr + i * (f + 1)) (yw f fr to i - 1)).map (fun c => (dv_hi (D c)).getD 0))[k]? = some g := hk
          have hlt := (List.getElem?_eq_some_iff.mp hk).1
          rw [List.length_map, List.length_range'] at hlt
          rw [List.getElem?_map, List.getElem?_range' (by omega), Nat.one_mul] at hk
          have hk : some ((dv_hi (D (fr + i * (f + 1) + k))).getD 0) = some g := hk
          rw [a5 k (by omega)]
          cases hz : dv_hi (D (fr + i * (f + 1) + k)) with
          | none => exact absurd hz (hhi _ (by omega) (by omega))
          | some h =>
            rw [hz] at hk
            cases hk
            rfl
        · have hk : (List.range' (fr + i * (f + 1)) (yw f fr to i))[k]? = some g := hk
          have hlt := (List.getElem?_eq_some_iff.mp hk).1
          rw [List.length_range'] at hlt
          rw [List.getElem?_range' (by omega), Nat.one_mul] at hk
          cases hk
          exact a4 k hlt
      · rw [eD]
        exact ⟨by show ((List.range' (fr + i * (f + 1)) (yw f fr to i - 1)).map (fun c => (dv_hi (D c)).getD 0)).length ≤ 2 * 5 + 1; rw [List.length_map, List.length_range']; omega, by show (List.range' (fr + i * (f + 1)) (yw f fr to i)).length ≤ 2 * 5 + 2; rw [List.length_range']; omega⟩
    by_cases q : f + 1 ≤ to - (fr + i * (f + 1))
    · rw [if_pos (nI_le q (by omega)), show f + 1 = yw f fr to i by unfold yw; omega]
      rw [show f + 1 = yw f fr to i by unfold yw; omega] at fin
      exact fin
    · rw [if_neg (nI_ge (by omega) (by omega)), show to - (fr + i * (f + 1)) = yw f fr to i by unfold yw; omega]
      exact fin
theorem qm_levels {ln : Nat → Nat} {s0 : dr_S} {r : sg_R} {f : Nat} (L : dq_ML ln) (hb : 2 ≤ rm_b r ∧ rm_b r ≤ 5) (hf1 : rm_b r ≤ f) (hf2 : f ≤ 2 * rm_b r) : ∀ (n fu lev fr to : Nat) (D : Nat → sg_D) (s : dr_S), nv r lev fr to D → lev + n = 4 → n < fu → mS s0 s to D → ∃ s', f_X12_night_p210 ln fu (nI f) (nI fr) (nI to) (nI lev) s = some (nI (n_lv f n (lev + 1) fr to D).2.1, dr_pf s' 1205 (nI (n_lv f n (lev + 1) fr to D).1)) ∧ mS s0 s' (n_lv f n (lev + 1) fr to D).2.1 (n_lv f n (lev + 1) fr to D).2.2
  | n, 0, _, _, _, _, _, _, _, q, _ => absurd q (Nat.not_lt_zero _)
  | 0, fu + 1, lev, fr, to, D, s, hv, hl, hfu, hS => by
    have e : lev = 4 := by omega
    have hw := hv.2.2.1.1
    rw [e] at hw
    have hw : to - fr ≤ 1 := hw
    have hto : to ≤ 91 := Nat.le_trans hv.2.2.1.2 (bw_91 hv.2.1)
    have hft := hv.1
    rw [f_X12_night_p210, pk_sub (by omega), if_pos (show nI (to - fr) ≤ 1 from nI_le (b := 1) hw (by omega)), q_letS]
    exact ⟨s, rfl, hS⟩
  | n + 1, fu + 1, lev, fr, to, D, s, hv, hl, hfu, hS => by
    have hto : to ≤ 91 := Nat.le_trans hv.2.2.1.2 (bw_91 hv.2.1)
    have hft := hv.1
    rw [f_X12_night_p210, pk_sub (by omega), n_lv]
    by_cases q : to - fr ≤ 1
    · rw [if_pos (show nI (to - fr) ≤ 1 from nI_le (b := 1) q (by omega)), q_letS, if_pos q]
      exact ⟨s, rfl, hS⟩
    · rw [if_neg (show ¬ nI (to - fr) ≤ 1 from nI_ge (a := 1) (by omega) (by omega)), if_neg q, q_let, nI_1]
      obtain ⟨hl4, hv2⟩ := nv_up hb.1 hf1 hf2 hv q
      have hto2 : to + n_nl (to - fr) (f + 1) ≤ 91 := Nat.le_trans hv2.2.2.1.2 (bw_91 hv2.2.1)
      have hng := (nl_p (n := to - fr) (g := f + 1) (by omega)).1
      have h5 := hv.2.2.2.2.1
      obtain ⟨s1, a1, a2⟩ := qm_guides_p (ln := ln) (s0 := s0) (f := f) (fr := fr) (to := to) (lev := lev + 1) (D := D) (kb210 := f_X12_night_p210 ln fu) L (by omega) (by omega) (by omega) hft (fun d x y z => (h5 d x (by omega)).mp z y) (by omega) (n_nl (to - fr) (f + 1)) dr_N 0 s (by omega) (by unfold dr_N; omega) (mS_cg hS (fun d hd => if_pos hd))
      rw [Nat.zero_mul] at a1
      have e1 : f_X12_night_p226 ln (f_X12_night_p210 ln fu) dr_N (nI f) (nI to) (nI (lev + 1)) (nI to) (nI fr) s = _ := a1
      obtain ⟨s2, b1, b2⟩ := mS_bind (ln := ln) L (show to < to + n_nl (to - fr) (f + 1) by omega) (by omega) a2
      rw [e1, b1, q_bv]
      refine qm_levels L hb hf1 hf2 n fu (lev + 1) _ _ _ s2 hv2 (by omega) (by omega) (mS_cg b2 (fun d hd => ?_))
      show n_up D (lev + 1) f fr to d = if d < to then yy D (lev + 1) f fr to d else bd (to + n_nl (to - fr) (f + 1)) d (yy D (lev + 1) f fr to d)
      unfold n_up yy
      by_cases z : d < to
      · rw [if_pos z, if_pos z, if_pos z]
      · rw [if_neg z, if_neg z, if_neg z]
theorem qm_night {ln : Nat → Nat} {s : dr_S} {r : sg_R} {f : Nat} (hM : rp_M ln s r) (hiv : iv r) (hf1 : rm_b r ≤ f) (hf2 : f ≤ 2 * rm_b r) (hidle : ∀ c, c < 4 → ck_at (rm_ck r c) = 0) : ∃ s', dr_bndv (f_X12_lists ln s) (fun s5 => dr_bndv (f_X12_sorts ln s5) (fun s6 => f_X12_night_p36 ln dr_N (nI f) 0 s6)) = some (nI (n_all r f).2.1, s') ∧ dm_F s s' ∧ rp_M ln s' (sg_night r f) := by
  obtain ⟨rk, t, st, hp, hT, hcn⟩ := hiv
  obtain ⟨hH, hall⟩ := srt_ok st hcn
  have hb := st.1.1
  have hnj := st.1.2.2.1
  have hlen := s_len hH
  have hg : 1 ≤ f := by omega
  have L := mM_L hM
  obtain ⟨s1, a1, a2, a3⟩ := qm_lists hM st hcn
  have hcl := (hc_len (iv_lv st) 256 (sg_first r 0) (fun d hd => (iv_fst st hcn d hd).1)).1
  have M1 := lc_M a2 hM
  obtain ⟨s2, b1, b2, b3, b4⟩ := qm_sorts_p (ln := ln) (r := r) (cards := sg_cards r) hnj st.1.2.2.2 (by rw [sg_cards_eq]; omega) hall (sg_cards r).length dr_N 0 s1 [] M1 (by omega) (by rw [sg_cards_eq]; unfold dr_N; omega) a3.1 (fun j _ hj => by
    rw [a3.2 j _ (List.getElem?_eq_getElem hj), gDe hj]) (fun j hj => absurd hj (Nat.not_lt_zero _)) (Nat.zero_le _) ⟨List.Pairwise.nil, fun h q => (by cases q)⟩
  rw [List.drop_zero] at b3 b4
  have M2 := lc_M b2 M1
  have F2 := lc_tr a2 b2
  obtain ⟨s3, c1, ⟨c2, c3, c4, _⟩⟩ := qm_clear_p (x := nI f) L 256 dr_N 0 s2 (by omega) (by unfold dr_N; omega)
  have S0 : mS s2 s3 0 (yl (s_srt r) f) := ⟨c2, fun a ha => c3 a (by omega) (by omega) (by omega) (by omega) (by omega) (by omega), fun d hd => by
    obtain ⟨x0, x1, x2, x3, x4, x5⟩ := c4 d (Nat.zero_le _) hd
    rw [if_neg (by omega)]
    exact ⟨x0, x5⟩, fun d hd => absurd hd (Nat.not_lt_zero _), fun d _ hd => by
    obtain ⟨x0, x1, x2, x3, x4, x5⟩ := c4 d (Nat.zero_le _) hd
    exact ⟨x1, x4⟩⟩
  have hb2 := nl_b (n := (s_srt r).length) (g := f) (c := 2) (by omega) hg
  have hnl := (nl_p (n := (s_srt r).length) hg).1
  obtain ⟨s4, d1, d2⟩ := qm_leaves_p (ln := ln) (s0 := s2) (H := s_srt r) (f := f) L (by omega) (by omega) (by omega) ⟨b3, b4⟩ (n_nl (s_srt r).length f) dr_N 0 s3 (by omega) (by unfold dr_N; omega) S0
  rw [Nat.zero_mul] at d1
  obtain ⟨s5, e1, e2⟩ := mS_bind (ln := ln) L (show 0 < n_nl (s_srt r).length f by omega) (by omega) d2
  obtain ⟨s6, f1, f2⟩ := qm_levels (ln := ln) (s0 := s2) (r := r) L hb hf1 hf2 4 dr_N 0 0 _ (n_D0 (s_srt r) f) s5 (nv_leaves hb.1 hf1 hf2 hH (by omega)) (by omega) (by unfold dr_N; omega) (mS_cg e2 (fun d hd => by
    show n_D0 (s_srt r) f d = if d < 0 then yl (s_srt r) f d else bd (n_nl (s_srt r).length f) d (yl (s_srt r) f d)
    rw [if_neg (by omega)]
    rfl))
  have f2 : mS s2 s6 (n_all r f).2.1 (n_all r f).2.2 := f2
  have f1 : f_X12_night_p210 ln dr_N (nI f) 0 (nI (n_nl (s_srt r).length f)) 0 s5 = some (nI (n_all r f).2.1, dr_pf s6 1205 (nI (n_all r f).1)) := f1
  have hiv2 := iv_night (r := r) ⟨rk, t, st, hp, hT, hcn⟩ hf1 hf2 hidle
  refine ⟨dr_pf s6 1205 (nI (n_all r f).1), ?_, ?_, ?_⟩
  · rw [a1, q_bv]
    have eS : f_X12_sorts ln s1 = some (0, s2) := b1
    rw [eS, q_bv, show f_X12_night_p36 ln dr_N (nI f) 0 s2 = _ from c1, show f_X12_night_p61 ln dr_N (nI f) 0 0 0 s3 = _ from d1, show f_X12_binds ln 0 (nI (n_nl (s_srt r).length f)) s4 = _ from e1, q_bv, f1]
  · obtain ⟨g1, g2, _⟩ := f2
    exact ⟨fun a ha => by rw [q_pf1, g2 a (by omega), F2.1 a (by omega)], fun g hg => by rw [q_pfO (by omega), g1, F2.2 g (by omega)], fun a ha => by rw [q_pf1, g2 a (by omega), F2.1 a (by omega)], fun g hg => by rw [q_pfO (by omega), g1, F2.2 g (by omega)]⟩
  · obtain ⟨g1, g2, g3, g4, g5⟩ := f2
    have hto := hiv2.2
    obtain ⟨m1, m2, m3, m4, m5, m6, m7, m8, m9, m10, m11, m12, m13, m14⟩ := M2
    have o : ∀ a, (a < 30 ∨ 37 < a) → (dr_pf s6 1205 (nI (n_all r f).1)).1 a = s2.1 a := fun a ha => g2 a ha
    have q : ∀ g, g ≠ 1205 → (dr_pf s6 1205 (nI (n_all r f).1)).2 g = s2.2 g := fun g hg => by rw [q_pfO hg, g1]
    obtain ⟨lev, hv, _⟩ := nv_all (f := f) hb.1 hf1 hf2 4 0 0 _ _ (nv_leaves hb.1 hf1 hf2 hH (by omega)) (by omega)
    refine ⟨m1, (q 1200 (by decide)).trans m2, ⟨(q 1201 (by decide)).trans m3.1, fun i d g hi => by rw [o 28 (by omega), o 29 (by omega)]; exact m3.2 i d g hi⟩, (q 1204 (by decide)).trans m4, q_pf2 _ _ _, fun d hd => (g3 d hd).1, fun d hd => ?_, fun d h1 h2 => (g3 d h2).2, fun c hc => ?_, (q 1226 (by decide)).trans m10, fun j hj => ?_, fun j h1 h2 => ?_, (q 1234 (by decide)).trans m13, fun i j t hi => ?_⟩
    · obtain ⟨⟨x1, x2⟩, _⟩ := g4 d hd
      refine ⟨x1, x2, ?_⟩
      have hla : dv_la ((n_all r f).2.2 d) = none := (hv.2.2.2.1 d hd).2.1
      have hd : d < (n_all r f).2.1 := hd
      show s6.1 37 d = nO (dv_la ((n_all r f).2.2 d))
      rw [hla]
      exact (g3 d (by omega)).2
    · obtain ⟨k1, k2, k3, k4, k5, k6, k7, k8⟩ := m9 c hc
      have hz := hidle c hc
      refine ⟨by rw [o 38 (by omega)]; exact k1, by rw [o 39 (by omega)]; exact k2, fun z => absurd hz z, by rw [o 41 (by omega)]; exact k4, by rw [o 43 (by omega)]; exact k5, fun z => absurd hz z, fun z => ?_, fun z => absurd hz z⟩
      have z : ck_at (rm_ck r c) = 3 := z
      omega
    · rw [o 50 (by omega), o 51 (by omega), o 52 (by omega), o 53 (by omega), o 54 (by omega), o 55 (by omega), o 56 (by omega)]
      exact m11 j hj
    · rw [o 55 (by omega), o 56 (by omega)]
      exact m12 j h1 h2
    · rw [o 57 (by omega), o 58 (by omega), o 59 (by omega)]
      exact m14 i j t hi
theorem ok_night {ln : Nat → Nat} {s : dr_S} {r : sg_R} (h : rr ln s r) (x : Int32) : call_ok ln (f_X11_night ln x) (f_X12_night ln x) s r := by
  have h0 := h
  obtain ⟨hC, hM, ⟨hiv, hi2⟩, h204, h203⟩ := h
  have hiv0 := hiv
  obtain ⟨rk, t, st, hp, hT, hcn⟩ := hiv
  have hat : ∀ c, c < 4 → ck_at (rm_ck r c) ≤ 4 := fun c hc => (st.2.2.2.1 c hc).2.1
  have hb := st.1.1
  have hbz : sg_busy r ≤ 4 := nbz_le 4
  have e2b : (2 : Int32) * nI (rm_b r) = nI (2 * rm_b r) := by rw [show (2 : Int32) = nI 2 from rfl, pk_mul]
  by_cases n1 : x < nI (rm_b r)
  · refine call_ro h0 (-1) ?_ ?_
    · unfold f_X11_night
      rw [q4_half hC.1, q_bi, if_pos n1]
    · unfold f_X12_night f_X12_in
      rw [mM_b hM, if_pos n1, q_bi, if_pos rfl]
  · by_cases n2 : nI (2 * rm_b r) < x
    · refine call_ro h0 (-1) ?_ ?_
      · unfold f_X11_night
        rw [q4_half hC.1, q_bi, if_neg n1, q4_half hC.1, q_bi, e2b, if_pos n2]
      · unfold f_X12_night f_X12_in
        rw [mM_b hM, e2b, if_neg n1, if_pos n2, q_bi, if_pos rfl]
    · obtain ⟨f, hf31, ef⟩ : ∃ f : Nat, f < 2 ^ 31 ∧ x = nI f := nI_of (by
        intro q
        rw [Int32.lt_iff_toInt_lt] at q n1
        rw [nI_toInt (by omega)] at n1
        have e0 : (0 : Int32).toInt = 0 := rfl
        omega)
      have hf : rm_b r ≤ f ∧ f ≤ 2 * rm_b r := by
        rw [ef, Int32.lt_iff_toInt_lt, nI_toInt hf31, nI_toInt (by omega)] at n1 n2
        omega
      have inx : ∀ s', f_X12_in ln x (nI (rm_b r)) (nI (2 * rm_b r)) s' = some (1, s') := fun s' => by
        unfold f_X12_in
        rw [if_neg n1, if_neg n2]
      by_cases hb0 : sg_busy r = 0
      · have hidle : ∀ c, c < 4 → ck_at (rm_ck r c) = 0 := by
          have h1 : 0 + (if decide (ck_at (rm_ck r 0) ≠ 0) = true then 1 else 0) + (if decide (ck_at (rm_ck r 1) ≠ 0) = true then 1 else 0) + (if decide (ck_at (rm_ck r 2) ≠ 0) = true then 1 else 0) + (if decide (ck_at (rm_ck r 3) ≠ 0) = true then 1 else 0) = 0 := hb0
          have key : ∀ c, (if decide (ck_at (rm_ck r c) ≠ 0) = true then 1 else 0) = 0 → ck_at (rm_ck r c) = 0 := by
            intro c z
            by_cases q : ck_at (rm_ck r c) = 0
            · exact q
            · rw [if_pos (decide_eq_true q)] at z
              cases z
          intro c hc
          have hcs : c = 0 ∨ c = 1 ∨ c = 2 ∨ c = 3 := by omega
          rcases hcs with z | z | z | z <;> subst z
          · exact key 0 (by omega)
          · exact key 1 (by omega)
          · exact key 2 (by omega)
          · exact key 3 (by omega)
        obtain ⟨hin, hto⟩ := iv_night hiv0 hf.1 hf.2 hidle
        obtain ⟨s1, a1, a2, a3⟩ := q11_night hC hiv0 hf.1 hf.2 hidle h204
        have v11 : f_X11_night ln x s = some (nI (n_all r f).2.1, s1) := by
          unfold f_X11_night
          rw [q4_half hC.1, q_bi, if_neg n1, q4_half hC.1, q_bi, e2b, if_neg n2, q3_atJobs hC hat, q_bi, hb0, if_pos (show nI 0 ≤ 0 by decide), ef, a1, q_bv, q4_inUse a3.1, q_bi]
          have := a3.2.2.2.2.1
          rw [this]
          rfl
        refine call_mk h0 v11 a2 a3 (fun hM1 => ?_) ⟨hin, hi2⟩
        obtain ⟨s2, b1, b2, b3⟩ := qm_night hM1 hiv0 hf.1 hf.2 hidle
        refine ⟨s2, ?_, b2, b3⟩
        unfold f_X12_night
        rw [mM_b hM1, e2b, inx s1, q_bi, if_neg (by decide), qm_atJobs hM1 hat, q_bi, hb0, if_pos (show nI 0 ≤ 0 by decide), ef]
        exact b1
      · have nb : ¬ nI (sg_busy r) ≤ 0 := nI_nle (by omega) (by omega)
        refine call_ro h0 (-1) ?_ ?_
        · unfold f_X11_night
          rw [q4_half hC.1, q_bi, if_neg n1, q4_half hC.1, q_bi, e2b, if_neg n2, q3_atJobs hC hat, q_bi, if_neg nb]
        · unfold f_X12_night
          rw [mM_b hM, e2b, inx s, q_bi, if_neg (by decide), qm_atJobs hM hat, q_bi, if_neg nb]

/-! 97zd: sorting, of the class and of the reference -/
def srt_C (s : dr_S) (l : List Nat) : Prop := s.2 103 = nI l.length ∧ ∀ k, k < l.length → s.1 13 k = nI (l.getD k 0)
def sr_F (s s1 : dr_S) : Prop := (∀ a, a ≠ 13 → s1.1 a = s.1 a) ∧ (∀ f, f ≠ 103 → s1.2 f = s.2 f)
theorem sr_rf (s : dr_S) : sr_F s s := ⟨fun _ _ => rfl, fun _ _ => rfl⟩
theorem sr_tr {s s1 s2 : dr_S} (h1 : sr_F s s1) (h2 : sr_F s1 s2) : sr_F s s2 := ⟨fun a h => (h2.1 a h).trans (h1.1 a h), fun a h => (h2.2 a h).trans (h1.2 a h)⟩
theorem sr_C {ln : Nat → Nat} {s s1 : dr_S} {r : sg_R} (hC : rp_C ln s r) (F : sr_F s s1) : rp_C ln s1 r := rC_fr hC ⟨F.1 14 (by decide), F.1 18 (by decide)⟩ (fun f hf => F.2 f (by
  simp only [List.mem_cons, List.not_mem_nil, or_false] at hf
  omega))
theorem q1_shift {ln : Nat → Nat} {h i n : Nat} (l13 : ln 13 = 120) : ∀ (d fu m : Nat) (s : dr_S), m = i + d → d < fu → m < 120 → s.2 103 = nI n → ∃ s', f_X1_sortIn_p76 ln fu (nI h) (nI i) (nI m) s = some (0, s') ∧ sr_F s s' ∧ s'.2 103 = nI (n + 1) ∧ ∀ k, s'.1 13 k = if k < i then s.1 13 k else if k = i then nI h else if k ≤ m then s.1 13 (k - 1) else s.1 13 k
  | d, 0, _, _, _, q, _, _ => absurd q (Nat.not_lt_zero _)
  | 0, fu + 1, m, s, hm, hf, h1, h3 => by
    rw [f_X1_sortIn_p76, if_pos (nI_le (by omega) (by omega)), q_wr (by omega) (by omega), Option.bind_some, q_letS, show (dr_put s 13 i (nI h)).2 103 = _ from h3, nI_1]
    refine ⟨_, rfl, ⟨fun a ha => by rw [q_pf1, q_putO ha], fun f hf => by rw [q_pfO hf]; rfl⟩, q_pf2 _ _ _, fun k => ?_⟩
    rw [q_pf1, q_put1]
    by_cases e : k = i
    · rw [e, q_updS, if_neg (by omega), if_pos rfl]
    · rw [q_updO e, if_neg e]
      by_cases q : k < i
      · rw [if_pos q]
      · rw [if_neg q, if_neg (by omega)]
  | d + 1, fu + 1, m, s, hm, hf, h1, h3 => by
    obtain ⟨p, ep⟩ : ∃ p, m = p + 1 := ⟨m - 1, by omega⟩
    subst ep
    rw [f_X1_sortIn_p76, if_neg (nI_ge (by omega) (by omega)), nI_pred, q_rd (by omega) (by omega), Option.bind_some, q_wr (by omega) (by omega), Option.bind_some, q_let, ← Int32.sub_eq_add_neg, nI_pred]
    obtain ⟨s', a1, a2, a3, a4⟩ := q1_shift (h := h) (i := i) l13 d fu p (dr_put s 13 (p + 1) (s.1 13 p)) (by omega) (by omega) (by omega) h3
    refine ⟨s', a1, sr_tr ⟨fun a ha => q_putO ha, fun f _ => rfl⟩ a2, a3, fun k => ?_⟩
    rw [a4 k, q_put1]
    by_cases q : k < i
    · rw [if_pos q, if_pos q, q_updO (by omega)]
    · rw [if_neg q, if_neg q]
      by_cases e : k = i
      · rw [if_pos e, if_pos e]
      · rw [if_neg e, if_neg e]
        by_cases z : k ≤ p
        · rw [if_pos z, if_pos (by omega), q_updO (by omega)]
        · rw [if_neg z]
          by_cases y : k = p + 1
          · rw [y, q_updS, if_pos (Nat.le_refl _)]
            rfl
          · rw [q_updO y, if_neg (by omega)]
theorem q1_cut {ln : Nat → Nat} {s : dr_S} {ru : List (Nat × Bool)} {l : List Nat} {h : Nat} (l13 : ln 13 = 120) (l18 : ln 18 = 4) (hr : rp_rule s ru) (hok : rl_ok ru) (hs : srt_C s l) (hl : l.length ≤ 120) (hh : h < 10000) (hlt : ∀ x ∈ l, x < 10000) : ∀ (fu i : Nat), i ≤ l.length → i < fu → f_X1_sortIn_p25 ln fu (nI h) (nI i) s = f_X1_sortIn_p54 ln (nI h) (nI (ct ru l h i)) s
  | 0, _, _, q => absurd q (Nat.not_lt_zero _)
  | fu + 1, 0, _, _ => by
    rw [f_X1_sortIn_p25, if_pos (show nI 0 ≤ 0 by decide)]
    rfl
  | fu + 1, i + 1, hi, hf => by
    have hx := hlt (l.getD i 0) (by rw [gDe (show i < l.length by omega)]; exact List.getElem_mem _)
    rw [f_X1_sortIn_p25, if_neg (nI_nle (by omega) (by omega)), nI_pred, q_rd (by omega) (by omega), Option.bind_some, hs.2 i (by omega), q5_isAhead l18 hr hok hh hx, q_bi, ct]
    cases ha : sg_ah ru h (l.getD i 0) with
    | true =>
      rw [if_neg (show ¬ bI true = (0 : Int32) by decide), if_pos rfl, q_let, ← Int32.sub_eq_add_neg, nI_pred]
      exact q1_cut l13 l18 hr hok hs hl hh hlt fu i (by omega) (by omega)
    | false =>
      rw [if_pos (show bI false = (0 : Int32) from rfl), if_neg (by decide)]
theorem q1_sortIn {ln : Nat → Nat} {s : dr_S} {r : sg_R} {l : List Nat} {h : Nat} (hC : rp_C ln s r) (hok : rl_ok (rm_ru r)) (hnj : rm_nj r ≤ 120) (hs : srt_C s l) (hl : s_ok r l) (hh : hf r h) : ∃ s', f_X1_sortIn ln (nI h) s = some (0, s') ∧ sr_F s s' ∧ srt_C s' (s_in (rm_ru r) l h) := by
  have l13 : ln 13 = 120 := hC.2.1.2.1
  have hlen := s_len hl
  have cut := q1_cut l13 hC.2.1.1 hC.2.2.1 hok hs (by omega) hh.1 (fun x hx => (hl.2 x hx).1) dr_N l.length (Nat.le_refl _) (by unfold dr_N; omega)
  unfold f_X1_sortIn
  rw [hs.1, if_neg (show ¬ nI l.length < 0 from nI_pos (by omega)), q_let, cut, l13]
  clear cut
  have hin := s_len (s_ok_in hl hh)
  have hct := ct_le (ru := rm_ru r) (l := l) (h := h) l.length
  unfold s_in at hin ⊢
  generalize ct (rm_ru r) l h l.length = i at *
  by_cases tw : 0 < i ∧ l.getD (i - 1) 0 = h
  · obtain ⟨j, ej⟩ : ∃ j, i = j + 1 := ⟨i - 1, by omega⟩
    rw [if_pos tw]
    subst ej
    have e := tw.2
    rw [Nat.add_sub_cancel] at e
    unfold f_X1_sortIn_p54
    rw [if_neg (nI_nle (by omega) (by omega)), nI_pred, q_rd (by omega) (by omega), Option.bind_some, hs.2 j (by omega), e, if_pos rfl, ite_self]
    exact ⟨s, rfl, sr_rf s, hs⟩
  · rw [if_neg tw] at hin ⊢
    rw [ins_len hct] at hin
    rw [if_pos (show nI l.length < Int32.ofNat 120 from nI_lt (b := 120) (by omega) (by omega))]
    unfold f_X1_sortIn_p54
    have goes : ∃ s', f_X1_sortIn_p71 ln (nI h) (nI i) s = some (0, s') ∧ sr_F s s' ∧ srt_C s' (sg_ins l i h) := by
      unfold f_X1_sortIn_p71
      rw [hs.1, q_let]
      obtain ⟨s', a1, a2, a3, a4⟩ := q1_shift (h := h) (i := i) (n := l.length) l13 (l.length - i) dr_N l.length s (by omega) (by unfold dr_N; omega) (by omega) hs.1
      refine ⟨s', a1, a2, by rw [ins_len hct]; exact a3, fun k hk => ?_⟩
      rw [ins_len hct] at hk
      rw [a4 k, ins_get hct]
      by_cases q : k < i
      · rw [if_pos q, if_pos q, hs.2 k (by omega)]
      · rw [if_neg q, if_neg q]
        by_cases e : k = i
        · rw [if_pos e, if_pos e]
        · rw [if_neg e, if_neg e, if_pos (by omega), hs.2 (k - 1) (by omega)]
    by_cases e0 : i = 0
    · rw [if_pos (show nI i ≤ 0 by rw [e0]; decide)]
      exact goes
    · obtain ⟨j, ej⟩ : ∃ j, i = j + 1 := ⟨i - 1, by omega⟩
      rw [if_neg (nI_nle (by omega) (by omega)), show nI i - 1 = nI j by rw [ej, nI_pred], q_rd (by omega) (by omega), Option.bind_some, hs.2 j (by omega), if_neg (show ¬ nI (l.getD j 0) = nI h from nI_lit (by
        have := (hl.2 (l.getD j 0) (by rw [gDe (show j < l.length by omega)]; exact List.getElem_mem _)).1
        omega) (by have := hh.1; omega) (fun q => tw ⟨by omega, by rw [ej, Nat.add_sub_cancel]; exact q⟩))]
      exact goes
theorem q1_sort_i {ln : Nat → Nat} {r : sg_R} {d m : Nat} {kb : Int32 → Int32 → dr_S → Option (Int32 × dr_S)} (hw : wf_lv r) (hd : d < rm_us r) (hnj : rm_nj r ≤ 120) (hall : ∀ h ∈ dv_hs (rm_dr r d), hf r h) : ∀ (k fu i : Nat) (s : dr_S) (l : List Nat), rp_C ln s r → srt_C s l → s_ok r l → (dv_hs (rm_dr r d)).length = i + k → k < fu → ∃ s1, f_X1_sort_p41 ln kb fu (nI d) (nI m) (nI (dv_hs (rm_dr r d)).length) (nI i) s = kb (nO (dv_th (rm_dr r d))) (nI (m + 1)) s1 ∧ sr_F s s1 ∧ srt_C s1 (((dv_hs (rm_dr r d)).drop i).foldl (s_in (rm_ru r)) l)
  | k, 0, _, _, _, _, _, _, _, q => absurd q (Nat.not_lt_zero _)
  | 0, fu + 1, i, s, l, hC, hs, hl, hk, hf => by
    have hus := hw.1.2.1
    have hb := hw.1.1
    have hlh := (hw.2.2 d hd).1
    have hx := (hC.2.2.2.2.2.1 d hd).1
    have g3 := q4_get (d := d) (k := 3) hC.1 (by omega) (by omega)
    rw [hx.2.2.2.1] at g3
    rw [f_X1_sort_p41, if_pos (nI_le (by omega) (by omega)), show f_X4_get ln (nI d) 3 s = _ from g3, q_bi, q_let, nI_1, List.drop_eq_nil_of_le (by omega)]
    exact ⟨s, rfl, sr_rf s, hs⟩
  | k + 1, fu + 1, i, s, l, hC, hs, hl, hk, hf => by
    have hus := hw.1.2.1
    have hb := hw.1.1
    obtain ⟨hlh, hlt, _⟩ := hw.2.2 d hd
    have hx := (hC.2.2.2.2.2.1 d hd).1
    have hrw := hw.1.2.2.2.1 d hd
    obtain ⟨g, hg⟩ := at_some (l := dv_hs (rm_dr r d)) (i := i) (by omega)
    have hg2 := hall g (List.mem_of_getElem? hg)
    obtain ⟨s1, a1, a2, a3⟩ := q1_sortIn hC hw.2.1 hnj hs hl hg2
    rw [f_X1_sort_p41, if_neg (nI_ge (by omega) (by omega)), q4_heading hC.1 (by omega) hx.2.1 hrw.1 (by omega), q_bi, if_pos (by omega), hx.2.2.2.2.1 i g hg, a1, q_bv, q_let, nI_1, drop_at hg]
    obtain ⟨s2, b1, b2, b3⟩ := q1_sort_i (kb := kb) (m := m) hw hd hnj hall k fu (i + 1) s1 _ (sr_C hC a2) a3 (s_ok_in hl hg2) (by omega) (by omega)
    exact ⟨s2, b1, sr_tr a2 b2, b3⟩
theorem q1_sort_p {ln : Nat → Nat} {r : sg_R} (hw : wf_lv r) (hnj : rm_nj r ≤ 120) (hall : ∀ d, d < rm_us r → dv_lev (rm_dr r d) = 0 → (∀ h ∈ dv_hs (rm_dr r d), hf r h) ∧ ∀ t, dv_th (rm_dr r d) = some t → dv_lev (rm_dr r t) = 0) : ∀ (k fu i : Nat) (s : dr_S) (l : List Nat) (o : Option Nat), rp_C ln s r → srt_C s l → s_ok r l → 256 = i + k → k < fu → (∀ d, o = some d → d < rm_us r ∧ dv_lev (rm_dr r d) = 0) → ∃ s1, f_X1_sort_p16 ln fu (nO o) (nI i) s = some (nI ((sg_hc r k o).foldl (s_in (rm_ru r)) l).length, s1) ∧ sr_F s s1 ∧ srt_C s1 ((sg_hc r k o).foldl (s_in (rm_ru r)) l)
  | k, 0, _, _, _, _, _, _, _, _, q, _ => absurd q (Nat.not_lt_zero _)
  | 0, fu + 1, i, s, l, o, hC, hs, hl, hk, hf, ho => by
    rw [f_X1_sort_p16, if_pos (show (256 : Int32) ≤ nI i from nI_le (a := 256) (by omega) (by omega)), hc_0, hs.1]
    exact ⟨s, rfl, sr_rf s, hs⟩
  | k + 1, fu + 1, i, s, l, none, hC, hs, hl, hk, hf, ho => by
    rw [f_X1_sort_p16, if_neg (show ¬ (256 : Int32) ≤ nI i from nI_ge (b := 256) (by omega) (by omega)), if_pos (show nO none = (-1 : Int32) from rfl), hc_n, hs.1]
    exact ⟨s, rfl, sr_rf s, hs⟩
  | k + 1, fu + 1, i, s, l, some d, hC, hs, hl, hk, hf, ho => by
    obtain ⟨hd, hlv⟩ := ho d rfl
    have hus := hw.1.2.1
    have hb := hw.1.1
    have hlh := (hw.2.2 d hd).1
    have hx := (hC.2.2.2.2.2.1 d hd).1
    have g1 := q4_get (d := d) (k := 1) hC.1 (by omega) (by omega)
    rw [hx.2.1] at g1
    obtain ⟨hal, hth⟩ := hall d hd hlv
    rw [f_X1_sort_p16, if_neg (show ¬ (256 : Int32) ≤ nI i from nI_ge (b := 256) (by omega) (by omega)), show nO (some d) = nI d from rfl, if_neg (n1_ne (by omega)), show f_X4_get ln (nI d) 1 s = _ from g1, q_bi]
    obtain ⟨s1, a1, a2, a3⟩ := q1_sort_i (m := i) (kb := f_X1_sort_p16 ln fu) hw hd hnj hal (dv_hs (rm_dr r d)).length dr_N 0 s l hC hs hl (by omega) (by unfold dr_N; omega)
    rw [List.drop_zero] at a3
    rw [show f_X1_sort_p41 ln (f_X1_sort_p16 ln fu) dr_N (nI d) (nI i) (nI (dv_hs (rm_dr r d)).length) 0 s = _ from a1, hc_s, List.foldl_append]
    obtain ⟨s2, b1, b2, b3⟩ := q1_sort_p hw hnj hall k fu (i + 1) s1 _ (dv_th (rm_dr r d)) (sr_C hC a2) a3 (s_ok_fold _ _ hl hal) (by omega) (by omega) (fun t ht => ⟨(hw.2.2 d hd).2.2 t ht, hth t ht⟩)
    exact ⟨s2, b1, sr_tr a2 b2, b3⟩
/-- the reference's -/
theorem qm_shft2 {ln : Nat → Nat} {h i n q : Nat} {kb : Int32 → Int32 → dr_S → Option (Int32 × dr_S)} (L : dq_ML ln) : ∀ (d fu m : Nat) (s : dr_S), m = i + d → d < fu → m < 3600 → ∃ s', f_X12_sorts_p74 ln kb fu (nI n) (nI q) (nI h) (nI i) (nI m) s = kb (nI (n + 1)) (nI (q + 1)) s' ∧ s'.2 = s.2 ∧ (∀ a, a ≠ 62 → s'.1 a = s.1 a) ∧ ∀ k, s'.1 62 k = if k < i then s.1 62 k else if k = i then nI h else if k ≤ m then s.1 62 (k - 1) else s.1 62 k
  | d, 0, _, _, _, z, _ => absurd z (Nat.not_lt_zero _)
  | 0, fu + 1, m, s, hm, hf, h1 => by
    rw [f_X12_sorts_p74, if_pos (nI_le (by omega) (by omega)), m_wrb L 62 3600 rfl (by decide) (by decide) (by omega), q_let, nI_1]
    unfold f_X12_sorts_p114
    rw [q_let, nI_1]
    refine ⟨_, rfl, rfl, fun a ha => q_putO ha, fun k => ?_⟩
    rw [q_put1]
    by_cases e : k = i
    · rw [e, q_updS, if_neg (by omega), if_pos rfl]
    · rw [q_updO e, if_neg e]
      by_cases z : k < i
      · rw [if_pos z]
      · rw [if_neg z, if_neg (by omega)]
  | d + 1, fu + 1, m, s, hm, hf, h1 => by
    obtain ⟨p, ep⟩ : ∃ p, m = p + 1 := ⟨m - 1, by omega⟩
    subst ep
    rw [f_X12_sorts_p74, if_neg (nI_ge (by omega) (by omega)), nI_pred, m_rdb L 62 3600 rfl (by decide) (by decide) (by omega), m_wrb L 62 3600 rfl (by decide) (by decide) (by omega), q_let, ← Int32.sub_eq_add_neg, nI_pred]
    obtain ⟨s', a1, a2, a3, a4⟩ := qm_shft2 (h := h) (i := i) (n := n) (q := q) (kb := kb) L d fu p (dr_put s 62 (p + 1) (s.1 62 p)) (by omega) (by omega) (by omega)
    refine ⟨s', a1, a2, fun a ha => by rw [a3 a ha, q_putO ha], fun k => ?_⟩
    rw [a4 k, q_put1]
    by_cases z : k < i
    · rw [if_pos z, if_pos z, q_updO (by omega)]
    · rw [if_neg z, if_neg z]
      by_cases e : k = i
      · rw [if_pos e, if_pos e]
      · rw [if_neg e, if_neg e]
        by_cases w : k ≤ p
        · rw [if_pos w, if_pos (by omega), q_updO (by omega)]
        · rw [if_neg w]
          by_cases y : k = p + 1
          · rw [y, q_updS, if_pos (Nat.le_refl _)]
            rfl
          · rw [q_updO y, if_neg (by omega)]
theorem qm_cut {ln : Nat → Nat} {s : dr_S} {ru : List (Nat × Bool)} {l : List Nat} {h q n : Nat} {kb : Int32 → Int32 → dr_S → Option (Int32 × dr_S)} (L : dq_ML ln) (hr : rp_mru s ru) (hok : rl_ok ru) (hs : ∀ k, k < l.length → s.1 62 k = nI (l.getD k 0)) (hl : l.length ≤ 3600) (hh : h < 10000) (hlt : ∀ x ∈ l, x < 10000) : ∀ (fu i : Nat), i ≤ l.length → i < fu → f_X12_sorts_p22 ln kb fu (nI n) (nI q) (nI h) (nI i) s = f_X12_sorts_p50 ln kb (nI n) (nI q) (nI h) (nI (ct ru l h i)) s
  | 0, _, _, z => absurd z (Nat.not_lt_zero _)
  | fu + 1, 0, _, _ => by
    rw [f_X12_sorts_p22, if_pos (show nI 0 ≤ 0 by decide)]
    rfl
  | fu + 1, i + 1, hi, hf => by
    have hx := hlt (l.getD i 0) (by rw [gDe (show i < l.length by omega)]; exact List.getElem_mem _)
    rw [f_X12_sorts_p22, if_neg (nI_nle (by omega) (by omega)), nI_pred, m_rdb L 62 3600 rfl (by decide) (by decide) (by omega), hs i (by omega), qm_isAhead (qm_l L) hr hok hh hx, q_bi, ct]
    cases ha : sg_ah ru h (l.getD i 0) with
    | true =>
      rw [if_neg (show ¬ bI true = (0 : Int32) by decide), if_pos rfl, q_let, ← Int32.sub_eq_add_neg, nI_pred]
      exact qm_cut L hr hok hs hl hh hlt fu i (by omega) (by omega)
    | false =>
      rw [if_pos (show bI false = (0 : Int32) from rfl), if_neg (by decide)]
theorem qm_sorts_p {ln : Nat → Nat} {r : sg_R} {cards : List Nat} (hnj : rm_nj r ≤ 120) (hok : rl_ok (rm_ru r)) (hC : cards.length ≤ 3600) (hall : ∀ h ∈ cards, hf r h) : ∀ (k fu q : Nat) (s : dr_S) (l : List Nat), rp_M ln s r → cards.length = q + k → k < fu → s.2 1242 = nI cards.length → (∀ j, q ≤ j → j < cards.length → s.1 62 j = nI (cards.getD j 0)) → (∀ j, j < l.length → s.1 62 j = nI (l.getD j 0)) → l.length ≤ q → s_ok r l → ∃ s', f_X12_sorts_p4 ln fu (nI l.length) (nI q) s = some (0, s') ∧ lc_F s s' ∧ s'.2 1242 = nI ((cards.drop q).foldl (s_in (rm_ru r)) l).length ∧ ∀ j, j < ((cards.drop q).foldl (s_in (rm_ru r)) l).length → s'.1 62 j = nI (((cards.drop q).foldl (s_in (rm_ru r)) l).getD j 0)
  | k, 0, _, _, _, _, _, z, _, _, _, _, _ => absurd z (Nat.not_lt_zero _)
  | 0, fu + 1, q, s, l, hM, hk, hf, h2, hc, hp, hlq, hl => by
    rw [f_X12_sorts_p4, h2, if_pos (nI_le (by omega) (by omega)), q_letS, List.drop_eq_nil_of_le (by omega)]
    exact ⟨_, rfl, ⟨fun a _ => rfl, fun f hf => q_pfO hf⟩, q_pf2 _ _ _, hp⟩
  | k + 1, fu + 1, q, s, l, hM, hk, hf, h2, hc, hp, hlq, hl => by
    have L := mM_L hM
    have hlen := s_len hl
    obtain ⟨g, hg⟩ := at_some (l := cards) (i := q) (by omega)
    have hg2 := hall g (List.mem_of_getElem? hg)
    have eg : cards.getD q 0 = g := by rw [List.getD_eq_getElem?_getD, hg]; rfl
    rw [f_X12_sorts_p4, h2, if_neg (nI_ge (by omega) (by omega)), m_rdb L 62 3600 rfl (by decide) (by decide) (by omega), hc q (Nat.le_refl _) (by omega), eg, qm_cut L (mM_ru hM) hok hp (by omega) hg2.1 (fun x hx => (hl.2 x hx).1) dr_N l.length (Nat.le_refl _) (by unfold dr_N; omega), drop_at hg, List.foldl_cons]
    have hin := s_ok_in hl hg2
    have hct := ct_le (ru := rm_ru r) (l := l) (h := g) l.length
    unfold f_X12_sorts_p50
    have ih := fun s l => qm_sorts_p (ln := ln) hnj hok hC hall k fu (q + 1) s l
    unfold s_in at hin ⊢
    change s_ok r (if _ then _ else _) at hin
    rw [show ∀ a, List.foldl (fun l h => if 0 < ct (rm_ru r) l h l.length ∧ l.getD (ct (rm_ru r) l h l.length - 1) 0 = h then l else sg_ins l (ct (rm_ru r) l h l.length) h) a (cards.drop (q + 1)) = (cards.drop (q + 1)).foldl (s_in (rm_ru r)) a from fun _ => rfl]
    generalize ct (rm_ru r) l g l.length = i at *
    by_cases tw : 0 < i ∧ l.getD (i - 1) 0 = g
    · obtain ⟨j, ej⟩ : ∃ j, i = j + 1 := ⟨i - 1, by omega⟩
      rw [if_pos tw]
      subst ej
      have e := tw.2
      rw [Nat.add_sub_cancel] at e
      rw [if_neg (nI_nle (by omega) (by omega)), nI_pred, m_rdb L 62 3600 rfl (by decide) (by decide) (by omega), hp j (by omega), e, if_pos rfl]
      unfold f_X12_sorts_p114
      rw [q_let, nI_1]
      exact ih s l hM (by omega) (by omega) h2 (fun j h1 h3 => hc j (by omega) h3) hp (by omega) hl
    · rw [if_neg tw] at hin ⊢
      have goes : ∃ s', f_X12_sorts_p71 ln (f_X12_sorts_p4 ln fu) (nI l.length) (nI q) (nI g) (nI i) s = some (0, s') ∧ lc_F s s' ∧ s'.2 1242 = nI ((cards.drop (q + 1)).foldl (s_in (rm_ru r)) (sg_ins l i g)).length ∧ ∀ j, j < ((cards.drop (q + 1)).foldl (s_in (rm_ru r)) (sg_ins l i g)).length → s'.1 62 j = nI (((cards.drop (q + 1)).foldl (s_in (rm_ru r)) (sg_ins l i g)).getD j 0) := by
        unfold f_X12_sorts_p71
        obtain ⟨s1, a1, a2, a3, a4⟩ := qm_shft2 (h := g) (i := i) (n := l.length) (q := q) (kb := f_X12_sorts_p4 ln fu) L (l.length - i) dr_N l.length s (by omega) (by unfold dr_N; omega) (by omega)
        have F1 : lc_F s s1 := ⟨fun a ha => a3 a ha, fun f _ => by rw [a2]⟩
        obtain ⟨s2, b1, b2, b3, b4⟩ := ih s1 (sg_ins l i g) (lc_M F1 hM) (by omega) (by omega) (by rw [a2]; exact h2) (fun j h1 h3 => by rw [a4 j, if_neg (by omega), if_neg (by omega), if_neg (by omega)]; exact hc j (by omega) h3) (fun j hj => by
          rw [ins_len hct] at hj
          rw [a4 j, ins_get hct]
          by_cases z : j < i
          · rw [if_pos z, if_pos z, hp j (by omega)]
          · rw [if_neg z, if_neg z]
            by_cases e : j = i
            · rw [if_pos e, if_pos e]
            · rw [if_neg e, if_neg e, if_pos (by omega), hp (j - 1) (by omega)]) (by rw [ins_len hct]; omega) hin
        rw [ins_len hct] at b1
        exact ⟨s2, a1.trans b1, lc_tr F1 b2, b3, b4⟩
      by_cases e0 : i = 0
      · rw [if_pos (show nI i ≤ 0 by rw [e0]; decide)]
        exact goes
      · obtain ⟨j, ej⟩ : ∃ j, i = j + 1 := ⟨i - 1, by omega⟩
        rw [if_neg (nI_nle (by omega) (by omega)), show nI i - 1 = nI j by rw [ej, nI_pred], m_rdb L 62 3600 rfl (by decide) (by decide) (by omega), hp j (by omega), if_neg (show ¬ nI (l.getD j 0) = nI g from nI_lit (by
          have := (hl.2 (l.getD j 0) (by rw [gDe (show j < l.length by omega)]; exact List.getElem_mem _)).1
          omega) (by have := hg2.1; omega) (fun z => tw ⟨by omega, by rw [ej, Nat.add_sub_cancel]; exact z⟩))]
        exact goes

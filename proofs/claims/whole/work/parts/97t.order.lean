/-! 97t: the call order -/
theorem row_some {may : Nat → Nat → Bool} {m n S : Nat} (h : l_L may m (n + 1) S = true) : ∃ k, (List.range' 0 m).find? (fun k => may S k && l_L may m n (S ||| 2 ^ k)) = some k ∧ k < m ∧ may S k = true ∧ l_L may m n (S ||| 2 ^ k) = true := by
  rw [l_L, List.any_eq_true] at h
  obtain ⟨x, h1, h2⟩ := h
  cases hf : (List.range' 0 m).find? (fun k => may S k && l_L may m n (S ||| 2 ^ k)) with
  | none => exact absurd h2 (List.find?_eq_none.mp hf x h1)
  | some k =>
    have hk := (List.mem_range'_1.mp (List.mem_of_find?_eq_some hf)).2
    have hp := List.find?_some hf
    rw [Bool.and_eq_true] at hp
    exact ⟨k, rfl, by omega, hp.1, hp.2⟩
theorem row_len {may : Nat → Nat → Bool} {m : Nat} : ∀ (n S : Nat), l_L may m n S = true → (l_row may m n S).length = n
  | 0, _, _ => rfl
  | n + 1, S, h => by
    obtain ⟨k, h1, h2, h3, h4⟩ := row_some h
    rw [l_row, h1]
    show (l_row may m n (S ||| 2 ^ k)).length + 1 = n + 1
    rw [row_len n _ h4]
theorem qm_order_i {ln : Nat → Nat} {s : dr_S} {r : sg_R} {J : List Nat} {S n k0 : Nat} {x2 x5 : Int32} {kb : Int32 → Int32 → Int32 → Int32 → dr_S → Option (Int32 × dr_S)} (hM : rp_M ln s r) (hnj : rm_nj r ≤ 120) (hti : rm_ti r < 2 ^ 30) (hT : lm_C s J) (hJ : l_ok r J) (hl : ld_ok s r J 0) (hS : S < 2 ^ J.length) (hn : cm S J.length = n + 1) (hk0 : k0 < J.length) : ∀ (j fu i : Nat), J.length = i + j → j < fu → (List.range' i j).find? (fun k => l_mr r J S k && l_L (l_mr r J) J.length n (S ||| 2 ^ k)) = some k0 → f_X12_order_p42 ln kb fu x2 (nI S) x5 (nI i) s = kb x2 (nI (S ||| 2 ^ k0)) (nI (J.getD k0 0)) (x5 + 1) s
  | j, 0, _, _, q, _ => absurd q (Nat.not_lt_zero _)
  | 0, fu + 1, i, hi, hf, he => by cases he
  | j + 1, fu + 1, i, hi, hf, he => by
    have h9 := hJ.1
    have h5 := p2_le hJ.1
    have L := mM_L hM
    have hSS : S < 512 := by omega
    have hilt : i < J.length := by omega
    rw [List.range'_succ, List.find?_cons] at he
    have ih := qm_order_i (x2 := x2) (x5 := x5) (kb := kb) hM hnj hti hT hJ hl hS hn hk0 j fu (i + 1) (by omega) (by omega)
    rw [f_X12_order_p42, qm_may hM hnj hti hT hJ hSS hilt, q_bi]
    unfold f_X12_order_p66
    cases hm : l_mr r J S i with
    | false =>
      rw [if_pos (show bI false = (0 : Int32) from rfl), q_let, nI_1]
      rw [hm] at he
      exact ih he
    | true =>
      have hb : S.testBit i = false := by
        cases q : S.testBit i
        · rfl
        · unfold l_mr at hm
          rw [q] at hm
          cases hm
      have hcm : cm (S ||| 2 ^ i) J.length = n := by
        have := cm_or hb J.length hilt
        omega
      have hlt := or_lt hS hilt
      rw [if_neg (show ¬ bI true = (0 : Int32) by decide), b_or hSS (show i < 9 by omega), m_rdb L 64 512 rfl (by decide) (by decide) (by omega), hl _ (Nat.zero_le _) hlt, hcm]
      cases hL : l_L (l_mr r J) J.length n (S ||| 2 ^ i) with
      | false =>
        rw [if_pos (show bI false = (0 : Int32) from rfl), q_let, nI_1]
        rw [hm, hL] at he
        exact ih he
      | true =>
        rw [if_neg (show ¬ bI true = (0 : Int32) by decide), q_let, m_rdb L 63 9 rfl (by decide) (by decide) (by omega), hT.2 i hilt, q_let]
        rw [hm, hL] at he
        have he : some i = some k0 := he
        cases he
        rfl
theorem qm_order_p {ln : Nat → Nat} {s : dr_S} {r : sg_R} {J : List Nat} {q : Nat} (hM : rp_M ln s r) (hnj : rm_nj r ≤ 120) (hti : rm_ti r < 2 ^ 30) (hT : lm_C s J) (hJ : l_ok r J) (hl : ld_ok s r J 0) (hq : q < J.length) : ∀ (n fu S i : Nat) (x : Int32), J.length = i + n → n < fu → S < 2 ^ J.length → cm S J.length = n → l_L (l_mr r J) J.length n S = true → (i ≤ q + 1) → ∃ v, f_X12_order_p33 ln fu (nI q) (nI S) x (nI i) s = some (v, s) ∧ (q < i → v = x) ∧ (∀ g, (l_row (l_mr r J) J.length n S)[q - i]? = some g → i ≤ q → v = nI (J.getD g 0))
  | n, 0, _, _, _, _, z, _, _, _, _ => absurd z (Nat.not_lt_zero _)
  | 0, fu + 1, S, i, x, hi, hf, hS, hn, hL, hiq => by
    have h9 := hJ.1
    rw [f_X12_order_p33, if_pos (nI_lt (by omega) (by omega))]
    exact ⟨x, rfl, fun _ => rfl, fun g hg z => by omega⟩
  | n + 1, fu + 1, S, i, x, hi, hf, hS, hn, hL, hiq => by
    have h9 := hJ.1
    rw [f_X12_order_p33]
    by_cases e : q < i
    · rw [if_pos (nI_lt e (by omega))]
      exact ⟨x, rfl, fun _ => rfl, fun g hg z => by omega⟩
    · obtain ⟨k0, h1, h2, h3, h4⟩ := row_some hL
      have hb : S.testBit k0 = false := by
        cases z : S.testBit k0
        · rfl
        · unfold l_mr at h3
          rw [z] at h3
          cases h3
      have hcm : cm (S ||| 2 ^ k0) J.length = n := by
        have := cm_or hb J.length h2
        omega
      rw [if_neg (nI_nlt (by omega) (by omega)), show f_X12_order_p42 ln (f_X12_order_p33 ln fu) dr_N (nI q) (nI S) (nI i) 0 s = _ from qm_order_i (x2 := nI q) (x5 := nI i) (kb := f_X12_order_p33 ln fu) hM hnj hti hT hJ hl hS hn h2 J.length dr_N 0 (by omega) (by unfold dr_N; omega) h1, nI_1]
      obtain ⟨v, a1, a2, a3⟩ := qm_order_p hM hnj hti hT hJ hl hq n fu (S ||| 2 ^ k0) (i + 1) (nI (J.getD k0 0)) (by omega) (by omega) (or_lt hS h2) hcm h4 (by omega)
      refine ⟨v, a1, fun z => absurd z e, fun g hg z => ?_⟩
      rw [l_row, h1] at hg
      have hg : (k0 :: l_row (l_mr r J) J.length n (S ||| 2 ^ k0))[q - i]? = some g := hg
      by_cases e2 : q = i
      · rw [e2, Nat.sub_self] at hg
        cases hg
        exact a2 (by omega)
      · rw [show q - i = (q - (i + 1)) + 1 by omega, List.getElem?_cons_succ] at hg
        exact a3 g hg (by omega)
theorem ok_order {ln : Nat → Nat} {s : dr_S} {r : sg_R} (h : rr ln s r) (hti : rm_ti r < 2 ^ 30) (x y : Int32) : call_ok ln (f_X11_order ln x y) (f_X12_order ln x y) s r := by
  have h0 := h
  obtain ⟨hC, hM, ⟨hiv, hi2⟩, h204, h203⟩ := h
  have hiv0 := hiv
  obtain ⟨rk, t, st, hp, hT, hcn⟩ := hiv
  have hv := st.2.2.2.2.2.2
  have hnj := st.1.2.2.1
  rcases hd_cases x with q | ⟨g, hg, eg, qg⟩
  · refine call_ro h0 (-1) ?_ ?_
    · unfold f_X11_order
      rw [(q ln s).1, q_bi, if_pos rfl]
    · unfold f_X12_order f_X12_line
      rw [(q ln s).2, q_bi, if_pos rfl, q_bi, if_neg (by decide)]
  · obtain ⟨s1, a1, a2, a3⟩ := q7_judge hC hg hti hnj hv
    have e11 : f_X11_order ln x y s = (if jd r g = 1 then dr_bnd (f_X7_kthOfRow ln y s1) (fun r6 s5 => some (r6, s5)) else some ((-1), s1)) := by
      unfold f_X11_order
      rw [(qg ln s).1, q_bi, if_neg (by decide), eg, a1, q_bi]
    have e12 : ∀ s', rp_M ln s' r → ∃ s2, f_X12_order ln x y s' = (if jr r g = 1 then dr_bnd (f_X12_in ln y 0 (((s2.2 1244) - 1)) s2) (fun r4 s3 => (if r4 = 0 then some ((-1), s3) else (f_X12_order_p33 ln dr_N y 0 ((-1)) 0 s3))) else some ((-1), s2)) ∧ lm_F s' s2 ∧ ∀ J, l_ask r g (rm_nj r) 0 [] = some J → lm_C s2 J ∧ ld_ok s2 r J 0 := by
      intro s' hM'
      obtain ⟨s2, b1, b2, b3⟩ := qm_line hM' hg hti hnj hv
      refine ⟨s2, ?_, b2, b3⟩
      unfold f_X12_order
      rw [eg, b1, q_bi]
    by_cases e1 : jd r g = 1
    · rw [if_pos e1] at e11
      have e1' : jr r g = 1 := by rw [← jd_jr hv]; exact e1
      cases hA : l_ask r g (rm_nj r) 0 [] with
      | none =>
        exfalso
        unfold jd at e1
        rw [hA] at e1
        have e1 : (-1 : Int32) = 1 := e1
        exact absurd e1 (by decide)
      | some J =>
        have hJ : l_ok r J := l_ask_ok hv (rm_nj r) 0 [] J (by omega) ⟨Nat.zero_le _, fun k hk => absurd hk (Nat.not_lt_zero _)⟩ hA
        have h9 := hJ.1
        have hL : l_L (l_mc r J) J.length J.length 0 = true := by
          unfold jd at e1
          rw [hA] at e1
          have e1 : bI (l_L (l_mc r J) J.length J.length 0) = 1 := e1
          cases hl : l_L (l_mc r J) J.length J.length 0
          · rw [hl] at e1
            revert e1
            decide
          · rfl
        obtain ⟨c1, c2⟩ := a3 J hA
        have c2 := c2 hL
        rcases in_pred y J.length (by omega) with ⟨gy, g2⟩ | ⟨j, hj, ej, g2⟩
        · have v11 : f_X11_order ln x y s = some (-1, s1) := by
            rw [e11]
            unfold f_X7_kthOfRow
            rcases gy with gy | gy
            · rw [if_pos gy, q_bi]
            · rw [if_neg (nI_gex (n := J.length) (by omega) gy), c1, if_pos gy, q_bi]
          refine call_mk h0 v11 (lq_dc a2) (lq_C hC a2) (fun hM1 => ?_) ⟨hiv0, hi2⟩
          obtain ⟨s2, b1, b2, b3⟩ := e12 s1 hM1
          obtain ⟨d1, d2⟩ := b3 J hA
          rw [if_pos e1', d1.1, g2 ln s2, q_bi, if_pos rfl] at b1
          exact ⟨s2, b1, lm_dm b2, lm_M hM1 b2⟩
        · have hrow : (l_row (l_mc r J) J.length J.length 0).length = J.length := row_len _ _ hL
          obtain ⟨w, hw⟩ := at_some (l := l_row (l_mc r J) J.length J.length 0) (i := j) (by omega)
          have l25 := hC.2.1.2.2.2.2.1 25 (by omega) (by omega)
          have v11 : f_X11_order ln x y s = some (nI (J.getD w 0), s1) := by
            rw [e11]
            unfold f_X7_kthOfRow
            rw [ej, if_neg (nI_pos (by omega)), c1, if_neg (nI_ge hj (by omega)), if_neg (show ¬ (9 : Int32) ≤ nI j from nI_ge (b := 9) (by omega) (by omega)), q_rd (by omega) (by omega), Option.bind_some, q_bi, c2 j w hw]
          refine call_mk h0 v11 (lq_dc a2) (lq_C hC a2) (fun hM1 => ?_) ⟨hiv0, hi2⟩
          obtain ⟨s2, b1, b2, b3⟩ := e12 s1 hM1
          obtain ⟨d1, d2⟩ := b3 J hA
          have hM2 := lm_M hM1 b2
          rw [if_pos e1', d1.1, g2 ln s2, q_bi, if_neg (by decide)] at b1
          rw [(l_eq hJ J.length).1] at hL
          rw [(l_eq hJ J.length).2] at hw
          obtain ⟨v, f1, f2, f3⟩ := qm_order_p (ln := ln) (q := j) hM2 hnj hti d1 hJ d2 hj J.length dr_N 0 0 (-1) (by omega) (by unfold dr_N; omega) (p2_pos _) (cm_0 _) hL (by omega)
          have hvv := f3 w (by rw [Nat.sub_zero]; exact hw) (Nat.zero_le _)
          refine ⟨s2, ?_, lm_dm b2, hM2⟩
          rw [b1, ej, ← hvv]
          exact f1
    · rw [if_neg e1] at e11
      refine call_mk h0 e11 (lq_dc a2) (lq_C hC a2) (fun hM1 => ?_) ⟨hiv0, hi2⟩
      obtain ⟨s2, b1, b2, b3⟩ := e12 s1 hM1
      rw [if_neg (by rw [← jd_jr hv]; exact e1)] at b1
      exact ⟨s2, b1, lm_dm b2, lm_M hM1 b2⟩

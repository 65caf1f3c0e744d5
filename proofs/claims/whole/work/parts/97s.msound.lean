/-! 97s: the orders of the answers, of the reference -/
theorem any_mono {f : Nat → Bool} {i j : Nat} (h : (List.range' 0 i).any f = true) (hij : i ≤ j) : (List.range' 0 j).any f = true := by
  rw [List.any_eq_true] at h ⊢
  obtain ⟨x, h1, h2⟩ := h
  refine ⟨x, List.mem_range'_1.mpr ?_, h2⟩
  have := List.mem_range'_1.mp h1
  omega
theorem any_s {f : Nat → Bool} {i : Nat} : (List.range' 0 (i + 1)).any f = ((List.range' 0 i).any f || f i) := by
  rw [List.range'_1_concat, List.any_append, Nat.zero_add]
  show ((List.range' 0 i).any f || (f i || false)) = _
  rw [Bool.or_false]
/-- which sets lead on, as far down as k -/
def ld_ok (s : dr_S) (r : sg_R) (J : List Nat) (k : Nat) : Prop := ∀ T, k ≤ T → T < 2 ^ J.length → s.1 64 T = bI (l_L (l_mr r J) J.length (cm T J.length) T)
def l64 (s s1 : dr_S) : Prop := (∀ a, a ≠ 64 → s1.1 a = s.1 a) ∧ s1.2 = s.2
theorem l64_rf (s : dr_S) : l64 s s := ⟨fun _ _ => rfl, rfl⟩
theorem l64_tr {s s1 s2 : dr_S} (h1 : l64 s s1) (h2 : l64 s1 s2) : l64 s s2 := ⟨fun a x => (h2.1 a x).trans (h1.1 a x), h2.2.trans h1.2⟩
theorem l64_lm {s s1 : dr_S} (h : l64 s s1) : lm_F s s1 := ⟨fun a _ y => h.1 a y, fun f _ => by rw [h.2]⟩
theorem l64_T {s s1 : dr_S} {J : List Nat} (h : l64 s s1) (hT : lm_C s J) : lm_C s1 J := by
  unfold lm_C
  rw [h.2, h.1 63 (by decide)]
  exact hT
theorem bI_nar (b : Bool) : vp_nar .boolean (bI b) = bI b := by cases b <;> rfl
theorem qm_sound_i {ln : Nat → Nat} {r : sg_R} {J : List Nat} {S n : Nat} {kb : Int32 → dr_S → Option (Int32 × dr_S)} (hnj : rm_nj r ≤ 120) (hti : rm_ti r < 2 ^ 30) (hJ : l_ok r J) (hS : S < 2 ^ J.length) (hn : cm S J.length = n + 1) : ∀ (j fu i : Nat) (s : dr_S), J.length = i + j → j < fu → rp_M ln s r → lm_C s J → ld_ok s r J (S + 1) → s.1 64 S = bI ((List.range' 0 i).any (fun k => l_mr r J S k && l_L (l_mr r J) J.length n (S ||| 2 ^ k))) → ∃ s', f_X12_isSound_p34 ln kb fu (nI S) (nI i) s = kb (nI S + (-1)) s' ∧ l64 s s' ∧ ld_ok s' r J S
  | j, 0, _, _, _, q, _, _, _, _ => absurd q (Nat.not_lt_zero _)
  | 0, fu + 1, i, s, hi, hf, hM, hT, hl, hv => by
    have := hJ.1
    have e : i = J.length := by omega
    rw [f_X12_isSound_p34, hT.1, if_pos (nI_le (by omega) (by omega))]
    unfold f_X12_isSound_p93
    refine ⟨s, rfl, l64_rf s, fun T h1 h2 => ?_⟩
    by_cases q : T = S
    · rw [q, hv, hn, l_L, e]
    · exact hl T (by omega) h2
  | j + 1, fu + 1, i, s, hi, hf, hM, hT, hl, hv => by
    have h9 := hJ.1
    have h5 := p2_le hJ.1
    have L := mM_L hM
    have hSS : S < 512 := by omega
    have hilt : i < J.length := by omega
    rw [f_X12_isSound_p34, hT.1, if_neg (nI_ge (by omega) (by omega)), m_rdb L 64 512 rfl (by decide) (by decide) hSS, hv]
    cases ha : (List.range' 0 i).any (fun k => l_mr r J S k && l_L (l_mr r J) J.length n (S ||| 2 ^ k)) with
    | true =>
      rw [if_neg (show ¬ bI true = (0 : Int32) by decide)]
      unfold f_X12_isSound_p93
      refine ⟨s, rfl, l64_rf s, fun T h1 h2 => ?_⟩
      by_cases q : T = S
      · rw [q, hv, hn, l_L, ha, any_mono ha (by omega)]
      · exact hl T (by omega) h2
    | false =>
      rw [if_pos (show bI false = (0 : Int32) from rfl), qm_may hM hnj hti hT hJ hSS hilt, q_bi]
      -- the next one
      have next : ∀ b : Bool, (l_mr r J S i && l_L (l_mr r J) J.length n (S ||| 2 ^ i)) = b → ∃ s', f_X12_isSound_p86 ln kb (f_X12_isSound_p34 ln kb fu) (nI S) (nI i) (bI b) (nI S) s = kb (nI S + (-1)) s' ∧ l64 s s' ∧ ld_ok s' r J S := by
        intro b hb
        unfold f_X12_isSound_p86
        rw [m_wzb L 64 512 rfl (by decide) (by decide) hSS, q_let, nI_1, bI_nar]
        have F : l64 s (dr_put s 64 S (bI b)) := ⟨fun a x => q_putO x, rfl⟩
        obtain ⟨s', a1, a2, a3⟩ := qm_sound_i (kb := kb) hnj hti hJ hS hn j fu (i + 1) (dr_put s 64 S (bI b)) (by omega) (by omega) (lm_M hM (l64_lm F)) (l64_T F hT) (fun T h1 h2 => by rw [q_put1, q_updO (by omega)]; exact hl T h1 h2) (by rw [q_put1, q_updS, any_s, ha, Bool.false_or, hb])
        exact ⟨s', a1, l64_tr F a2, a3⟩
      cases hm : l_mr r J S i with
      | false =>
        rw [if_pos (show bI false = (0 : Int32) from rfl)]
        unfold f_X12_isSound_p85
        exact next false (by rw [hm]; rfl)
      | true =>
        have hb : S.testBit i = false := by
          cases q : S.testBit i
          · rfl
          · unfold l_mr at hm
            rw [q] at hm
            cases hm
        have hcm : cm (S ||| 2 ^ i) J.length = n := by
          have := cm_or hb J.length hilt
          omega
        have hlt := or_lt hS hilt
        have hgt := or_gt hb
        rw [if_neg (show ¬ bI true = (0 : Int32) by decide), b_or hSS (show i < 9 by omega), m_rdb L 64 512 rfl (by decide) (by decide) (by omega), hl _ (by omega) hlt, hcm]
        cases hL : l_L (l_mr r J) J.length n (S ||| 2 ^ i) with
        | false =>
          rw [if_pos (show bI false = (0 : Int32) from rfl)]
          unfold f_X12_isSound_p85
          exact next false (by rw [hm, hL]; rfl)
        | true =>
          rw [if_neg (show ¬ bI true = (0 : Int32) by decide)]
          exact next true (by rw [hm, hL]; rfl)
theorem qm_sound_p {ln : Nat → Nat} {r : sg_R} {J : List Nat} (hnj : rm_nj r ≤ 120) (hti : rm_ti r < 2 ^ 30) (hJ : l_ok r J) : ∀ (k fu : Nat) (s : dr_S), k < fu → k + 1 ≤ 2 ^ J.length → rp_M ln s r → lm_C s J → ld_ok s r J k → ∃ s', f_X12_isSound_p20 ln fu (nI k - 1) s = some (bI (l_L (l_mr r J) J.length J.length 0), s') ∧ l64 s s' ∧ ld_ok s' r J 0
  | k, 0, _, q, _, _, _, _ => absurd q (Nat.not_lt_zero _)
  | 0, fu + 1, s, hf, hk, hM, hT, hl => by
    have L := mM_L hM
    rw [f_X12_isSound_p20, if_pos (show nI 0 - 1 < 0 by decide), show (0 : Int32) = nI 0 from rfl, m_rdb L 64 512 rfl (by decide) (by decide) (by omega), hl 0 (Nat.le_refl _) (p2_pos _), cm_0]
    refine ⟨s, ?_, l64_rf s, hl⟩
    unfold dr_rz
    cases l_L (l_mr r J) J.length J.length 0 <;> rfl
  | k + 1, fu + 1, s, hf, hk, hM, hT, hl => by
    have L := mM_L hM
    have h5 := p2_le hJ.1
    have h9 := hJ.1
    rw [f_X12_isSound_p20, nI_pred, if_neg (nI_pos (by omega)), m_wzb L 64 512 rfl (by decide) (by decide) (by omega)]
    have F : l64 s (dr_put s 64 k (vp_nar .boolean 0)) := ⟨fun a x => q_putO x, rfl⟩
    have hz : cm k J.length ≠ 0 := fun q => by
      have := cm_all (S := k) (m := J.length) (by omega) q
      omega
    obtain ⟨n, hn⟩ : ∃ n, cm k J.length = n + 1 := ⟨cm k J.length - 1, by omega⟩
    obtain ⟨s1, a1, a2, a3⟩ := qm_sound_i (kb := f_X12_isSound_p20 ln fu) hnj hti hJ (S := k) (by omega) hn J.length dr_N 0 (dr_put s 64 k (vp_nar .boolean 0)) (by omega) (by unfold dr_N; omega) (lm_M hM (l64_lm F)) (l64_T F hT) (fun T h1 h2 => by rw [q_put1, q_updO (by omega)]; exact hl T h1 h2) (by rw [q_put1, q_updS]; rfl)
    have F1 := l64_tr F a2
    obtain ⟨s2, b1, b2, b3⟩ := qm_sound_p hnj hti hJ k fu s1 (by omega) (by omega) (lm_M hM (l64_lm F1)) (l64_T F1 hT) a3
    refine ⟨s2, ?_, l64_tr F1 b2, b3⟩
    rw [show f_X12_isSound_p34 ln (f_X12_isSound_p20 ln fu) dr_N (nI k) 0 (dr_put s 64 k (vp_nar .boolean 0)) = _ from a1, ← Int32.sub_eq_add_neg, b1]
theorem qm_sound {ln : Nat → Nat} {s : dr_S} {r : sg_R} {J : List Nat} {x : Int32} (hnj : rm_nj r ≤ 120) (hti : rm_ti r < 2 ^ 30) (hJ : l_ok r J) (hM : rp_M ln s r) (hT : lm_C s J) : ∃ s', f_X12_isSound ln x s = some (bI (l_L (l_mr r J) J.length J.length 0), s') ∧ l64 s s' ∧ ld_ok s' r J 0 := by
  have L := mM_L hM
  have h5 := p2_le hJ.1
  have hp := p2_pos J.length
  unfold f_X12_isSound
  rw [hT.1, b_all hJ.1, q_let, m_wzb L 64 512 rfl (by decide) (by decide) (by omega), q_let]
  have F : l64 s (dr_put s 64 (2 ^ J.length - 1) (vp_nar .boolean 1)) := ⟨fun a x => q_putO x, rfl⟩
  obtain ⟨s1, a1, a2, a3⟩ := qm_sound_p (ln := ln) hnj hti hJ (2 ^ J.length - 1) dr_N (dr_put s 64 (2 ^ J.length - 1) (vp_nar .boolean 1)) (by unfold dr_N; omega) (by omega) (lm_M hM (l64_lm F)) (l64_T F hT) (fun T h1 h2 => by
    rw [show T = 2 ^ J.length - 1 by omega, q_put1, q_updS, cm_full _ (Nat.le_refl _), l_L]
    rfl)
  exact ⟨s1, a1, l64_tr F a2, a3⟩
def jr (r : sg_R) (h : Nat) : Int32 := match l_ask r h (rm_nj r) 0 [] with
  | none => -1
  | some J => bI (l_L (l_mr r J) J.length J.length 0)
theorem jd_jr {r : sg_R} {h : Nat} (hv : ∀ i, i < rm_nj r → iv_jb (rm_ti r) (rm_jb r i)) : jd r h = jr r h := by
  unfold jd jr
  cases hA : l_ask r h (rm_nj r) 0 [] with
  | none => rfl
  | some J =>
    have hJ : l_ok r J := l_ask_ok hv (rm_nj r) 0 [] J (by omega) ⟨Nat.zero_le _, fun k hk => absurd hk (Nat.not_lt_zero _)⟩ hA
    show bI _ = bI _
    rw [(l_eq hJ J.length).1]
theorem qm_line {ln : Nat → Nat} {s : dr_S} {r : sg_R} {h : Nat} (hM : rp_M ln s r) (hh : h < 10000) (hti : rm_ti r < 2 ^ 30) (hnj : rm_nj r ≤ 120) (hv : ∀ i, i < rm_nj r → iv_jb (rm_ti r) (rm_jb r i)) : ∃ s1, f_X12_line ln (nI h) s = some (jr r h, s1) ∧ lm_F s s1 ∧ ∀ J, l_ask r h (rm_nj r) 0 [] = some J → lm_C s1 J ∧ ld_ok s1 r J 0 := by
  obtain ⟨s1, a1, a2, a3⟩ := qm_can hM hh hti hnj hv
  have eh : f_X12_isHeading ln (nI h) s = some (1, s) := by
    rcases hd_cases (nI h) with q | ⟨g, hg, eg, qg⟩
    · exfalso
      have q2 := (q ln s).2
      unfold f_X12_isHeading f_X12_in at q2
      rw [if_neg (nI_pos (by omega)), if_neg (show ¬ (9999 : Int32) < nI h from nI_nlt (a := 9999) (by omega) (by omega))] at q2
      revert q2
      show ¬ (some ((1 : Int32), s) = some (0, s))
      intro q3
      cases q3
    · exact (qg ln s).2
  unfold f_X12_line jr
  rw [eh, q_bi, if_neg (by decide), a1, q_bi]
  cases hA : l_ask r h (rm_nj r) 0 [] with
  | none =>
    rw [show bI (none : Option (List Nat)).isSome = (0 : Int32) from rfl, if_pos rfl]
    exact ⟨s1, rfl, a2, fun J e => by cases e⟩
  | some J =>
    have hJ : l_ok r J := l_ask_ok hv (rm_nj r) 0 [] J (by omega) ⟨Nat.zero_le _, fun k hk => absurd hk (Nat.not_lt_zero _)⟩ hA
    have T := a3 J hA
    rw [if_neg (show ¬ bI (some J).isSome = (0 : Int32) by show ¬ (1 : Int32) = 0; decide)]
    obtain ⟨s2, b1, b2, b3⟩ := qm_sound (x := nI h) hnj hti hJ (lm_M hM a2) T
    rw [b1, q_bi]
    refine ⟨s2, ?_, lm_tr a2 (l64_lm b2), fun J' e => ?_⟩
    · show (if bI (l_L (l_mr r J) J.length J.length 0) = 0 then some (0, s2) else some (1, s2)) = some (bI (l_L (l_mr r J) J.length J.length 0), s2)
      cases l_L (l_mr r J) J.length J.length 0 <;> rfl
    · cases e
      exact ⟨l64_T b2 T, b3⟩
theorem ok_line {ln : Nat → Nat} {s : dr_S} {r : sg_R} (h : rr ln s r) (hti : rm_ti r < 2 ^ 30) (x : Int32) : call_ok ln (f_X11_line ln x) (f_X12_line ln x) s r := by
  have h0 := h
  obtain ⟨hC, hM, ⟨hiv, hi2⟩, h204, h203⟩ := h
  have hiv0 := hiv
  obtain ⟨rk, t, st, hp, hT, hcn⟩ := hiv
  have hv := st.2.2.2.2.2.2
  have hnj := st.1.2.2.1
  rcases hd_cases x with q | ⟨g, hg, eg, qg⟩
  · refine call_ro h0 (-1) ?_ ?_
    · unfold f_X11_line
      rw [(q ln s).1, q_bi, if_pos rfl]
    · unfold f_X12_line
      rw [(q ln s).2, q_bi, if_pos rfl]
  · obtain ⟨s1, a1, a2, a3⟩ := q7_judge hC hg hti hnj hv
    have v11 : f_X11_line ln x s = some (jd r g, s1) := by
      unfold f_X11_line
      rw [(qg ln s).1, q_bi, if_neg (by decide), eg, a1, q_bi]
    refine call_mk h0 v11 (lq_dc a2) (lq_C hC a2) (fun hM1 => ?_) ⟨hiv0, hi2⟩
    obtain ⟨s2, b1, b2, b3⟩ := qm_line hM1 hg hti hnj hv
    exact ⟨s2, by rw [eg, b1, jd_jr hv], lm_dm b2, lm_M hM1 b2⟩

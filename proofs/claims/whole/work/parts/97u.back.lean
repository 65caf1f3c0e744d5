/-! 97u: taking steps back, of the class -/
def ag (n : Nat) (m m' : Nat → Int32) : Prop := ∀ p, p < n → m p = m' p
theorem ag_rf (n : Nat) (m : Nat → Int32) : ag n m m := fun _ _ => rfl
theorem ag_tr {n : Nat} {m m1 m2 : Nat → Int32} (h1 : ag n m m1) (h2 : ag n m1 m2) : ag n m m2 := fun p hp => (h1 p hp).trans (h2 p hp)
theorem un_ag {n : Nat} {pl bf : Nat → Int32} {mark : Nat} : ∀ (k : Nat) (g g' : Nat → Int32), ag n g g' → ag n (dq_un pl bf mark k g) (dq_un pl bf mark k g')
  | 0, _, _, h => h
  | k + 1, g, g', h => by
    rw [dq_un, dq_un]
    split
    · exact h
    · refine un_ag k _ _ (fun p hp => ?_)
      by_cases e : p = (pl k).toNatClampNeg
      · rw [e, q_updS, q_updS]
      · rw [q_updO e, q_updO e]
        exact h p hp
theorem un_self {pl bf : Nat → Int32} {g : Nat → Int32} : ∀ j, dq_un pl bf j j g = g
  | 0 => rfl
  | j + 1 => by rw [dq_un, if_pos (Nat.lt_succ_self _)]
theorem un_comp {pl bf : Nat → Int32} {mark j : Nat} (hm : mark ≤ j) : ∀ (k : Nat) (g : Nat → Int32), j ≤ k → dq_un pl bf mark k g = dq_un pl bf mark j (dq_un pl bf j k g)
  | 0, g, h => by
    have e : j = 0 := by omega
    rw [e]
    rfl
  | k + 1, g, h => by
    by_cases e : j = k + 1
    · rw [e, un_self]
    · rw [dq_un, if_neg (by omega), un_comp hm k _ (by omega)]
      conv => rhs; rw [dq_un, if_neg (show ¬ k < j by omega)]
theorem q2_back_p {ln : Nat → Nat} {mark : Nat} (hL : dq_L ln) : ∀ (d fu j : Nat) (s : dr_S), j = mark + d → d < fu → j ≤ 1024 → s.2 203 = nI j → (∀ i, i < j → ¬ s.1 15 i < 0) → ∃ s', f_X2_takeBack_p13 ln fu (nI mark) (nI j - 1) s = some (0, s') ∧ s'.2 203 = nI mark ∧ s'.2 204 = (if mark = 0 then 0 else 1) ∧ (∀ a, a ≠ 14 → s'.1 a = s.1 a) ∧ (∀ f, f ≠ 203 → f ≠ 204 → s'.2 f = s.2 f) ∧ ag (ln 14) (s'.1 14) (dq_un (s.1 15) (s.1 16) mark j (s.1 14))
  | d, 0, _, _, _, q, _, _, _ => absurd q (Nat.not_lt_zero _)
  | 0, fu + 1, j, s, hj, hf, h4, h203, hnn => by
    have e : j = mark := by omega
    have hlt : nI j - 1 < nI mark := by
      rw [e]
      cases mark with
      | zero => decide
      | succ k => rw [nI_pred]; exact nI_lt (by omega) (by omega)
    rw [f_X2_takeBack_p13, if_pos hlt]
    unfold f_X2_takeBack_p65
    rw [h203, e, un_self]
    by_cases z : mark = 0
    · rw [if_pos (show nI mark ≤ 0 by rw [z]; decide), q_letS, if_pos z]
      exact ⟨_, rfl, by rw [q_pfO (by decide), h203, e], q_pf2 _ _ _, fun a _ => rfl, fun f _ h => q_pfO h, ag_rf _ _⟩
    · rw [if_neg (show ¬ nI mark ≤ 0 from nI_nle (by omega) (by omega)), q_letS, if_neg z]
      exact ⟨_, rfl, by rw [q_pfO (by decide), h203, e], q_pf2 _ _ _, fun a _ => rfl, fun f _ h => q_pfO h, ag_rf _ _⟩
  | d + 1, fu + 1, j, s, hj, hf, h4, h203, hnn => by
    obtain ⟨h14, h15, h16⟩ := hL
    obtain ⟨k, ek⟩ : ∃ k, j = k + 1 := ⟨j - 1, by omega⟩
    subst ek
    obtain ⟨p, hp, ep⟩ := nI_of (hnn k (by omega))
    rw [f_X2_takeBack_p13, nI_pred, if_neg (nI_nlt (by omega) (by omega)), if_neg (nI_pos (by omega)), q_rd (by omega) (by omega), Option.bind_some, ep, if_neg (nI_pos hp)]
    unfold f_X2_takeBack_p54
    rw [dq_un, if_neg (show ¬ k < mark by omega), ep, nI_clamp hp]
    by_cases z : p < ln 14
    · rw [if_neg (show ¬ Int32.ofNat (ln 14) ≤ nI p from nI_ge z (by omega)), q_rd (by omega) (by omega), Option.bind_some, q_wr z (by omega), Option.bind_some, q_letS, q_let, ← Int32.sub_eq_add_neg]
      obtain ⟨s', a1, a2, a3, a4, a5, a6⟩ := q2_back_p (mark := mark) ⟨h14, h15, h16⟩ d fu k (dr_pf (dr_put s 14 p (s.1 16 k)) 203 (nI k)) (by omega) (by omega) (by omega) (q_pf2 _ _ _) (fun i hi => by rw [q_pf1, q_putO (by decide)]; exact hnn i (by omega))
      refine ⟨s', a1, a2, a3, fun a h => by rw [a4 a h, q_pf1, q_putO h], fun f h1 h2 => by rw [a5 f h1 h2, q_pfO h1]; rfl, ?_⟩
      rw [q_pf1, q_putO (by decide), q_putO (by decide), q_put1] at a6
      exact a6
    · rw [if_pos (show Int32.ofNat (ln 14) ≤ nI p from nI_le (by omega) hp), q_letS, q_let, ← Int32.sub_eq_add_neg]
      obtain ⟨s', a1, a2, a3, a4, a5, a6⟩ := q2_back_p (mark := mark) ⟨h14, h15, h16⟩ d fu k (dr_pf s 203 (nI k)) (by omega) (by omega) (by omega) (q_pf2 _ _ _) (fun i hi => hnn i (by omega))
      refine ⟨s', a1, a2, a3, fun a h => a4 a h, fun f h1 h2 => by rw [a5 f h1 h2, q_pfO h1], ag_tr a6 (un_ag k _ _ (fun q hq => ?_))⟩
      rw [q_updO (by omega)]
      rfl
theorem q2_back {ln : Nat → Nat} {mark j : Nat} {s : dr_S} (hL : dq_L ln) (hm : mark ≤ j) (h4 : j ≤ 1024) (h203 : s.2 203 = nI j) (hnn : ∀ i, i < j → ¬ s.1 15 i < 0) : ∃ s', f_X2_takeBack ln (nI mark) s = some (0, s') ∧ s'.2 203 = nI mark ∧ s'.2 204 = (if mark = 0 then 0 else 1) ∧ (∀ a, a ≠ 14 → s'.1 a = s.1 a) ∧ (∀ f, f ≠ 203 → f ≠ 204 → s'.2 f = s.2 f) ∧ ag (ln 14) (s'.1 14) (dq_un (s.1 15) (s.1 16) mark j (s.1 14)) := by
  obtain ⟨s', a1, a2⟩ := q2_back_p (mark := mark) hL (j - mark) dr_N j s (by omega) (by unfold dr_N; omega) h4 h203 hnn
  refine ⟨s', ?_, a2⟩
  unfold f_X2_takeBack
  rw [q_let, h203, show dr_min (nI j) 1024 = nI j from if_neg (show ¬ (1024 : Int32) < nI j from nI_nlt (a := 1024) (by omega) (by omega))]
  exact a1
/-- the room, out of a row alike as far as it goes -/
theorem rC_ag {ln : Nat → Nat} {s s1 : dr_S} {r : sg_R} (hC : rp_C ln s r) (hw : wf_sz r) (h14 : ag (ln 14) (s1.1 14) (s.1 14)) (h18 : s1.1 18 = s.1 18) (hf : ∀ f, f ∈ [402, 403, 404, 405, 406, 301, 601, 602, 603, 503] → s1.2 f = s.2 f) : rp_C ln s1 r := by
  obtain ⟨G, Ls, R, m1, m2, m3, m4, m5, m6, m7⟩ := hC
  obtain ⟨hb, hus, hnj, hd, hk⟩ := hw
  have hl := G.2.1.1
  have low : ∀ d k, d < 260 → k < 4 * rm_b r + 8 → s1.1 14 (dp (rm_b r) d k) = s.1 14 (dp (rm_b r) d k) := fun d k h1 h2 => h14 _ (by have := dp_260 (b := rm_b r) h1 h2; omega)
  refine ⟨?_, Ls, ?_, (h14 _ (by omega)).trans m1, (h14 _ (by omega)).trans m2, fun d h => ?_, fun c h => ?_, (h14 _ (by omega)).trans m5, (h14 _ (by omega)).trans m6, fun j h => ?_⟩
  · unfold dq_G
    rw [hf 402 (by decide), hf 403 (by decide), hf 404 (by decide), hf 405 (by decide), hf 406 (by decide), hf 301 (by decide), hf 601 (by decide), hf 602 (by decide), hf 603 (by decide)]
    exact G
  · unfold rp_rule
    rw [hf 503 (by decide), h18]
    exact R
  · exact ⟨rp_row_fr (m3 d h).1 (hd d h) (fun k h1 _ => low d k (by omega) h1), (low d 4 (by omega) (by omega)).trans (m3 d h).2⟩
  · exact rp_ck_fr (m4 c h) (hk c h) (fun k h1 => h14 _ (by unfold cp; omega)) (fun k h1 _ => low (256 + c) k (by omega) h1)
  · exact rp_jb_fr (m7 j h) (fun k h1 => h14 _ (by unfold jp; omega))

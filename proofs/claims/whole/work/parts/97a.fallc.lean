/-! 97a: a fall, of the class: clerks and latches -/
theorem wf_lose {r : sg_R} {c : Nat} (hw : wf_sz r) : wf_sz (sg_lose r c) := by
  obtain ⟨m1, m2, m3, m4, m5, m6, m7, m8⟩ := lose_sm r c
  refine ⟨by rw [m1]; exact hw.1, by rw [m3]; exact hw.2.1, by rw [m5]; exact hw.2.2.1, fun d hd => by rw [m1, m8]; rw [m3] at hd; exact hw.2.2.2.1 d hd, fun e he q => ?_⟩
  rw [lose_ck] at q ⊢
  by_cases ec : e = c
  · rw [if_pos ec] at q
    rw [(rest_at _).1] at q
    cases q
  · rw [if_neg ec] at q ⊢
    rw [m1]
    exact hw.2.2.2.2 e he q
theorem q11_lose {ln : Nat → Nat} {s : dr_S} {r : sg_R} {c j : Nat} (hC : rp_C ln s r) (hw : wf_sz r) (hc : c < 4) (hat : ck_at (rm_ck r c) ≠ 0) (hj : ck_jo (rm_ck r c) = some j) (hjn : j < rm_nj r) (h204 : s.2 204 = 0) : ∃ s1 s2, f_X3_get ln (nI c) 2 s = some (nI j, s) ∧ f_X6_set ln (nI j) 6 1 s = some (0, s1) ∧ f_X3_rest ln (nI c) s1 = some (0, s2) ∧ dc_F s s2 ∧ rp_C ln s2 (sg_lose r c) := by
  have hnj := hw.2.2.1
  have hjb : ck_job (rm_ck r c) = j := by unfold ck_job; rw [hj]; rfl
  have g2 := q3_get (c := c) (k := 2) hC.1 hc (by omega)
  rw [(hC.2.2.2.2.2.2.1 c hc).2.2.1, hj] at g2
  obtain ⟨s1, a1, C1⟩ := q6_set (c := j) (k := 6) (v := 1) hC.1 (by omega) (by omega) (Or.inl h204)
  have z1 : s1.2 204 = 0 := by rw [C1.2.2.1 204 (by decide)]; exact h204
  have ne : ∀ i, i ≠ 6 → jp (rm_b r) j i ≠ jp (rm_b r) j 6 := fun i h q => h (by unfold jp at q; omega)
  have hy := hC.2.2.2.2.2.2.2.2.2 j hjn
  have m1 : rp_mem (upd (s.1 14) (jp (rm_b r) j 6) 1) (sg_sJ r j (jb_ki (rm_jb r j), jb_he (rm_jb r j), jb_an (rm_jb r j), jb_be (rm_jb r j), jb_en (rm_jb r j), jb_st (rm_jb r j), true)) := by
    refine rp_sJ hC.2.2.2 hw (by omega) (fun p hp => q_updO (hp 6 (by omega))) ⟨?_, ?_, ?_, ?_, ?_, ?_, ?_, ?_⟩
    · rw [q_updO (ne 0 (by decide))]; exact hy.1
    · rw [q_updO (ne 1 (by decide))]; exact hy.2.1
    · rw [q_updO (ne 2 (by decide))]; exact hy.2.2.1
    · rw [q_updO (ne 3 (by decide))]; exact hy.2.2.2.1
    · rw [q_updO (ne 4 (by decide))]; exact hy.2.2.2.2.1
    · rw [q_updO (ne 5 (by decide))]; exact hy.2.2.2.2.2.1
    · rw [q_updS]; rfl
    · rw [q_updO (ne 7 (by decide))]; exact hy.2.2.2.2.2.2.2
  have hC1 := rp_C_of (r' := sg_sJ r j (jb_ki (rm_jb r j), jb_he (rm_jb r j), jb_an (rm_jb r j), jb_be (rm_jb r j), jb_en (rm_jb r j), jb_st (rm_jb r j), true)) hC C1 rfl rfl m1
  obtain ⟨s2, a2, C2⟩ := q3_rest (c := c) hC1.1 hc (Or.inl z1)
  have m2 := rp_rest (c := c) (m := s1.1 14) hC1.2.2.2 hw hc
  refine ⟨s1, s2, g2, a1, a2, dc_tr (dc_C C1 h204) (dc_C C2 z1), ?_⟩
  have q := rp_C_of (r' := sg_sK (sg_sJ r j (jb_ki (rm_jb r j), jb_he (rm_jb r j), jb_an (rm_jb r j), jb_be (rm_jb r j), jb_en (rm_jb r j), jb_st (rm_jb r j), true)) c (sg_idle (rm_ck r c))) hC1 C2 rfl rfl m2
  rw [lose_eq, if_neg hat, hjb]
  exact q
def sg_loses (r : sg_R) : Nat → sg_R
  | 0 => r
  | i + 1 => sg_lose (sg_loses r i) i
theorem loses_ck (r : sg_R) {c : Nat} : ∀ i, i ≤ c → rm_ck (sg_loses r i) c = rm_ck r c
  | 0, _ => rfl
  | i + 1, h => by
    rw [sg_loses, lose_ck, if_neg (by omega)]
    exact loses_ck r i (by omega)
theorem loses_sm (r : sg_R) : ∀ i, ls_sm r (sg_loses r i)
  | 0 => ⟨rfl, rfl, rfl, rfl, rfl, rfl, rfl, rfl⟩
  | i + 1 => ls_tr (loses_sm r i) (lose_sm _ i)
theorem loses_wf {r : sg_R} (hw : wf_sz r) : ∀ i, wf_sz (sg_loses r i)
  | 0 => hw
  | i + 1 => wf_lose (loses_wf hw i)
theorem q11_fall_p {ln : Nat → Nat} {r : sg_R} (hw : wf_sz r) (hat : ∀ c, c < 4 → ck_at (rm_ck r c) ≤ 4) (hjo : ∀ c, c < 4 → ck_at (rm_ck r c) ≠ 0 → ∃ j, ck_jo (rm_ck r c) = some j ∧ j < rm_nj r) : ∀ (k fu i : Nat) (s : dr_S), 4 = i + k → k < fu → rp_C ln s (sg_loses r i) → s.2 204 = 0 → ∃ s1, f_X11_fall_p4 ln fu (nI (nbz (fun c => decide (ck_at (rm_ck r c) ≠ 0)) i)) (nI i) s = dr_bndv (f_X4_letAllGo ln s1) (fun q => dr_bndv (f_X0_crownTheTop ln q) (fun q2 => some (nI (sg_busy r), q2))) ∧ dc_F s s1 ∧ rp_C ln s1 (sg_lose4 r)
  | k, 0, _, _, _, q, _, _ => absurd q (Nat.not_lt_zero _)
  | 0, fu + 1, i, s, hk, hf, hC, h204 => by
    have e : i = 4 := by omega
    subst e
    rw [f_X11_fall_p4, if_pos (show (4 : Int32) ≤ nI 4 by decide)]
    exact ⟨s, rfl, dc_rf s, hC⟩
  | k + 1, fu + 1, i, s, hk, hf, hC, h204 => by
    have hi : i < 4 := by omega
    have eck := loses_ck r (c := i) i (Nat.le_refl _)
    rw [f_X11_fall_p4, if_neg (show ¬ (4 : Int32) ≤ nI i from nI_ge (b := 4) (by omega) (by omega)), q11_idle hC hi (by rw [eck]; exact hat i hi), q_bi, eck]
    unfold f_X11_fall_p50
    by_cases e : ck_at (rm_ck r i) = 0
    · rw [if_pos e, if_neg (by decide), q_let, nI_1]
      have e2 : sg_loses r (i + 1) = sg_loses r i := by rw [sg_loses, lose_eq, eck, if_pos e]
      obtain ⟨s1, b1, b2, b3⟩ := q11_fall_p hw hat hjo k fu (i + 1) s (by omega) (by omega) (by rw [e2]; exact hC) h204
      rw [nbz, if_neg (show ¬ decide (ck_at (rm_ck r i) ≠ 0) = true by rw [decide_eq_true_eq]; exact fun q => q e)] at b1
      exact ⟨s1, b1, b2, b3⟩
    · obtain ⟨j, j1, j2⟩ := hjo i hi e
      obtain ⟨s1, s2, a1, a2, a3, a4, a5⟩ := q11_lose hC (loses_wf hw i) hi (by rw [eck]; exact e) (by rw [eck]; exact j1) (by rw [(loses_sm r i).2.2.2.2.1]; exact j2) h204
      rw [if_neg e, if_pos rfl, a1, q_bi, a2, q_bv, a3, q_bv, q_let, nI_1, q_let, nI_1]
      obtain ⟨s3, b1, b2, b3⟩ := q11_fall_p hw hat hjo k fu (i + 1) s2 (by omega) (by omega) a5 (by rw [a4.2.2.1]; exact h204)
      rw [nbz, if_pos (decide_eq_true e)] at b1
      exact ⟨s3, b1, dc_tr a4 b2, b3⟩
theorem q4_letAll_p {ln : Nat → Nat} {b u : Nat} (hu : u ≤ 256) : ∀ (k fu i : Nat) (s : dr_S), dq_G b ln s → s.1 14 (260 * (4 * b + 8) + 1) = nI u → u = i + k → k < fu → s.2 204 = 0 → ∃ s' g n, f_X4_letAllGo_p2 ln fu (nI i) s = some (0, s') ∧ dq_C s s' g n ∧ (∀ d, i ≤ d → d < u → g (dp b d 4) = -1) ∧ (∀ p, (∀ d, i ≤ d → d < u → p ≠ dp b d 4) → g p = s.1 14 p)
  | k, 0, _, _, _, _, _, q, _ => absurd q (Nat.not_lt_zero _)
  | 0, fu + 1, i, s, hG, hus, hk, hf, h204 => by
    rw [f_X4_letAllGo_p2, q4_inUse hG, hus, q_bi, if_pos (nI_le (by omega) (by omega))]
    exact ⟨s, s.1 14, 0, rfl, q_Crf s, fun d h1 h2 => by omega, fun p _ => rfl⟩
  | k + 1, fu + 1, i, s, hG, hus, hk, hf, h204 => by
    have hb := hG.1
    obtain ⟨s1, a1, C1⟩ := q4_set (d := i) (k := 4) (v := -1) hG (by omega) (by omega) (Or.inl h204)
    have hl := dp_260 (b := b) (d := i) (k := 4) (by omega) (by omega)
    obtain ⟨s2, g, n, b1, b2, b3, b4⟩ := q4_letAll_p hu k fu (i + 1) s1 (q_GC hG C1) (by rw [C1.1, q_updO (by omega)]; exact hus) (by omega) (by omega) (by rw [C1.2.2.1 204 (by decide)]; exact h204)
    rw [f_X4_letAllGo_p2, q4_inUse hG, hus, q_bi, if_neg (nI_ge (by omega) (by omega)), show f_X4_set ln (nI i) 4 (-1) s = _ from a1, q_bv, q_let, nI_1]
    refine ⟨s2, g, _, b1, q_Ctr C1 b2, fun d h1 h2 => ?_, fun p hp => ?_⟩
    · by_cases e : d = i
      · rw [e, b4 _ (fun x h3 h4 => dp_ne (by omega) (by omega) (by omega)), C1.1, q_updS]
      · exact b3 d (by omega) h2
    · rw [b4 p (fun d h1 h2 => hp d (by omega) h2), C1.1, q_updO (hp i (Nat.le_refl _) (by omega))]
theorem q4_letAllGo {ln : Nat → Nat} {s : dr_S} {r : sg_R} (hC : rp_C ln s r) (hw : wf_sz r) (h204 : s.2 204 = 0) : ∃ s', f_X4_letAllGo ln s = some (0, s') ∧ dc_F s s' ∧ rp_C ln s' (sg_open r) := by
  have hus := hw.2.1
  have hb := hw.1
  have hm := hC.2.2.2
  obtain ⟨s1, g, n, a1, a2, a3, a4⟩ := q4_letAll_p (b := rm_b r) (u := rm_us r) hus (rm_us r) dr_N 0 s hC.1 hm.2.1 (by omega) (by unfold dr_N; omega) h204
  refine ⟨s1, a1, dc_C a2 h204, rp_C_of (r' := sg_open r) hC a2 rfl rfl ?_⟩
  have big : ∀ p, 260 * (4 * rm_b r + 8) ≤ p → g p = s.1 14 p := fun p hp => a4 p (fun d _ h2 => by
    have := dp_260 (b := rm_b r) (d := d) (k := 4) (by omega) (by omega)
    omega)
  refine rp_all hm hw rfl ((big _ (by omega)).trans hm.1) ((big _ (by omega)).trans hm.2.1) (fun d hd => Or.inr ⟨?_, a3 d (Nat.zero_le _) hd⟩) (fun c hc => Or.inl ⟨rfl, fun k hk => big _ (by unfold cp; omega), fun k hk _ => a4 _ (fun d _ h2 => dp_ne (by omega) hk (by omega))⟩) ((big _ (by omega)).trans hm.2.2.2.2.1) ((big _ (by omega)).trans hm.2.2.2.2.2.1) (fun j hj => Or.inl ⟨hj, rfl, rfl, fun k hk => big _ (by unfold jp; omega)⟩)
  have hd : d < rm_us r := hd
  refine rp_row_fr (x := rm_dr r d) (hm.2.2.1 d hd).1 (hw.2.2.2.1 d hd) (fun k hk h4 => a4 _ (fun e _ h2 z => ?_))
  by_cases ed : d = e
  · subst ed
    unfold dp at z
    omega
  · exact dp_ne ed hk (by omega) z

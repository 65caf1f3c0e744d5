/-! 97d: a fall, of the reference -/
theorem qm_lose {ln : Nat → Nat} {s : dr_S} {r : sg_R} {c j : Nat} (hM : rp_M ln s r) (hw : wf_sz r) (hc : c < 4) (hat : ck_at (rm_ck r c) ≠ 0) (hj : ck_jo (rm_ck r c) = some j) (hjn : j < rm_nj r) : rp_M ln (dr_put (dr_put (dr_put s 56 j 1) 39 c 0) 43 c (-1)) (sg_lose r c) := by
  have hjb : ck_job (rm_ck r c) = j := by unfold ck_job; rw [hj]; rfl
  have m1 : rp_M ln (dr_put s 56 j 1) (sg_sJ r j (jb_ki (rm_jb r j), jb_he (rm_jb r j), jb_an (rm_jb r j), jb_be (rm_jb r j), jb_en (rm_jb r j), jb_st (rm_jb r j), true)) := by
    refine rm_sJ hM hw hjn rfl rfl (fun a h1 h2 h3 => q_putO (by omega)) rfl (fun e hne => ⟨rfl, rfl, rfl, rfl, rfl, rfl, ?_⟩) ?_
    · show upd (s.1 56) j 1 e = _
      rw [q_updO hne]
    · obtain ⟨h1, h2, h3, h4, h5, h6, h7⟩ := mM_jb hM j hjn
      refine ⟨h1, h2, h3, h4, h5, h6, ?_⟩
      show upd (s.1 56) j 1 j = _
      rw [q_updS]
      rfl
  rw [lose_eq, if_neg hat, hjb]
  have hk := mM_ck m1 c hc
  refine rm_sK m1 hw (fun a h1 h2 h3 => by rw [q_putO (by omega), q_putO (by omega)]) rfl (fun e he hne => ⟨rfl, ?_, rfl, rfl, rfl, ?_, rfl, rfl, rfl, fun _ _ => rfl, fun _ _ => rfl, fun _ _ => rfl⟩) ⟨hk.1, ?_, fun q => absurd rfl q, hk.2.2.2.1, ?_, fun q => absurd rfl q, fun q => absurd (show (0 : Nat) = 3 from q) (by decide), fun q => absurd rfl q⟩
  · show upd (s.1 39) c 0 e = s.1 39 e
    rw [q_updO hne]
  · show upd (s.1 43) c (-1) e = s.1 43 e
    rw [q_updO hne]
  · show upd (s.1 39) c 0 c = _
    rw [q_updS]
    rfl
  · show upd (s.1 43) c (-1) c = _
    rw [q_updS]
    rfl
theorem qm_fall_p {ln : Nat → Nat} {r : sg_R} (hw : wf_sz r) (hat : ∀ c, c < 4 → ck_at (rm_ck r c) ≤ 4) (hjo : ∀ c, c < 4 → ck_at (rm_ck r c) ≠ 0 → ∃ j, ck_jo (rm_ck r c) = some j ∧ j < rm_nj r) : ∀ (k fu i : Nat) (s : dr_S), 4 = i + k → k < fu → rp_M ln s (sg_loses r i) → ∃ s1, f_X12_fall_p4 ln fu (nI (nbz (fun c => decide (ck_at (rm_ck r c) ≠ 0)) i)) (nI i) s = f_X12_fall_p58 ln dr_N (nI (sg_busy r)) 0 s1 ∧ dm_F s s1 ∧ rp_M ln s1 (sg_lose4 r)
  | k, 0, _, _, _, q, _ => absurd q (Nat.not_lt_zero _)
  | 0, fu + 1, i, s, hk, hf, hM => by
    have e : i = 4 := by omega
    subst e
    rw [f_X12_fall_p4, if_pos (show (4 : Int32) ≤ nI 4 by decide)]
    exact ⟨s, rfl, dm_rf s, hM⟩
  | k + 1, fu + 1, i, s, hk, hf, hM => by
    have hi : i < 4 := by omega
    have L := mM_L hM
    have hnj := hw.2.2.1
    have eck := loses_ck r (c := i) i (Nat.le_refl _)
    have m2 := (mM_ck hM i hi).2.1
    have m4 := (mM_ck hM i hi).2.2.2.1
    rw [eck] at m2 m4
    rw [f_X12_fall_p4, if_neg (show ¬ (4 : Int32) ≤ nI i from nI_ge (b := 4) (by omega) (by omega)), m_rdb L 39 4 rfl (by decide) (by decide) hi, m2, at_ite (hat i hi)]
    unfold f_X12_fall_p50
    by_cases e : ck_at (rm_ck r i) = 0
    · rw [if_pos e, q_let, nI_1]
      have e2 : sg_loses r (i + 1) = sg_loses r i := by rw [sg_loses, lose_eq, eck, if_pos e]
      obtain ⟨s1, b1, b2, b3⟩ := qm_fall_p hw hat hjo k fu (i + 1) s (by omega) (by omega) (by rw [e2]; exact hM)
      rw [nbz, if_neg (show ¬ decide (ck_at (rm_ck r i) ≠ 0) = true by rw [decide_eq_true_eq]; exact fun q => q e)] at b1
      exact ⟨s1, b1, b2, b3⟩
    · obtain ⟨j, j1, j2⟩ := hjo i hi e
      have hM2 := qm_lose hM (loses_wf hw i) hi (by rw [eck]; exact e) (by rw [eck]; exact j1) (by rw [(loses_sm r i).2.2.2.2.1]; exact j2)
      rw [if_neg e, m_rdb L 41 4 rfl (by decide) (by decide) hi, m4, j1, show nO (some j) = nI j from rfl, m_wzb L 56 120 rfl (by decide) (by decide) (by omega), m_wrb L 39 4 rfl (by decide) (by decide) hi, m_wrb L 43 4 rfl (by decide) (by decide) hi, q_let, nI_1, q_let, nI_1]
      obtain ⟨s3, b1, b2, b3⟩ := qm_fall_p hw hat hjo k fu (i + 1) _ (by omega) (by omega) hM2
      rw [nbz, if_pos (decide_eq_true e)] at b1
      exact ⟨s3, b1, dm_tr (dm_put _ _ _ (dm_put _ _ _ (dm_put _ _ _ (dm_rf s) (by decide)) (by decide)) (by decide)) b2, b3⟩
theorem qm_open_p {ln : Nat → Nat} {x : Int32} (L : dq_ML ln) : ∀ (k fu i : Nat) (s : dr_S), 256 = i + k → k < fu → ∃ s1, f_X12_fall_p58 ln fu x (nI i) s = f_X12_fall_p58 ln 1 x (nI 256) s1 ∧ dm_F s s1 ∧ s1.2 = s.2 ∧ (∀ a, a ≠ 37 → s1.1 a = s.1 a) ∧ (∀ p, s1.1 37 p = if i ≤ p ∧ p < 256 then -1 else s.1 37 p)
  | k, 0, _, _, _, q => absurd q (Nat.not_lt_zero _)
  | 0, fu + 1, i, s, hk, hf => by
    have e : i = 256 := by omega
    subst e
    refine ⟨s, ?_, dm_rf s, rfl, fun _ _ => rfl, fun p => by rw [if_neg (by omega)]⟩
    rw [f_X12_fall_p58, f_X12_fall_p58, if_pos (show (256 : Int32) ≤ nI 256 by decide), if_pos (show (256 : Int32) ≤ nI 256 by decide)]
  | k + 1, fu + 1, i, s, hk, hf => by
    rw [f_X12_fall_p58, if_neg (show ¬ (256 : Int32) ≤ nI i from nI_ge (b := 256) (by omega) (by omega)), m_wrb L 37 256 rfl (by decide) (by decide) (by omega), q_let, nI_1]
    obtain ⟨s1, a1, a2, a3, a4, a5⟩ := qm_open_p (x := x) L k fu (i + 1) (dr_put s 37 i (-1)) (by omega) (by omega)
    refine ⟨s1, a1, dm_tr (dm_put _ _ _ (dm_rf s) (by decide)) a2, a3, fun a h => by rw [a4 a h, q_putO h], fun p => ?_⟩
    rw [a5]
    show (if _ then (-1 : Int32) else upd (s.1 37) i (-1) p) = _
    by_cases hp : p = i
    · rw [if_neg (by omega), if_pos (by omega), hp, q_updS]
    · rw [q_updO hp]
      by_cases hq : i + 1 ≤ p ∧ p < 256
      · rw [if_pos hq, if_pos (by omega)]
      · rw [if_neg hq, if_neg (by omega)]
theorem rm_open {ln : Nat → Nat} {s s1 : dr_S} {r : sg_R} (hM : rp_M ln s r) (hw : wf_sz r) (h2 : s1.2 = s.2) (ha : ∀ a, a ≠ 37 → s1.1 a = s.1 a) (h37 : ∀ p, p < 256 → s1.1 37 p = -1) : rp_M ln s1 (sg_open r) := by
  have hus := hw.2.1
  refine rm_all hM hw rfl rfl (by rw [h2]) (by rw [h2]) (ha 28 (by decide)) (ha 29 (by decide)) (by rw [h2]; have q := mM_ti hM; exact q) (by rw [h2]; have q := mM_to hM; exact q) (fun d hd => by rw [ha 30 (by decide)]; exact mM_us hM d hd) (fun d hd => Or.inr ?_) (fun d h1 h2 => h37 d h2) (fun c hc => Or.inl ⟨rfl, ?_, fun _ => rfl, fun _ => rfl⟩) (by rw [h2]; have q := mM_nj hM; exact q) (fun j hj => Or.inl ⟨hj, rfl, ?_⟩) (fun j h1 h3 => by rw [ha 55 (by decide), ha 56 (by decide)]; exact mM_j2 hM j h1 h3) (by rw [h2]; have q := mM_nc hM; exact q) (fun i j t hi => Or.inl ⟨hi, ?_⟩)
  · have hd : d < rm_us r := hd
    obtain ⟨m1, ⟨m2, m3, m4, m5, m6⟩, m7⟩ := mM_dr hM d hd
    refine ⟨?_, ⟨?_, ?_, ?_, fun k h hk => ?_, fun hl k h hk => ?_⟩, h37 d (by omega)⟩
    · rw [ha 31 (by decide)]; exact m1
    · rw [ha 32 (by decide)]; exact m2
    · rw [ha 35 (by decide)]; exact m3
    · rw [ha 36 (by decide)]; exact m4
    · rw [ha 33 (by decide)]; exact m5 k h hk
    · rw [ha 34 (by decide)]; exact m6 hl k h hk
  · unfold mk_same
    rw [ha 38 (by decide), ha 39 (by decide), ha 40 (by decide), ha 41 (by decide), ha 42 (by decide), ha 43 (by decide), ha 44 (by decide), ha 45 (by decide), ha 46 (by decide), ha 47 (by decide), ha 48 (by decide), ha 49 (by decide)]
    exact ⟨rfl, rfl, rfl, rfl, rfl, rfl, rfl, rfl, rfl, fun _ _ => rfl, fun _ _ => rfl, fun _ _ => rfl⟩
  · unfold mj_same
    rw [ha 50 (by decide), ha 51 (by decide), ha 52 (by decide), ha 53 (by decide), ha 54 (by decide), ha 55 (by decide), ha 56 (by decide)]
    exact ⟨rfl, rfl, rfl, rfl, rfl, rfl, rfl⟩
  · rw [ha 57 (by decide), ha 58 (by decide), ha 59 (by decide)]
    exact ⟨rfl, rfl, rfl, rfl, rfl⟩

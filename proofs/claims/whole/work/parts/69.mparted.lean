/-! 69: parting a drawer, of the reference -/
theorem take_at {l : List Nat} {n k h : Nat} (hk : (l.take n)[k]? = some h) : l[k]? = some h := by
  rw [List.getElem?_take] at hk
  split at hk
  · exact hk
  · cases hk
theorem qm_part77 {ln : Nat → Nat} {b d u : Nat} (L : dq_ML ln) (hd : d < 256) (hu : u < 256) (hne : d ≠ u) (hb : b ≤ 5) : ∀ (fu i : Nat) (s : dr_S), i ≤ b → b - i < fu → s.1 32 u = nI b → ∃ s1, f_X12_parted_p77 ln fu (nI d) (nI u) (nI (b + 1)) (nI i) s = (dr_rd ln s1 31 (nI d)).bind (fun v15 => (if v15 ≤ 0 then (f_X12_parted_p175 ln (nI d) (nI u) (nI (b + 1)) s1) else (f_X12_parted_p132 ln dr_N (nI d) (nI u) (nI (b + 1)) 0 s1))) ∧ dm_F s s1 ∧ s1.2 = s.2 ∧ (∀ a, a ≠ 33 → s1.1 a = s.1 a) ∧ (∀ p, s1.1 33 p = if 14 * u + i ≤ p ∧ p < 14 * u + b then s.1 33 (14 * d + (b + 1) + (p - 14 * u)) else s.1 33 p)
  | 0, _, _, _, q, _ => absurd q (Nat.not_lt_zero _)
  | fu + 1, i, s, hi, hf, h32 => by
    rw [f_X12_parted_p77, m_rdb L 32 256 rfl (by decide) (by decide) hu, h32]
    by_cases h : i = b
    · subst h
      rw [if_pos (nI_le (Nat.le_refl _) (by omega))]
      exact ⟨s, rfl, dm_rf s, rfl, fun _ _ => rfl, fun p => by rw [if_neg (by omega)]⟩
    · rw [if_neg (nI_ge (a := i) (b := b) (by omega) (by omega)), c14, c14, nI_add, nI_add, nI_add, m_rdb L 33 3584 rfl (by decide) (by decide) (by omega), m_wrb L 33 3584 rfl (by decide) (by decide) (by omega), q_let, nI_1]
      obtain ⟨s1, a1, a2, a3, a4, a5⟩ := qm_part77 L hd hu hne hb fu (i + 1) (dr_put s 33 (14 * u + i) (s.1 33 (14 * d + (b + 1) + i))) (by omega) (by omega) h32
      refine ⟨s1, a1, dm_tr (dm_put _ _ _ (dm_rf s) (by decide)) a2, a3, fun a h1 => by rw [a4 a h1, q_putO h1], fun p => ?_⟩
      rw [a5]
      show (if _ then upd (s.1 33) (14 * u + i) (s.1 33 (14 * d + (b + 1) + i)) _ else upd (s.1 33) (14 * u + i) (s.1 33 (14 * d + (b + 1) + i)) p) = _
      by_cases hp : p = 14 * u + i
      · subst hp
        rw [if_neg (by omega), if_pos (by omega), q_updS, show 14 * u + i - 14 * u = i by omega]
      · rw [q_updO hp]
        by_cases hq : 14 * u + (i + 1) ≤ p ∧ p < 14 * u + b
        · rw [if_pos hq, if_pos (by omega), q_updO (by omega)]
        · rw [if_neg hq, if_neg (by omega)]
theorem qm_part132 {ln : Nat → Nat} {b d u : Nat} (L : dq_ML ln) (hd : d < 256) (hu : u < 256) (hne : d ≠ u) (hb : b ≤ 5) : ∀ (fu i : Nat) (s : dr_S), i ≤ b + 1 → b + 1 - i < fu → s.1 32 u = nI b → ∃ s1, f_X12_parted_p132 ln fu (nI d) (nI u) (nI (b + 1)) (nI i) s = f_X12_parted_p175 ln (nI d) (nI u) (nI (b + 1)) s1 ∧ dm_F s s1 ∧ s1.2 = s.2 ∧ (∀ a, a ≠ 34 → s1.1 a = s.1 a) ∧ (∀ p, s1.1 34 p = if 14 * u + i ≤ p ∧ p < 14 * u + (b + 1) then s.1 34 (14 * d + (b + 1) + (p - 14 * u)) else s.1 34 p)
  | 0, _, _, _, q, _ => absurd q (Nat.not_lt_zero _)
  | fu + 1, i, s, hi, hf, h32 => by
    rw [f_X12_parted_p132, m_rdb L 32 256 rfl (by decide) (by decide) hu, h32]
    by_cases h : i = b + 1
    · subst h
      rw [if_pos (nI_lt (by omega) (by omega))]
      exact ⟨s, rfl, dm_rf s, rfl, fun _ _ => rfl, fun p => by rw [if_neg (by omega)]⟩
    · rw [if_neg (nI_nlt (by omega) (by omega)), c14, c14, nI_add, nI_add, nI_add, m_rdb L 34 3584 rfl (by decide) (by decide) (by omega), m_wrb L 34 3584 rfl (by decide) (by decide) (by omega), q_let, nI_1]
      obtain ⟨s1, a1, a2, a3, a4, a5⟩ := qm_part132 L hd hu hne hb fu (i + 1) (dr_put s 34 (14 * u + i) (s.1 34 (14 * d + (b + 1) + i))) (by omega) (by omega) h32
      refine ⟨s1, a1, dm_tr (dm_put _ _ _ (dm_rf s) (by decide)) a2, a3, fun a h1 => by rw [a4 a h1, q_putO h1], fun p => ?_⟩
      rw [a5]
      show (if _ then upd (s.1 34) (14 * u + i) (s.1 34 (14 * d + (b + 1) + i)) _ else upd (s.1 34) (14 * u + i) (s.1 34 (14 * d + (b + 1) + i)) p) = _
      by_cases hp : p = 14 * u + i
      · subst hp
        rw [if_neg (by omega), if_pos (by omega), q_updS, show 14 * u + i - 14 * u = i by omega]
      · rw [q_updO hp]
        by_cases hq : 14 * u + (i + 1) ≤ p ∧ p < 14 * u + (b + 1)
        · rw [if_pos hq, if_pos (by omega), q_updO (by omega)]
        · rw [if_neg hq, if_neg (by omega)]
theorem qm_part175 {ln : Nat → Nat} {b d u lev : Nat} {s : dr_S} (L : dq_ML ln) (hd : d < 256) (hb : b ≤ 5) (hl : lev < 64) (h0 : s.2 1200 = nI b) (h31 : s.1 31 d = nI lev) : f_X12_parted_p175 ln (nI d) (nI u) (nI (b + 1)) s = some (nI u, dr_put (dr_put (dr_put s 35 d (s.1 33 (14 * d + b))) 32 d (nI (if 0 < lev then b else b + 1))) 36 d (nI u)) := by
  unfold f_X12_parted_p175 f_X12_parted_p217
  rw [h0, c14, nI_add, m_rdb L 33 3584 rfl (by decide) (by decide) (by omega), m_wrb L 35 256 rfl (by decide) (by decide) hd, m_rdb L 31 256 rfl (by decide) (by decide) hd, show (dr_put s 35 d (s.1 33 (14 * d + b))).1 31 d = nI lev from h31, show (dr_put s 35 d (s.1 33 (14 * d + b))).2 1200 = nI b from h0]
  by_cases e : 0 < lev
  · rw [if_neg (show ¬ nI lev ≤ 0 from nI_ge (a := 0) e (by omega)), if_pos e, m_wrb L 32 256 rfl (by decide) (by decide) hd, m_wrb L 36 256 rfl (by decide) (by decide) hd]
  · rw [if_pos (show nI lev ≤ 0 by rw [show lev = 0 by omega]; decide), if_neg e, m_wrb L 32 256 rfl (by decide) (by decide) hd, m_wrb L 36 256 rfl (by decide) (by decide) hd]
theorem qm_parted {ln : Nat → Nat} {s : dr_S} {r : sg_R} {d : Nat} (hr : rp_M ln s r) (hw : wf_sz r) (hck : ∀ c, c < 4 → ck_at (rm_ck r c) ≠ 0 → ck_pl (rm_ck r c) < rm_us r) (hd : d < rm_us r) (hu : rm_us r < 256) (hlv : dv_lev (rm_dr r d) < 64) (hz : (dv_hs (rm_dr r d)).length = 2 * rm_b r + 1) (hcl : 0 < dv_lev (rm_dr r d) → (dv_cs (rm_dr r d)).length = 2 * rm_b r + 2) : ∃ s', f_X12_parted ln (nI d) s = some (nI (rm_us r), s') ∧ dm_F s s' ∧ rp_M ln s' (sg_part r d) ∧ s'.1 35 d = nI ((dv_hs (rm_dr r d)).getD (rm_b r) 0) := by
  have hb := hw.1
  have L := mM_L hr
  have hne : d ≠ rm_us r := by omega
  obtain ⟨d1, d2, d3⟩ := mM_dr hr d hd
  unfold f_X12_parted
  rw [qm_spare L hu (mM_us hr), q_bi, qm_openb L hu]
  have o1 := (dm_open_at (s := s) (u := rm_us r)).1
  have o2 := (dm_open_at (s := s) (u := rm_us r)).2
  have o3 := fun a => dm_open_o (s := s) (u := rm_us r) (a := a)
  have oF := dm_open_F (s := s) (u := rm_us r)
  have o4 : (dm_open s (rm_us r)).2 = s.2 := rfl
  generalize hS : dm_open s (rm_us r) = S at *
  obtain ⟨p31, p32, p35, p36, p37⟩ := o2
  have v31 : S.1 31 d = nI (dv_lev (rm_dr r d)) := by rw [p31, q_updO hne, d1]
  have v35 : S.1 35 d = nO (dv_hi (rm_dr r d)) := by rw [p35, q_updO hne, d2.2.1]
  have v36 : S.1 36 d = nO (dv_th (rm_dr r d)) := by rw [p36, q_updO hne, d2.2.2.1]
  have v32 : S.1 32 d = nI (2 * rm_b r + 1) := by rw [p32, q_updO hne, d2.1, hz]
  rw [m_rdb L 31 256 rfl (by decide) (by decide) (by omega), v31, m_wrb L 31 256 rfl (by decide) (by decide) hu, m_rdb L 35 256 rfl (by decide) (by decide) (by omega)]
  rw [show (dr_put S 31 (rm_us r) (nI (dv_lev (rm_dr r d)))).1 35 d = _ from v35, m_wrb L 35 256 rfl (by decide) (by decide) hu, m_rdb L 36 256 rfl (by decide) (by decide) (by omega)]
  rw [show (dr_put (dr_put S 31 (rm_us r) (nI (dv_lev (rm_dr r d)))) 35 (rm_us r) (nO (dv_hi (rm_dr r d)))).1 36 d = _ from v36, m_wrb L 36 256 rfl (by decide) (by decide) hu, q_let]
  rw [show (dr_put (dr_put (dr_put S 31 (rm_us r) (nI (dv_lev (rm_dr r d)))) 35 (rm_us r) (nO (dv_hi (rm_dr r d)))) 36 (rm_us r) (nO (dv_th (rm_dr r d)))).2 1200 = nI (rm_b r) from by rw [show (dr_put (dr_put (dr_put S 31 (rm_us r) (nI (dv_lev (rm_dr r d)))) 35 (rm_us r) (nO (dv_hi (rm_dr r d)))) 36 (rm_us r) (nO (dv_th (rm_dr r d)))).2 = S.2 from rfl, o4]; exact mM_b hr, nI_1, m_rdb L 32 256 rfl (by decide) (by decide) (by omega)]
  rw [show (dr_put (dr_put (dr_put S 31 (rm_us r) (nI (dv_lev (rm_dr r d)))) 35 (rm_us r) (nO (dv_hi (rm_dr r d)))) 36 (rm_us r) (nO (dv_th (rm_dr r d)))).1 32 d = _ from v32, pk_sub (by omega), m_wrb L 32 256 rfl (by decide) (by decide) hu, show 2 * rm_b r + 1 - (rm_b r + 1) = rm_b r by omega]
  generalize hT : dr_put (dr_put (dr_put (dr_put S 31 (rm_us r) (nI (dv_lev (rm_dr r d)))) 35 (rm_us r) (nO (dv_hi (rm_dr r d)))) 36 (rm_us r) (nO (dv_th (rm_dr r d)))) 32 (rm_us r) (nI (rm_b r)) = T
  have TF : dm_F s T := by
    rw [← hT]
    exact dm_put _ _ _ (dm_put _ _ _ (dm_put _ _ _ (dm_put _ _ _ oF (by decide)) (by decide)) (by decide)) (by decide)
  have t31 : T.1 31 = upd (S.1 31) (rm_us r) (nI (dv_lev (rm_dr r d))) := by rw [← hT]; rfl
  have t32 : T.1 32 = upd (S.1 32) (rm_us r) (nI (rm_b r)) := by rw [← hT]; rfl
  have t35 : T.1 35 = upd (S.1 35) (rm_us r) (nO (dv_hi (rm_dr r d))) := by rw [← hT]; rfl
  have t36 : T.1 36 = upd (S.1 36) (rm_us r) (nO (dv_th (rm_dr r d))) := by rw [← hT]; rfl
  have tO : ∀ a, a ≠ 31 → a ≠ 32 → a ≠ 35 → a ≠ 36 → T.1 a = S.1 a := fun a h1 h2 h3 h4 => by
    rw [← hT, q_putO h2, q_putO h4, q_putO h3, q_putO h1]
  have t2 : T.2 = s.2 := by rw [← hT]; exact o4
  obtain ⟨s1, a1, a2, a3, a4, a5⟩ := qm_part77 (b := rm_b r) (d := d) (u := rm_us r) L (by omega) hu hne hb.2 dr_N 0 T (by omega) (by unfold dr_N; omega) (by rw [t32, q_updS])
  rw [show f_X12_parted_p77 ln dr_N (nI d) (nI (rm_us r)) (nI (rm_b r + 1)) 0 T = _ from a1, m_rdb L 31 256 rfl (by decide) (by decide) (by omega), show s1.1 31 d = nI (dv_lev (rm_dr r d)) from by rw [a4 31 (by decide), t31, q_updO hne, v31]]
  have mid : ∃ V, (if nI (dv_lev (rm_dr r d)) ≤ 0 then f_X12_parted_p175 ln (nI d) (nI (rm_us r)) (nI (rm_b r + 1)) s1 else f_X12_parted_p132 ln dr_N (nI d) (nI (rm_us r)) (nI (rm_b r + 1)) 0 s1) = f_X12_parted_p175 ln (nI d) (nI (rm_us r)) (nI (rm_b r + 1)) V ∧ dm_F s V ∧ V.2 = s.2 ∧ (∀ a, a ≠ 33 → a ≠ 34 → V.1 a = T.1 a) ∧ (∀ p, V.1 33 p = if 14 * rm_us r ≤ p ∧ p < 14 * rm_us r + rm_b r then s.1 33 (14 * d + (rm_b r + 1) + (p - 14 * rm_us r)) else s.1 33 p) ∧ (∀ p, V.1 34 p = if 0 < dv_lev (rm_dr r d) ∧ 14 * rm_us r ≤ p ∧ p < 14 * rm_us r + (rm_b r + 1) then s.1 34 (14 * d + (rm_b r + 1) + (p - 14 * rm_us r)) else s.1 34 p) := by
    have f33 : T.1 33 = s.1 33 := by rw [tO 33 (by decide) (by decide) (by decide) (by decide), o3 33 (by decide)]
    have f34 : T.1 34 = s.1 34 := by rw [tO 34 (by decide) (by decide) (by decide) (by decide), o3 34 (by decide)]
    by_cases e : 0 < dv_lev (rm_dr r d)
    · obtain ⟨s2, b1, b2, b3, b4, b5⟩ := qm_part132 (b := rm_b r) (d := d) (u := rm_us r) L (by omega) hu hne hb.2 dr_N 0 s1 (by omega) (by unfold dr_N; omega) (by rw [a4 32 (by decide), t32, q_updS])
      refine ⟨s2, ?_, dm_tr TF (dm_tr a2 b2), by rw [b3, a3, t2], fun a h1 h2 => by rw [b4 a h2, a4 a h1], fun p => ?_, fun p => ?_⟩
      · rw [if_neg (show ¬ nI (dv_lev (rm_dr r d)) ≤ 0 from nI_ge (a := 0) e (by omega))]
        exact b1
      · rw [b4 33 (by decide), a5, f33]
        rfl
      · rw [b5, a4 34 (by decide), f34, Nat.add_zero]
        by_cases q : 14 * rm_us r ≤ p ∧ p < 14 * rm_us r + (rm_b r + 1)
        · rw [if_pos q, if_pos ⟨e, q⟩]
        · rw [if_neg q, if_neg (fun z => q z.2)]
    · refine ⟨s1, ?_, dm_tr TF a2, by rw [a3, t2], fun a h1 h2 => a4 a h1, fun p => ?_, fun p => ?_⟩
      · rw [if_pos (show nI (dv_lev (rm_dr r d)) ≤ 0 by rw [show dv_lev (rm_dr r d) = 0 by omega]; decide)]
      · rw [a5, f33]
        rfl
      · rw [a4 34 (by decide), f34, if_neg (fun z => e z.1)]
  obtain ⟨V, c1, c2, c3, c4, c5, c6⟩ := mid
  have V31 : V.1 31 d = nI (dv_lev (rm_dr r d)) := by rw [c4 31 (by decide) (by decide), t31, q_updO hne, v31]
  rw [c1, qm_part175 L (by omega) hb.2 hlv (by rw [c3]; exact mM_b hr) V31]
  obtain ⟨g, hg⟩ := at_some (l := dv_hs (rm_dr r d)) (i := rm_b r) (by omega)
  have hgd : (dv_hs (rm_dr r d)).getD (rm_b r) 0 = g := by rw [List.getD_eq_getElem?_getD, hg]; rfl
  have V33 : V.1 33 (14 * d + rm_b r) = nI g := by
    rw [c5, if_neg (by omega)]
    exact d2.2.2.2.1 _ g hg
  rw [V33, hgd]
  refine ⟨_, rfl, dm_put _ _ _ (dm_put _ _ _ (dm_put _ _ _ c2 (by decide)) (by decide)) (by decide), ?_, q_updS _ _ _⟩
  generalize hU : dr_put (dr_put (dr_put V 35 d (nI g)) 32 d (nI (if 0 < dv_lev (rm_dr r d) then rm_b r else rm_b r + 1))) 36 d (nI (rm_us r)) = U
  have u2 : U.2 = s.2 := by rw [← hU]; exact c3
  have u32 : U.1 32 = upd (upd (S.1 32) (rm_us r) (nI (rm_b r))) d (nI (if 0 < dv_lev (rm_dr r d) then rm_b r else rm_b r + 1)) := by
    rw [← hU]
    show upd (V.1 32) _ _ = _
    rw [c4 32 (by decide) (by decide), t32]
  have u35 : U.1 35 = upd (upd (S.1 35) (rm_us r) (nO (dv_hi (rm_dr r d)))) d (nI g) := by
    rw [← hU]
    show upd (V.1 35) _ _ = _
    rw [c4 35 (by decide) (by decide), t35]
  have u36 : U.1 36 = upd (upd (S.1 36) (rm_us r) (nO (dv_th (rm_dr r d)))) d (nI (rm_us r)) := by
    rw [← hU]
    show upd (V.1 36) _ _ = _
    rw [c4 36 (by decide) (by decide), t36]
  have uO : ∀ a, a ≠ 32 → a ≠ 35 → a ≠ 36 → U.1 a = V.1 a := fun a h1 h2 h3 => by
    rw [← hU, q_putO h3, q_putO h1, q_putO h2]
  have uO2 : ∀ a, a < 30 ∨ 37 < a → U.1 a = s.1 a := fun a h => by rw [uO a (by omega) (by omega) (by omega), c4 a (by omega) (by omega), tO a (by omega) (by omega) (by omega) (by omega), o3 a (by omega)]
  have u30 : U.1 30 = S.1 30 := by rw [uO 30 (by decide) (by decide) (by decide), c4 30 (by decide) (by decide), tO 30 (by decide) (by decide) (by decide) (by decide)]
  have u37 : U.1 37 = S.1 37 := by rw [uO 37 (by decide) (by decide) (by decide), c4 37 (by decide) (by decide), tO 37 (by decide) (by decide) (by decide) (by decide)]
  have u31 : U.1 31 = upd (S.1 31) (rm_us r) (nI (dv_lev (rm_dr r d))) := by rw [uO 31 (by decide) (by decide) (by decide), c4 31 (by decide) (by decide), t31]
  have u33 : ∀ p, U.1 33 p = if 14 * rm_us r ≤ p ∧ p < 14 * rm_us r + rm_b r then s.1 33 (14 * d + (rm_b r + 1) + (p - 14 * rm_us r)) else s.1 33 p := fun p => by rw [uO 33 (by decide) (by decide) (by decide)]; exact c5 p
  have u34 : ∀ p, U.1 34 p = if 0 < dv_lev (rm_dr r d) ∧ 14 * rm_us r ≤ p ∧ p < 14 * rm_us r + (rm_b r + 1) then s.1 34 (14 * d + (rm_b r + 1) + (p - 14 * rm_us r)) else s.1 34 p := fun p => by rw [uO 34 (by decide) (by decide) (by decide)]; exact c6 p
  have eqd : ∀ q, rm_dr (sg_part r d) q = (if q = d then (dv_lev (rm_dr r d), (dv_hs (rm_dr r d)).take (if 0 < dv_lev (rm_dr r d) then rm_b r else rm_b r + 1), (dv_cs (rm_dr r d)).take (rm_b r + 1), some ((dv_hs (rm_dr r d)).getD (rm_b r) 0), some (rm_us r), dv_la (rm_dr r d)) else if q = rm_us r then (dv_lev (rm_dr r d), (dv_hs (rm_dr r d)).drop (rm_b r + 1), (dv_cs (rm_dr r d)).drop (rm_b r + 1), dv_hi (rm_dr r d), dv_th (rm_dr r d), none) else rm_dr r q) := fun q => rfl
  refine rm_all hr hw rfl rfl (by rw [u2]) (by rw [u2]) (uO2 28 (by decide)) (uO2 29 (by decide)) (by rw [u2]; have q := mM_ti hr; exact q) (by rw [u2]; have q := mM_to hr; exact q) (fun q hq => ?_) (fun q hq => ?_) (fun q h1 h2 => ?_) (fun e he => Or.inl ⟨rfl, ?_, fun h => ?_, fun _ => rfl⟩) (by rw [u2]; have q := mM_nj hr; exact q) (fun j hj => Or.inl ⟨hj, rfl, ?_⟩) (fun j h1 h2 => by rw [uO2 55 (by decide), uO2 56 (by decide)]; exact mM_j2 hr j h1 h2) (by rw [u2]; have q := mM_nc hr; exact q) (fun i j t hi => Or.inl ⟨hi, ?_⟩)
  · rw [u30, o1]
    show (if q = rm_us r then (1 : Int32) else s.1 30 q) = (if q < rm_us r + 1 then 1 else 0)
    by_cases e : q = rm_us r
    · rw [if_pos e, if_pos (by omega)]
    · rw [if_neg e, mM_us hr q hq]
      by_cases q2 : q < rm_us r
      · rw [if_pos q2, if_pos (by omega)]
      · rw [if_neg q2, if_neg (by omega)]
  · have hq : q < rm_us r + 1 := hq
    rw [eqd]
    by_cases q1 : q = d
    · right
      rw [if_pos q1, q1]
      refine ⟨?_, ⟨?_, ?_, ?_, fun k h hk => ?_, fun hl k h hk => ?_⟩, ?_⟩
      · rw [u31, q_updO hne, v31]; rfl
      · rw [u32, q_updS]
        show nI _ = nI ((dv_hs (rm_dr r d)).take _).length
        rw [List.length_take, hz]
        congr 1
        split <;> omega
      · rw [u35, q_updS, hgd]; rfl
      · rw [u36, q_updS]; rfl
      · have hk : ((dv_hs (rm_dr r d)).take (if 0 < dv_lev (rm_dr r d) then rm_b r else rm_b r + 1))[k]? = some h := hk
        have hlt := (List.getElem?_eq_some_iff.mp hk).1
        rw [List.length_take] at hlt
        have hk2 : (dv_hs (rm_dr r d))[k]? = some h := take_at hk
        rw [u33, if_neg (by omega)]
        exact d2.2.2.2.1 k h hk2
      · have hk : ((dv_cs (rm_dr r d)).take (rm_b r + 1))[k]? = some h := hk
        have hl : 0 < dv_lev (rm_dr r d) := hl
        have hlt := (List.getElem?_eq_some_iff.mp hk).1
        rw [List.length_take] at hlt
        have hk2 : (dv_cs (rm_dr r d))[k]? = some h := take_at hk
        rw [u34, if_neg (by omega)]
        exact d2.2.2.2.2 hl k h hk2
      · rw [u37, p37, q_updO hne, d3]; rfl
    · rw [if_neg q1]
      by_cases q2 : q = rm_us r
      · right
        rw [if_pos q2, q2]
        refine ⟨?_, ⟨?_, ?_, ?_, fun k h hk => ?_, fun hl k h hk => ?_⟩, ?_⟩
        · rw [u31, q_updS]; rfl
        · rw [u32, q_updO (by omega), q_updS]
          show nI _ = nI ((dv_hs (rm_dr r d)).drop _).length
          rw [List.length_drop, hz]
          congr 1
          omega
        · rw [u35, q_updO (by omega), q_updS]; rfl
        · rw [u36, q_updO (by omega), q_updS]; rfl
        · have hk : ((dv_hs (rm_dr r d)).drop (rm_b r + 1))[k]? = some h := hk
          have hlt := (List.getElem?_eq_some_iff.mp hk).1
          rw [List.length_drop] at hlt
          rw [List.getElem?_drop] at hk
          rw [u33, if_pos (by omega), show 14 * d + (rm_b r + 1) + (14 * rm_us r + k - 14 * rm_us r) = 14 * d + (rm_b r + 1 + k) by omega]
          exact d2.2.2.2.1 _ h hk
        · have hk : ((dv_cs (rm_dr r d)).drop (rm_b r + 1))[k]? = some h := hk
          have hl : 0 < dv_lev (rm_dr r d) := hl
          have hlt := (List.getElem?_eq_some_iff.mp hk).1
          rw [List.length_drop, hcl hl] at hlt
          rw [List.getElem?_drop] at hk
          rw [u34, if_pos (by omega), show 14 * d + (rm_b r + 1) + (14 * rm_us r + k - 14 * rm_us r) = 14 * d + (rm_b r + 1 + k) by omega]
          exact d2.2.2.2.2 hl _ h hk
        · rw [u37, p37, q_updS]; rfl
      · left
        rw [if_neg q2]
        refine ⟨by omega, rfl, ?_, ?_, ?_, ?_, ?_, fun k hk => ?_, fun k hk => ?_⟩
        · rw [u31, q_updO q2, p31, q_updO q2]
        · rw [u32, q_updO q1, q_updO q2, p32, q_updO q2]
        · rw [u35, q_updO q1, q_updO q2, p35, q_updO q2]
        · rw [u36, q_updO q1, q_updO q2, p36, q_updO q2]
        · rw [u37, p37, q_updO q2]
        · rw [u33, if_neg (by omega)]
        · rw [u34, if_neg (by omega)]
  · have h1 : rm_us r + 1 ≤ q := h1
    rw [u37, p37, q_updO (by omega)]
    exact mM_la hr q (by omega) h2
  · unfold mk_same
    rw [uO2 38 (by decide), uO2 39 (by decide), uO2 40 (by decide), uO2 41 (by decide), uO2 42 (by decide), uO2 43 (by decide), uO2 44 (by decide), uO2 45 (by decide), uO2 46 (by decide), uO2 47 (by decide), uO2 48 (by decide), uO2 49 (by decide)]
    exact ⟨rfl, rfl, rfl, rfl, rfl, rfl, rfl, rfl, rfl, fun _ _ => rfl, fun _ _ => rfl, fun _ _ => rfl⟩
  · have := hck e he h
    rw [eqd]
    by_cases q1 : ck_pl (rm_ck r e) = d
    · rw [if_pos q1, q1]
      rfl
    · rw [if_neg q1, if_neg (by omega)]
  · unfold mj_same
    rw [uO2 50 (by decide), uO2 51 (by decide), uO2 52 (by decide), uO2 53 (by decide), uO2 54 (by decide), uO2 55 (by decide), uO2 56 (by decide)]
    exact ⟨rfl, rfl, rfl, rfl, rfl, rfl, rfl⟩
  · rw [uO2 57 (by decide), uO2 58 (by decide), uO2 59 (by decide)]
    exact ⟨rfl, rfl, rfl, rfl, rfl⟩

/-! 71: headings and children come and go, of the reference -/
theorem sD_sD (r : sg_R) (d : Nat) (x y : sg_D) : sg_sD (sg_sD r d x) d y = sg_sD r d y := by
  unfold sg_sD
  dsimp only
  congr 4
  funext i
  by_cases e : i = d
  · rw [if_pos e, if_pos e]
  · rw [if_neg e, if_neg e, if_neg e]
theorem sD_at (r : sg_R) (d : Nat) (x : sg_D) : rm_dr (sg_sD r d x) d = x := by
  show (if d = d then x else _) = x
  rw [if_pos rfl]
theorem qm_comes_p {ln : Nat → Nat} {d k h : Nat} (L : dq_ML ln) (hd : d < 256) : ∀ (fu i : Nat) (s : dr_S), k ≤ i → i - k < fu → i < 14 → ∃ s1, f_X12_comes_p8 ln fu (nI d) (nI k) (nI h) (nI i) s = f_X12_comes_p8 ln 1 (nI d) (nI k) (nI h) (nI k) s1 ∧ dm_F s s1 ∧ s1.2 = s.2 ∧ (∀ a, a ≠ 33 → s1.1 a = s.1 a) ∧ (∀ p, s1.1 33 p = if 14 * d + k < p ∧ p ≤ 14 * d + i then s.1 33 (p - 1) else s.1 33 p)
  | 0, _, _, _, q, _ => absurd q (Nat.not_lt_zero _)
  | fu + 1, i, s, hi, hf, h14 => by
    by_cases e : i = k
    · subst e
      refine ⟨s, ?_, dm_rf s, rfl, fun _ _ => rfl, fun p => by rw [if_neg (by omega)]⟩
      rw [f_X12_comes_p8, f_X12_comes_p8, if_pos (nI_le (Nat.le_refl _) (by omega)), if_pos (nI_le (Nat.le_refl _) (by omega))]
    · rw [f_X12_comes_p8, if_neg (nI_ge (a := k) (b := i) (by omega) (by omega)), c14, nI_add, show nI (14 * d + i) - 1 = nI (14 * d + i - 1) from by rw [show (1 : Int32) = nI 1 from rfl, pk_sub (by omega)], m_rdb L 33 3584 rfl (by decide) (by decide) (by omega), m_wrb L 33 3584 rfl (by decide) (by decide) (by omega), q_let, sb_m1 (by omega)]
      obtain ⟨s1, a1, a2, a3, a4, a5⟩ := qm_comes_p (k := k) (h := h) L hd fu (i - 1) (dr_put s 33 (14 * d + i) (s.1 33 (14 * d + i - 1))) (by omega) (by omega) (by omega)
      refine ⟨s1, a1, dm_tr (dm_put _ _ _ (dm_rf s) (by decide)) a2, a3, fun a h1 => by rw [a4 a h1, q_putO h1], fun p => ?_⟩
      rw [a5]
      show (if _ then upd (s.1 33) (14 * d + i) (s.1 33 (14 * d + i - 1)) _ else upd (s.1 33) (14 * d + i) (s.1 33 (14 * d + i - 1)) p) = _
      by_cases hp : p = 14 * d + i
      · subst hp
        rw [if_neg (by omega), if_pos (by omega), q_updS]
      · rw [q_updO hp]
        by_cases hq : 14 * d + k < p ∧ p ≤ 14 * d + (i - 1)
        · rw [if_pos hq, if_pos (by omega), q_updO (by omega)]
        · rw [if_neg hq, if_neg (by omega)]
theorem qm_comes {ln : Nat → Nat} {s : dr_S} {r : sg_R} {d k h : Nat} {x : sg_D} (hr : rp_M ln s r) (hw : wf_sz r) (hd : d < rm_us r) (hx : rm_dr r d = x) (hn : (dv_hs x).length ≤ 12) (hcn : (dv_cs x).length ≤ 13) (hk : k ≤ (dv_hs x).length) : ∃ s', f_X12_comes ln (nI d) (nI k) (nI h) s = some (0, s') ∧ dm_F s s' ∧ rp_M ln s' (sg_sD r d (dv_lev x, sg_ins (dv_hs x) k h, dv_cs x, dv_hi x, dv_th x, dv_la x)) := by
  have hus := hw.2.1
  have L := mM_L hr
  have q := mM_dr hr d hd
  rw [hx] at q
  obtain ⟨d1, ⟨d2, d3, d4, d5, d6⟩, d7⟩ := q
  unfold f_X12_comes
  rw [m_rdb L 32 256 rfl (by decide) (by decide) (by omega), d2]
  obtain ⟨s1, a1, a2, a3, a4, a5⟩ := qm_comes_p (d := d) (k := k) (h := h) L (by omega) dr_N (dv_hs x).length s hk (by unfold dr_N; omega) (by omega)
  rw [a1, f_X12_comes_p8, if_pos (nI_le (Nat.le_refl _) (by omega)), c14, nI_add, m_wrb L 33 3584 rfl (by decide) (by decide) (by omega), m_rdb L 32 256 rfl (by decide) (by decide) (by omega), show (dr_put s1 33 (14 * d + k) (nI h)).1 32 d = nI (dv_hs x).length from by show s1.1 32 d = _; rw [a4 32 (by decide), d2], nI_1, m_wrb L 32 256 rfl (by decide) (by decide) (by omega)]
  refine ⟨_, rfl, dm_put _ _ _ (dm_put _ _ _ a2 (by decide)) (by decide), ?_⟩
  refine rm_sD hr hw hd (by rw [hx]; rfl) (fun a h1 h2 h3 => by rw [q_putO (by omega), q_putO (by omega)]; exact a4 a (by omega)) a3 (fun e he hne => ⟨?_, ?_, ?_, ?_, ?_, fun i hi => ?_, fun i hi => ?_⟩) ⟨?_, ⟨?_, ?_, ?_, fun i g hg => ?_, fun hl i g hg => ?_⟩, ?_⟩
  · show s1.1 31 e = _; rw [a4 31 (by decide)]
  · show upd (s1.1 32) d _ e = _; rw [q_updO hne, a4 32 (by decide)]
  · show s1.1 35 e = _; rw [a4 35 (by decide)]
  · show s1.1 36 e = _; rw [a4 36 (by decide)]
  · show s1.1 37 e = _; rw [a4 37 (by decide)]
  · show upd (s1.1 33) (14 * d + k) _ _ = _; rw [q_updO (by omega), a5, if_neg (by omega)]
  · show s1.1 34 _ = _; rw [a4 34 (by decide)]
  · show s1.1 31 d = _; rw [a4 31 (by decide), d1]; rfl
  · show upd (s1.1 32) d _ d = nI (sg_ins (dv_hs x) k h).length; rw [q_updS, sg_ins_len hk]
  · show s1.1 35 d = _; rw [a4 35 (by decide), d3]; rfl
  · show s1.1 36 d = _; rw [a4 36 (by decide), d4]; rfl
  · have hg : (sg_ins (dv_hs x) k h)[i]? = some g := hg
    have hlt := (List.getElem?_eq_some_iff.mp hg).1
    rw [sg_ins_len hk] at hlt
    rw [sg_ins_at hk] at hg
    show upd (s1.1 33) (14 * d + k) (nI h) (14 * d + i) = _
    by_cases e1 : i < k
    · rw [if_pos e1] at hg
      rw [q_updO (by omega), a5, if_neg (by omega)]
      exact d5 i g hg
    · rw [if_neg e1] at hg
      by_cases e2 : i = k
      · rw [if_pos e2] at hg
        cases hg
        rw [e2, q_updS]
      · rw [if_neg e2] at hg
        rw [q_updO (by omega), a5, if_pos (by omega), show 14 * d + i - 1 = 14 * d + (i - 1) by omega]
        exact d5 _ g hg
  · have hg : (dv_cs x)[i]? = some g := hg
    show s1.1 34 _ = _
    rw [a4 34 (by decide)]
    exact d6 hl i g hg
  · show s1.1 37 d = _; rw [a4 37 (by decide), d7]; rfl
theorem qm_p284 {ln : Nat → Nat} {c d h k : Nat} (L : dq_ML ln) (hd : d < 256) (hk14 : k < 13) : ∀ (fu i : Nat) (s : dr_S), k + 1 ≤ i → i - (k + 1) < fu → i < 14 → ∃ s1, f_X12_writes_p284 ln fu (nI c) (nI d) (nI h) (nI k) (nI i) s = f_X12_writes_p284 ln 1 (nI c) (nI d) (nI h) (nI k) (nI (k + 1)) s1 ∧ dm_F s s1 ∧ s1.2 = s.2 ∧ (∀ a, a ≠ 34 → s1.1 a = s.1 a) ∧ (∀ p, s1.1 34 p = if 14 * d + (k + 1) < p ∧ p ≤ 14 * d + i then s.1 34 (p - 1) else s.1 34 p)
  | 0, _, _, _, q, _ => absurd q (Nat.not_lt_zero _)
  | fu + 1, i, s, hi, hf, h14 => by
    by_cases e : i = k + 1
    · subst e
      refine ⟨s, ?_, dm_rf s, rfl, fun _ _ => rfl, fun p => by rw [if_neg (by omega)]⟩
      rw [f_X12_writes_p284, f_X12_writes_p284, nI_1, if_pos (nI_le (Nat.le_refl _) (by omega)), if_pos (nI_le (Nat.le_refl _) (by omega))]
    · rw [f_X12_writes_p284, nI_1, if_neg (nI_ge (a := k + 1) (b := i) (by omega) (by omega)), c14, nI_add, show nI (14 * d + i) - 1 = nI (14 * d + i - 1) from by rw [show (1 : Int32) = nI 1 from rfl, pk_sub (by omega)], m_rdb L 34 3584 rfl (by decide) (by decide) (by omega), m_wrb L 34 3584 rfl (by decide) (by decide) (by omega), q_let, sb_m1 (by omega)]
      obtain ⟨s1, a1, a2, a3, a4, a5⟩ := qm_p284 (c := c) (k := k) (h := h) L hd hk14 fu (i - 1) (dr_put s 34 (14 * d + i) (s.1 34 (14 * d + i - 1))) (by omega) (by omega) (by omega)
      refine ⟨s1, a1, dm_tr (dm_put _ _ _ (dm_rf s) (by decide)) a2, a3, fun a h1 => by rw [a4 a h1, q_putO h1], fun p => ?_⟩
      rw [a5]
      show (if _ then upd (s.1 34) (14 * d + i) (s.1 34 (14 * d + i - 1)) _ else upd (s.1 34) (14 * d + i) (s.1 34 (14 * d + i - 1)) p) = _
      by_cases hp : p = 14 * d + i
      · subst hp
        rw [if_neg (by omega), if_pos (by omega), q_updS]
      · rw [q_updO hp]
        by_cases hq : 14 * d + (k + 1) < p ∧ p ≤ 14 * d + (i - 1)
        · rw [if_pos hq, if_pos (by omega), q_updO (by omega)]
        · rw [if_neg hq, if_neg (by omega)]
/-- a child comes: the rows shift, then the new one -/
theorem qm_childIn {ln : Nat → Nat} {s : dr_S} {r : sg_R} {c d k h n : Nat} {x : sg_D} (hr : rp_M ln s r) (hw : wf_sz r) (hc : c < 4) (hn : ck_ri (rm_ck r c) = some n) (hd : d < rm_us r) (hx : rm_dr r d = x) (hlen : (dv_cs x).length = (dv_hs x).length + 1) (hl : (dv_hs x).length ≤ 12) (hk : k ≤ (dv_hs x).length) : ∃ s1, f_X12_writes_p284 ln dr_N (nI c) (nI d) (nI h) (nI k) (nI ((dv_hs x).length + 1)) s = dr_bndv (f_X12_comes ln (nI d) (nI k) (nI h) s1) (fun s43 => (f_X12_writes_p353 ln (nI c) (nI d) s43)) ∧ dm_F s s1 ∧ rp_M ln s1 (sg_sD r d (dv_lev x, dv_hs x, sg_ins (dv_cs x) (k + 1) n, dv_hi x, dv_th x, dv_la x)) := by
  have hus := hw.2.1
  have L := mM_L hr
  have q := mM_dr hr d hd
  rw [hx] at q
  obtain ⟨d1, ⟨d2, d3, d4, d5, d6⟩, d7⟩ := q
  obtain ⟨s1, a1, a2, a3, a4, a5⟩ := qm_p284 (c := c) (d := d) (k := k) (h := h) L (by omega) (by omega) dr_N ((dv_hs x).length + 1) s (by omega) (by unfold dr_N; omega) (by omega)
  have e43 : s1.1 43 c = nI n := by rw [a4 43 (by decide), (mM_ck hr c hc).2.2.2.2.1, hn]; rfl
  rw [a1, f_X12_writes_p284, nI_1, if_pos (nI_le (Nat.le_refl _) (by omega)), m_rdb L 43 4 rfl (by decide) (by decide) hc, e43, c14, nI_add, nI_1, m_wrb L 34 3584 rfl (by decide) (by decide) (by omega)]
  refine ⟨_, rfl, dm_put _ _ _ a2 (by decide), ?_⟩
  refine rm_sD hr hw hd (by rw [hx]; rfl) (fun a h1 h2 h3 => by rw [q_putO (by omega)]; exact a4 a (by omega)) a3 (fun e he hne => ⟨?_, ?_, ?_, ?_, ?_, fun i hi => ?_, fun i hi => ?_⟩) ⟨?_, ⟨?_, ?_, ?_, fun i g hg => ?_, fun hl i g hg => ?_⟩, ?_⟩
  · show s1.1 31 e = _; rw [a4 31 (by decide)]
  · show s1.1 32 e = _; rw [a4 32 (by decide)]
  · show s1.1 35 e = _; rw [a4 35 (by decide)]
  · show s1.1 36 e = _; rw [a4 36 (by decide)]
  · show s1.1 37 e = _; rw [a4 37 (by decide)]
  · show s1.1 33 _ = _; rw [a4 33 (by decide)]
  · show upd (s1.1 34) (14 * d + k + 1) _ _ = _; rw [q_updO (by omega), a5, if_neg (by omega)]
  · show s1.1 31 d = _; rw [a4 31 (by decide), d1]; rfl
  · show s1.1 32 d = _; rw [a4 32 (by decide), d2]; rfl
  · show s1.1 35 d = _; rw [a4 35 (by decide), d3]; rfl
  · show s1.1 36 d = _; rw [a4 36 (by decide), d4]; rfl
  · have hg : (dv_hs x)[i]? = some g := hg
    show s1.1 33 _ = _
    rw [a4 33 (by decide)]
    exact d5 i g hg
  · have hg : (sg_ins (dv_cs x) (k + 1) n)[i]? = some g := hg
    have hk1 : k + 1 ≤ (dv_cs x).length := by omega
    have hlt := (List.getElem?_eq_some_iff.mp hg).1
    rw [sg_ins_len hk1] at hlt
    rw [sg_ins_at hk1] at hg
    show upd (s1.1 34) (14 * d + k + 1) (nI n) (14 * d + i) = _
    by_cases e1 : i < k + 1
    · rw [if_pos e1] at hg
      rw [q_updO (by omega), a5, if_neg (by omega)]
      exact d6 hl i g hg
    · rw [if_neg e1] at hg
      by_cases e2 : i = k + 1
      · rw [if_pos e2] at hg
        cases hg
        rw [e2, show 14 * d + (k + 1) = 14 * d + k + 1 from rfl, q_updS]
      · rw [if_neg e2] at hg
        rw [q_updO (by omega), a5, if_pos (by omega), show 14 * d + i - 1 = 14 * d + (i - 1) by omega]
        exact d6 hl _ g hg
  · show s1.1 37 d = _; rw [a4 37 (by decide), d7]; rfl
theorem qm_p151 {ln : Nat → Nat} {c d h m : Nat} {z : Int32} (L : dq_ML ln) (hd : d < 256) (hm : m ≤ 12) : ∀ (fu i : Nat) (s : dr_S), i ≤ m → m - i < fu → s.1 32 d = nI m → ∃ s1, f_X12_writes_p151 ln fu (nI c) (nI d) (nI h) z (nI i) s = f_X12_writes_p194 ln (nI c) (nI d) (nI h) z s1 ∧ dm_F s s1 ∧ s1.2 = s.2 ∧ (∀ a, a ≠ 33 → s1.1 a = s.1 a) ∧ (∀ p, s1.1 33 p = if 14 * d + i ≤ p ∧ p < 14 * d + m then s.1 33 (p + 1) else s.1 33 p)
  | 0, _, _, _, q, _ => absurd q (Nat.not_lt_zero _)
  | fu + 1, i, s, hi, hf, h32 => by
    rw [f_X12_writes_p151, m_rdb L 32 256 rfl (by decide) (by decide) hd, h32]
    by_cases e : i = m
    · subst e
      rw [if_pos (nI_le (Nat.le_refl _) (by omega))]
      exact ⟨s, rfl, dm_rf s, rfl, fun _ _ => rfl, fun p => by rw [if_neg (by omega)]⟩
    · rw [if_neg (nI_ge (a := i) (b := m) (by omega) (by omega)), c14, nI_add, nI_1, m_rdb L 33 3584 rfl (by decide) (by decide) (by omega), m_wrb L 33 3584 rfl (by decide) (by decide) (by omega), q_let, nI_1]
      obtain ⟨s1, a1, a2, a3, a4, a5⟩ := qm_p151 (c := c) (h := h) (z := z) L hd hm fu (i + 1) (dr_put s 33 (14 * d + i) (s.1 33 (14 * d + i + 1))) (by omega) (by omega) h32
      refine ⟨s1, a1, dm_tr (dm_put _ _ _ (dm_rf s) (by decide)) a2, a3, fun a h1 => by rw [a4 a h1, q_putO h1], fun p => ?_⟩
      rw [a5]
      show (if _ then upd (s.1 33) (14 * d + i) (s.1 33 (14 * d + i + 1)) _ else upd (s.1 33) (14 * d + i) (s.1 33 (14 * d + i + 1)) p) = _
      by_cases hp : p = 14 * d + i
      · subst hp
        rw [if_neg (by omega), if_pos (by omega), q_updS]
      · rw [q_updO hp]
        by_cases hq : 14 * d + (i + 1) ≤ p ∧ p < 14 * d + m
        · rw [if_pos hq, if_pos (by omega), q_updO (by omega)]
        · rw [if_neg hq, if_neg (by omega)]
/-- a card goes -/
theorem qm_cardOut {ln : Nat → Nat} {s : dr_S} {r : sg_R} {c d k h : Nat} {x : sg_D} {z : Int32} (hr : rp_M ln s r) (hw : wf_sz r) (hd : d < rm_us r) (hx : rm_dr r d = x) (hl : (dv_hs x).length ≤ 12) (hk : k < (dv_hs x).length) (h0 : dv_lev x = 0) : ∃ s1, (dr_rd ln s 32 (nI d)).bind (fun v19 => (dr_wr ln s 32 (nI d) (v19 - 1)).bind (fun s20 => (f_X12_writes_p151 ln dr_N (nI c) (nI d) (nI h) z (nI k) s20))) = f_X12_writes_p194 ln (nI c) (nI d) (nI h) z s1 ∧ dm_F s s1 ∧ rp_M ln s1 (sg_sD r d (dv_lev x, (dv_hs x).eraseIdx k, dv_cs x, dv_hi x, dv_th x, dv_la x)) := by
  have hus := hw.2.1
  have L := mM_L hr
  have q := mM_dr hr d hd
  rw [hx] at q
  obtain ⟨d1, ⟨d2, d3, d4, d5, d6⟩, d7⟩ := q
  rw [m_rdb L 32 256 rfl (by decide) (by decide) (by omega), d2, show nI (dv_hs x).length - 1 = nI ((dv_hs x).length - 1) from by rw [show (1 : Int32) = nI 1 from rfl, pk_sub (by omega)], m_wrb L 32 256 rfl (by decide) (by decide) (by omega)]
  obtain ⟨s1, a1, a2, a3, a4, a5⟩ := qm_p151 (c := c) (d := d) (h := h) (m := (dv_hs x).length - 1) (z := z) L (by omega) (by omega) dr_N k (dr_put s 32 d (nI ((dv_hs x).length - 1))) (by omega) (by unfold dr_N; omega) (q_updS _ _ _)
  refine ⟨s1, a1, dm_tr (dm_put _ _ _ (dm_rf s) (by decide)) a2, ?_⟩
  have b4 : ∀ a, a ≠ 32 → a ≠ 33 → s1.1 a = s.1 a := fun a h1 h2 => (a4 a h2).trans (q_putO h1)
  have b32 : s1.1 32 = upd (s.1 32) d (nI ((dv_hs x).length - 1)) := (a4 32 (by decide)).trans (q_put1 _ _ _ _)
  have b33 : ∀ p, s1.1 33 p = if 14 * d + k ≤ p ∧ p < 14 * d + ((dv_hs x).length - 1) then s.1 33 (p + 1) else s.1 33 p := a5
  refine rm_sD hr hw hd (by rw [hx]; rfl) (fun a h1 h2 h3 => b4 a (by omega) (by omega)) a3 (fun e he hne => ⟨?_, ?_, ?_, ?_, ?_, fun i hi => ?_, fun i hi => ?_⟩) ⟨?_, ⟨?_, ?_, ?_, fun i g hg => ?_, fun hl i g hg => ?_⟩, ?_⟩
  · rw [b4 31 (by decide) (by decide)]
  · rw [b32, q_updO hne]
  · rw [b4 35 (by decide) (by decide)]
  · rw [b4 36 (by decide) (by decide)]
  · rw [b4 37 (by decide) (by decide)]
  · rw [b33, if_neg (by omega)]
  · rw [b4 34 (by decide) (by decide)]
  · rw [b4 31 (by decide) (by decide), d1]; rfl
  · rw [b32, q_updS]
    show _ = nI ((dv_hs x).eraseIdx k).length
    rw [List.length_eraseIdx_of_lt hk]
  · rw [b4 35 (by decide) (by decide), d3]; rfl
  · rw [b4 36 (by decide) (by decide), d4]; rfl
  · have hg : ((dv_hs x).eraseIdx k)[i]? = some g := hg
    have hlt := (List.getElem?_eq_some_iff.mp hg).1
    rw [List.length_eraseIdx_of_lt hk] at hlt
    rw [List.getElem?_eraseIdx] at hg
    rw [b33]
    by_cases e1 : i < k
    · rw [if_pos e1] at hg
      rw [if_neg (by omega)]
      exact d5 i g hg
    · rw [if_neg e1] at hg
      rw [if_pos (by omega)]
      exact d5 (i + 1) g hg
  · have hl : 0 < dv_lev x := hl
    omega
  · rw [b4 37 (by decide) (by decide), d7]; rfl

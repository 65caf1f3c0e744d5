/-! 95: shape, of the reference; the call -/
theorem sg_bh_cons (ru : List (Nat × Bool)) (x : sg_D) (p : Option Nat) (g : Nat) (q : List Nat) : sg_bh ru x p (g :: q) = (!(sg_cov ru x g) || ((match p with | none => false | some a => !(sg_ah ru a g)) || sg_bh ru x (some g) q)) := by
  cases p <;> rfl
theorem qm_bk_p {ln : Nat → Nat} {s : dr_S} {r : sg_R} {d : Nat} (hM : rp_M ln s r) (hw : wf_sh r) (hd : d < rm_us r) : ∀ (k fu i : Nat), (dv_hs (rm_dr r d)).length + 1 = i + k → k < fu → f_X12_isBad_p85 ln fu (nI d) (nI i) s = some (bI (decide (0 < dv_lev (rm_dr r d)) && sg_bk r ((dv_hs (rm_dr r d)).drop i) ((dv_cs (rm_dr r d)).drop i)), s)
  | k, 0, _, _, q => absurd q (Nat.not_lt_zero _)
  | 0, fu + 1, i, hk, hf => by
    have hus := hw.1.2.1
    have hb := hw.1.1
    have L := mM_L hM
    obtain ⟨ho, hl, _⟩ := hw.2.2 d hd
    obtain ⟨m1, m2, m3⟩ := mM_dr hM d hd
    rw [f_X12_isBad_p85, m_rdb L 32 256 rfl (by decide) (by decide) (by omega), m2.1, if_pos (nI_lt (by omega) (by omega)), show (dv_hs (rm_dr r d)).drop i = [] from List.drop_eq_nil_of_le (by omega), sg_bk_nil, Bool.and_false]
    rfl
  | k + 1, fu + 1, i, hk, hf => by
    have hus := hw.1.2.1
    have hb := hw.1.1
    have L := mM_L hM
    obtain ⟨ho, hl, hl64, hcs⟩ := hw.2.2 d hd
    obtain ⟨m1, m2, m3⟩ := mM_dr hM d hd
    rw [f_X12_isBad_p85, m_rdb L 32 256 rfl (by decide) (by decide) (by omega), m2.1, if_neg (nI_nlt (by omega) (by omega)), m_rdb L 31 256 rfl (by decide) (by decide) (by omega), m1]
    by_cases hlv : 0 < dv_lev (rm_dr r d)
    · obtain ⟨hcl, hcu⟩ := hcs hlv
      obtain ⟨c, hc⟩ := at_some (l := dv_cs (rm_dr r d)) (i := i) (by omega)
      obtain ⟨cu, cl⟩ := hcu c (List.mem_of_getElem? hc)
      obtain ⟨n1, n2, n3⟩ := mM_dr hM c cu
      have hoc := (hw.2.2 c cu).1
      have ih := qm_bk_p hM hw hd k fu (i + 1) (by omega) (by omega)
      rw [show decide (0 < dv_lev (rm_dr r d)) = true from decide_eq_true hlv, Bool.true_and] at ih ⊢
      rw [if_neg (show ¬ nI (dv_lev (rm_dr r d)) ≤ 0 from nI_ge (a := 0) hlv (by omega)), c14, nI_add, m_rdb L 34 3584 rfl (by decide) (by decide) (by omega), m2.2.2.2.2 hlv i c hc, m_rdb L 30 256 rfl (by decide) (by decide) (by omega), mM_us hM c (by omega), if_pos cu, if_neg (by decide), m_rdb L 31 256 rfl (by decide) (by decide) (by omega), n1, m_rdb L 31 256 rfl (by decide) (by decide) (by omega), m1, show nI (dv_lev (rm_dr r d)) - 1 = nI (dv_lev (rm_dr r c)) from by rw [← cl, nI_pred], if_pos rfl, m_rdb L 32 256 rfl (by decide) (by decide) (by omega), m2.1, drop_at hc]
      unfold f_X12_isBad_p190
      by_cases e : i < (dv_hs (rm_dr r d)).length
      · obtain ⟨h, hh⟩ := at_some e
        have hh2 := ho.2.1 h (List.mem_of_getElem? hh)
        rw [if_neg (nI_ge e (by omega)), m_rdb L 35 256 rfl (by decide) (by decide) (by omega), n2.2.1, drop_at hh, sg_bk]
        cases hhi : dv_hi (rm_dr r c) with
        | none => rw [if_pos (show nO none = (-1 : Int32) from rfl)]; rfl
        | some g =>
          have hg := hoc.2.2 g hhi
          rw [show nO (some g) = nI g from rfl, if_neg (n1_ne (by omega)), m_rdb L 33 3584 rfl (by decide) (by decide) (by omega), m2.2.2.2.1 i h hh, m_rdb L 35 256 rfl (by decide) (by decide) (by omega), n2.2.1, hhi, show nO (some g) = nI g from rfl, qm_isAhead (qm_l L) (mM_ru hM) hw.2.1 hh2 hg, q_bi]
          show _ = some (bI (sg_ah (rm_ru r) h g || sg_bk r _ _), s)
          cases sg_ah (rm_ru r) h g with
          | true => rw [if_neg (show ¬ bI true = (0 : Int32) by decide)]; rfl
          | false => rw [if_pos (show bI false = (0 : Int32) from rfl), q_let, nI_1, ih, Bool.false_or]
      · rw [if_pos (nI_le (by omega) (by omega)), q_let, nI_1, ih, show (dv_hs (rm_dr r d)).drop (i + 1) = [] from List.drop_eq_nil_of_le (by omega), show (dv_hs (rm_dr r d)).drop i = [] from List.drop_eq_nil_of_le (by omega), sg_bk_nil, sg_bk_nil]
    · rw [if_pos (show nI (dv_lev (rm_dr r d)) ≤ 0 by rw [show dv_lev (rm_dr r d) = 0 by omega]; decide), show decide (0 < dv_lev (rm_dr r d)) = false from decide_eq_false hlv, Bool.false_and]
      rfl
theorem qm_bh_p {ln : Nat → Nat} {s : dr_S} {r : sg_R} {d : Nat} (hM : rp_M ln s r) (hw : wf_sh r) (hd : d < rm_us r) : ∀ (k fu i : Nat) (p : Option Nat), (dv_hs (rm_dr r d)).length = i + k → k < fu → (p = if i = 0 then none else (dv_hs (rm_dr r d))[i - 1]?) → f_X12_isBad_p19 ln fu (nI d) (nI i) s = some (bI (sg_bh (rm_ru r) (rm_dr r d) p ((dv_hs (rm_dr r d)).drop i) || (decide (0 < dv_lev (rm_dr r d)) && sg_bk r (dv_hs (rm_dr r d)) (dv_cs (rm_dr r d)))), s)
  | k, 0, _, _, _, q, _ => absurd q (Nat.not_lt_zero _)
  | 0, fu + 1, i, p, hk, hf, hp => by
    have hus := hw.1.2.1
    have hb := hw.1.1
    have L := mM_L hM
    obtain ⟨ho, hl, _⟩ := hw.2.2 d hd
    obtain ⟨m1, m2, m3⟩ := mM_dr hM d hd
    rw [f_X12_isBad_p19, m_rdb L 32 256 rfl (by decide) (by decide) (by omega), m2.1, if_pos (nI_le (by omega) (by omega)), show (dv_hs (rm_dr r d)).drop i = [] from List.drop_eq_nil_of_le (by omega), show sg_bh (rm_ru r) (rm_dr r d) p [] = false from by cases p <;> rfl, Bool.false_or]
    exact qm_bk_p hM hw hd ((dv_hs (rm_dr r d)).length + 1) dr_N 0 (by omega) (by unfold dr_N; omega)
  | k + 1, fu + 1, i, p, hk, hf, hp => by
    have hus := hw.1.2.1
    have hb := hw.1.1
    have L := mM_L hM
    obtain ⟨ho, hl, _⟩ := hw.2.2 d hd
    obtain ⟨m1, m2, m3⟩ := mM_dr hM d hd
    obtain ⟨g, hg⟩ := at_some (l := dv_hs (rm_dr r d)) (i := i) (by omega)
    have hg2 := ho.2.1 g (List.mem_of_getElem? hg)
    have ih := qm_bh_p hM hw hd k fu (i + 1) (some g) (by omega) (by omega) (by rw [if_neg (by omega)]; exact hg.symm)
    rw [f_X12_isBad_p19, m_rdb L 32 256 rfl (by decide) (by decide) (by omega), m2.1, if_neg (nI_ge (by omega) (by omega)), c14, nI_add, m_rdb L 33 3584 rfl (by decide) (by decide) (by omega), m2.2.2.2.1 i g hg, qm_covers (mM_L hM) (mM_ru hM) hw.2.1 (by omega) m2.2.1 ho hg2, q_bi, drop_at hg, sg_bh_cons]
    unfold f_X12_isBad_p77
    cases hcv : sg_cov (rm_ru r) (rm_dr r d) g with
    | false => rw [if_pos (show bI false = (0 : Int32) from rfl)]; rfl
    | true =>
      rw [if_neg (show ¬ bI true = (0 : Int32) by decide), show (!true) = false from rfl, Bool.false_or]
      by_cases e : i = 0
      · rw [if_pos (show nI i ≤ 0 by rw [e]; decide), q_let, nI_1, ih, hp, if_pos e]
        rfl
      · obtain ⟨a, ha⟩ := at_some (l := dv_hs (rm_dr r d)) (i := i - 1) (by omega)
        rw [if_neg (show ¬ nI i ≤ 0 from nI_ge (a := 0) (by omega) (by omega)), show nI (14 * d + i) - 1 = nI (14 * d + (i - 1)) from by rw [show (1 : Int32) = nI 1 from rfl, pk_sub (by omega), show 14 * d + i - 1 = 14 * d + (i - 1) by omega], m_rdb L 33 3584 rfl (by decide) (by decide) (by omega), m2.2.2.2.1 (i - 1) a ha, qm_isAhead (qm_l L) (mM_ru hM) hw.2.1 (ho.2.1 a (List.mem_of_getElem? ha)) hg2, q_bi, hp, if_neg e, ha]
        show _ = some (bI ((!(sg_ah (rm_ru r) a g) || _) || _), s)
        cases sg_ah (rm_ru r) a g with
        | false => rw [if_pos (show bI false = (0 : Int32) from rfl)]; rfl
        | true => rw [if_neg (show ¬ bI true = (0 : Int32) by decide), q_let, nI_1, ih, show (!true) = false from rfl, Bool.false_or]
theorem qm_isBad {ln : Nat → Nat} {s : dr_S} {r : sg_R} {d : Nat} (hM : rp_M ln s r) (hw : wf_sh r) (hd : d < rm_us r) : f_X12_isBad ln (nI d) s = some (bI (sg_bad2 r d), s) := by
  have hus := hw.1.2.1
  have hb := hw.1.1
  have L := mM_L hM
  obtain ⟨ho, hl, _⟩ := hw.2.2 d hd
  obtain ⟨m1, m2, m3⟩ := mM_dr hM d hd
  unfold f_X12_isBad
  rw [m_rdb L 32 256 rfl (by decide) (by decide) (by omega), m2.1, mM_b hM, show (2 : Int32) * nI (rm_b r) = nI (2 * rm_b r) from by rw [show (2 : Int32) = nI 2 from rfl, pk_mul], if_pos (nI_le hl (by omega))]
  exact qm_bh_p hM hw hd (dv_hs (rm_dr r d)).length dr_N 0 none (by omega) (by unfold dr_N; omega) (by rw [if_pos rfl])
theorem qm_shape_p {ln : Nat → Nat} {s : dr_S} {r : sg_R} (hM : rp_M ln s r) (hw : wf_sh r) : ∀ (k fu i : Nat), 256 = i + k → k < fu → f_X12_shape_p2 ln fu (nI i) s = some (nO (sg_shp r (rm_us r - i) i), s)
  | k, 0, _, _, q => absurd q (Nat.not_lt_zero _)
  | 0, fu + 1, i, hk, hf => by
    have hus := hw.1.2.1
    rw [f_X12_shape_p2, if_pos (show (256 : Int32) ≤ nI i from nI_le (a := 256) (by omega) (by omega)), show rm_us r - i = 0 by omega]
    rfl
  | k + 1, fu + 1, i, hk, hf => by
    have hus := hw.1.2.1
    have ih := qm_shape_p hM hw k fu (i + 1) (by omega) (by omega)
    rw [f_X12_shape_p2, if_neg (show ¬ (256 : Int32) ≤ nI i from nI_ge (b := 256) (by omega) (by omega)), m_rdb (mM_L hM) 30 256 rfl (by decide) (by decide) (by omega), mM_us hM i (by omega)]
    unfold f_X12_shape_p28
    by_cases e : i < rm_us r
    · rw [if_pos e, if_neg (by decide), qm_isBad hM hw e, q_bi, show rm_us r - i = (rm_us r - (i + 1)) + 1 by omega, sg_shp]
      cases sg_bad2 r i with
      | true => rw [if_neg (show ¬ bI true = (0 : Int32) by decide), if_pos rfl]; rfl
      | false => rw [if_pos (show bI false = (0 : Int32) from rfl), q_let, nI_1, ih, if_neg (by decide)]
    · rw [if_neg e, if_pos rfl, q_let, nI_1, ih, show rm_us r - i = 0 by omega, show rm_us r - (i + 1) = 0 by omega]
      rfl
theorem qm_shape {ln : Nat → Nat} {s : dr_S} {r : sg_R} (hM : rp_M ln s r) (hw : wf_sh r) : f_X12_shape ln s = some (nO (sg_shp r (rm_us r) 0), s) := qm_shape_p hM hw 256 dr_N 0 (by omega) (by unfold dr_N; omega)
theorem ok_shape {ln : Nat → Nat} {s : dr_S} {r : sg_R} (h : rr ln s r) : call_ok ln (f_X11_shape ln) (f_X12_shape ln) s r := by
  have h0 := h
  obtain ⟨hC, hM, ⟨hiv, hi2⟩, h204, h203⟩ := h
  obtain ⟨rk, t, st, hp, hT, hcn⟩ := hiv
  have hw := iv_sh st hcn
  refine call_ro h0 (nO (sg_shp r (rm_us r) 0)) ?_ (qm_shape hM hw)
  unfold f_X11_shape
  rw [q9_least hC hw, q_bi]

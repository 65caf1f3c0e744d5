/-! 65: small deeds of the reference -/
theorem mM_L {ln : Nat → Nat} {s : dr_S} {r : sg_R} (h : rp_M ln s r) : dq_ML ln := h.1
theorem mM_b {ln : Nat → Nat} {s : dr_S} {r : sg_R} (h : rp_M ln s r) : s.2 1200 = nI (rm_b r) := h.2.1
theorem mM_ru {ln : Nat → Nat} {s : dr_S} {r : sg_R} (h : rp_M ln s r) : rp_mru s (rm_ru r) := h.2.2.1
theorem mM_ti {ln : Nat → Nat} {s : dr_S} {r : sg_R} (h : rp_M ln s r) : s.2 1204 = nI (rm_ti r) := h.2.2.2.1
theorem mM_to {ln : Nat → Nat} {s : dr_S} {r : sg_R} (h : rp_M ln s r) : s.2 1205 = nI (rm_to r) := h.2.2.2.2.1
theorem mM_us {ln : Nat → Nat} {s : dr_S} {r : sg_R} (h : rp_M ln s r) : ∀ d, d < 256 → s.1 30 d = (if d < rm_us r then 1 else 0) := h.2.2.2.2.2.1
theorem mM_dr {ln : Nat → Nat} {s : dr_S} {r : sg_R} (h : rp_M ln s r) : ∀ d, d < rm_us r → rp_md s d (rm_dr r d) := h.2.2.2.2.2.2.1
theorem mM_la {ln : Nat → Nat} {s : dr_S} {r : sg_R} (h : rp_M ln s r) : ∀ d, rm_us r ≤ d → d < 256 → s.1 37 d = -1 := h.2.2.2.2.2.2.2.1
theorem mM_ck {ln : Nat → Nat} {s : dr_S} {r : sg_R} (h : rp_M ln s r) : ∀ c, c < 4 → rp_mck s c (rm_ck r c) (dv_lev (rm_dr r (ck_pl (rm_ck r c)))) (ck_he r c) := h.2.2.2.2.2.2.2.2.1
theorem mM_nj {ln : Nat → Nat} {s : dr_S} {r : sg_R} (h : rp_M ln s r) : s.2 1226 = nI (rm_nj r) := h.2.2.2.2.2.2.2.2.2.1
theorem mM_jb {ln : Nat → Nat} {s : dr_S} {r : sg_R} (h : rp_M ln s r) : ∀ j, j < rm_nj r → rp_mj s j (rm_jb r j) := h.2.2.2.2.2.2.2.2.2.2.1
theorem mM_j2 {ln : Nat → Nat} {s : dr_S} {r : sg_R} (h : rp_M ln s r) : ∀ j, rm_nj r ≤ j → j < 120 → s.1 55 j = 0 ∧ s.1 56 j = 0 := h.2.2.2.2.2.2.2.2.2.2.2.1
theorem mM_nc {ln : Nat → Nat} {s : dr_S} {r : sg_R} (h : rp_M ln s r) : s.2 1234 = nI (rm_ch r).length := h.2.2.2.2.2.2.2.2.2.2.2.2.1
theorem mM_ch {ln : Nat → Nat} {s : dr_S} {r : sg_R} (h : rp_M ln s r) : ∀ (i j t : Nat), (rm_ch r)[i]? = some (j, t) → s.1 57 i = nI t ∧ s.1 58 i = nI (jb_he (rm_jb r j)) ∧ s.1 59 i = (if jb_ki (rm_jb r j) = 1 then 1 else 0) := h.2.2.2.2.2.2.2.2.2.2.2.2.2
theorem n1_ne {n : Nat} (h : n < 2 ^ 31) : ¬ nI n = (-1 : Int32) := fun q => nI_pos (n := n) h (by rw [q]; decide)
theorem nI_lit {n k : Nat} (hn : n < 2 ^ 31) (hk : k < 2 ^ 31) (h : n ≠ k) : ¬ nI n = nI k := fun q => h ((nI_eq hn hk).mp q)
theorem qm_covered {ln : Nat → Nat} {s : dr_S} {r : sg_R} {c d h : Nat} (hr : rp_M ln s r) (hw : wf_sz r) (hok : rl_ok (rm_ru r)) (hc : c < 4) (hf : ck_fa (rm_ck r c) ≤ 2) (hd : d < rm_us r) (ho : hs_ok (rm_b r) (rm_dr r d)) (hh : h < 10000) : f_X12_covered ln (nI c) (nI d) (nI h) s = some (bI (!(sg_must r c d h)), s) := by
  have hus := hw.2.1
  unfold f_X12_covered sg_must
  rw [m_rdb (mM_L hr) 38 4 rfl (by decide) (by decide) hc, (mM_ck hr c hc).1]
  by_cases e : ck_fa (rm_ck r c) = 1
  · rw [e, if_pos (show nI 1 = (1 : Int32) from rfl)]
    rfl
  · rw [if_neg (show ¬ nI (ck_fa (rm_ck r c)) = (1 : Int32) from nI_lit (k := 1) (by omega) (by omega) e), qm_covers (mM_L hr) (mM_ru hr) hok (by omega) (mM_dr hr d hd).2.1.2.1 ho hh, q_bi, show decide (ck_fa (rm_ck r c) ≠ 1) = true from decide_eq_true e]
    cases sg_cov (rm_ru r) (rm_dr r d) h <;> rfl
theorem qm_isOthers {ln : Nat → Nat} {s : dr_S} {r : sg_R} {c d : Nat} (hr : rp_M ln s r) (hw : wf_sz r) (hc : c < 4) (hf : ck_fa (rm_ck r c) ≤ 2) (hd : d < rm_us r) (hl : ∀ e, dv_la (rm_dr r d) = some e → e < 4) : f_X12_isOthers ln (nI c) (nI d) s = some (bI (!(sg_free r c d)), s) := by
  have hus := hw.2.1
  have L := mM_L hr
  unfold f_X12_isOthers sg_free
  rw [m_rdb L 38 4 rfl (by decide) (by decide) hc, (mM_ck hr c hc).1]
  by_cases e : ck_fa (rm_ck r c) = 2
  · rw [e, if_pos (show nI 2 = (2 : Int32) from rfl)]
    rfl
  · rw [if_neg (show ¬ nI (ck_fa (rm_ck r c)) = (2 : Int32) from nI_lit (k := 2) (by omega) (by omega) e), m_rdb L 37 256 rfl (by decide) (by decide) (by omega), m_rdb L 37 256 rfl (by decide) (by decide) (by omega), (mM_dr hr d hd).2.2, show decide (ck_fa (rm_ck r c) = 2) = false from decide_eq_false e]
    cases hla : dv_la (rm_dr r d) with
    | none => rw [if_pos (show nO none = (-1 : Int32) from rfl)]; rfl
    | some a =>
      have ha := hl a hla
      rw [show nO (some a) = nI a from rfl, if_neg (n1_ne (by omega))]
      by_cases eac : a = c
      · subst eac
        rw [if_pos rfl]
        simp [bI]
      · rw [if_neg (nI_lit (by omega) (by omega) eac)]
        simp [bI, eac]
theorem rm_la {ln : Nat → Nat} {s : dr_S} {r : sg_R} {d : Nat} {v : Option Nat} (hr : rp_M ln s r) (hw : wf_sz r) (hd : d < rm_us r) : rp_M ln (dr_put s 37 d (nO v)) (sg_sD r d (dv_lev (rm_dr r d), dv_hs (rm_dr r d), dv_cs (rm_dr r d), dv_hi (rm_dr r d), dv_th (rm_dr r d), v)) := by
  refine rm_sD hr hw hd rfl (fun a h1 h2 h3 => q_putO (by omega)) rfl (fun e he hne => ⟨rfl, rfl, rfl, rfl, ?_, fun _ _ => rfl, fun _ _ => rfl⟩) ?_
  · show upd (s.1 37) d (nO v) e = _
    rw [q_updO hne]
  · obtain ⟨h1, h2, h3⟩ := mM_dr hr d hd
    refine ⟨h1, h2, ?_⟩
    show upd (s.1 37) d (nO v) d = _
    rw [q_updS]
    rfl
theorem qm_latches {ln : Nat → Nat} {s : dr_S} {r : sg_R} {c d : Nat} (hr : rp_M ln s r) (hw : wf_sz r) (hc : c < 4) (hf : ck_fa (rm_ck r c) ≤ 2) (hd : d < rm_us r) : ∃ s', f_X12_latches ln (nI c) (nI d) s = some (0, s') ∧ dm_F s s' ∧ rp_M ln s' (sg_la r c d (some c)) := by
  have hus := hw.2.1
  have L := mM_L hr
  unfold f_X12_latches sg_la
  rw [m_rdb L 38 4 rfl (by decide) (by decide) hc, (mM_ck hr c hc).1]
  by_cases e : ck_fa (rm_ck r c) = 2
  · rw [e, if_pos (show nI 2 = (2 : Int32) from rfl), if_pos rfl]
    exact ⟨s, rfl, dm_rf s, hr⟩
  · rw [if_neg (show ¬ nI (ck_fa (rm_ck r c)) = (2 : Int32) from nI_lit (k := 2) (by omega) (by omega) e), m_wrb L 37 256 rfl (by decide) (by decide) (by omega), if_neg e]
    exact ⟨_, rfl, dm_put _ _ _ (dm_rf s) (by decide), rm_la (v := some c) hr hw hd⟩
theorem qm_letsGo {ln : Nat → Nat} {s : dr_S} {r : sg_R} {c d : Nat} (hr : rp_M ln s r) (hw : wf_sz r) (hc : c < 4) (hf : ck_fa (rm_ck r c) ≤ 2) (hd : d < rm_us r) : ∃ s', f_X12_letsGo ln (nI c) (nI d) s = some (0, s') ∧ dm_F s s' ∧ rp_M ln s' (sg_la r c d none) := by
  have hus := hw.2.1
  have L := mM_L hr
  unfold f_X12_letsGo sg_la
  rw [m_rdb L 38 4 rfl (by decide) (by decide) hc, (mM_ck hr c hc).1]
  by_cases e : ck_fa (rm_ck r c) = 2
  · rw [e, if_pos (show nI 2 = (2 : Int32) from rfl), if_pos rfl]
    exact ⟨s, rfl, dm_rf s, hr⟩
  · rw [if_neg (show ¬ nI (ck_fa (rm_ck r c)) = (2 : Int32) from nI_lit (k := 2) (by omega) (by omega) e), m_wrb L 37 256 rfl (by decide) (by decide) (by omega), if_neg e]
    exact ⟨_, rfl, dm_put _ _ _ (dm_rf s) (by decide), rm_la (v := none) hr hw hd⟩
theorem wf_sJ {r : sg_R} {j : Nat} {x : sg_J} (hw : wf_sz r) : wf_sz (sg_sJ r j x) := hw
theorem sg_end_eq (r : sg_R) (c a : Nat) : sg_end r c a = sg_sK (sg_sJ r (ck_job (rm_ck r c)) (jb_ki (rm_jb r (ck_job (rm_ck r c))), jb_he (rm_jb r (ck_job (rm_ck r c))), some a, jb_be (rm_jb r (ck_job (rm_ck r c))), some (rm_ti r), jb_st (rm_jb r (ck_job (rm_ck r c))), jb_lo (rm_jb r (ck_job (rm_ck r c))))) c (ck_put (rm_ck r c) 0 (ck_pl (rm_ck r c)) (ck_so (rm_ck r c)) none) := rfl
theorem qm_ends {ln : Nat → Nat} {s : dr_S} {r : sg_R} {c j a : Nat} (hr : rp_M ln s r) (hw : wf_sz r) (hc : c < 4) (hj : ck_jo (rm_ck r c) = some j) (hjn : j < rm_nj r) : ∃ s', f_X12_ends ln (nI c) (nI a) s = some (0, s') ∧ dm_F s s' ∧ rp_M ln s' (sg_end r c a) := by
  have hus := hw.2.1
  have hnj := hw.2.2.1
  have L := mM_L hr
  have e41 : s.1 41 c = nI j := by
    rw [(mM_ck hr c hc).2.2.2.1, hj]
    rfl
  have e41' : (dr_put s 52 j (nI a)).1 41 c = nI j := e41
  unfold f_X12_ends
  rw [m_rdb L 41 4 rfl (by decide) (by decide) hc, e41, m_wrb L 52 120 rfl (by decide) (by decide) (by omega), m_rdb L 41 4 rfl (by decide) (by decide) hc, e41', m_wrb L 54 120 rfl (by decide) (by decide) (by omega), m_wrb L 39 4 rfl (by decide) (by decide) hc, m_wrb L 43 4 rfl (by decide) (by decide) hc]
  refine ⟨_, rfl, dm_put _ _ _ (dm_put _ _ _ (dm_put _ _ _ (dm_put _ _ _ (dm_rf s) (by decide)) (by decide)) (by decide)) (by decide), ?_⟩
  have hjb : ck_job (rm_ck r c) = j := by unfold ck_job; rw [hj]; rfl
  have m1 : rp_M ln (dr_put (dr_put s 52 j (nI a)) 54 j ((dr_put s 52 j (nI a)).2 1204)) (sg_sJ r j (jb_ki (rm_jb r j), jb_he (rm_jb r j), some a, jb_be (rm_jb r j), some (rm_ti r), jb_st (rm_jb r j), jb_lo (rm_jb r j))) := by
    refine rm_sJ hr hw hjn rfl rfl (fun a h1 h2 h3 => by rw [q_putO (by omega), q_putO (by omega)]) rfl (fun e hne => ⟨rfl, rfl, ?_, rfl, ?_, rfl, rfl⟩) ?_
    · show upd (s.1 52) j (nI a) e = _
      rw [q_updO hne]
    · show upd (s.1 54) j _ e = _
      rw [q_updO hne]
    · obtain ⟨h1, h2, h3, h4, h5, h6, h7⟩ := mM_jb hr j hjn
      refine ⟨h1, h2, ?_, h4, ?_, h6, h7⟩
      · show upd (s.1 52) j (nI a) j = _
        rw [q_updS]
        rfl
      · show upd (s.1 54) j (s.2 1204) j = _
        rw [q_updS, mM_ti hr]
        rfl
  rw [sg_end_eq, hjb]
  have hk := mM_ck m1 c hc
  refine rm_sK m1 hw (fun a h1 h2 h3 => by rw [q_putO (by omega), q_putO (by omega)]) rfl (fun e he hne => ⟨rfl, ?_, rfl, rfl, rfl, ?_, rfl, rfl, rfl, fun _ _ => rfl, fun _ _ => rfl, fun _ _ => rfl⟩) ⟨hk.1, ?_, fun q => absurd rfl q, hk.2.2.2.1, ?_, fun q => absurd rfl q, fun q => absurd (show (0 : Nat) = 3 from q) (by decide), fun q => absurd rfl q⟩
  · show upd _ c 0 e = _
    rw [q_updO hne]
  · show upd _ c (-1) e = _
    rw [q_updO hne]
    rfl
  · show upd _ c 0 c = _
    rw [q_updS]
    rfl
  · show upd _ c (-1) c = _
    rw [q_updS]
    rfl
theorem qm_looksFor {ln : Nat → Nat} {s : dr_S} {r : sg_R} {c j : Nat} (hr : rp_M ln s r) (hw : wf_sz r) (hc : c < 4) (hat0 : ck_at (rm_ck r c) ≠ 0) (hat4 : ck_at (rm_ck r c) ≤ 4) (hpl : ck_pl (rm_ck r c) < rm_us r) (hlv : dv_lev (rm_dr r (ck_pl (rm_ck r c))) < 64) (hj : ck_jo (rm_ck r c) = some j) (hjn : j < rm_nj r) : f_X12_looksFor ln (nI c) s = some (nI (ck_so (rm_ck r c)), s) := by
  have hus := hw.2.1
  have hnj := hw.2.2.1
  have L := mM_L hr
  obtain ⟨k1, k2, k3, k4, k5, k6, k7, k8⟩ := mM_ck hr c hc
  have k8 := k8 hat0
  have e41 : s.1 41 c = nI j := by
    rw [k4, hj]
    rfl
  have ehe : ck_he r c = jb_he (rm_jb r j) := by unfold ck_he; rw [hj]
  have p34 : ck_he r c = ck_so (rm_ck r c) → f_X12_looksFor_p34 ln (nI c) s = some (nI (ck_so (rm_ck r c)), s) := by
    intro q
    unfold f_X12_looksFor_p34
    rw [m_rdb L 41 4 rfl (by decide) (by decide) hc, e41, m_rdb L 51 120 rfl (by decide) (by decide) (by omega), (mM_jb hr j hjn).2.1, ← ehe, q]
  unfold f_X12_looksFor
  rw [m_rdb L 39 4 rfl (by decide) (by decide) hc, k2]
  by_cases e1 : ck_at (rm_ck r c) = 1
  · rw [e1, if_pos (show nI 1 = (1 : Int32) from rfl)]
    rw [if_pos (Or.inl e1)] at k8
    exact p34 k8
  · rw [if_neg (show ¬ nI (ck_at (rm_ck r c)) = (1 : Int32) from nI_lit (k := 1) (by omega) (by omega) e1), m_rdb L 39 4 rfl (by decide) (by decide) hc, k2]
    by_cases e4 : ck_at (rm_ck r c) = 4
    · rw [if_neg (by omega)] at k8
      rw [e4, if_pos (show nI 4 = (4 : Int32) from rfl), m_rdb L 42 4 rfl (by decide) (by decide) hc, k8]
    · rw [if_neg (show ¬ nI (ck_at (rm_ck r c)) = (4 : Int32) from nI_lit (k := 4) (by omega) (by omega) e4), m_rdb L 40 4 rfl (by decide) (by decide) hc, k3 hat0, m_rdb L 31 256 rfl (by decide) (by decide) (by omega), (mM_dr hr _ hpl).1]
      by_cases e0 : dv_lev (rm_dr r (ck_pl (rm_ck r c))) = 0
      · rw [e0, if_pos (show nI 0 = (0 : Int32) from rfl)]
        rw [if_pos (Or.inr ⟨e4, e0⟩)] at k8
        exact p34 k8
      · rw [if_neg (show ¬ nI (dv_lev (rm_dr r (ck_pl (rm_ck r c)))) = (0 : Int32) from nI_lit (k := 0) (by omega) (by omega) e0), m_rdb L 42 4 rfl (by decide) (by decide) hc]
        rw [if_neg (by omega)] at k8
        rw [k8]

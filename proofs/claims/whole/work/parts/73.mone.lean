/-! 73: one step, of the reference -/
theorem rm_pass {ln : Nat → Nat} {s : dr_S} {r : sg_R} {j : Nat} (hr : rp_M ln s r) (hw : wf_sz r) (hjn : j < rm_nj r) : rp_M ln (dr_put (dr_pf s 1204 (nI (rm_ti r + 1))) 55 j (nI (jb_st (rm_jb r j) + 1))) (sg_pass r j) := by
  generalize hT : dr_put (dr_pf s 1204 (nI (rm_ti r + 1))) 55 j (nI (jb_st (rm_jb r j) + 1)) = T
  have t55 : T.1 55 = upd (s.1 55) j (nI (jb_st (rm_jb r j) + 1)) := by rw [← hT]; rfl
  have tO : ∀ a, a ≠ 55 → T.1 a = s.1 a := fun a h1 => by rw [← hT, q_putO h1]; rfl
  have tf : ∀ f, f ≠ 1204 → T.2 f = s.2 f := fun f h => by
    rw [← hT, q_put2, q_pfO h]
  have tt : T.2 1204 = nI (rm_ti r + 1) := by rw [← hT, q_put2, q_pf2]
  have pj := pass_jb r j
  refine rm_all hr hw rfl rfl (tf 1200 (by decide)) (tf 1201 (by decide)) (tO 28 (by decide)) (tO 29 (by decide)) tt (by rw [tf 1205 (by decide)]; have q := mM_to hr; exact q) (fun q hq => by rw [tO 30 (by decide)]; exact mM_us hr q hq) (fun q hq => Or.inl ⟨hq, rfl, ?_⟩) (fun q h1 h2 => by rw [tO 37 (by decide)]; exact mM_la hr q h1 h2) (fun e he => Or.inl ⟨rfl, ?_, fun h => rfl, fun _ => ?_⟩) (by rw [tf 1226 (by decide)]; have q := mM_nj hr; exact q) (fun i hi => ?_) (fun i h1 h2 => ?_) (by rw [tf 1234 (by decide)]; have q := mM_nc hr; exact q) (fun i k t hi => Or.inl ⟨hi, ?_⟩)
  · unfold md_same
    rw [tO 31 (by decide), tO 32 (by decide), tO 33 (by decide), tO 34 (by decide), tO 35 (by decide), tO 36 (by decide), tO 37 (by decide)]
    exact ⟨rfl, rfl, rfl, rfl, rfl, fun _ _ => rfl, fun _ _ => rfl⟩
  · unfold mk_same
    rw [tO 38 (by decide), tO 39 (by decide), tO 40 (by decide), tO 41 (by decide), tO 42 (by decide), tO 43 (by decide), tO 44 (by decide), tO 45 (by decide), tO 46 (by decide), tO 47 (by decide), tO 48 (by decide), tO 49 (by decide)]
    exact ⟨rfl, rfl, rfl, rfl, rfl, rfl, rfl, rfl, rfl, fun _ _ => rfl, fun _ _ => rfl, fun _ _ => rfl⟩
  · unfold ck_he
    show (match ck_jo (rm_ck r e) with | none => 0 | some i => jb_he (rm_jb (sg_pass r j) i)) = _
    cases ck_jo (rm_ck r e) with
    | none => rfl
    | some i => exact (pj i).2.1
  · have hi : i < rm_nj r := hi
    have ej : rm_jb (sg_pass r j) i = if i = j then (jb_ki (rm_jb r j), jb_he (rm_jb r j), jb_an (rm_jb r j), jb_be (rm_jb r j), jb_en (rm_jb r j), jb_st (rm_jb r j) + 1, jb_lo (rm_jb r j)) else rm_jb r i := rfl
    rw [ej]
    by_cases e : i = j
    · right
      rw [if_pos e, e]
      obtain ⟨h1, h2, h3, h4, h5, h6, h7⟩ := mM_jb hr j hjn
      refine ⟨?_, ?_, ?_, ?_, ?_, ?_, ?_⟩
      · rw [tO 50 (by decide)]; exact h1
      · rw [tO 51 (by decide)]; exact h2
      · rw [tO 52 (by decide)]; exact h3
      · rw [tO 53 (by decide)]; exact h4
      · rw [tO 54 (by decide)]; exact h5
      · rw [t55, q_updS]; rfl
      · rw [tO 56 (by decide)]; exact h7
    · left
      rw [if_neg e]
      refine ⟨hi, rfl, ?_⟩
      unfold mj_same
      rw [tO 50 (by decide), tO 51 (by decide), tO 52 (by decide), tO 53 (by decide), tO 54 (by decide), tO 56 (by decide), t55, q_updO e]
      exact ⟨rfl, rfl, rfl, rfl, rfl, rfl, rfl⟩
  · have h1 : rm_nj r ≤ i := h1
    rw [t55, q_updO (by omega), tO 56 (by decide)]
    exact mM_j2 hr i h1 h2
  · rw [tO 57 (by decide), tO 58 (by decide), tO 59 (by decide)]
    exact ⟨rfl, rfl, rfl, (pj k).2.1, (pj k).1⟩
theorem at_cases {n : Nat} (h0 : n ≠ 0) (h4 : n ≤ 4) : n = 1 ∨ n = 2 ∨ n = 3 ∨ n = 4 := by omega
/-- what one step needs on both sides -/
def wf_one (r : sg_R) (c : Nat) : Prop := wf_go r c ∧ wf_md r c ∧ wf_cl r ∧ (ck_at (rm_ck r c) = 3 → dv_lev (rm_dr r (ck_pl (rm_ck r c))) = 0 → (rm_ch r).length < 120)
theorem qm_one {ln : Nat → Nat} {s : dr_S} {r : sg_R} {c : Nat} (hr : rp_M ln s r) (h1 : wf_one r c) : ∃ s', f_X12_one ln (nI c) s = some (0, s') ∧ dm_F s s' ∧ rp_M ln s' (sg_step r c) := by
  obtain ⟨⟨hs, hri, hwr, hat0⟩, hmd, hcl, hch⟩ := h1
  have hs0 := hs
  obtain ⟨hw, hok, hck, hdr, hc⟩ := hs
  obtain ⟨hf, hat4, hck3⟩ := hck c hc
  obtain ⟨hpl, hso, j, hj, hjn, hki⟩ := hck3 hat0
  have hnj := hw.2.2.1
  have L := mM_L hr
  have hjb : ck_job (rm_ck r c) = j := by unfold ck_job; rw [hj]; rfl
  obtain ⟨k1, k2, k3, k4, k5, k6, k7, k8⟩ := mM_ck hr c hc
  have e41 : s.1 41 c = nI j := by rw [k4, hj]; rfl
  unfold f_X12_one
  rw [q_letS, mM_ti hr, nI_1, m_rdb L 41 4 rfl (by decide) (by decide) hc, show (dr_pf s 1204 (nI (rm_ti r + 1))).1 41 c = nI j from e41, m_rdb L 55 120 rfl (by decide) (by decide) (by omega), show (dr_pf s 1204 (nI (rm_ti r + 1))).1 55 j = nI (jb_st (rm_jb r j)) from (mM_jb hr j hjn).2.2.2.2.2.1, nI_1, m_wrb L 55 120 rfl (by decide) (by decide) (by omega), m_rdb L 39 4 rfl (by decide) (by decide) hc, show (dr_put (dr_pf s 1204 (nI (rm_ti r + 1))) 55 j (nI (jb_st (rm_jb r j) + 1))).1 39 c = nI (ck_at (rm_ck r c)) from k2]
  have hr1 := rm_pass hr hw hjn
  have F1 : dm_F s (dr_put (dr_pf s 1204 (nI (rm_ti r + 1))) 55 j (nI (jb_st (rm_jb r j) + 1))) := dm_put _ _ _ (dm_pf _ _ (dm_rf s) (by decide)) (by decide)
  generalize dr_put (dr_pf s 1204 (nI (rm_ti r + 1))) 55 j (nI (jb_st (rm_jb r j) + 1)) = s1 at *
  have hs1 := pass_step (j := j) hs0
  have hw1 := pass_wr (j := j) hwr
  have hri1 : wf_rise (sg_pass r j) c := hri
  have hmd1 : wf_md (sg_pass r j) c := hmd
  have hcl1 : wf_cl (sg_pass r j) := hcl
  rw [sg_step_eq, hjb]
  have hcases := at_cases hat0 hat4
  rcases hcases with e | e | e | e
  · rw [e, if_pos rfl]
    obtain ⟨s2, e2, F2, m2⟩ := qm_reads hr1 hs1 e
    refine ⟨s2, ?_, dm_tr F1 F2, m2⟩
    refine (q_sw (n := 1) (lo := 1) (hi := 3) (by omega) (by omega) (by omega)).trans ?_
    show dr_bndv (f_X12_reads ln (nI c) s1) (fun q => some (0, q)) = _
    rw [e2, q_bv]
  · rw [e, if_neg (by decide), if_pos rfl]
    obtain ⟨s2, e2, F2, m2⟩ := qm_holds hr1 hs1 hmd1 e
    refine ⟨s2, ?_, dm_tr F1 F2, m2⟩
    refine (q_sw (n := 2) (lo := 1) (hi := 3) (by omega) (by omega) (by omega)).trans ?_
    show dr_bndv (f_X12_holds ln (nI c) s1) (fun q => some (0, q)) = _
    rw [e2, q_bv]
  · rw [e, if_neg (by decide), if_neg (by decide), if_pos rfl]
    obtain ⟨s2, e2, F2, m2⟩ := qm_writes hr1 hs1 hw1 (hch e) e
    refine ⟨s2, ?_, dm_tr F1 F2, m2⟩
    refine (q_sw (n := 3) (lo := 1) (hi := 3) (by omega) (by omega) (by omega)).trans ?_
    show dr_bndv (f_X12_writes ln (nI c) s1) (fun q => some (0, q)) = _
    rw [e2, q_bv]
  · rw [e, if_neg (by decide), if_neg (by decide), if_neg (by decide), if_pos rfl]
    obtain ⟨s2, e2, F2, m2⟩ := qm_goesUp hr1 hs1 hmd1 hcl1 hri1 e
    refine ⟨s2, ?_, dm_tr F1 F2, m2⟩
    refine (q_swO (n := 4) (lo := 1) (hi := 3) (by omega) (by omega)).trans ?_
    show dr_bndv (f_X12_goesUp ln (nI c) s1) (fun q => some (0, q)) = _
    rw [e2, q_bv]

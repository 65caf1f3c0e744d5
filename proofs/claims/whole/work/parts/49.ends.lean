/-! 49: a job's end, a clerk at rest, a step that passes, latching; of the class -/
theorem q6_end {b : Nat} {ln : Nat → Nat} {s : dr_S} {j : Nat} {v : Int32} (hG : dq_G b ln s) (hj : j < 120) (hB : dq_B s 2) : ∃ s', f_X6_end ln (nI j) v s = some (0, s') ∧ dq_C s s' (upd (upd (s.1 14) (jp b j 2) v) (jp b j 4) (s.1 14 (260 * (4 * b + 8) + 1474))) 2 := by
  obtain ⟨s1, e1, C1⟩ := q6_set (c := j) (k := 2) (v := v) hG hj (by omega) (q_Bmono hB (by omega))
  have G1 := q_GC hG C1
  obtain ⟨s2, e2, C2⟩ := q6_set (c := j) (k := 4) (v := s1.1 14 (260 * (4 * b + 8) + 1474)) G1 hj (by omega) (C1.2.2.2.1 _ (q_Bmono hB (by omega)))
  refine ⟨s2, ?_, ?_⟩
  · unfold f_X6_end
    rw [show f_X6_set ln (nI j) 2 v s = _ from e1, q_bv, q6_time G1, q_bi, show f_X6_set ln (nI j) 4 (s1.1 14 (260 * (4 * b + 8) + 1474)) s1 = _ from e2, q_bv]
  · have T := q_Ctr C1 C2
    rw [C1.1, q_updO (by unfold jp; omega)] at T
    exact T
theorem q3_rest {b : Nat} {ln : Nat → Nat} {s : dr_S} {c : Nat} (hG : dq_G b ln s) (hc : c < 4) (hB : dq_B s 4) : ∃ s', f_X3_rest ln (nI c) s = some (0, s') ∧ dq_C s s' (upd (upd (upd (upd (s.1 14) (cp b c 0) 0) (cp b c 1) (-1)) (cp b c 3) (-1)) (cp b c 4) (-1)) 4 := by
  obtain ⟨s1, e1, C1⟩ := q3_set (c := c) (k := 0) (v := 0) hG hc (by omega) (q_Bmono hB (by omega))
  have G1 := q_GC hG C1
  obtain ⟨s2, e2, C2⟩ := q3_set (c := c) (k := 1) (v := -1) G1 hc (by omega) (C1.2.2.2.1 _ (q_Bmono hB (by omega)))
  have T2 := q_Ctr C1 C2
  obtain ⟨s3, e3, C3⟩ := q3_set (c := c) (k := 3) (v := -1) (q_GC hG T2) hc (by omega) (T2.2.2.2.1 _ (q_Bmono hB (by omega)))
  have T3 := q_Ctr T2 C3
  obtain ⟨s4, e4, C4⟩ := q3_set (c := c) (k := 4) (v := -1) (q_GC hG T3) hc (by omega) (T3.2.2.2.1 _ (q_Bmono hB (by omega)))
  have T4 := q_Ctr T3 C4
  refine ⟨s4, ?_, ?_⟩
  · unfold f_X3_rest
    rw [show f_X3_set ln (nI c) 0 0 s = _ from e1, q_bv, show f_X3_set ln (nI c) 1 (-1) s1 = _ from e2, q_bv, show f_X3_set ln (nI c) 3 (-1) s2 = _ from e3, q_bv, show f_X3_set ln (nI c) 4 (-1) s3 = _ from e4, q_bv]
  · rw [C3.1, C2.1, C1.1] at T4
    exact T4
/-- rest: of the room -/
theorem rp_rest {m : Nat → Int32} {r : sg_R} {c : Nat} (hm : rp_mem m r) (hw : wf_sz r) (hc : c < 4) : rp_mem (upd (upd (upd (upd m (cp (rm_b r) c 0) 0) (cp (rm_b r) c 1) (-1)) (cp (rm_b r) c 3) (-1)) (cp (rm_b r) c 4) (-1)) (sg_sK r c (sg_idle (rm_ck r c))) := by
  have hk := hm.2.2.2.1 c hc
  have ne : ∀ i j, i ≠ j → cp (rm_b r) c i ≠ cp (rm_b r) c j := fun i j h q => h (by unfold cp at q; omega)
  refine rp_sK hm hw hc (fun p hp _ => ?_) ?_
  · rw [q_updO (hp 4 (by omega)), q_updO (hp 3 (by omega)), q_updO (hp 1 (by omega)), q_updO (hp 0 (by omega))]
  · refine ⟨?_, ?_, ?_, ?_, ?_, ?_, fun q => absurd rfl q, fun q => absurd (show (0 : Nat) = 3 from q) (by decide)⟩
    · rw [q_updO (ne 0 4 (by decide)), q_updO (ne 0 3 (by decide)), q_updO (ne 0 1 (by decide)), q_updS]
      rfl
    · rw [q_updO (ne 1 4 (by decide)), q_updO (ne 1 3 (by decide)), q_updS]
      rfl
    · rw [q_updO (ne 2 4 (by decide)), q_updO (ne 2 3 (by decide)), q_updO (ne 2 1 (by decide)), q_updO (ne 2 0 (by decide))]
      exact hk.2.2.1
    · rw [q_updO (ne 3 4 (by decide)), q_updS]
      rfl
    · rw [q_updS]
      rfl
    · rw [q_updO (ne 5 4 (by decide)), q_updO (ne 5 3 (by decide)), q_updO (ne 5 1 (by decide)), q_updO (ne 5 0 (by decide))]
      exact hk.2.2.2.2.2.1
theorem q10_end {ln : Nat → Nat} {s : dr_S} {r : sg_R} {c j a : Nat} (hr : rp_C ln s r) (hw : wf_sz r) (hc : c < 4) (hj : ck_jo (rm_ck r c) = some j) (hjn : j < rm_nj r) (hB : dq_B s 6) : ∃ s' g, f_X10_end ln (nI c) (nI a) s = some (0, s') ∧ dq_C s s' g 6 ∧ rp_mem g (sg_end r c a) := by
  have hnj := hw.2.2.1
  have e := q3_get (c := c) (k := 2) hr.1 hc (by omega)
  rw [(hr.2.2.2.2.2.2.1 c hc).2.2.1, hj] at e
  obtain ⟨s1, e1, C1⟩ := q6_end (j := j) (v := nI a) hr.1 (by omega) (q_Bmono hB (by omega))
  have G1 := q_GC hr.1 C1
  obtain ⟨s2, e2, C2⟩ := q3_rest (c := c) G1 hc (C1.2.2.2.1 _ (q_Bmono hB (by omega)))
  have hm := hr.2.2.2
  have hy := hm.2.2.2.2.2.2 j hjn
  have ne : ∀ i k, i ≠ k → jp (rm_b r) j i ≠ jp (rm_b r) j k := fun i k h q => h (by unfold jp at q; omega)
  have hm1 : rp_mem (s1.1 14) (sg_sJ r j (jb_ki (rm_jb r j), jb_he (rm_jb r j), some a, jb_be (rm_jb r j), some (rm_ti r), jb_st (rm_jb r j), jb_lo (rm_jb r j))) := by
    rw [C1.1, hm.2.2.2.2.1]
    refine rp_sJ hm hw (by omega) (fun p hp => by rw [q_updO (hp 4 (by omega)), q_updO (hp 2 (by omega))]) ⟨?_, ?_, ?_, ?_, ?_, ?_, ?_, ?_⟩
    · rw [q_updO (ne 0 4 (by decide)), q_updO (ne 0 2 (by decide))]; exact hy.1
    · rw [q_updO (ne 1 4 (by decide)), q_updO (ne 1 2 (by decide))]; exact hy.2.1
    · rw [q_updO (ne 2 4 (by decide)), q_updS]; rfl
    · rw [q_updO (ne 3 4 (by decide)), q_updO (ne 3 2 (by decide))]; exact hy.2.2.2.1
    · rw [q_updS]; rfl
    · rw [q_updO (ne 5 4 (by decide)), q_updO (ne 5 2 (by decide))]; exact hy.2.2.2.2.2.1
    · rw [q_updO (ne 6 4 (by decide)), q_updO (ne 6 2 (by decide))]; exact hy.2.2.2.2.2.2.1
    · rw [q_updO (ne 7 4 (by decide)), q_updO (ne 7 2 (by decide))]; exact hy.2.2.2.2.2.2.2
  refine ⟨s2, _, ?_, q_Ctr C1 C2, ?_⟩
  · unfold f_X10_end
    rw [show f_X3_get ln (nI c) 2 s = _ from e, q_bi, show nO (some j) = nI j from rfl, e1, q_bv, e2, q_bv]
  · have hres := rp_rest (c := c) hm1 hw hc
    have hjob : ck_job (rm_ck r c) = j := by unfold ck_job; rw [hj]; rfl
    show rp_mem _ (sg_sK (sg_sJ r (ck_job (rm_ck r c)) (jb_ki (rm_jb r (ck_job (rm_ck r c))), jb_he (rm_jb r (ck_job (rm_ck r c))), some a, jb_be (rm_jb r (ck_job (rm_ck r c))), some (rm_ti r), jb_st (rm_jb r (ck_job (rm_ck r c))), jb_lo (rm_jb r (ck_job (rm_ck r c))))) c (sg_idle (rm_ck r c)))
    rw [hjob]
    exact hres
theorem q6_passStep {ln : Nat → Nat} {s : dr_S} {r : sg_R} {j : Nat} (hr : rp_C ln s r) (hw : wf_sz r) (hjn : j < rm_nj r) (hB : dq_B s 2) : ∃ s' g, f_X6_passStep ln (nI j) s = some (0, s') ∧ dq_C s s' g 2 ∧ rp_mem g (sg_sJ (sg_sN r (rm_ti r + 1) (rm_nj r)) j (jb_ki (rm_jb r j), jb_he (rm_jb r j), jb_an (rm_jb r j), jb_be (rm_jb r j), jb_en (rm_jb r j), jb_st (rm_jb r j) + 1, jb_lo (rm_jb r j))) := by
  have hnj := hw.2.2.1
  have hb := hw.1
  have hus := hw.2.1
  have hl := hr.1.2.1.1
  have hm := hr.2.2.2
  have hy := hm.2.2.2.2.2.2 j hjn
  have C1 := q_Cput (s := s) (p := 260 * (4 * rm_b r + 8) + 1474) (v := nI (rm_ti r + 1)) (by omega) (q_Bmono hB (by omega))
  have G1 := q_GC hr.1 C1
  have e5 := q6_get (c := j) (k := 5) G1 (by omega) (by omega)
  have v5 : (dq_put s (260 * (4 * rm_b r + 8) + 1474) (nI (rm_ti r + 1))).1 14 (jp (rm_b r) j 5) = nI (jb_st (rm_jb r j)) := by
    rw [C1.1, q_updO (by unfold jp; omega)]
    exact hy.2.2.2.2.2.1
  rw [v5] at e5
  obtain ⟨s2, e2, C2⟩ := q6_set (c := j) (k := 5) (v := nI (jb_st (rm_jb r j) + 1)) G1 (by omega) (by omega) (C1.2.2.2.1 _ (q_Bmono hB (by omega)))
  have ne : ∀ i k, i ≠ k → jp (rm_b r) j i ≠ jp (rm_b r) j k := fun i k h q => h (by unfold jp at q; omega)
  have hm1 : rp_mem (upd (s.1 14) (260 * (4 * rm_b r + 8) + 1474) (nI (rm_ti r + 1))) (sg_sN r (rm_ti r + 1) (rm_nj r)) := by
    have out : ∀ p, p ≠ 260 * (4 * rm_b r + 8) + 1474 → upd (s.1 14) (260 * (4 * rm_b r + 8) + 1474) (nI (rm_ti r + 1)) p = s.1 14 p := fun p h => q_updO h
    have row : ∀ e k, e < 260 → k < 4 * rm_b r + 8 → upd (s.1 14) (260 * (4 * rm_b r + 8) + 1474) (nI (rm_ti r + 1)) (dp (rm_b r) e k) = s.1 14 (dp (rm_b r) e k) := fun e k he hk => out _ (by have := dp_260 (b := rm_b r) (d := e) (k := k) he hk; omega)
    obtain ⟨h1, h2, h3, h4, h5, h6, h7⟩ := hm
    refine ⟨(out _ (by show 260 * (4 * rm_b r + 8) ≠ _; omega)).trans h1, (out _ (by show 260 * (4 * rm_b r + 8) + 1 ≠ _; omega)).trans h2, fun d hd => ?_, fun c hc => ?_, q_updS _ _ _, (out _ (by show 260 * (4 * rm_b r + 8) + 1475 ≠ _; omega)).trans h6, fun i hi => ?_⟩
    · have hd : d < rm_us r := hd
      exact ⟨rp_row_fr (h3 d hd).1 (hw.2.2.2.1 d hd) (fun k hk _ => row d k (by omega) hk), (row d 4 (by omega) (by omega)).trans (h3 d hd).2⟩
    · exact rp_ck_fr (h4 c hc) (hw.2.2.2.2 c hc) (fun k hk => out _ (by show cp (rm_b r) c k ≠ _; unfold cp; omega)) (fun k hk _ => row (256 + c) k (by omega) hk)
    · have hi : i < rm_nj r := hi
      exact rp_jb_fr (h7 i hi) (fun k hk => out _ (by unfold jp; omega))
  refine ⟨s2, _, ?_, q_Ctr C1 C2, ?_⟩
  · unfold f_X6_passStep
    rw [q6_time hr.1, q_bi, hm.2.2.2.2.1, nI_1, hr.1.2.2.2.2.2.2.2.2.2.1, q_put (q_GL hr.1) (by omega), q_bv, show f_X6_get ln (nI j) 5 _ = _ from e5, q_bi, nI_1, show f_X6_set ln (nI j) 5 (nI (jb_st (rm_jb r j) + 1)) _ = _ from e2, q_bv]
  · rw [C1.1]
    have hy1 := hm1.2.2.2.2.2.2 j hjn
    refine rp_sJ hm1 hw (by omega) (fun p hp => q_updO (hp 5 (by omega))) ⟨?_, ?_, ?_, ?_, ?_, ?_, ?_, ?_⟩
    · exact (q_updO (ne 0 5 (by decide))).trans hy1.1
    · exact (q_updO (ne 1 5 (by decide))).trans hy1.2.1
    · exact (q_updO (ne 2 5 (by decide))).trans hy1.2.2.1
    · exact (q_updO (ne 3 5 (by decide))).trans hy1.2.2.2.1
    · exact (q_updO (ne 4 5 (by decide))).trans hy1.2.2.2.2.1
    · exact q_updS _ _ _
    · exact (q_updO (ne 6 5 (by decide))).trans hy1.2.2.2.2.2.2.1
    · exact (q_updO (ne 7 5 (by decide))).trans hy1.2.2.2.2.2.2.2

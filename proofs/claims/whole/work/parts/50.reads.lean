/-! 50: latching, and a step of reading; of the class -/
theorem rp_ckput {m : Nat → Int32} {r : sg_R} {c a p : Nat} (hm : rp_mem m r) (hw : wf_sz r) (hc : c < 4) (hat : ck_at (rm_ck r c) ≠ 0) (ha : a ≠ 0) (ha3 : a ≠ 3) : rp_mem (upd (upd m (cp (rm_b r) c 1) (nI p)) (cp (rm_b r) c 0) (nI a)) (sg_sK r c (ck_put (rm_ck r c) a p (ck_so (rm_ck r c)) (ck_ri (rm_ck r c)))) := by
  have hk := hm.2.2.2.1 c hc
  have ne : ∀ i j, i ≠ j → cp (rm_b r) c i ≠ cp (rm_b r) c j := fun i j h q => h (by unfold cp at q; omega)
  refine rp_sK hm hw hc (fun q hp _ => ?_) ⟨q_updS _ _ _, ?_, ?_, ?_, ?_, ?_, fun _ l hl => ?_, fun q => absurd q ha3⟩
  · rw [q_updO (hp 0 (by omega)), q_updO (hp 1 (by omega))]
  · rw [q_updO (ne 1 0 (by decide)), q_updS]
    exact (if_neg ha).symm
  · rw [q_updO (ne 2 0 (by decide)), q_updO (ne 2 1 (by decide))]
    exact hk.2.2.1
  · rw [q_updO (ne 3 0 (by decide)), q_updO (ne 3 1 (by decide)), hk.2.2.2.1, if_neg hat]
    exact (if_neg ha).symm
  · rw [q_updO (ne 4 0 (by decide)), q_updO (ne 4 1 (by decide))]
    exact hk.2.2.2.2.1
  · rw [q_updO (ne 5 0 (by decide)), q_updO (ne 5 1 (by decide))]
    exact hk.2.2.2.2.2.1
  · rw [q_updO (ne (6 + l) 0 (by omega)), q_updO (ne (6 + l) 1 (by omega))]
    exact hk.2.2.2.2.2.2.1 hat l hl
theorem wf_la {r : sg_R} {c d : Nat} {v : Option Nat} (hw : wf_sz r) (hd : d < rm_us r) : wf_sz (sg_la r c d v) := by
  unfold sg_la
  split
  · exact hw
  · refine ⟨hw.1, hw.2.1, hw.2.2.1, fun e he => ?_, hw.2.2.2.2⟩
    show rw_ok (rm_b r) (if e = d then _ else rm_dr r e)
    by_cases h : e = d
    · subst h
      rw [if_pos rfl]
      exact hw.2.2.2.1 e he
    · rw [if_neg h]
      exact hw.2.2.2.1 e he
theorem ck_la (r : sg_R) (c d : Nat) (v : Option Nat) : rm_ck (sg_la r c d v) = rm_ck r ∧ rm_b (sg_la r c d v) = rm_b r ∧ rm_us (sg_la r c d v) = rm_us r ∧ rm_ru (sg_la r c d v) = rm_ru r ∧ rm_nj (sg_la r c d v) = rm_nj r ∧ rm_jb (sg_la r c d v) = rm_jb r := by
  unfold sg_la
  split
  · exact ⟨rfl, rfl, rfl, rfl, rfl, rfl⟩
  · exact ⟨rfl, rfl, rfl, rfl, rfl, rfl⟩
theorem q10_latch {ln : Nat → Nat} {s : dr_S} {r : sg_R} {c d : Nat} (hr : rp_C ln s r) (hw : wf_sz r) (hc : c < 4) (hf : ck_fa (rm_ck r c) ≤ 2) (hat : ck_at (rm_ck r c) ≠ 0) (hd : d < rm_us r) (hB : dq_B s 3) : ∃ s' g, f_X10_latch ln (nI c) (nI d) s = some (0, s') ∧ dq_C s s' g 3 ∧ rp_mem g (sg_sK (sg_la r c d (some c)) c (ck_put (rm_ck r c) 2 d (ck_so (rm_ck r c)) (ck_ri (rm_ck r c)))) := by
  have hus := hw.2.1
  have hb := hw.1
  have fin : ∀ (s1 : dr_S) (r1 : sg_R), dq_G (rm_b r) ln s1 → rm_b r1 = rm_b r → rm_ck r1 = rm_ck r → wf_sz r1 → rp_mem (s1.1 14) r1 → dq_B s1 2 → ∃ s' g, f_X10_latch_p23 ln (nI c) (nI d) s1 = some (0, s') ∧ dq_C s1 s' g 2 ∧ rp_mem g (sg_sK r1 c (ck_put (rm_ck r c) 2 d (ck_so (rm_ck r c)) (ck_ri (rm_ck r c)))) := by
    intro s1 r1 G1 eb ek hw1 hm1 hB1
    obtain ⟨s2, e2, C2⟩ := q3_set (c := c) (k := 1) (v := nI d) G1 hc (by omega) (q_Bmono hB1 (by omega))
    obtain ⟨s3, e3, C3⟩ := q3_set (c := c) (k := 0) (v := 2) (q_GC G1 C2) hc (by omega) (C2.2.2.2.1 _ (q_Bmono hB1 (by omega)))
    refine ⟨s3, _, ?_, q_Ctr C2 C3, ?_⟩
    · unfold f_X10_latch_p23
      rw [show f_X3_set ln (nI c) 1 (nI d) s1 = _ from e2, q_bv, show f_X3_set ln (nI c) 0 2 s2 = _ from e3, q_bv]
    · rw [C2.1]
      have h := rp_ckput (c := c) (a := 2) (p := d) hm1 hw1 hc (by rw [ek]; exact hat) (by decide) (by decide)
      rw [eb, ek] at h
      exact h
  unfold f_X10_latch
  rw [q10_fault hr hc, q_bi]
  by_cases e : ck_fa (rm_ck r c) = 2
  · rw [e, if_pos (show nI 2 = (2 : Int32) from rfl)]
    obtain ⟨s', g, a1, a2, a3⟩ := fin s r hr.1 rfl rfl hw hr.2.2.2 (q_Bmono hB (by omega))
    refine ⟨s', g, a1, q_Cw a2 (by omega), ?_⟩
    have hla : sg_la r c d (some c) = r := by unfold sg_la; rw [if_pos e]
    rw [hla]
    exact a3
  · rw [if_neg (show ¬ nI (ck_fa (rm_ck r c)) = (2 : Int32) from fun q => e ((nI_eq (a := ck_fa (rm_ck r c)) (b := 2) (by omega) (by omega)).mp q))]
    obtain ⟨s1, e1, C1⟩ := q4_set (d := d) (k := 4) (v := nI c) hr.1 (by omega) (by omega) (q_Bmono hB (by omega))
    rw [show f_X4_set ln (nI d) 4 (nI c) s = _ from e1, q_bv]
    have hla : sg_la r c d (some c) = sg_sD r d (dv_lev (rm_dr r d), dv_hs (rm_dr r d), dv_cs (rm_dr r d), dv_hi (rm_dr r d), dv_th (rm_dr r d), some c) := by unfold sg_la; rw [if_neg e]
    obtain ⟨s', g, a1, a2, a3⟩ := fin s1 (sg_la r c d (some c)) (q_GC hr.1 C1) (ck_la r c d _).2.1 (ck_la r c d _).1 (wf_la hw hd) (by rw [C1.1, hla]; exact rp_la (v := some c) hr.2.2.2 hw hd) (C1.2.2.2.1 _ (q_Bmono hB (by omega)))
    exact ⟨s', g, a1, q_Cw (q_Ctr C1 a2) (by omega), a3⟩
theorem q3_keepPath {b : Nat} {ln : Nat → Nat} {s : dr_S} {c l : Nat} {v : Int32} (hG : dq_G b ln s) (hc : c < 4) (hl : l < 122) (hB : dq_B s 1) : ∃ s', f_X3_keepPath ln (nI c) (nI l) v s = some (0, s') ∧ dq_C s s' (upd (s.1 14) (cp b c (6 + l)) v) 1 := by
  obtain ⟨s1, e1, C1⟩ := q3_set (c := c) (k := 6 + l) (v := v) hG hc (by omega) hB
  refine ⟨s1, ?_, C1⟩
  unfold f_X3_keepPath
  rw [if_neg (nI_pos (by omega)), if_neg (show ¬ (122 : Int32) ≤ nI l from nI_ge (a := l) (b := 122) (by omega) (by omega)), show (6 : Int32) = nI 6 from rfl, nI_add, e1, q_bv]

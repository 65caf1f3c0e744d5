/-! 60: behind the writing: parting, or the end; of the class -/
theorem rp_part {m g : Nat → Int32} {r : sg_R} {d : Nat} (hm : rp_mem m r) (hw : wf_sz r) (hd : d < rm_us r) (hu : rm_us r < 256)
    (h1 : rp_row g (rm_b r) (rm_us r) (dv_lev (rm_dr r d), (dv_hs (rm_dr r d)).drop (rm_b r + 1), (dv_cs (rm_dr r d)).drop (rm_b r + 1), dv_hi (rm_dr r d), dv_th (rm_dr r d), none)) (h2 : g (dp (rm_b r) (rm_us r) 4) = -1)
    (h3 : rp_row g (rm_b r) d (dv_lev (rm_dr r d), (dv_hs (rm_dr r d)).take (if 0 < dv_lev (rm_dr r d) then rm_b r else rm_b r + 1), (dv_cs (rm_dr r d)).take (rm_b r + 1), some ((dv_hs (rm_dr r d)).getD (rm_b r) 0), some (rm_us r), dv_la (rm_dr r d)))
    (h4 : g (260 * (4 * rm_b r + 8) + 1) = nI (rm_us r + 1))
    (h5 : ∀ p, (∀ k, k < 4 * rm_b r + 8 → k ≠ 4 → p ≠ dp (rm_b r) d k) → (∀ k, k < 4 * rm_b r + 8 → p ≠ dp (rm_b r) (rm_us r) k) → p ≠ 260 * (4 * rm_b r + 8) + 1 → g p = m p) : rp_mem g (sg_part r d) := by
  have hb := hw.1
  have big : ∀ p, 260 * (4 * rm_b r + 8) ≤ p → p ≠ 260 * (4 * rm_b r + 8) + 1 → g p = m p := fun p hp hn => by
    refine h5 p (fun k hk _ e => ?_) (fun k hk e => ?_) hn
    · have := dp_260 (b := rm_b r) (d := d) (k := k) (by omega) hk
      omega
    · have := dp_260 (b := rm_b r) (d := rm_us r) (k := k) (by omega) hk
      omega
  have row : ∀ e k, e < 260 → e ≠ d → e ≠ rm_us r → k < 4 * rm_b r + 8 → g (dp (rm_b r) e k) = m (dp (rm_b r) e k) := fun e k he n1 n2 hk => by
    have := dp_260 (b := rm_b r) (d := e) (k := k) he hk
    exact h5 _ (fun i hi _ => dp_ne n1 hk hi) (fun i hi => dp_ne n2 hk hi) (by omega)
  have eqd : ∀ q, rm_dr (sg_part r d) q = (if q = d then (dv_lev (rm_dr r d), (dv_hs (rm_dr r d)).take (if 0 < dv_lev (rm_dr r d) then rm_b r else rm_b r + 1), (dv_cs (rm_dr r d)).take (rm_b r + 1), some ((dv_hs (rm_dr r d)).getD (rm_b r) 0), some (rm_us r), dv_la (rm_dr r d)) else if q = rm_us r then (dv_lev (rm_dr r d), (dv_hs (rm_dr r d)).drop (rm_b r + 1), (dv_cs (rm_dr r d)).drop (rm_b r + 1), dv_hi (rm_dr r d), dv_th (rm_dr r d), none) else rm_dr r q) := fun q => rfl
  refine rp_all hm hw rfl ((big _ (by omega) (by omega)).trans hm.1) h4 (fun q hq => ?_) (fun k hk => Or.inl ⟨rfl, fun i hi => big _ (by unfold cp; omega) (by unfold cp; omega), fun i hi _ => row (256 + k) i (by omega) (by omega) (by omega) hi⟩) ((big _ (by omega) (by omega)).trans hm.2.2.2.2.1) ((big _ (by omega) (by omega)).trans hm.2.2.2.2.2.1) (fun i hi => Or.inl ⟨hi, rfl, rfl, fun k hk => big _ (by unfold jp; omega) (by unfold jp; omega)⟩)
  have hq : q < rm_us r + 1 := hq
  rw [eqd]
  by_cases q1 : q = d
  · right
    subst q1
    rw [if_pos rfl]
    refine ⟨h3, ?_⟩
    rw [h5 _ (fun i hi h4 e => h4 (by unfold dp at e; omega)) (fun i hi => dp_ne (by omega) (by omega) hi) (by have := dp_260 (b := rm_b r) (d := q) (k := 4) (by omega) (by omega); omega)]
    exact (hm.2.2.1 q hd).2
  · rw [if_neg q1]
    by_cases q2 : q = rm_us r
    · right
      subst q2
      rw [if_pos rfl]
      exact ⟨h1, h2⟩
    · left
      rw [if_neg q2]
      exact ⟨by omega, rfl, fun k hk => row q k (by omega) q1 q2 hk⟩
theorem wf_part {r : sg_R} {d : Nat} (hw : wf_sz r) (hd : d < rm_us r) (hu : rm_us r < 256) : wf_sz (sg_part r d) := by
  have hr := hw.2.2.2.1 d hd
  refine ⟨hw.1, by show rm_us r + 1 ≤ 256; omega, hw.2.2.1, fun q hq => ?_, hw.2.2.2.2⟩
  have hq : q < rm_us r + 1 := hq
  show rw_ok (rm_b r) (if q = d then _ else if q = rm_us r then _ else rm_dr r q)
  by_cases q1 : q = d
  · rw [if_pos q1]
    refine ⟨?_, ?_⟩
    · show ((dv_hs (rm_dr r d)).take _).length ≤ _
      rw [List.length_take]
      have := hr.1
      omega
    · show ((dv_cs (rm_dr r d)).take _).length ≤ _
      rw [List.length_take]
      have := hr.2
      omega
  · rw [if_neg q1]
    by_cases q2 : q = rm_us r
    · rw [if_pos q2]
      refine ⟨?_, ?_⟩
      · show ((dv_hs (rm_dr r d)).drop _).length ≤ _
        rw [List.length_drop]
        have := hr.1
        omega
      · show ((dv_cs (rm_dr r d)).drop _).length ≤ _
        rw [List.length_drop]
        have := hr.2
        omega
    · rw [if_neg q2]
      exact hw.2.2.2.1 q (by omega)
theorem q10_done {ln : Nat → Nat} {s : dr_S} {r : sg_R} {c d j : Nat} (hr : rp_C ln s r) (hw : wf_sz r) (hc : c < 4) (hf : ck_fa (rm_ck r c) ≤ 2) (hat : ck_at (rm_ck r c) = 3) (hpl : ck_pl (rm_ck r c) = d) (hd : d < rm_us r) (hj : ck_jo (rm_ck r c) = some j) (hjn : j < rm_nj r) (hlv : dv_lev (rm_dr r d) < 64) (hcl : 0 < dv_lev (rm_dr r d) → (dv_cs (rm_dr r d)).length = (dv_hs (rm_dr r d)).length + 1) (hu : (dv_hs (rm_dr r d)).length = 2 * rm_b r + 1 → rm_us r < 256) (hB : dq_B s 43) : ∃ s' g, f_X10_write_p53 ln (nI c) (nI d) s = some (0, s') ∧ dq_C s s' g 43 ∧ rp_mem g (sg_done r c d) := by
  have hus := hw.2.1
  have hb := hw.1
  have hm := hr.2.2.2
  have hat0 : ck_at (rm_ck r c) ≠ 0 := by rw [hat]; decide
  have hrow := (hm.2.2.1 d hd).1
  have hrk := hw.2.2.2.1 d hd
  have g1 := q4_get (d := d) (k := 1) hr.1 (by omega) (by omega)
  rw [hrow.2.1] at g1
  have h2b : (2 : Int32) * nI (rm_b r) = nI (2 * rm_b r) := by rw [show (2 : Int32) = nI 2 from rfl, pk_mul]
  unfold f_X10_write_p53
  rw [show f_X4_get ln (nI d) 1 s = _ from g1, q_bi, q4_half hr.1, q_bi, h2b]
  unfold sg_done
  by_cases hz : (dv_hs (rm_dr r d)).length ≤ 2 * rm_b r
  · rw [if_pos (nI_le hz (by omega)), if_pos hz]
    unfold f_X10_write_p85
    rw [if_pos rfl]
    obtain ⟨s1, ga, a1, C1, m1⟩ := q10_letGo (c := c) (d := d) hr hw hc hf hd (q_Bmono hB (by omega))
    have K := ck_la r c d none
    obtain ⟨s2, gb, a2, C2, m2⟩ := q10_end (c := c) (j := j) (a := 1) (rp_C_of hr C1 K.2.1 K.2.2.2.1 m1) (wf_la hw hd) hc (by rw [K.1]; exact hj) (by rw [K.2.2.2.2.1]; exact hjn) (C1.2.2.2.1 _ (q_Bmono hB (by omega)))
    refine ⟨s2, gb, ?_, q_Cw (q_Ctr C1 C2) (by omega), m2⟩
    rw [a1, q_bv, show f_X10_end ln (nI c) 1 s1 = _ from a2, q_bv]
  · have hz1 : (dv_hs (rm_dr r d)).length = 2 * rm_b r + 1 := by have := hrk.1; omega
    have hu1 := hu hz1
    rw [if_neg (nI_ge (by omega) (by omega)), if_neg hz]
    obtain ⟨s1, ga, a1, C1, r1, r2, r3, r4, r5⟩ := q4_part (d := d) (u := rm_us r) hr.1 (by omega) hm.2.1 hu1 hd hrow hz1 hlv (fun h => by rw [hcl h, hz1]) (q_Bmono hB (by omega))
    rw [a1, q_bi]
    unfold f_X10_write_p85
    rw [if_neg (fun q => nI_pos (n := rm_us r) (by omega) (by rw [q]; decide))]
    have m1 := rp_part hm hw hd hu1 r1 r2 r3 r4 r5
    have hw1 := wf_part hw hd hu1
    have G1 := q_GC hr.1 C1
    have e2 := q4_get (d := d) (k := 2) G1 (by omega) (by omega)
    rw [C1.1, r3.2.2.1] at e2
    have e2 : f_X4_get ln (nI d) 2 s1 = some (nI ((dv_hs (rm_dr r d)).getD (rm_b r) 0), s1) := e2
    obtain ⟨s2, a2, C2⟩ := q3_set (c := c) (k := 3) (v := nI ((dv_hs (rm_dr r d)).getD (rm_b r) 0)) G1 hc (by omega) (C1.2.2.2.1 _ (q_Bmono hB (by omega)))
    have T2 := q_Ctr C1 C2
    obtain ⟨s3, a3, C3⟩ := q3_set (c := c) (k := 4) (v := nI (rm_us r)) (q_GC hr.1 T2) hc (by omega) (T2.2.2.2.1 _ (q_Bmono hB (by omega)))
    have T3 := q_Ctr T2 C3
    obtain ⟨s4, a4, C4⟩ := q3_set (c := c) (k := 0) (v := 4) (q_GC hr.1 T3) hc (by omega) (T3.2.2.2.1 _ (q_Bmono hB (by omega)))
    have T4 := q_Ctr T3 C4
    refine ⟨s4, _, ?_, T4, ?_⟩
    · rw [e2, q_bi, show f_X3_set ln (nI c) 3 _ s1 = _ from a2, q_bv, show f_X3_set ln (nI c) 4 _ s2 = _ from a3, q_bv, show f_X3_set ln (nI c) 0 4 s3 = _ from a4, q_bv]
    · rw [C3.1, C2.1, C1.1]
      have ne : ∀ i k, i ≠ k → cp (rm_b r) c i ≠ cp (rm_b r) c k := fun i k h q => h (by unfold cp at q; omega)
      have hk := m1.2.2.2.1 c hc
      have hkc : rm_ck (sg_part r d) c = rm_ck r c := rfl
      have hkb : rm_b (sg_part r d) = rm_b r := rfl
      rw [hkc, hkb] at hk
      have key : ∀ (m' : Nat → Int32) (x : sg_K), (∀ p, (∀ k, k < 128 → p ≠ cp (rm_b r) c k) → (∀ k, k < 4 * rm_b r + 8 → p ≠ dp (rm_b r) (256 + c) k) → m' p = ga p) → rp_ck m' (rm_b r) c x → rp_mem m' (sg_sK (sg_part r d) c x) := fun m' x h1 h2 => rp_sK m1 hw1 hc h1 h2
      refine key _ _ (fun q hp hq => ?_) ⟨?_, ?_, ?_, ?_, ?_, ?_, fun _ l hl => ?_, fun q => absurd (show (4 : Nat) = 3 from q) (by decide)⟩
      · rw [q_updO (hp 0 (by omega)), q_updO (hp 4 (by omega)), q_updO (hp 3 (by omega))]
      · rw [q_updS]; rfl
      · rw [q_updO (ne 1 0 (by decide)), q_updO (ne 1 4 (by decide)), q_updO (ne 1 3 (by decide)), hk.2.1, if_neg hat0, hpl]
        rfl
      · rw [q_updO (ne 2 0 (by decide)), q_updO (ne 2 4 (by decide)), q_updO (ne 2 3 (by decide))]
        exact hk.2.2.1
      · rw [q_updO (ne 3 0 (by decide)), q_updO (ne 3 4 (by decide)), q_updS]
        rfl
      · rw [q_updO (ne 4 0 (by decide)), q_updS]
        rfl
      · rw [q_updO (ne 5 0 (by decide)), q_updO (ne 5 4 (by decide)), q_updO (ne 5 3 (by decide))]
        exact hk.2.2.2.2.2.1
      · rw [q_updO (ne (6 + l) 0 (by omega)), q_updO (ne (6 + l) 4 (by omega)), q_updO (ne (6 + l) 3 (by omega))]
        exact hk.2.2.2.2.2.2.1 hat0 l hl

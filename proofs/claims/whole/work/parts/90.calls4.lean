/-! 90: begin -/
theorem q6_open {ln : Nat → Nat} {s : dr_S} {r : sg_R} {kind h : Nat} (hr : rp_C ln s r) (hnj : rm_nj r < 120) (h204 : s.2 204 = 0) : ∃ s' g, f_X6_open ln (nI kind) (nI h) s = some (nI (rm_nj r), s') ∧ dq_C s s' g 9 ∧ g (260 * (4 * rm_b r + 8) + 1475) = nI (rm_nj r + 1) ∧ (g (jp (rm_b r) (rm_nj r) 0) = nI kind ∧ g (jp (rm_b r) (rm_nj r) 1) = nI h ∧ g (jp (rm_b r) (rm_nj r) 2) = -1 ∧ g (jp (rm_b r) (rm_nj r) 3) = nI (rm_ti r) ∧ g (jp (rm_b r) (rm_nj r) 4) = -1 ∧ g (jp (rm_b r) (rm_nj r) 5) = 0 ∧ g (jp (rm_b r) (rm_nj r) 6) = 0 ∧ g (jp (rm_b r) (rm_nj r) 7) = -1) ∧ (∀ p, p ≠ 260 * (4 * rm_b r + 8) + 1475 → (∀ k, k < 8 → p ≠ jp (rm_b r) (rm_nj r) k) → g p = s.1 14 p) := by
  have hl := hr.1.2.1.1
  have hb := hr.1.1
  have hm := hr.2.2.2
  have C1 := q_Cput (s := s) (p := 260 * (4 * rm_b r + 8) + 1475) (v := nI (rm_nj r + 1)) (by omega) (Or.inl h204)
  have z1 : (dq_put s (260 * (4 * rm_b r + 8) + 1475) (nI (rm_nj r + 1))).2 204 = 0 := by rw [C1.2.2.1 204 (by decide)]; exact h204
  have G1 := q_GC hr.1 C1
  obtain ⟨s2, a2, C2⟩ := q6_set (c := rm_nj r) (k := 0) (v := nI kind) G1 hnj (by omega) (Or.inl z1)
  have T2 := q_Ctr C1 C2
  have z2 : s2.2 204 = 0 := by rw [C2.2.2.1 204 (by decide)]; exact z1
  obtain ⟨s3, a3, C3⟩ := q6_set (c := rm_nj r) (k := 1) (v := nI h) (q_GC hr.1 T2) hnj (by omega) (Or.inl z2)
  have T3 := q_Ctr T2 C3
  have z3 : s3.2 204 = 0 := by rw [C3.2.2.1 204 (by decide)]; exact z2
  obtain ⟨s4, a4, C4⟩ := q6_set (c := rm_nj r) (k := 2) (v := -1) (q_GC hr.1 T3) hnj (by omega) (Or.inl z3)
  have T4 := q_Ctr T3 C4
  have z4 : s4.2 204 = 0 := by rw [C4.2.2.1 204 (by decide)]; exact z3
  have G4 := q_GC hr.1 T4
  have et : s4.1 14 (260 * (4 * rm_b r + 8) + 1474) = nI (rm_ti r) := by
    rw [C4.1, C3.1, C2.1, C1.1, q_updO (by unfold jp; omega), q_updO (by unfold jp; omega), q_updO (by unfold jp; omega), q_updO (by omega)]
    exact hm.2.2.2.2.1
  obtain ⟨s5, a5, C5⟩ := q6_set (c := rm_nj r) (k := 3) (v := nI (rm_ti r)) G4 hnj (by omega) (Or.inl z4)
  have T5 := q_Ctr T4 C5
  have z5 : s5.2 204 = 0 := by rw [C5.2.2.1 204 (by decide)]; exact z4
  obtain ⟨s6, a6, C6⟩ := q6_set (c := rm_nj r) (k := 4) (v := -1) (q_GC hr.1 T5) hnj (by omega) (Or.inl z5)
  have T6 := q_Ctr T5 C6
  have z6 : s6.2 204 = 0 := by rw [C6.2.2.1 204 (by decide)]; exact z5
  obtain ⟨s7, a7, C7⟩ := q6_set (c := rm_nj r) (k := 5) (v := 0) (q_GC hr.1 T6) hnj (by omega) (Or.inl z6)
  have T7 := q_Ctr T6 C7
  have z7 : s7.2 204 = 0 := by rw [C7.2.2.1 204 (by decide)]; exact z6
  obtain ⟨s8, a8, C8⟩ := q6_set (c := rm_nj r) (k := 6) (v := 0) (q_GC hr.1 T7) hnj (by omega) (Or.inl z7)
  have T8 := q_Ctr T7 C8
  have z8 : s8.2 204 = 0 := by rw [C8.2.2.1 204 (by decide)]; exact z7
  obtain ⟨s9, a9, C9⟩ := q6_set (c := rm_nj r) (k := 7) (v := -1) (q_GC hr.1 T8) hnj (by omega) (Or.inl z8)
  have T9 := q_Ctr T8 C9
  refine ⟨s9, s9.1 14, ?_, by rw [C9.1]; exact T9, ?_⟩
  · unfold f_X6_open
    rw [q6_begun hr.1, q_bi, hm.2.2.2.2.2.1, nI_1, hr.1.2.2.2.2.2.2.2.2.2.2, q_put (q_GL hr.1) (by omega), q_bv, show f_X6_set ln (nI (rm_nj r)) 0 _ _ = _ from a2, q_bv, show f_X6_set ln (nI (rm_nj r)) 1 _ _ = _ from a3, q_bv, show f_X6_set ln (nI (rm_nj r)) 2 _ _ = _ from a4, q_bv, q6_time G4, q_bi, et, show f_X6_set ln (nI (rm_nj r)) 3 _ _ = _ from a5, q_bv, show f_X6_set ln (nI (rm_nj r)) 4 _ _ = _ from a6, q_bv, show f_X6_set ln (nI (rm_nj r)) 5 _ _ = _ from a7, q_bv, show f_X6_set ln (nI (rm_nj r)) 6 _ _ = _ from a8, q_bv, show f_X6_set ln (nI (rm_nj r)) 7 _ _ = _ from a9, q_bv]
  · have e9 : s9.1 14 = upd (upd (upd (upd (upd (upd (upd (upd (upd (s.1 14) (260 * (4 * rm_b r + 8) + 1475) (nI (rm_nj r + 1))) (jp (rm_b r) (rm_nj r) 0) (nI kind)) (jp (rm_b r) (rm_nj r) 1) (nI h)) (jp (rm_b r) (rm_nj r) 2) (-1)) (jp (rm_b r) (rm_nj r) 3) (nI (rm_ti r))) (jp (rm_b r) (rm_nj r) 4) (-1)) (jp (rm_b r) (rm_nj r) 5) 0) (jp (rm_b r) (rm_nj r) 6) 0) (jp (rm_b r) (rm_nj r) 7) (-1) := by
      rw [C9.1, C8.1, C7.1, C6.1, C5.1, C4.1, C3.1, C2.1, C1.1]
    have ne : ∀ i k, i ≠ k → jp (rm_b r) (rm_nj r) i ≠ jp (rm_b r) (rm_nj r) k := fun i k h q => h (by unfold jp at q; omega)
    have nt : ∀ k, 260 * (4 * rm_b r + 8) + 1475 ≠ jp (rm_b r) (rm_nj r) k ∨ 8 ≤ k := fun k => by unfold jp; omega
    rw [e9]
    refine ⟨?_, ⟨?_, ?_, ?_, ?_, ?_, ?_, ?_, ?_⟩, fun p h1 h2 => ?_⟩
    · rw [q_updO (by unfold jp; omega), q_updO (by unfold jp; omega), q_updO (by unfold jp; omega), q_updO (by unfold jp; omega), q_updO (by unfold jp; omega), q_updO (by unfold jp; omega), q_updO (by unfold jp; omega), q_updO (by unfold jp; omega), q_updS]
    · rw [q_updO (ne 0 7 (by decide)), q_updO (ne 0 6 (by decide)), q_updO (ne 0 5 (by decide)), q_updO (ne 0 4 (by decide)), q_updO (ne 0 3 (by decide)), q_updO (ne 0 2 (by decide)), q_updO (ne 0 1 (by decide)), q_updS]
    · rw [q_updO (ne 1 7 (by decide)), q_updO (ne 1 6 (by decide)), q_updO (ne 1 5 (by decide)), q_updO (ne 1 4 (by decide)), q_updO (ne 1 3 (by decide)), q_updO (ne 1 2 (by decide)), q_updS]
    · rw [q_updO (ne 2 7 (by decide)), q_updO (ne 2 6 (by decide)), q_updO (ne 2 5 (by decide)), q_updO (ne 2 4 (by decide)), q_updO (ne 2 3 (by decide)), q_updS]
    · rw [q_updO (ne 3 7 (by decide)), q_updO (ne 3 6 (by decide)), q_updO (ne 3 5 (by decide)), q_updO (ne 3 4 (by decide)), q_updS]
    · rw [q_updO (ne 4 7 (by decide)), q_updO (ne 4 6 (by decide)), q_updO (ne 4 5 (by decide)), q_updS]
    · rw [q_updO (ne 5 7 (by decide)), q_updO (ne 5 6 (by decide)), q_updS]
    · rw [q_updO (ne 6 7 (by decide)), q_updS]
    · rw [q_updS]
    · rw [q_updO (h2 7 (by omega)), q_updO (h2 6 (by omega)), q_updO (h2 5 (by omega)), q_updO (h2 4 (by omega)), q_updO (h2 3 (by omega)), q_updO (h2 2 (by omega)), q_updO (h2 1 (by omega)), q_updO (h2 0 (by omega)), q_updO h1]
theorem q11_begin {ln : Nat → Nat} {s : dr_S} {r : sg_R} {c kind h : Nat} (hr : rp_C ln s r) (hw : wf_sz r) (hc : c < 4) (hnj : rm_nj r < 120) (hch : (rm_ch r).lookup (rm_nj r) = none) (hri : ck_ri (rm_ck r c) = none) (h204 : s.2 204 = 0) : ∃ s', f_X11_begin_p63 ln (nI c) (nI kind) (nI h) s = some (nI (rm_nj r), s') ∧ dc_F s s' ∧ rp_C ln s' (sg_begin r c kind h) := by
  have hl := hr.1.2.1.1
  have hb := hr.1.1
  have hm := hr.2.2.2
  have hus := hw.2.1
  obtain ⟨s1, g1, a1, C1, v1, ⟨j0, j1, j2, j3, j4, j5, j6, j7⟩, o1⟩ := q6_open (kind := kind) (h := h) hr hnj h204
  have z1 : s1.2 204 = 0 := by rw [C1.2.2.1 204 (by decide)]; exact h204
  obtain ⟨s2, a2, C2⟩ := q3_set (c := c) (k := 2) (v := nI (rm_nj r)) (q_GC hr.1 C1) hc (by omega) (Or.inl z1)
  have T2 := q_Ctr C1 C2
  have z2 : s2.2 204 = 0 := by rw [C2.2.2.1 204 (by decide)]; exact z1
  obtain ⟨s3, a3, C3⟩ := q3_set (c := c) (k := 3) (v := nI h) (q_GC hr.1 T2) hc (by omega) (Or.inl z2)
  have T3 := q_Ctr T2 C3
  have z3 : s3.2 204 = 0 := by rw [C3.2.2.1 204 (by decide)]; exact z2
  have G3 := q_GC hr.1 T3
  have et : s3.1 14 (260 * (4 * rm_b r + 8)) = nI (rm_to r) := by
    rw [C3.1, C2.1, C1.1, q_updO (by unfold cp; omega), q_updO (by unfold cp; omega), o1 _ (by omega) (fun k hk => by unfold jp; omega)]
    exact hm.1
  obtain ⟨s4, a4, C4⟩ := q2_fill (p := cp (rm_b r) c 6) (n := 122) (v := -1) G3 (by unfold cp; omega) (Or.inl z3)
  have T4 := q_Ctr T3 C4
  have z4 : s4.2 204 = 0 := by rw [C4.2.2.1 204 (by decide)]; exact z3
  obtain ⟨s5, a5, C5⟩ := q3_set (c := c) (k := 0) (v := 1) (q_GC hr.1 T4) hc (by omega) (Or.inl z4)
  have T5 := q_Ctr T4 C5
  have z5 : s5.2 204 = 0 := by rw [C5.2.2.1 204 (by decide)]; exact z4
  obtain ⟨s6, a6, C6⟩ := q3_set (c := c) (k := 1) (v := nI (rm_to r)) (q_GC hr.1 T5) hc (by omega) (Or.inl z5)
  have T6 := q_Ctr T5 C6
  refine ⟨s6, ?_, dc_C T6 h204, ?_⟩
  · unfold f_X11_begin_p63 f_X3_startReading
    rw [a1, q_bi, show f_X3_set ln (nI c) 2 _ _ = _ from a2, q_bv, show f_X3_set ln (nI c) 3 _ _ = _ from a3, q_bv, q4_top G3, q_bi, et, G3.2.2.2.2.2.2.2.1, show (128 : Int32) = nI 128 from rfl, pk_mul, nI_add, show (6 : Int32) = nI 6 from rfl, nI_add]
    rw [show f_X2_fill ln (nI (260 * (4 * rm_b r + 8) + 2 + c * 128 + 6)) 122 (-1) s3 = _ from a4, q_bv, show f_X3_set ln (nI c) 0 _ _ = _ from a5, q_bv, show f_X3_set ln (nI c) 1 _ _ = _ from a6, q_bv]
    rfl
  · refine rp_C_of (r' := sg_begin r c kind h) hr T6 rfl rfl ?_
    rw [← C6.1]
    have eg : ∀ p, s6.1 14 p = if p = cp (rm_b r) c 1 then nI (rm_to r) else if p = cp (rm_b r) c 0 then 1 else if cp (rm_b r) c 6 ≤ p ∧ p < cp (rm_b r) c 6 + 122 then -1 else if p = cp (rm_b r) c 3 then nI h else if p = cp (rm_b r) c 2 then nI (rm_nj r) else g1 p := by
      intro p
      rw [C6.1, C5.1, C4.1, C3.1, C2.1, C1.1]
      by_cases e1 : p = cp (rm_b r) c 1
      · rw [if_pos e1, e1, q_updS]
      · rw [if_neg e1, q_updO e1]
        by_cases e2 : p = cp (rm_b r) c 0
        · rw [if_pos e2, e2, q_updS]
        · rw [if_neg e2, q_updO e2, dq_fill_at]
          by_cases e3 : cp (rm_b r) c 6 + 0 ≤ p ∧ p < cp (rm_b r) c 6 + 0 + 122
          · rw [if_pos e3, if_pos (by omega)]
          · rw [if_neg e3, if_neg (by omega)]
            by_cases e4 : p = cp (rm_b r) c 3
            · rw [if_pos e4, e4, q_updS]
            · rw [if_neg e4, q_updO e4]
              by_cases e5 : p = cp (rm_b r) c 2
              · rw [if_pos e5, e5, q_updS]
              · rw [if_neg e5, q_updO e5]
    have out : ∀ p, (p < cp (rm_b r) c 0 ∨ cp (rm_b r) c 128 ≤ p) → s6.1 14 p = g1 p := fun p hp => by
      unfold cp at hp
      rw [eg, if_neg (by unfold cp; omega), if_neg (by unfold cp; omega), if_neg (by unfold cp; omega), if_neg (by unfold cp; omega), if_neg (by unfold cp; omega)]
    have row : ∀ e k, e < 260 → k < 4 * rm_b r + 8 → s6.1 14 (dp (rm_b r) e k) = s.1 14 (dp (rm_b r) e k) := fun e k he hk => by
      have := dp_260 (b := rm_b r) (d := e) (k := k) he hk
      rw [out _ (Or.inl (by unfold cp; omega)), o1 _ (by omega) (fun i hi => by unfold jp; omega)]
    have hk := hm.2.2.2.1 c hc
    refine rp_all hm hw rfl ?_ ?_ (fun d hd => Or.inl ⟨hd, rfl, fun k hk => row d k (by have hd : d < rm_us r := hd; omega) hk⟩) (fun e he => ?_) ?_ ?_ (fun j hj => ?_)
    · rw [out _ (Or.inl (by unfold cp; omega)), o1 _ (by omega) (fun i hi => by unfold jp; omega)]
      exact hm.1
    · rw [out _ (Or.inl (by unfold cp; omega)), o1 _ (by omega) (fun i hi => by unfold jp; omega)]
      exact hm.2.1
    · by_cases ec : e = c
      · right
        subst ec
        rw [show rm_ck (sg_begin r e kind h) e = (1, rm_to r, some (rm_nj r), ck_fa (rm_ck r e), h, none, (fun _ => none), ck_co (rm_ck r e)) from sK_at _ _ _]
        have of : ∀ k, k < 128 → k ≠ 1 → k ≠ 0 → k < 6 → k ≠ 3 → k ≠ 2 → s6.1 14 (cp (rm_b r) e k) = s.1 14 (cp (rm_b r) e k) := fun k h0 h1 h2 h3 h4 h5 => by
          rw [eg, if_neg (by unfold cp; omega), if_neg (by unfold cp; omega), if_neg (by unfold cp; omega), if_neg (by unfold cp; omega), if_neg (by unfold cp; omega), o1 _ (by unfold cp; omega) (fun i hi => by unfold cp jp; omega)]
        refine ⟨?_, ?_, ?_, ?_, ?_, ?_, fun _ l hl => ?_, fun q => absurd (show (1 : Nat) = 3 from q) (by decide)⟩
        · rw [eg, if_neg (by unfold cp; omega), if_pos rfl]
          rfl
        · rw [eg, if_pos rfl]
          rfl
        · rw [eg, if_neg (by unfold cp; omega), if_neg (by unfold cp; omega), if_neg (by unfold cp; omega), if_neg (by unfold cp; omega), if_pos rfl]
          rfl
        · rw [eg, if_neg (by unfold cp; omega), if_neg (by unfold cp; omega), if_neg (by unfold cp; omega), if_pos rfl]
          rfl
        · rw [of 4 (by omega) (by omega) (by omega) (by omega) (by omega) (by omega), hk.2.2.2.2.1, hri]
          rfl
        · rw [of 5 (by omega) (by omega) (by omega) (by omega) (by omega) (by omega)]
          exact hk.2.2.2.2.2.1
        · rw [eg, if_neg (by unfold cp; omega), if_neg (by unfold cp; omega), if_pos (by unfold cp; omega)]
          rfl
      · left
        refine ⟨sK_ne ec, fun k hk => ?_, fun k hk _ => row (256 + e) k (by omega) hk⟩
        rw [out _ (by unfold cp; rcases Nat.lt_or_gt_of_ne ec with q | q; left; omega; right; omega), o1 _ (by unfold cp; omega) (fun i hi => by unfold jp cp; omega)]
    · rw [out _ (Or.inr (by unfold cp; omega)), o1 _ (by omega) (fun i hi => by unfold jp; omega)]
      exact hm.2.2.2.2.1
    · rw [out _ (Or.inr (by unfold cp; omega)), v1]
      rfl
    · have hj : j < rm_nj r + 1 := hj
      by_cases e : j = rm_nj r
      · right
        rw [e, show rm_jb (sg_begin r c kind h) (rm_nj r) = (kind, h, none, rm_ti r, none, 0, false) from by show (if rm_nj r = rm_nj r then _ else _) = _; rw [if_pos rfl]]
        have oo : ∀ k, k < 8 → s6.1 14 (jp (rm_b r) (rm_nj r) k) = g1 (jp (rm_b r) (rm_nj r) k) := fun k hk => out _ (Or.inr (by unfold cp jp; omega))
        refine ⟨(oo 0 (by omega)).trans j0, (oo 1 (by omega)).trans j1, (oo 2 (by omega)).trans j2, (oo 3 (by omega)).trans j3, (oo 4 (by omega)).trans j4, (oo 5 (by omega)).trans j5, (oo 6 (by omega)).trans j6, ?_⟩
        rw [oo 7 (by omega), j7]
        show (-1 : Int32) = nO ((rm_ch r).lookup (rm_nj r))
        rw [hch]
        rfl
      · left
        refine ⟨by omega, by show (if j = rm_nj r then _ else rm_jb r j) = _; rw [if_neg e], rfl, fun k hk => ?_⟩
        rw [out _ (Or.inr (by unfold cp jp; omega)), o1 _ (by unfold jp; omega) (fun i hi => by unfold jp; omega)]
theorem qm_used_p {ln : Nat → Nat} {s : dr_S} {u : Nat} (L : dq_ML ln) (hu : u ≤ 256) (h : ∀ d, d < 256 → s.1 30 d = (if d < u then 1 else 0)) : ∀ (k fu i n : Nat), 256 = i + k → k < fu → n = min i u → f_X12_used_p4 ln fu (nI n) (nI i) s = some (nI u, s)
  | k, 0, _, _, _, q, _ => absurd q (Nat.not_lt_zero _)
  | 0, fu + 1, i, n, hk, hf, hn => by
    rw [f_X12_used_p4, if_pos (show (256 : Int32) ≤ nI i from nI_le (a := 256) (by omega) (by omega)), show n = u by omega]
  | k + 1, fu + 1, i, n, hk, hf, hn => by
    rw [f_X12_used_p4, if_neg (show ¬ (256 : Int32) ≤ nI i from nI_ge (b := 256) (by omega) (by omega)), m_rdb L 30 256 rfl (by decide) (by decide) (by omega), h i (by omega)]
    unfold f_X12_used_p26
    by_cases e : i < u
    · rw [if_pos e, if_neg (by decide), q_let, q_let, nI_1, nI_1]
      exact qm_used_p L hu h k fu (i + 1) (n + 1) (by omega) (by omega) (by omega)
    · rw [if_neg e, if_pos rfl, q_let, q_let, nI_1, show nI n + 0 = nI n from Int32.add_zero _]
      exact qm_used_p L hu h k fu (i + 1) n (by omega) (by omega) (by omega)
theorem qm_used {ln : Nat → Nat} {s : dr_S} {r : sg_R} (hM : rp_M ln s r) (hu : rm_us r ≤ 256) : f_X12_used ln s = some (nI (rm_us r), s) := qm_used_p (mM_L hM) hu (mM_us hM) 256 dr_N 0 0 (by omega) (by unfold dr_N; omega) (by omega)
theorem qm_begin_p {ln : Nat → Nat} {c : Nat} (L : dq_ML ln) (hc : c < 4) : ∀ (k fu i : Nat) (s : dr_S), 64 = i + k → k < fu → ∃ s1, f_X12_begin_p155 ln fu (nI c) (nI i) s = some (((s1.2 1226) + 1) - 1, dr_pf s1 1226 (s1.2 1226 + 1)) ∧ dm_F s s1 ∧ s1.2 = s.2 ∧ (∀ a, a ≠ 44 → s1.1 a = s.1 a) ∧ (∀ p, s1.1 44 p = if 64 * c + i ≤ p ∧ p < 64 * c + 64 then -1 else s.1 44 p)
  | k, 0, _, _, _, q => absurd q (Nat.not_lt_zero _)
  | 0, fu + 1, i, s, hk, hf => by
    rw [f_X12_begin_p155, if_pos (show (64 : Int32) ≤ nI i from nI_le (a := 64) (by omega) (by omega)), q_letS, q_pf2]
    exact ⟨s, rfl, dm_rf s, rfl, fun _ _ => rfl, fun p => by rw [if_neg (by omega)]⟩
  | k + 1, fu + 1, i, s, hk, hf => by
    rw [f_X12_begin_p155, if_neg (show ¬ (64 : Int32) ≤ nI i from nI_ge (b := 64) (by omega) (by omega)), c64, nI_add, m_wrb L 44 256 rfl (by decide) (by decide) (by omega), q_let, nI_1]
    obtain ⟨s1, a1, a2, a3, a4, a5⟩ := qm_begin_p L hc k fu (i + 1) (dr_put s 44 (64 * c + i) (-1)) (by omega) (by omega)
    refine ⟨s1, a1, dm_tr (dm_put _ _ _ (dm_rf s) (by decide)) a2, a3, fun a h => by rw [a4 a h, q_putO h], fun p => ?_⟩
    rw [a5]
    show (if _ then (-1 : Int32) else upd (s.1 44) (64 * c + i) (-1) p) = _
    by_cases hp : p = 64 * c + i
    · rw [if_neg (by omega), if_pos (by omega), hp, q_updS]
    · rw [q_updO hp]
      by_cases hq : 64 * c + (i + 1) ≤ p ∧ p < 64 * c + 64
      · rw [if_pos hq, if_pos (by omega)]
      · rw [if_neg hq, if_neg (by omega)]
theorem qm_begin {ln : Nat → Nat} {s : dr_S} {r : sg_R} {c kind h : Nat} (hr : rp_M ln s r) (hw : wf_sz r) (hc : c < 4) (hnj : rm_nj r < 120) (hjo : ∀ e, e < 4 → ∀ j, ck_jo (rm_ck r e) = some j → j < rm_nj r) (hch : ∀ j t, (j, t) ∈ rm_ch r → j < rm_nj r) : ∃ s', f_X12_begin_p65 ln (nI c) (nI kind) (nI h) s = some (nI (rm_nj r), s') ∧ dm_F s s' ∧ rp_M ln s' (sg_begin r c kind h) := by
  have L := mM_L hr
  have en := mM_nj hr
  unfold f_X12_begin_p65
  rw [en, m_wrb L 50 120 rfl (by decide) (by decide) hnj, show (dr_put s 50 (rm_nj r) (nI kind)).2 1226 = nI (rm_nj r) from en, m_wrb L 51 120 rfl (by decide) (by decide) hnj]
  rw [show (dr_put (dr_put s 50 (rm_nj r) (nI kind)) 51 (rm_nj r) (nI h)).2 1226 = nI (rm_nj r) from en, m_wrb L 52 120 rfl (by decide) (by decide) hnj]
  rw [show (dr_put (dr_put (dr_put s 50 (rm_nj r) (nI kind)) 51 (rm_nj r) (nI h)) 52 (rm_nj r) (-1)).2 1226 = nI (rm_nj r) from en, show (dr_put (dr_put (dr_put s 50 (rm_nj r) (nI kind)) 51 (rm_nj r) (nI h)) 52 (rm_nj r) (-1)).2 1204 = nI (rm_ti r) from mM_ti (s := s) hr, m_wrb L 53 120 rfl (by decide) (by decide) hnj]
  rw [show (dr_put (dr_put (dr_put (dr_put s 50 (rm_nj r) (nI kind)) 51 (rm_nj r) (nI h)) 52 (rm_nj r) (-1)) 53 (rm_nj r) (nI (rm_ti r))).2 1226 = nI (rm_nj r) from en, m_wrb L 54 120 rfl (by decide) (by decide) hnj]
  generalize hA : dr_put (dr_put (dr_put (dr_put (dr_put s 50 (rm_nj r) (nI kind)) 51 (rm_nj r) (nI h)) 52 (rm_nj r) (-1)) 53 (rm_nj r) (nI (rm_ti r))) 54 (rm_nj r) (-1) = A
  have A2 : A.2 = s.2 := by rw [← hA]; rfl
  rw [A2, en, m_wrb L 41 4 rfl (by decide) (by decide) hc, m_wrb L 39 4 rfl (by decide) (by decide) hc]
  rw [show (dr_put (dr_put A 41 c (nI (rm_nj r))) 39 c 1).2 1205 = nI (rm_to r) from by rw [show (dr_put (dr_put A 41 c (nI (rm_nj r))) 39 c 1).2 = A.2 from rfl, A2]; exact mM_to hr, m_wrb L 40 4 rfl (by decide) (by decide) hc, m_wrb L 43 4 rfl (by decide) (by decide) hc]
  generalize hB : dr_put (dr_put (dr_put (dr_put A 41 c (nI (rm_nj r))) 39 c 1) 40 c (nI (rm_to r))) 43 c (-1) = B
  have B2 : B.2 = s.2 := by rw [← hB]; exact A2
  have BF : dm_F s B := by
    rw [← hB, ← hA]
    exact dm_put _ _ _ (dm_put _ _ _ (dm_put _ _ _ (dm_put _ _ _ (dm_put _ _ _ (dm_put _ _ _ (dm_put _ _ _ (dm_put _ _ _ (dm_put _ _ _ (dm_rf s) (by decide)) (by decide)) (by decide)) (by decide)) (by decide)) (by decide)) (by decide)) (by decide)) (by decide)
  have b50 : B.1 50 = upd (s.1 50) (rm_nj r) (nI kind) := by rw [← hB, ← hA]; rfl
  have b51 : B.1 51 = upd (s.1 51) (rm_nj r) (nI h) := by rw [← hB, ← hA]; rfl
  have b52 : B.1 52 = upd (s.1 52) (rm_nj r) (-1) := by rw [← hB, ← hA]; rfl
  have b53 : B.1 53 = upd (s.1 53) (rm_nj r) (nI (rm_ti r)) := by rw [← hB, ← hA]; rfl
  have b54 : B.1 54 = upd (s.1 54) (rm_nj r) (-1) := by rw [← hB, ← hA]; rfl
  have b41 : B.1 41 = upd (s.1 41) c (nI (rm_nj r)) := by rw [← hB, ← hA]; rfl
  have b39 : B.1 39 = upd (s.1 39) c 1 := by rw [← hB, ← hA]; rfl
  have b40 : B.1 40 = upd (s.1 40) c (nI (rm_to r)) := by rw [← hB, ← hA]; rfl
  have b43 : B.1 43 = upd (s.1 43) c (-1) := by rw [← hB, ← hA]; rfl
  have bO : ∀ a, a ≠ 50 → a ≠ 51 → a ≠ 52 → a ≠ 53 → a ≠ 54 → a ≠ 41 → a ≠ 39 → a ≠ 40 → a ≠ 43 → B.1 a = s.1 a := fun a h1 h2 h3 h4 h5 h6 h7 h8 h9 => by
    rw [← hB, q_putO h9, q_putO h8, q_putO h7, q_putO h6, ← hA, q_putO h5, q_putO h4, q_putO h3, q_putO h2, q_putO h1]
  clear hA hB
  obtain ⟨s1, a1, a2, a3, a4, a5⟩ := qm_begin_p (c := c) L hc 64 dr_N 0 B (by omega) (by unfold dr_N; omega)
  rw [show f_X12_begin_p155 ln dr_N (nI c) 0 B = _ from a1, a3, B2, en, nI_1, nI_pred]
  refine ⟨_, rfl, dm_pf _ _ (dm_tr BF a2) (by decide), ?_⟩
  generalize hT : dr_pf s1 1226 (nI (rm_nj r + 1)) = T
  have tA : T.1 = s1.1 := by rw [← hT]; rfl
  have tO : ∀ a, a ≠ 44 → T.1 a = B.1 a := fun a ha => by rw [tA]; exact a4 a ha
  have tP : ∀ a, a < 39 ∨ a = 42 ∨ (44 < a ∧ a < 50) ∨ 54 < a → T.1 a = s.1 a := fun a ha => by rw [tO a (by omega), bO a (by omega) (by omega) (by omega) (by omega) (by omega) (by omega) (by omega) (by omega) (by omega)]
  have t44 : ∀ p, T.1 44 p = if 64 * c ≤ p ∧ p < 64 * c + 64 then -1 else s.1 44 p := fun p => by rw [tA, a5, bO 44 (by decide) (by decide) (by decide) (by decide) (by decide) (by decide) (by decide) (by decide) (by decide), Nat.add_zero]
  have tf : ∀ f, f ≠ 1226 → T.2 f = s.2 f := fun f hf => by rw [← hT, q_pfO hf, a3, B2]
  have tn : T.2 1226 = nI (rm_nj r + 1) := by rw [← hT, q_pf2]
  clear hT
  have Sj : ∀ i, rm_jb (sg_begin r c kind h) i = if i = rm_nj r then (kind, h, none, rm_ti r, none, 0, false) else rm_jb r i := fun i => rfl
  obtain ⟨k1, k2, k3, k4, k5, k6, k7, k8⟩ := mM_ck hr c hc
  refine rm_all hr hw rfl rfl (tf 1200 (by decide)) (tf 1201 (by decide)) (tP 28 (by decide)) (tP 29 (by decide)) (by rw [tf 1204 (by decide)]; have q := mM_ti hr; exact q) (by rw [tf 1205 (by decide)]; have q := mM_to hr; exact q) (fun d hd => by rw [tP 30 (by decide)]; exact mM_us hr d hd) (fun d hd => Or.inl ⟨hd, rfl, ?_⟩) (fun d h1 h2 => by rw [tP 37 (by decide)]; exact mM_la hr d h1 h2) (fun e he => ?_) tn (fun j hj => ?_) (fun j h1 h2 => ?_) (by rw [tf 1234 (by decide)]; have q := mM_nc hr; exact q) (fun i j t hi => Or.inl ⟨hi, ?_⟩)
  · unfold md_same
    rw [tP 31 (by decide), tP 32 (by decide), tP 33 (by decide), tP 34 (by decide), tP 35 (by decide), tP 36 (by decide), tP 37 (by decide)]
    exact ⟨rfl, rfl, rfl, rfl, rfl, fun _ _ => rfl, fun _ _ => rfl⟩
  · by_cases ec : e = c
    · right
      subst ec
      have e1 : rm_ck (sg_begin r e kind h) e = (1, rm_to r, some (rm_nj r), ck_fa (rm_ck r e), h, none, (fun _ => none), ck_co (rm_ck r e)) := sK_at _ _ _
      have e2 : ck_he (sg_begin r e kind h) e = h := by
        unfold ck_he
        rw [e1]
        show jb_he (rm_jb (sg_begin r e kind h) (rm_nj r)) = h
        rw [Sj, if_pos rfl]
        rfl
      rw [e1, e2]
      refine ⟨?_, ?_, fun _ => ?_, ?_, ?_, fun _ l hl => ?_, fun q => absurd (show (1 : Nat) = 3 from q) (by decide), fun _ => Eq.mpr (if_pos (Or.inl (show (1 : Nat) = 1 from rfl))) rfl⟩
      · rw [tP 38 (by decide)]; exact k1
      · rw [tO 39 (by decide), b39, q_updS]; rfl
      · rw [tO 40 (by decide), b40, q_updS]; rfl
      · rw [tO 41 (by decide), b41, q_updS]; rfl
      · rw [tO 43 (by decide), b43, q_updS]; rfl
      · rw [t44, if_pos (by omega)]; rfl
    · left
      have e1 : rm_ck (sg_begin r c kind h) e = rm_ck r e := sK_ne ec
      refine ⟨e1, ?_, fun _ => rfl, fun _ => ?_⟩
      · unfold mk_same
        rw [tP 38 (by decide), tO 39 (by decide), b39, tO 40 (by decide), b40, tO 41 (by decide), b41, tP 42 (by decide), tO 43 (by decide), b43, tP 45 (by decide), tP 46 (by decide), tP 47 (by decide), tP 48 (by decide), tP 49 (by decide), q_updO ec, q_updO ec, q_updO ec, q_updO ec]
        refine ⟨rfl, rfl, rfl, rfl, rfl, rfl, rfl, rfl, rfl, fun l hl => ?_, fun _ _ => rfl, fun _ _ => rfl⟩
        rw [t44, if_neg (by omega)]
      · unfold ck_he
        rw [e1]
        cases hj : ck_jo (rm_ck r e) with
        | none => rfl
        | some j =>
          show jb_he (rm_jb (sg_begin r c kind h) j) = _
          have := hjo e he j hj
          rw [Sj, if_neg (by omega)]
  · have hj : j < rm_nj r + 1 := hj
    rw [Sj]
    by_cases e : j = rm_nj r
    · right
      rw [if_pos e, e]
      obtain ⟨z1, z2⟩ := mM_j2 hr (rm_nj r) (Nat.le_refl _) hnj
      refine ⟨?_, ?_, ?_, ?_, ?_, ?_, ?_⟩
      · rw [tO 50 (by decide), b50, q_updS]; rfl
      · rw [tO 51 (by decide), b51, q_updS]; rfl
      · rw [tO 52 (by decide), b52, q_updS]; rfl
      · rw [tO 53 (by decide), b53, q_updS]; rfl
      · rw [tO 54 (by decide), b54, q_updS]; rfl
      · rw [tP 55 (by decide), z1]; rfl
      · rw [tP 56 (by decide), z2]; rfl
    · left
      rw [if_neg e]
      refine ⟨by omega, rfl, ?_⟩
      unfold mj_same
      rw [tO 50 (by decide), b50, tO 51 (by decide), b51, tO 52 (by decide), b52, tO 53 (by decide), b53, tO 54 (by decide), b54, tP 55 (by decide), tP 56 (by decide), q_updO e, q_updO e, q_updO e, q_updO e, q_updO e]
      exact ⟨rfl, rfl, rfl, rfl, rfl, rfl, rfl⟩
  · have h1 : rm_nj r + 1 ≤ j := h1
    rw [tP 55 (by decide), tP 56 (by decide)]
    exact mM_j2 hr j (by omega) h2
  · have hjn := hch j t (List.mem_of_getElem? hi)
    rw [tP 57 (by decide), tP 58 (by decide), tP 59 (by decide), Sj, if_neg (by omega)]
    exact ⟨rfl, rfl, rfl, rfl, rfl⟩

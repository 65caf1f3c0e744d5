/-! 62: writing a guide; writing; of the class -/
theorem q10_writeGuide {ln : Nat → Nat} {s : dr_S} {r : sg_R} {c : Nat} (hr : rp_C ln s r) (hs : wf_step r c) (hwr : wf_wr r c) (hat : ck_at (rm_ck r c) = 3) (h0 : 0 < dv_lev (rm_dr r (ck_pl (rm_ck r c)))) (hB : dq_B s 54) :
    ∃ s' g, f_X10_writeGuide ln (nI c) (nI (ck_pl (rm_ck r c))) s = some (0, s') ∧ dq_C s s' g 54 ∧ rp_mem g (sg_sD r (ck_pl (rm_ck r c)) (dv_lev (rm_dr r (ck_pl (rm_ck r c))), (match sg_pos (dv_hs (ck_co (rm_ck r c))) (ck_so (rm_ck r c)) with | none => sg_ins (dv_hs (ck_co (rm_ck r c))) (sg_way (rm_ru r) (dv_hs (ck_co (rm_ck r c))) (ck_so (rm_ck r c))) (ck_so (rm_ck r c)) | some _ => dv_hs (ck_co (rm_ck r c))), (match sg_pos (dv_hs (ck_co (rm_ck r c))) (ck_so (rm_ck r c)) with | none => sg_ins (dv_cs (ck_co (rm_ck r c))) (sg_way (rm_ru r) (dv_hs (ck_co (rm_ck r c))) (ck_so (rm_ck r c)) + 1) ((ck_ri (rm_ck r c)).getD 0) | some i => (dv_cs (ck_co (rm_ck r c))).set (i + 1) ((ck_ri (rm_ck r c)).getD 0)), dv_hi (ck_co (rm_ck r c)), dv_th (ck_co (rm_ck r c)), dv_la (rm_dr r (ck_pl (rm_ck r c))))) := by
  obtain ⟨hw, hok, hck, hdr, hc⟩ := hs
  obtain ⟨w1, w2, w3, w4, w5, w6⟩ := hwr hat
  have hat0 : ck_at (rm_ck r c) ≠ 0 := by rw [hat]; decide
  obtain ⟨hf, -, hck3⟩ := hck c hc
  obtain ⟨hpl, hso, j, hj, hjn, hki⟩ := hck3 hat0
  have hus := hw.2.1
  have hb := hw.1
  have hco := hw.2.2.2.2 c hc hat
  have hrow := (hr.2.2.2.2.2.2.1 c hc).2.2.2.2.2.2.2 hat
  have hlv := (hdr _ hpl).1.2.1
  obtain ⟨w4a, n, hn⟩ := w4 (by omega)
  have g3 := (q10_place hr hc hat0).2
  have g4 := q3_get (c := c) (k := 4) hr.1 hc (by omega)
  rw [(hr.2.2.2.2.2.2.1 c hc).2.2.2.2.1, hn] at g4
  have g4 : f_X3_get ln (nI c) 4 s = some (nI n, s) := g4
  rw [show (ck_ri (rm_ck r c)).getD 0 = n from by rw [hn]; rfl]
  generalize hpp : ck_pl (rm_ck r c) = d at *
  generalize hhh : ck_so (rm_ck r c) = h at *
  generalize hyy : ck_co (rm_ck r c) = y at *
  obtain ⟨s1, ga, a1, C1, r1, f1⟩ := q4_bring (f := 256 + c) (t := d) hr.1 (by omega) (by omega) (by omega) hrow hco (by omega) (fun q => w4a) (q_Bmono hB (by omega))
  have G1 := q_GC hr.1 C1
  have hx1 : rp_row (s1.1 14) (rm_b r) d y := by rw [C1.1]; exact r1
  have B1 : dq_B s1 26 := C1.2.2.2.1 _ (q_Bmono hB (by omega))
  have hru1 : rp_rule s1 (rm_ru r) := ⟨(C1.2.2.1 503 (by decide)).trans hr.2.2.1.1, fun i d g he => by rw [C1.2.1 18 (by decide) (by decide) (by decide)]; exact hr.2.2.1.2 i d g he⟩
  unfold f_X10_writeGuide
  rw [g3, q_bi, g4, q_bi, q4_copyOf, q_bi, a1, q_bv, q4_placeOf G1 (by omega) hx1 w2 hso, q_bi]
  have fin : ∀ (g : Nat → Int32) (x : sg_D), rp_row g (rm_b r) d x → dv_la x = dv_la (rm_dr r d) → (∀ p, (∀ k, k < 4 * rm_b r + 8 → k ≠ 4 → p ≠ dp (rm_b r) d k) → g p = s1.1 14 p) → rp_mem g (sg_sD r d x) := by
    intro g x h1 h2 h3
    have h4 : ∀ p, (∀ k, k < 4 * rm_b r + 8 → k ≠ 4 → p ≠ dp (rm_b r) d k) → g p = s.1 14 p := fun p hp => (h3 p hp).trans (by rw [C1.1]; exact f1 p hp)
    refine rp_sD hr.2.2.2 hw (by omega) (fun p hp => h4 p (fun k hk _ => hp k hk)) ⟨h1, ?_⟩
    rw [h4 _ (fun k hk h4 e => h4 (by unfold dp at e; omega)), h2]
    exact (hr.2.2.2.2.2.1 d hpl).2
  cases hp : sg_pos (dv_hs y) h with
  | none =>
    rw [if_pos (show nO none = (-1 : Int32) from rfl), q4_wayOf G1 hr.2.1.1 hru1 hok (by omega) hx1 w2 hso, q_bi]
    have wl := sg_way_le (rm_ru r) h (dv_hs y)
    obtain ⟨s2, gb, a2, C2, r2, f2⟩ := q4_insert (k := sg_way (rm_ru r) (dv_hs y) h) (h := h) (v := nI n) G1 (by omega) hx1 hco w3 wl (by omega) (fun q => w4a) _ (fun q => ⟨n, rfl, rfl⟩) (dv_la (rm_dr r d)) B1
    refine ⟨s2, gb, ?_, q_Ctr C1 C2, ?_⟩
    · rw [a2, q_bv]
    · rw [w1] at r2
      exact fin _ _ r2 rfl f2
  | some i =>
    have hi := (List.getElem?_eq_some_iff.mp (sg_pos_lt hp)).1
    rw [if_neg (show ¬ nO (some i) = (-1 : Int32) from fun z => nI_pos (n := i) (by omega) (by rw [show nI i = -1 from z]; decide)), show nO (some i) = nI i from rfl, nI_1]
    obtain ⟨s2, a2, C2⟩ := q4_setChild (d := d) (k := i + 1) (v := nI n) G1 (by omega) (by omega) (q_Bmono B1 (by omega))
    refine ⟨s2, _, ?_, q_Cw (q_Ctr C1 C2) (by omega), ?_⟩
    · rw [a2, q_bv]
    · refine fin _ _ ?_ rfl (fun p hp => q_updO (hp _ (by omega) (by omega)))
      rw [← w1]
      have ne : ∀ k, k ≠ 2 * rm_b r + 6 + (i + 1) → upd (s1.1 14) (dp (rm_b r) d (2 * rm_b r + 6 + (i + 1))) (nI n) (dp (rm_b r) d k) = s1.1 14 (dp (rm_b r) d k) := fun k hk => q_updO (fun q => hk (by unfold dp at q; omega))
      obtain ⟨x0, x1, x2, x3, x4, x5⟩ := hx1
      refine ⟨(ne 0 (by omega)).trans x0, (ne 1 (by omega)).trans x1, (ne 2 (by omega)).trans x2, (ne 3 (by omega)).trans x3, fun k g hk => ?_, fun _ k g hk => ?_⟩
      · have hlt : k < (dv_hs y).length := (List.getElem?_eq_some_iff.mp hk).1
        exact (ne (5 + k) (by omega)).trans (x4 k g hk)
      · have hk : ((dv_cs y).set (i + 1) n)[k]? = some g := hk
        rw [List.getElem?_set] at hk
        by_cases e : i + 1 = k
        · rw [if_pos e, if_pos (by omega)] at hk
          cases hk
          subst e
          exact q_updS _ _ _
        · rw [if_neg e] at hk
          exact (ne (2 * rm_b r + 6 + k) (by omega)).trans (x5 (by omega) k g hk)
theorem q10_write {ln : Nat → Nat} {s : dr_S} {r : sg_R} {c : Nat} (hr : rp_C ln s r) (hs : wf_step r c) (hwr : wf_wr r c) (hat : ck_at (rm_ck r c) = 3) (hB : dq_B s 98) : ∃ s' g, f_X10_write ln (nI c) s = some (0, s') ∧ dq_C s s' g 98 ∧ rp_mem g (sg_write r c) := by
  have hs0 := hs
  obtain ⟨hw, hok, hck, hdr, hc⟩ := hs
  have hwr0 := hwr
  obtain ⟨w1, w2, w3, w4, w5, w6⟩ := hwr hat
  have hat0 : ck_at (rm_ck r c) ≠ 0 := by rw [hat]; decide
  obtain ⟨hf, -, hck3⟩ := hck c hc
  obtain ⟨hpl, hso, j, hj, hjn, hki⟩ := hck3 hat0
  have hus := hw.2.1
  have hb := hw.1
  have hco := hw.2.2.2.2 c hc hat
  have hlv := (hdr _ hpl).1.2.1
  have hjb : ck_job (rm_ck r c) = j := by unfold ck_job; rw [hj]; rfl
  have g0 := q4_get (d := ck_pl (rm_ck r c)) (k := 0) hr.1 (by omega) (by omega)
  rw [(hr.2.2.2.2.2.1 _ hpl).1.1] at g0
  have g0 : f_X4_get ln (nI (ck_pl (rm_ck r c))) 0 s = some (nI (dv_lev (rm_dr r (ck_pl (rm_ck r c)))), s) := g0
  unfold f_X10_write
  rw [(q10_place hr hc hat0).1, q_bi, g0, q_bi]
  unfold sg_write
  by_cases h0 : dv_lev (rm_dr r (ck_pl (rm_ck r c))) = 0
  · obtain ⟨p1, p2⟩ := q10_writeCard hr hs0 hwr0 hat h0 (q_Bmono hB (by omega))
    rw [if_pos h0, if_pos (show nI (dv_lev (rm_dr r (ck_pl (rm_ck r c)))) ≤ 0 by rw [h0]; decide)]
    by_cases e : decide (jb_ki (rm_jb r (ck_job (rm_ck r c))) = 1) = (sg_pos (dv_hs (ck_co (rm_ck r c))) (ck_so (rm_ck r c))).isSome
    · rw [if_pos e, p1 e, q_bi, if_pos rfl]
      obtain ⟨s1, ga, a1, C1, m1⟩ := q10_letGo (c := c) (d := ck_pl (rm_ck r c)) hr hw hc hf hpl (q_Bmono hB (by omega))
      have K := ck_la r c (ck_pl (rm_ck r c)) none
      obtain ⟨s2, gb, a2, C2, m2⟩ := q10_end (c := c) (j := j) (a := 0) (rp_C_of hr C1 K.2.1 K.2.2.2.1 m1) (wf_la hw hpl) hc (by rw [K.1]; exact hj) (by rw [K.2.2.2.2.1]; exact hjn) (C1.2.2.2.1 _ (q_Bmono hB (by omega)))
      refine ⟨s2, gb, ?_, q_Cw (q_Ctr C1 C2) (by omega), m2⟩
      rw [a1, q_bv, show f_X10_end ln (nI c) 0 s1 = _ from a2, q_bv]
    · rw [if_neg e]
      obtain ⟨s1, ga, a1, C1, m1⟩ := p2 e
      rw [a1, q_bi, if_neg (by decide)]
      have wl := sg_way_le (rm_ru r) (ck_so (rm_ck r c)) (dv_hs (ck_co (rm_ck r c)))
      generalize hX : ((0 : Nat), (match sg_pos (dv_hs (ck_co (rm_ck r c))) (ck_so (rm_ck r c)) with | none => sg_ins (dv_hs (ck_co (rm_ck r c))) (sg_way (rm_ru r) (dv_hs (ck_co (rm_ck r c))) (ck_so (rm_ck r c))) (ck_so (rm_ck r c)) | some i => (dv_hs (ck_co (rm_ck r c))).eraseIdx i), dv_cs (ck_co (rm_ck r c)), dv_hi (ck_co (rm_ck r c)), dv_th (ck_co (rm_ck r c)), dv_la (rm_dr r (ck_pl (rm_ck r c)))) = X at *
      have xl : dv_lev X = 0 := by rw [← hX]; rfl
      have xc : dv_cs X = dv_cs (ck_co (rm_ck r c)) := by rw [← hX]; rfl
      have xh : (dv_hs X).length ≤ 2 * rm_b r + 1 ∧ (¬ jb_ki (rm_jb r (ck_job (rm_ck r c))) = 1 → (dv_hs X).length ≤ 2 * rm_b r) := by
        rw [← hX]
        show (match sg_pos (dv_hs (ck_co (rm_ck r c))) (ck_so (rm_ck r c)) with | none => _ | some i => _ : List Nat).length ≤ _ ∧ (_ → (match sg_pos (dv_hs (ck_co (rm_ck r c))) (ck_so (rm_ck r c)) with | none => _ | some i => _ : List Nat).length ≤ _)
        cases hp : sg_pos (dv_hs (ck_co (rm_ck r c))) (ck_so (rm_ck r c)) with
        | none =>
          have := sg_ins_len (v := ck_so (rm_ck r c)) wl
          refine ⟨by show (sg_ins _ _ _).length ≤ _; omega, fun q => absurd ?_ e⟩
          rw [hp]
          exact decide_eq_false q
        | some i =>
          have := List.length_eraseIdx_le (dv_hs (ck_co (rm_ck r c))) i
          exact ⟨by show (List.eraseIdx _ _).length ≤ _; omega, fun _ => by show (List.eraseIdx _ _).length ≤ _; omega⟩
      have xr : rw_ok (rm_b r) X := ⟨xh.1, by rw [xc]; exact hco.2⟩
      have hr1 := rp_C_of (r' := sg_sC (sg_sD r (ck_pl (rm_ck r c)) X) (rm_ch r ++ [(ck_job (rm_ck r c), rm_ti r)])) hr C1 rfl rfl m1
      have ed : rm_dr (sg_sC (sg_sD r (ck_pl (rm_ck r c)) X) (rm_ch r ++ [(ck_job (rm_ck r c), rm_ti r)])) (ck_pl (rm_ck r c)) = X := by
        show (if ck_pl (rm_ck r c) = ck_pl (rm_ck r c) then X else _) = X
        rw [if_pos rfl]
      obtain ⟨s2, gb, a2, C2, m2⟩ := q10_done (c := c) (d := ck_pl (rm_ck r c)) (j := j) hr1 (wf_sD hw xr) hc hf hat rfl hpl hj hjn (by rw [ed, xl]; decide) (by rw [ed, xl]; intro q; exact absurd q (by decide)) (by
        rw [ed]
        intro q
        refine w5 (Or.inl ?_)
        by_cases e1 : jb_ki (rm_jb r (ck_job (rm_ck r c))) = 1
        · exact e1
        · have := xh.2 e1
          have q : (dv_hs X).length = 2 * rm_b r + 1 := q
          omega) (C1.2.2.2.1 _ (q_Bmono hB (by omega)))
      exact ⟨s2, gb, a2, q_Ctr C1 C2, m2⟩
  · rw [if_neg h0, if_neg (show ¬ nI (dv_lev (rm_dr r (ck_pl (rm_ck r c)))) ≤ 0 from nI_ge (b := dv_lev (rm_dr r (ck_pl (rm_ck r c)))) (a := 0) (by omega) (by omega))]
    obtain ⟨s1, ga, a1, C1, m1⟩ := q10_writeGuide hr hs0 hwr0 hat (by omega) (q_Bmono hB (by omega))
    rw [a1, q_bv]
    have wl := sg_way_le (rm_ru r) (ck_so (rm_ck r c)) (dv_hs (ck_co (rm_ck r c)))
    obtain ⟨w4a, n, hn⟩ := w4 (by omega)
    generalize hX : ((dv_lev (rm_dr r (ck_pl (rm_ck r c)))), (match sg_pos (dv_hs (ck_co (rm_ck r c))) (ck_so (rm_ck r c)) with | none => sg_ins (dv_hs (ck_co (rm_ck r c))) (sg_way (rm_ru r) (dv_hs (ck_co (rm_ck r c))) (ck_so (rm_ck r c))) (ck_so (rm_ck r c)) | some _ => dv_hs (ck_co (rm_ck r c))), (match sg_pos (dv_hs (ck_co (rm_ck r c))) (ck_so (rm_ck r c)) with | none => sg_ins (dv_cs (ck_co (rm_ck r c))) (sg_way (rm_ru r) (dv_hs (ck_co (rm_ck r c))) (ck_so (rm_ck r c)) + 1) ((ck_ri (rm_ck r c)).getD 0) | some i => (dv_cs (ck_co (rm_ck r c))).set (i + 1) ((ck_ri (rm_ck r c)).getD 0)), dv_hi (ck_co (rm_ck r c)), dv_th (ck_co (rm_ck r c)), dv_la (rm_dr r (ck_pl (rm_ck r c)))) = X at *
    have xl : dv_lev X = dv_lev (rm_dr r (ck_pl (rm_ck r c))) := by rw [← hX]; rfl
    have xh : (dv_hs X).length ≤ 2 * rm_b r + 1 ∧ (dv_cs X).length = (dv_hs X).length + 1 := by
      rw [← hX]
      show (match sg_pos (dv_hs (ck_co (rm_ck r c))) (ck_so (rm_ck r c)) with | none => _ | some i => _ : List Nat).length ≤ _ ∧ (match sg_pos (dv_hs (ck_co (rm_ck r c))) (ck_so (rm_ck r c)) with | none => _ | some i => _ : List Nat).length = (match sg_pos (dv_hs (ck_co (rm_ck r c))) (ck_so (rm_ck r c)) with | none => _ | some i => _ : List Nat).length + 1
      cases hp : sg_pos (dv_hs (ck_co (rm_ck r c))) (ck_so (rm_ck r c)) with
      | none =>
        have := sg_ins_len (v := ck_so (rm_ck r c)) wl
        have := sg_ins_len (l := dv_cs (ck_co (rm_ck r c))) (k := sg_way (rm_ru r) (dv_hs (ck_co (rm_ck r c))) (ck_so (rm_ck r c)) + 1) (v := (ck_ri (rm_ck r c)).getD 0) (by omega)
        exact ⟨by show (sg_ins _ _ _).length ≤ _; omega, by show (sg_ins _ _ _).length = (sg_ins _ _ _).length + 1; omega⟩
      | some i =>
        exact ⟨by show (dv_hs (ck_co (rm_ck r c))).length ≤ _; omega, by show (List.set _ _ _).length = (dv_hs (ck_co (rm_ck r c))).length + 1; rw [List.length_set]; exact w4a⟩
    have xr : rw_ok (rm_b r) X := ⟨xh.1, by omega⟩
    have hr1 := rp_C_of (r' := sg_sD r (ck_pl (rm_ck r c)) X) hr C1 rfl rfl m1
    have ed : rm_dr (sg_sD r (ck_pl (rm_ck r c)) X) (ck_pl (rm_ck r c)) = X := by
      show (if ck_pl (rm_ck r c) = ck_pl (rm_ck r c) then X else _) = X
      rw [if_pos rfl]
    obtain ⟨s2, gb, a2, C2, m2⟩ := q10_done (c := c) (d := ck_pl (rm_ck r c)) (j := j) hr1 (wf_sD hw xr) hc hf hat rfl hpl hj hjn (by rw [ed, xl]; exact hlv) (by rw [ed]; intro _; exact xh.2) (fun _ => w5 (Or.inr (by omega))) (C1.2.2.2.1 _ (q_Bmono hB (by omega)))
    exact ⟨s2, gb, a2, q_Cw (q_Ctr C1 C2) (by omega), m2⟩

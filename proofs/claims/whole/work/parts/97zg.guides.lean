/-! 97zg: a night, of the class: guides, levels -/
theorem q0_get2 {b : Nat} {ln : Nat → Nat} {s0 s : dr_S} {u d : Nat} {D : Nat → sg_D} {x : sg_D} (hS : nS2 b ln s0 s u D x) (hd : d < u) (hu : u < 256) : f_X4_get ln (nI d) 2 s = some (nO (dv_hi (D d)), s) := by
  have hb := hS.1.1
  have g := q4_get (d := d) (k := 2) hS.1 (by omega) (by omega)
  rw [(hS.2.2.2.2.1 d hd).1.1.2.2.1] at g
  exact g
/-- the children of a guide -/
theorem q0_guide_p {ln : Nat → Nat} {b : Nat} {s0 : dr_S} {f i u lev fr to k0 w : Nat} {D : Nat → sg_D} {kb : Int32 → Int32 → Int32 → Int32 → Int32 → dr_S → Option (Int32 × dr_S)} (hf : f ≤ 2 * b) (hb : 2 ≤ b ∧ b ≤ 5) (hu : u < 256) (hto : to ≤ u) (hfr : fr ≤ k0) (hw1 : w ≤ f + 1) (hw2 : k0 + w ≤ to) (hw3 : k0 + w < to → w = f + 1) (hhi : ∀ d, fr ≤ d → d + 1 < to → dv_hi (D d) ≠ none) : ∀ (j fu k : Nat) (s : dr_S), w = k + j → j < fu → nS2 b ln s0 s u D (lev, (List.range' k0 (k - 1)).map (fun c => (dv_hi (D c)).getD 0), List.range' k0 k, none, none, none) → ∃ s', f_X0_buildGuides_p33 ln kb fu (nI lev) (nI to) (nI f) (nI (k0 + k)) (nI i) (nI u) (nI k) s = f_X0_buildGuides_p94 ln kb (nI lev) (nI to) (nI f) (nI (k0 + w)) (nI i) (nI u) s' ∧ nS2 b ln s0 s' u D (lev, (List.range' k0 (w - 1)).map (fun c => (dv_hi (D c)).getD 0), List.range' k0 w, none, none, none)
  | j, 0, _, _, _, q, _ => absurd q (Nat.not_lt_zero _)
  | 0, fu + 1, k, s, hk, hfu, hS => by
    have e : k = w := by omega
    rw [e] at hS ⊢
    refine ⟨s, ?_, hS⟩
    rw [f_X0_buildGuides_p33]
    by_cases q : k0 + w < to
    · rw [if_pos (nI_lt (by have := hw3 q; omega) (by omega))]
    · by_cases z : f < w
      · rw [if_pos (nI_lt z (by omega))]
      · rw [if_neg (nI_nlt (by omega) (by omega)), if_pos (nI_le (by omega) (by omega))]
  | j + 1, fu + 1, k, s, hk, hfu, hS => by
    rw [f_X0_buildGuides_p33, if_neg (nI_nlt (by omega) (by omega)), if_neg (nI_ge (by omega) (by omega))]
    -- the child, behind the heading
    have fin : ∀ s1, nS2 b ln s0 s1 u D (lev, (List.range' k0 (k + 1 - 1)).map (fun c => (dv_hi (D c)).getD 0), List.range' k0 k, none, none, none) → ∃ s', f_X0_buildGuides_p72 ln kb (f_X0_buildGuides_p33 ln kb fu) (nI lev) (nI to) (nI f) (nI (k0 + k)) (nI i) (nI u) (nI k) s1 = f_X0_buildGuides_p94 ln kb (nI lev) (nI to) (nI f) (nI (k0 + w)) (nI i) (nI u) s' ∧ nS2 b ln s0 s' u D (lev, (List.range' k0 (w - 1)).map (fun c => (dv_hi (D c)).getD 0), List.range' k0 w, none, none, none) := by
      intro s1 h1
      obtain ⟨s2, a1, a2⟩ := nS2_addC (c := k0 + k) (k := k) h1 hu (by show ((List.range' k0 (k + 1 - 1)).map (fun c => (dv_hi (D c)).getD 0)).length ≤ _; rw [List.length_map, List.length_range']; omega) (by show (List.range' k0 k).length = k; rw [List.length_range']) (by omega)
      unfold f_X0_buildGuides_p72
      rw [a1, q_bv, q_let, nI_1, q_let, nI_1]
      have ec : List.range' k0 (k + 1) = List.range' k0 k ++ [k0 + k] := List.range'_1_concat
      exact q0_guide_p (i := i) (kb := kb) hf hb hu hto hfr hw1 hw2 hw3 hhi j fu (k + 1) s2 (by omega) (by omega) (by rw [ec]; exact a2)
    by_cases e0 : k = 0
    · rw [if_pos (show nI k ≤ 0 by rw [e0]; decide)]
      refine fin s ?_
      rw [e0] at hS ⊢
      exact hS
    · obtain ⟨m, em⟩ : ∃ m, k = m + 1 := ⟨k - 1, by omega⟩
      rw [if_neg (nI_nle (by omega) (by omega)), show nI (k0 + k) - 1 = nI (k0 + m) by rw [em, ← Nat.add_assoc, nI_pred], q0_get2 hS (by omega) hu, q_bi]
      obtain ⟨h, hh⟩ : ∃ h, dv_hi (D (k0 + m)) = some h := by
        cases hz : dv_hi (D (k0 + m)) with
        | none => exact absurd hz (hhi _ (by omega) (by omega))
        | some h => exact ⟨h, rfl⟩
      rw [hh, show nO (some h) = nI h from rfl]
      obtain ⟨s1, a1, a2⟩ := nS2_addH (h := h) hS hu (by show ((List.range' k0 (k - 1)).map (fun c => (dv_hi (D c)).getD 0)).length ≤ _; rw [List.length_map, List.length_range']; omega)
      rw [a1, q_bv]
      refine fin s1 ?_
      have ec : (List.range' k0 (k + 1 - 1)).map (fun c => (dv_hi (D c)).getD 0) = (List.range' k0 (k - 1)).map (fun c => (dv_hi (D c)).getD 0) ++ [h] := by
        rw [show k + 1 - 1 = m + 1 by omega, show k - 1 = m by omega, List.range'_1_concat, List.map_append]
        show _ ++ [(dv_hi (D (k0 + m))).getD 0] = _
        rw [hh]
        rfl
      rw [ec]
      exact a2
theorem q0_guides_p {ln : Nat → Nat} {b : Nat} {s0 : dr_S} {r : sg_R} {f lev fr to : Nat} {D : Nat → sg_D} (hb : 2 ≤ b ∧ b ≤ 5) (hf1 : b ≤ f) (hf2 : f ≤ 2 * b) (hw : fr < to) (hhi : ∀ d, fr ≤ d → d + 1 < to → dv_hi (D d) ≠ none) (hlast : dv_hi (D (to - 1)) = none) (hbd : to + n_nl (to - fr) (f + 1) ≤ 256) : ∀ (j fu i : Nat) (s : dr_S), n_nl (to - fr) (f + 1) = i + j → j < fu → nS b ln s0 s (to + i) (n_up D lev f fr to) → ∃ s', f_X0_buildGuides_p6 ln fu (nI lev) (nI to) (nI f) (nI (min (fr + i * (f + 1)) to)) (nI i) s = some (nI (to + n_nl (to - fr) (f + 1)), s') ∧ nS b ln s0 s' (to + n_nl (to - fr) (f + 1)) (n_up D lev f fr to)
  | j, 0, _, _, _, q, _ => absurd q (Nat.not_lt_zero _)
  | 0, fu + 1, i, s, hi, hfu, hS => by
    obtain ⟨p1, p2, p3⟩ := nl_p (n := to - fr) (g := f + 1) (by omega)
    have e : i = n_nl (to - fr) (f + 1) := by omega
    rw [← e] at p2
    rw [f_X0_buildGuides_p6, if_neg (show ¬ (256 : Int32) ≤ nI i from nI_ge (b := 256) (by omega) (by omega)), if_pos (nI_le (by omega) (by omega))]
    unfold f_X0_buildGuides_p142
    rw [q4_inUse hS.1, q_bi, hS.2.2.2.1, ← e]
    exact ⟨s, rfl, hS⟩
  | j + 1, fu + 1, i, s, hi, hfu, hS => by
    obtain ⟨p1, p2, p3⟩ := nl_p (n := to - fr) (g := f + 1) (by omega)
    obtain ⟨y1, y2, y3, y4, y5⟩ := yw_ok (f := f) (fr := fr) (to := to) (i := i) hw (by omega)
    have Dlo : ∀ d, d < to → n_up D lev f fr to d = D d := fun d hd => if_pos hd
    have em : min (fr + (i + 1) * (f + 1)) to = fr + i * (f + 1) + yw f fr to i := by
      rw [Nat.add_mul i 1, Nat.one_mul]
      unfold yw
      omega
    rw [show min (fr + i * (f + 1)) to = fr + i * (f + 1) by omega, f_X0_buildGuides_p6, if_neg (show ¬ (256 : Int32) ≤ nI i from nI_ge (b := 256) (by omega) (by omega)), if_neg (nI_ge (by omega) (by omega))]
    obtain ⟨s1, a1, a2⟩ := nS_open (lev := lev) hS (by omega)
    rw [a1, q_bi]
    obtain ⟨s2, b1, b2⟩ := q0_guide_p (ln := ln) (i := i) (u := to + i) (lev := lev) (fr := fr) (to := to) (k0 := fr + i * (f + 1)) (w := yw f fr to i) (D := n_up D lev f fr to) (kb := f_X0_buildGuides_p6 ln fu) hf2 hb (by omega) (by omega) (by omega) y3 y2 y5 (fun d h1 h2 => by rw [Dlo d (by omega)]; exact hhi d h1 h2) (yw f fr to i) dr_N 0 s1 (by omega) (by unfold dr_N; omega) a2
    rw [Nat.add_zero] at b1
    rw [show f_X0_buildGuides_p33 ln (f_X0_buildGuides_p6 ln fu) dr_N (nI lev) (nI to) (nI f) (nI (fr + i * (f + 1))) (nI i) (nI (to + i)) 0 s1 = _ from b1]
    have emap : (List.range' (fr + i * (f + 1)) (yw f fr to i - 1)).map (fun c => (dv_hi (n_up D lev f fr to c)).getD 0) = (List.range' (fr + i * (f + 1)) (yw f fr to i - 1)).map (fun c => (dv_hi (D c)).getD 0) := List.map_congr_left (fun c hc => by
      have := List.mem_range'_1.mp hc
      rw [Dlo c (by omega)])
    rw [emap] at b2
    have eD : n_up D lev f fr to (to + i) = bd (to + n_nl (to - fr) (f + 1)) (to + i) (yg D lev f fr to i) := by
      show (if to + i < to then D (to + i) else bd (to + n_nl (to - fr) (f + 1)) (to + i) (yg D lev f fr to (to + i - to))) = _
      rw [if_neg (by omega), show to + i - to = i by omega]
    have hrw : ∀ hi th : Option Nat, rw_ok b (lev, (List.range' (fr + i * (f + 1)) (yw f fr to i - 1)).map (fun c => (dv_hi (D c)).getD 0), List.range' (fr + i * (f + 1)) (yw f fr to i), hi, th, none) := fun hi th => ⟨by show ((List.range' (fr + i * (f + 1)) (yw f fr to i - 1)).map (fun c => (dv_hi (D c)).getD 0)).length ≤ 2 * b + 1; rw [List.length_map, List.length_range']; omega, by show (List.range' (fr + i * (f + 1)) (yw f fr to i)).length ≤ 2 * b + 2; rw [List.length_range']; omega⟩
    unfold f_X0_buildGuides_p94 f_X0_buildGuides_p136
    by_cases q : i + 1 < n_nl (to - fr) (f + 1)
    · have q2 := y4.mp q
      rw [if_neg (nI_ge q2 (by omega)), show nI (fr + i * (f + 1) + yw f fr to i) - 1 = nI (fr + i * (f + 1) + yw f fr to i - 1) by rw [show fr + i * (f + 1) + yw f fr to i = (fr + i * (f + 1) + yw f fr to i - 1) + 1 by omega, nI_pred, Nat.add_sub_cancel], q0_get2 b2 (by omega) (by omega), q_bi, Dlo _ (by omega)]
      obtain ⟨s3, c1, c2⟩ := nS2_set2 (v := dv_hi (D (fr + i * (f + 1) + yw f fr to i - 1))) b2 (by omega)
      obtain ⟨s4, d1, d2⟩ := nS2_set3 (v := some (to + i + 1)) c2 (by omega)
      rw [c1, q_bv, nI_1, show f_X4_set ln (nI (to + i)) 3 (nI (to + i + 1)) s3 = _ from d1, q_bv, q_let, nI_1, ← em]
      have eD2 : n_up D lev f fr to (to + i) = (lev, (List.range' (fr + i * (f + 1)) (yw f fr to i - 1)).map (fun c => (dv_hi (D c)).getD 0), List.range' (fr + i * (f + 1)) (yw f fr to i), dv_hi (D (fr + i * (f + 1) + yw f fr to i - 1)), some (to + i + 1), none) := by
        rw [eD]
        show (lev, _, _, (if to + i + 1 < to + n_nl (to - fr) (f + 1) then dv_hi (D (fr + i * (f + 1) + yw f fr to i - 1)) else none), (if to + i + 1 < to + n_nl (to - fr) (f + 1) then some (to + i + 1) else none), none) = _
        rw [if_pos (by omega), if_pos (by omega)]
        rfl
      exact q0_guides_p (r := r) hb hf1 hf2 hw hhi hlast hbd j fu (i + 1) s4 (by omega) (by omega) (nS_close d2 eD2 (hrw _ _))
    · have q2 : ¬ fr + i * (f + 1) + yw f fr to i < to := fun z => q (y4.mpr z)
      rw [if_pos (nI_le (by omega) (by omega)), q_let, nI_1, ← em]
      have eD2 : n_up D lev f fr to (to + i) = (lev, (List.range' (fr + i * (f + 1)) (yw f fr to i - 1)).map (fun c => (dv_hi (D c)).getD 0), List.range' (fr + i * (f + 1)) (yw f fr to i), none, none, none) := by
        rw [eD]
        show (lev, _, _, (if to + i + 1 < to + n_nl (to - fr) (f + 1) then dv_hi (D (fr + i * (f + 1) + yw f fr to i - 1)) else none), (if to + i + 1 < to + n_nl (to - fr) (f + 1) then some (to + i + 1) else none), none) = _
        rw [if_neg (by omega), if_neg (by omega)]
        rfl
      exact q0_guides_p (r := r) hb hf1 hf2 hw hhi hlast hbd j fu (i + 1) s2 (by omega) (by omega) (nS_close b2 eD2 (hrw _ _))
theorem bw_91 {lev : Nat} (h : lev ≤ 4) : (bw lev).2 ≤ 91 := by
  have hl : lev = 0 ∨ lev = 1 ∨ lev = 2 ∨ lev = 3 ∨ lev = 4 := by omega
  rcases hl with z | z | z | z | z <;> subst z <;> decide
theorem nS_cg {b : Nat} {ln : Nat → Nat} {s0 s : dr_S} {u : Nat} {D D' : Nat → sg_D} (h : nS b ln s0 s u D) (e : ∀ d, d < u → D' d = D d) : nS b ln s0 s u D' := by
  obtain ⟨h1, h2, h3, h4, h5, h7⟩ := h
  exact ⟨h1, h2, h3, h4, fun d hd => by rw [e d hd]; exact h5 d hd, h7⟩
theorem q0_levels {ln : Nat → Nat} {s0 : dr_S} {r : sg_R} {f : Nat} (hb : 2 ≤ rm_b r ∧ rm_b r ≤ 5) (hf1 : rm_b r ≤ f) (hf2 : f ≤ 2 * rm_b r) : ∀ (n fu lev fr to : Nat) (D : Nat → sg_D) (s : dr_S), nv r lev fr to D → lev + n = 4 → n < fu → nS (rm_b r) ln s0 s to D → ∃ s', f_X0_buildAnew_p28 ln fu (nI f) (nI fr) (nI to) (nI (lev + 1)) s = some (0, s') ∧ nS (rm_b r) ln s0 s' (n_lv f n (lev + 1) fr to D).2.1 (n_lv f n (lev + 1) fr to D).2.2 ∧ s'.1 14 (260 * (4 * rm_b r + 8)) = nI (n_lv f n (lev + 1) fr to D).1 := by
  -- the end
  have fin : ∀ (fr to : Nat) (D : Nat → sg_D) (s : dr_S), nS (rm_b r) ln s0 s to D → to ≤ 91 → ∃ s', f_X0_buildAnew_p69 ln (nI fr) s = some (0, s') ∧ nS (rm_b r) ln s0 s' to D ∧ s'.1 14 (260 * (4 * rm_b r + 8)) = nI fr := by
    intro fr to D s hS hto
    obtain ⟨h1, h2, h3, h4, h5, h7⟩ := hS
    obtain ⟨s', a1, C⟩ := q4_setTop (v := nI fr) h1 (Or.inl h2)
    unfold f_X0_buildAnew_p69
    rw [a1, q_bv]
    have row : ∀ d i, d < to → i < 4 * rm_b r + 8 → s'.1 14 (dp (rm_b r) d i) = s.1 14 (dp (rm_b r) d i) := fun d i hd hi => by
      rw [C.1, q_updO]
      intro q
      have := dp_256 (b := rm_b r) (d := d) (by omega) hi
      omega
    refine ⟨s', rfl, ⟨q_GC h1 C, (C.2.2.1 204 (by decide)).trans h2, nF_C h3 h2 C, ?_, fun d hd => ?_, fun p x y z => ?_⟩, by rw [C.1, q_updS]⟩
    · rw [C.1, q_updO (by omega)]
      exact h4
    · obtain ⟨⟨r1, r2⟩, r3⟩ := h5 d hd
      exact ⟨⟨rp_row_fr r1 r3 (fun i hi _ => row d i hd hi), (row d 4 hd (by omega)).trans r2⟩, r3⟩
    · rw [C.1, q_updO y]
      exact h7 p x y z
  intro n
  induction n with
  | zero =>
    intro fu lev fr to D s hv hl hfu hS
    have e : lev = 4 := by omega
    have hw := hv.2.2.1.1
    rw [e] at hw
    have hw : to - fr ≤ 1 := hw
    have hto : to ≤ 91 := Nat.le_trans hv.2.2.1.2 (bw_91 hv.2.1)
    have hft := hv.1
    obtain ⟨fu', efu⟩ : ∃ fu', fu = fu' + 1 := ⟨fu - 1, by omega⟩
    rw [efu, f_X0_buildAnew_p28, if_neg (show ¬ (256 : Int32) ≤ nI (lev + 1) from nI_ge (b := 256) (by omega) (by omega)), pk_sub (by omega), if_pos (show nI (to - fr) ≤ 1 from nI_le (b := 1) hw (by omega))]
    exact fin fr to D s hS hto
  | succ n ih =>
    intro fu lev fr to D s hv hl hfu hS
    have hto : to ≤ 91 := Nat.le_trans hv.2.2.1.2 (bw_91 hv.2.1)
    have hft := hv.1
    obtain ⟨fu', efu⟩ : ∃ fu', fu = fu' + 1 := ⟨fu - 1, by omega⟩
    rw [efu, f_X0_buildAnew_p28, if_neg (show ¬ (256 : Int32) ≤ nI (lev + 1) from nI_ge (b := 256) (by omega) (by omega)), pk_sub (by omega), n_lv]
    by_cases q : to - fr ≤ 1
    · rw [if_pos (show nI (to - fr) ≤ 1 from nI_le (b := 1) q (by omega)), if_pos q]
      exact fin fr to D s hS hto
    · rw [if_neg (show ¬ nI (to - fr) ≤ 1 from nI_ge (a := 1) (by omega) (by omega)), if_neg q]
      obtain ⟨hl4, hv2⟩ := nv_up hb.1 hf1 hf2 hv q
      have hto2 : to + n_nl (to - fr) (f + 1) ≤ 91 := Nat.le_trans hv2.2.2.1.2 (bw_91 hv2.2.1)
      have h5 := hv.2.2.2.2.1
      obtain ⟨s1, a1, a2⟩ := q0_guides_p (ln := ln) (s0 := s0) (r := r) (lev := lev + 1) (D := D) hb hf1 hf2 hft (fun d x y z => (h5 d x (by omega)).mp z y) ((h5 (to - 1) (by omega) (by omega)).mpr (by omega)) (by omega) (n_nl (to - fr) (f + 1)) dr_N 0 s (by omega) (by unfold dr_N; omega) (nS_cg hS (fun d hd => if_pos hd))
      rw [Nat.zero_mul, show min (fr + 0) to = fr by omega] at a1
      have e1 : f_X0_buildGuides ln (nI (lev + 1)) (nI fr) (nI to) (nI f) s = some (nI (to + n_nl (to - fr) (f + 1)), s1) := a1
      rw [e1, q_bi, q_let, nI_1]
      exact ih fu' (lev + 1) _ _ _ s1 hv2 (by omega) (by omega) a2
theorem q11_night {ln : Nat → Nat} {s : dr_S} {r : sg_R} {f : Nat} (hC : rp_C ln s r) (hiv : iv r) (hf1 : rm_b r ≤ f) (hf2 : f ≤ 2 * rm_b r) (hidle : ∀ c, c < 4 → ck_at (rm_ck r c) = 0) (h204 : s.2 204 = 0) : ∃ s', f_X0_buildAnew ln (nI f) s = some (0, s') ∧ dc_F s s' ∧ rp_C ln s' (sg_night r f) := by
  obtain ⟨rk, t, st, hp, hT, hcn⟩ := hiv
  have hH := (srt_ok st hcn).1
  have hb := st.1.1
  have hnj := st.1.2.2.1
  have hlen := s_len hH
  have l13 : ln 13 = 120 := hC.2.1.2.1
  have hg : 1 ≤ f := by omega
  -- the cards
  have F0 : sr_F s (dr_pf s 103 0) := ⟨fun a _ => rfl, fun g hg => q_pfO hg⟩
  have C0 := sr_C hC F0
  obtain ⟨s1, a1, a2, a3⟩ := q1_sort_p (ln := ln) (iv_lv st) hnj (fun d hd hlv => ⟨fun h hh => ⟨(st.2.2.1 d hd).1.2.2.1 h hh, ((st.2.2.1 d hd).1.2.2.2.2.2.2.2 hlv).2 h hh⟩, fun t ht => by
    obtain ⟨_, t2, _⟩ := (st.2.2.1 d hd).1.2.2.2.2.2.1 t ht
    rw [t2]
    exact hlv⟩) 256 dr_N 0 (dr_pf s 103 0) [] (sg_first r 0) C0 ⟨q_pf2 _ _ _, fun k hk => absurd hk (Nat.not_lt_zero _)⟩ ⟨List.Pairwise.nil, fun h q => (by cases q)⟩ (by omega) (by unfold dr_N; omega) (fun d hd => iv_fst st hcn d hd)
  have eS : f_X1_sort ln s = some (nI (s_srt r).length, s1) := by
    unfold f_X1_sort
    rw [q_letS, q_fst0 C0 st hcn, q_bi]
    exact a1
  have a3 : srt_C s1 (s_srt r) := a3
  have C1 := sr_C C0 a2
  have F1 := sr_tr F0 a2
  have z204 : s1.2 204 = 0 := (F1.2 204 (by decide)).trans h204
  obtain ⟨s2, b1, Cc⟩ := q4_clear C1.1 (Or.inl z204)
  have S0 : nS (rm_b r) ln s1 s2 0 (n_D0 (s_srt r) f) := ⟨q_GC C1.1 Cc, (Cc.2.2.1 204 (by decide)).trans z204, nF_C ⟨fun _ _ _ _ => rfl, fun _ => rfl⟩ z204 Cc, by rw [Cc.1, q_updS]; rfl, fun d hd => absurd hd (Nat.not_lt_zero _), fun p _ _ z => by rw [Cc.1, q_updO z]⟩
  have hb2 := nl_b (n := (s_srt r).length) (g := f) (c := 2) (by omega) hg
  obtain ⟨s3, c1, c2⟩ := q0_leaves_p (ln := ln) l13 a3 (by omega) hb hf1 hf2 (n_nl (s_srt r).length f) dr_N 0 s2 (by omega) (by unfold dr_N; omega) S0
  rw [Nat.zero_mul, show min 0 (s_srt r).length = 0 by omega] at c1
  have eL : f_X0_buildLeaves ln (nI (s_srt r).length) (nI f) s2 = some (nI (n_nl (s_srt r).length f), s3) := c1
  obtain ⟨s4, d1, d2, d3⟩ := q0_levels (ln := ln) (s0 := s1) (r := r) hb hf1 hf2 4 dr_N 0 0 _ _ s3 (nv_leaves hb.1 hf1 hf2 hH (by omega)) (by omega) (by unfold dr_N; omega) c2
  have d2 : nS (rm_b r) ln s1 s4 (n_all r f).2.1 (n_all r f).2.2 := d2
  have d3 : s4.1 14 (260 * (4 * rm_b r + 8)) = nI (n_all r f).1 := d3
  refine ⟨s4, ?_, ?_, ?_⟩
  · unfold f_X0_buildAnew
    rw [eS, q_bi, b1, q_bv, eL, q_bi]
    exact d1
  · obtain ⟨_, _, F, _⟩ := d2
    exact ⟨fun a ha => by rw [F.1 a (by omega) (by omega) (by omega), F1.1 a (by omega)], fun g hg => by rw [F.2 g, F1.2 g (by omega)], by rw [F.2 204, F1.2 204 (by decide)], by rw [F.2 203, F1.2 203 (by decide)]⟩
  · obtain ⟨g1, g2, F, g4, g5, g7⟩ := d2
    obtain ⟨k1, k2, k3, m1, m2, m3, m4, m5, m6, m7⟩ := C1
    have low : ∀ d k, 256 ≤ d → d < 260 → k < 4 * rm_b r + 8 → s4.1 14 (dp (rm_b r) d k) = s1.1 14 (dp (rm_b r) d k) := fun d k h0 h1 h2 => by
      have := dp_260 (b := rm_b r) h1 h2
      have h3 := dp_in (b := rm_b r) (d := d) h2
      have h4 : 256 * (4 * rm_b r + 8) ≤ d * (4 * rm_b r + 8) := Nat.mul_le_mul_right _ h0
      exact g7 _ (by omega) (by omega) (by omega)
    refine ⟨g1, k2, ⟨by rw [F.2 503]; exact k3.1, fun i d g he => by rw [F.1 18 (by decide) (by decide) (by decide)]; exact k3.2 i d g he⟩, d3, g4, fun d hd => ?_, fun c hc => ?_, ?_, ?_, fun j hj => ?_⟩
    · obtain ⟨⟨r1, r2⟩, r3⟩ := g5 d hd
      refine ⟨r1, ?_⟩
      have hla : dv_la ((n_all r f).2.2 d) = none := by
        obtain ⟨lev, hv, _⟩ := nv_all (f := f) hb.1 hf1 hf2 4 0 0 _ _ (nv_leaves hb.1 hf1 hf2 hH (by omega)) (by omega)
        exact (hv.2.2.2.1 d hd).2.1
      show s4.1 14 (dp (rm_b r) d 4) = nO (dv_la ((n_all r f).2.2 d))
      rw [hla]
      exact r2
    · show rp_ck (s4.1 14) (rm_b r) c (rm_ck r c)
      exact rp_ck_fr (m4 c hc) (fun q => absurd q (by rw [hidle c hc]; decide)) (fun k hk => g7 _ (by unfold cp; omega) (by unfold cp; omega) (by unfold cp; omega)) (fun k hk _ => low (256 + c) k (by omega) (by omega) hk)
    · show s4.1 14 (260 * (4 * rm_b r + 8) + 1474) = nI (rm_ti r)
      rw [g7 _ (by omega) (by omega) (by omega)]
      exact m5
    · show s4.1 14 (260 * (4 * rm_b r + 8) + 1475) = nI (rm_nj r)
      rw [g7 _ (by omega) (by omega) (by omega)]
      exact m6
    · have hj : j < rm_nj r := hj
      show rp_jb (s4.1 14) (rm_b r) j (rm_jb r j) (rm_ch r)
      exact rp_jb_fr (m7 j hj) (fun k hk => g7 _ (by unfold jp; omega) (by unfold jp; omega) (by unfold jp; omega))

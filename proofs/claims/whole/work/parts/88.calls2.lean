/-! 88: drawer, at, fault -/
theorem dr_cases {x : Int32} {u : Nat} (hu : u ≤ 256) : (x < 0 ∨ nI 256 ≤ x) ∨ (∃ d, d < 256 ∧ x = nI d ∧ u ≤ d) ∨ ∃ d, d < u ∧ x = nI d := by
  rcases pk_ix x (n := 256) (by omega) with h | h | ⟨j, hj, e⟩
  · exact Or.inl (Or.inl h)
  · exact Or.inl (Or.inr h)
  · by_cases q : j < u
    · exact Or.inr (Or.inr ⟨j, q, e⟩)
    · exact Or.inr (Or.inl ⟨j, hj, e, by omega⟩)
theorem ok_drawer {ln : Nat → Nat} {s : dr_S} {r : sg_R} (h : rr ln s r) (x y : Int32) : call_ok ln (f_X11_drawer ln x y) (f_X12_drawer ln x y) s r := by
  have h0 := h
  obtain ⟨hC, hM, ⟨hiv, hi2⟩, _⟩ := h
  obtain ⟨rk, t, st, hp, hT, hcn⟩ := hiv
  have L := mM_L hM
  have hus := st.1.2.1
  have hb := st.1.1
  have gu := q4_inUse hC.1
  rw [hC.2.2.2.2.1] at gu
  rcases dr_cases (x := x) hus with g | g
  · refine call_ro h0 (-1) ?_ ?_
    · unfold f_X11_drawer
      rcases g with g | g
      · rw [if_pos g]
      · rw [if_neg (nI_gex (n := 256) (by omega) g), if_pos (show (256 : Int32) ≤ x from g)]
    · unfold f_X12_drawer f_X12_in
      rcases g with g | g
      · rw [if_pos g, q_bi, if_pos rfl]
      · rw [if_neg (nI_gex (n := 256) (by omega) g), if_pos (show (255 : Int32) < x from nI_ltx (n := 255) (by omega) g), q_bi, if_pos rfl]
  · obtain ⟨d, hd, ed, hcase⟩ : ∃ d, d < 256 ∧ x = nI d ∧ (rm_us r ≤ d ∨ d < rm_us r) := by
      rcases g with ⟨d, a, b, c⟩ | ⟨d, a, b⟩
      · exact ⟨d, a, b, Or.inl c⟩
      · exact ⟨d, by omega, b, Or.inr a⟩
    have e11 : ∀ z, f_X11_drawer ln x z s = (if z < 0 then some ((-1), s) else (if z ≤ 5 then (f_X11_drawer_p38 ln (nI d) z (if d < rm_us r then 1 else 0) s) else some ((-1), s))) := by
      intro z
      unfold f_X11_drawer
      rw [ed, if_neg (nI_pos (by omega)), if_neg (show ¬ (256 : Int32) ≤ nI d from nI_ge (b := 256) (by omega) (by omega)), gu, q_bi]
      by_cases q : d < rm_us r
      · rw [if_neg (nI_ge q (by omega)), if_pos q]
      · rw [if_pos (nI_le (by omega) (by omega)), if_neg q]
    have e12 : f_X12_in ln x 0 255 s = some (1, s) := by
      unfold f_X12_in
      rw [ed, if_neg (nI_pos (by omega)), if_neg (show ¬ (255 : Int32) < nI d from nI_nlt (b := d) (a := 255) (by omega) (by omega))]
    rcases in_cases y 5 (by omega) with ⟨g, _⟩ | ⟨w, hw, ew, _⟩
    · have g2 : y < 0 ∨ (¬ y < 0 ∧ ¬ y ≤ 5) := by
        rcases g with g | g
        · exact Or.inl g
        · exact Or.inr ⟨nI_gex (n := 6) (by omega) g, le_lit (n := 5) (by omega) g⟩
      refine call_ro h0 (-1) ?_ ?_
      · rw [e11]
        rcases g2 with g | g
        · rw [if_pos g]
        · rw [if_neg g.1, if_neg g.2]
      · unfold f_X12_drawer
        rw [e12, q_bi, if_neg (by decide)]
        rcases g2 with g | g
        · rw [if_pos g]
        · rw [if_neg g.1, if_neg g.2]
    · have f11 : f_X11_drawer ln x y s = f_X11_drawer_p38 ln (nI d) (nI w) (if d < rm_us r then 1 else 0) s := by
        rw [e11, ew, if_neg (nI_pos (by omega)), if_pos (show nI w ≤ 5 from nI_le (b := 5) (by omega) (by omega))]
      have f12 : f_X12_drawer ln x y s = (if nI w = (0 : Int32) then (dr_rd ln s 30 (nI d)).bind (fun v9 => (if v9 = 0 then some (0, s) else some (1, s))) else (dr_rd ln s 30 (nI d)).bind (fun v3 => (if v3 = 0 then some ((-1), s) else (if nI w = (1 : Int32) then (dr_rd ln s 31 (nI d)).bind (fun v8 => some (v8, s)) else (if nI w = (2 : Int32) then (dr_rd ln s 32 (nI d)).bind (fun v7 => some (v7, s)) else (if nI w = (3 : Int32) then (dr_rd ln s 35 (nI d)).bind (fun v6 => some (v6, s)) else (if nI w = (4 : Int32) then (dr_rd ln s 36 (nI d)).bind (fun v5 => some (v5, s)) else (dr_rd ln s 37 (nI d)).bind (fun v4 => some (v4, s))))))))) := by
        unfold f_X12_drawer
        rw [e12, q_bi, if_neg (by decide), ew, if_neg (nI_pos (by omega)), if_pos (show nI w ≤ 5 from nI_le (b := 5) (by omega) (by omega)), ed]
      have e30 := mM_us hM d hd
      rw [m_rdb L 30 256 rfl (by decide) (by decide) hd, m_rdb L 30 256 rfl (by decide) (by decide) hd, e30] at f12
      unfold f_X11_drawer_p38 at f11
      rcases hcase with q | q
      · rw [if_neg (show ¬ d < rm_us r by omega)] at f11 f12
        by_cases z : w = 0
        · subst z
          refine call_ro h0 0 ?_ ?_
          · rw [f11, if_pos (show nI 0 = (0 : Int32) from rfl), if_pos rfl]
          · rw [f12, if_pos (show nI 0 = (0 : Int32) from rfl), if_pos rfl]
        · have zz : ¬ nI w = (0 : Int32) := nI_lit (k := 0) (by omega) (by omega) z
          refine call_ro h0 (-1) ?_ ?_
          · rw [f11, if_neg zz, if_pos rfl]
          · rw [f12, if_neg zz, if_pos rfl]
      · rw [if_pos q] at f11 f12
        obtain ⟨c1, c2⟩ := hC.2.2.2.2.2.1 d q
        obtain ⟨m1, m2, m3⟩ := mM_dr hM d q
        by_cases z : w = 0
        · subst z
          refine call_ro h0 1 ?_ ?_
          · rw [f11, if_pos (show nI 0 = (0 : Int32) from rfl), if_neg (by decide)]
          · rw [f12, if_pos (show nI 0 = (0 : Int32) from rfl), if_neg (by decide)]
        · have zz : ¬ nI w = (0 : Int32) := nI_lit (k := 0) (by omega) (by omega) z
          rw [if_neg zz, if_neg (by decide), show nI w - 1 = nI (w - 1) from by rw [show (1 : Int32) = nI 1 from rfl, pk_sub (by omega)], q4_get hC.1 (by omega) (by omega), q_bi] at f11
          rw [if_neg zz, if_neg (by decide), m_rdb L 31 256 rfl (by decide) (by decide) hd, m_rdb L 32 256 rfl (by decide) (by decide) hd, m_rdb L 35 256 rfl (by decide) (by decide) hd, m_rdb L 36 256 rfl (by decide) (by decide) hd, m_rdb L 37 256 rfl (by decide) (by decide) hd] at f12
          refine call_ro h0 _ f11 ?_
          rw [f12]
          have hws : w = 1 ∨ w = 2 ∨ w = 3 ∨ w = 4 ∨ w = 5 := by omega
          rcases hws with y | y | y | y | y <;> subst y
          · rw [if_pos (show nI 1 = (1 : Int32) from rfl), m1, c1.1]
          · rw [if_neg (show ¬ nI 2 = (1 : Int32) by decide), if_pos (show nI 2 = (2 : Int32) from rfl), m2.1, c1.2.1]
          · rw [if_neg (show ¬ nI 3 = (1 : Int32) by decide), if_neg (show ¬ nI 3 = (2 : Int32) by decide), if_pos (show nI 3 = (3 : Int32) from rfl), m2.2.1, c1.2.2.1]
          · rw [if_neg (show ¬ nI 4 = (1 : Int32) by decide), if_neg (show ¬ nI 4 = (2 : Int32) by decide), if_neg (show ¬ nI 4 = (3 : Int32) by decide), if_pos (show nI 4 = (4 : Int32) from rfl), m2.2.2.1, c1.2.2.2.1]
          · rw [if_neg (show ¬ nI 5 = (1 : Int32) by decide), if_neg (show ¬ nI 5 = (2 : Int32) by decide), if_neg (show ¬ nI 5 = (3 : Int32) by decide), if_neg (show ¬ nI 5 = (4 : Int32) by decide), m3, c2]
theorem ok_at {ln : Nat → Nat} {s : dr_S} {r : sg_R} (h : rr ln s r) (x y z : Int32) : call_ok ln (f_X11_at ln x y z) (f_X12_at ln x y z) s r := by
  have h0 := h
  obtain ⟨hC, hM, ⟨hiv, hi2⟩, _⟩ := h
  obtain ⟨rk, t, st, hp, hT, hcn⟩ := hiv
  have L := mM_L hM
  have hus := st.1.2.1
  have hb := st.1.1
  have gu := q4_inUse hC.1
  rw [hC.2.2.2.2.1] at gu
  rcases dr_cases (x := x) hus with g | g
  · refine call_ro h0 (-1) ?_ ?_
    · unfold f_X11_at
      rcases g with g | g
      · rw [if_pos g]
      · rw [if_neg (nI_gex (n := 256) (by omega) g), gu, q_bi, if_neg (fun q => by
          rw [Int32.lt_iff_toInt_lt, nI_toInt (by omega)] at q
          rw [Int32.le_iff_toInt_le, nI_toInt (by omega)] at g
          omega)]
    · unfold f_X12_at f_X12_in
      rcases g with g | g
      · rw [if_pos g, q_bi, if_pos rfl]
      · rw [if_neg (nI_gex (n := 256) (by omega) g), if_pos (show (255 : Int32) < x from nI_ltx (n := 255) (by omega) g), q_bi, if_pos rfl]
  · rcases g with ⟨d, hd, ed, hle⟩ | ⟨d, hd, ed⟩
    · refine call_ro h0 (-1) ?_ ?_
      · unfold f_X11_at
        rw [ed, if_neg (nI_pos (by omega)), gu, q_bi, if_neg (nI_nlt hle (by omega))]
      · unfold f_X12_at f_X12_in
        rw [ed, if_neg (nI_pos (by omega)), if_neg (show ¬ (255 : Int32) < nI d from nI_nlt (b := d) (a := 255) (by omega) (by omega)), q_bi, if_neg (by decide), m_rdb L 30 256 rfl (by decide) (by decide) hd, mM_us hM d hd, if_neg (show ¬ d < rm_us r by omega), if_pos rfl]
    · obtain ⟨c1, c2⟩ := hC.2.2.2.2.2.1 d hd
      obtain ⟨m1, m2, m3⟩ := mM_dr hM d hd
      obtain ⟨x1, x2⟩ := st.2.2.1 d hd
      have hl := iv_l11 st hcn hd
      have hlen := x1.2.1
      have e11 : f_X11_at ln x y z s = (if z = 0 then dr_bnd (f_X4_heading ln (nI d) y s) (fun r4 s3 => some (r4, s3)) else dr_bnd (f_X4_child ln (nI d) y s) (fun r6 s5 => some (r6, s5))) := by
        unfold f_X11_at
        rw [ed, if_neg (nI_pos (by omega)), gu, q_bi, if_pos (nI_lt hd (by omega))]
      have e12 : f_X12_at ln x y z s = (if ((0 : Int32) ≤ y : Prop) then (if z = 0 then (if nI (dv_hs (rm_dr r d)).length ≤ y then some ((-1), s) else (dr_rd ln s 33 (nI (14 * d) + y)).bind (fun v5 => some (v5, s))) else (if nI (dv_lev (rm_dr r d)) ≤ 0 then some ((-1), s) else (if nI (dv_hs (rm_dr r d)).length < y then some ((-1), s) else (dr_rd ln s 34 (nI (14 * d) + y)).bind (fun v8 => some (v8, s))))) else some ((-1), s)) := by
        unfold f_X12_at f_X12_in
        rw [ed, if_neg (nI_pos (by omega)), if_neg (show ¬ (255 : Int32) < nI d from nI_nlt (b := d) (a := 255) (by omega) (by omega)), q_bi, if_neg (by decide), m_rdb L 30 256 rfl (by decide) (by decide) (by omega), mM_us hM d (by omega), if_pos hd, if_neg (by decide), m_rdb L 32 256 rfl (by decide) (by decide) (by omega), m_rdb L 31 256 rfl (by decide) (by decide) (by omega), m_rdb L 32 256 rfl (by decide) (by decide) (by omega), m1, m2.1, c14]
      have g0 := q4_get (d := d) (k := 0) hC.1 (by omega) (by omega)
      have g1 := q4_get (d := d) (k := 1) hC.1 (by omega) (by omega)
      rw [c1.1] at g0
      rw [c1.2.1] at g1
      have g0 : f_X4_get ln (nI d) 0 s = some (nI (dv_lev (rm_dr r d)), s) := g0
      have g1 : f_X4_get ln (nI d) 1 s = some (nI (dv_hs (rm_dr r d)).length, s) := g1
      by_cases hy : y < 0
      · refine call_ro h0 (-1) ?_ ?_
        · rw [e11]
          by_cases hz : z = 0
          · rw [if_pos hz, q4_headingN hy, q_bi]
          · rw [if_neg hz]
            unfold f_X4_child
            rw [g0, q_bi]
            by_cases q : nI (dv_lev (rm_dr r d)) ≤ 0
            · rw [if_pos q]; rfl
            · rw [if_neg q, if_pos hy]; rfl
        · rw [e12, if_neg (fun q => by
            rw [Int32.lt_iff_toInt_lt] at hy
            rw [Int32.le_iff_toInt_le] at q
            omega)]
      · obtain ⟨k, hk, ek⟩ := nI_of hy
        rw [ek] at e11 e12
        rw [if_pos (show (0 : Int32) ≤ nI k from nI_le (a := 0) (by omega) hk)] at e12
        by_cases hz : z = 0
        · rw [if_pos hz] at e11 e12
          rw [q4_heading hC.1 (by omega) c1.2.1 (by omega) hk, q_bi] at e11
          by_cases q : k < (dv_hs (rm_dr r d)).length
          · obtain ⟨g, hg⟩ := at_some q
            rw [if_pos q, c1.2.2.2.2.1 k g hg] at e11
            rw [if_neg (nI_ge q (by omega)), nI_add, m_rdb L 33 3584 rfl (by decide) (by decide) (by omega), m2.2.2.2.1 k g hg] at e12
            exact call_ro h0 _ (by rw [ek]; exact e11) (by rw [ek]; exact e12)
          · rw [if_neg q] at e11
            rw [if_pos (nI_le (by omega) hk)] at e12
            exact call_ro h0 _ (by rw [ek]; exact e11) (by rw [ek]; exact e12)
        · rw [if_neg hz] at e11 e12
          by_cases hlv : 0 < dv_lev (rm_dr r d)
          · rw [if_neg (show ¬ nI (dv_lev (rm_dr r d)) ≤ 0 from nI_ge (a := 0) hlv (by omega))] at e12
            have hcl := (x1.2.2.2.2.2.2.1 hlv).1
            by_cases q : k ≤ (dv_hs (rm_dr r d)).length
            · obtain ⟨g, hg⟩ := at_some (l := dv_cs (rm_dr r d)) (i := k) (by omega)
              rw [if_neg (nI_nlt q (by omega)), nI_add, m_rdb L 34 3584 rfl (by decide) (by decide) (by omega), m2.2.2.2.2 hlv k g hg] at e12
              rw [q4_child hC.1 (by omega) c1 (iv_hs x1) hlv (by omega) q hg, q_bi] at e11
              exact call_ro h0 _ (by rw [ek]; exact e11) (by rw [ek]; exact e12)
            · rw [if_pos (nI_lt (by omega) hk)] at e12
              refine call_ro h0 (-1) (by
                rw [ek, e11]
                unfold f_X4_child
                rw [g0, q_bi, if_neg (show ¬ nI (dv_lev (rm_dr r d)) ≤ 0 from nI_ge (a := 0) hlv (by omega)), if_neg (nI_pos hk), g1, q_bi, if_pos (nI_lt (by omega) hk)]
                rfl) (by rw [ek]; exact e12)
          · have hl0 : nI (dv_lev (rm_dr r d)) ≤ 0 := by rw [show dv_lev (rm_dr r d) = 0 by omega]; decide
            rw [if_pos hl0] at e12
            refine call_ro h0 (-1) (by
              rw [ek, e11]
              unfold f_X4_child
              rw [g0, q_bi, if_pos hl0]
              rfl) (by rw [ek]; exact e12)

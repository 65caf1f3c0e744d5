/-! 93: nth, rank, count -/
theorem iv_lv {r : sg_R} {rk : Nat → Nat} (st : iv_st r rk) : wf_lv r := ⟨iv_sz st, st.1.2.2.2, fun d hd => ⟨by have := (st.2.2.1 d hd).1.2.1; have := st.1.1; omega, (st.2.2.1 d hd).1.2.2.1, fun t ht => ((st.2.2.1 d hd).1.2.2.2.2.2.1 t ht).1⟩⟩
theorem iv_fst {r : sg_R} {rk : Nat → Nat} {t lev : Nat} (st : iv_st r rk) (hcn : cnv t (dv_lev (rm_dr r (rm_to r))) (cnt r) (fun L => psum (pd r L)) (mh r)) : ∀ d, sg_first r lev = some d → d < rm_us r ∧ dv_lev (rm_dr r d) = lev := fun d hd => sg_fst_lt (fun e he => ((iv_step_wf st hcn (c := 0) (by omega)).2.2.2.1 e he).2) _ _ d st.2.1.1 hd
theorem iv_cl {r : sg_R} {rk : Nat → Nat} {t : Nat} (st : iv_st r rk) (hcn : cnv t (dv_lev (rm_dr r (rm_to r))) (cnt r) (fun L => psum (pd r L)) (mh r)) : wf_cl r := fun d hd => ⟨by have := iv_l11 st hcn hd; omega, fun q k hk => (((st.2.2.1 d hd).1.2.2.2.2.2.2.1 q).2 k hk).2⟩
theorem q_fst0 {ln : Nat → Nat} {s : dr_S} {r : sg_R} {rk : Nat → Nat} {t : Nat} (hC : rp_C ln s r) (st : iv_st r rk) (hcn : cnv t (dv_lev (rm_dr r (rm_to r))) (cnt r) (fun L => psum (pd r L)) (mh r)) : f_X4_firstOf ln 0 s = some (nO (sg_first r 0), s) := q4_firstOf (lev := 0) hC (iv_sz st) (iv_step_wf st hcn (c := 0) (by omega)).2.2.2.1 (by omega) st.2.1.1
theorem qm_fst0 {ln : Nat → Nat} {s : dr_S} {r : sg_R} {rk : Nat → Nat} {t : Nat} (hM : rp_M ln s r) (st : iv_st r rk) (hcn : cnv t (dv_lev (rm_dr r (rm_to r))) (cnt r) (fun L => psum (pd r L)) (mh r)) : f_X12_firstOf ln 0 s = some (nO (sg_first r 0), s) := qm_firstOf (lev := 0) hM (iv_sz st) (iv_step_wf st hcn (c := 0) (by omega)).2.2.2.1 (iv_cl st hcn) (by omega) st.2.1.1
theorem qm_lists {ln : Nat → Nat} {s : dr_S} {r : sg_R} {rk : Nat → Nat} {t : Nat} (hM : rp_M ln s r) (st : iv_st r rk) (hcn : cnv t (dv_lev (rm_dr r (rm_to r))) (cnt r) (fun L => psum (pd r L)) (mh r)) : ∃ s1, f_X12_lists ln s = some (0, s1) ∧ lc_F s s1 ∧ lc s1 (sg_cards r) := by
  unfold f_X12_lists
  rw [q_letS]
  have F0 : lc_F s (dr_pf s 1242 0) := ⟨fun a _ => rfl, fun f hf => q_pfO hf⟩
  have hM0 := lc_M F0 hM
  have l0 : lc (dr_pf s 1242 0) [] := ⟨q_pf2 _ _ _, fun k g hk => by cases hk⟩
  rw [qm_fst0 hM0 st hcn, q_bi]
  obtain ⟨s1, a1, a2, a3⟩ := qm_lists_p (iv_lv st) 256 dr_N 0 (dr_pf s 1242 0) [] (sg_first r 0) hM0 l0 (by show 0 + 2560 ≤ 3600; omega) (by omega) (by unfold dr_N; omega) (fun d hd => (iv_fst st hcn d hd).1)
  exact ⟨s1, a1, lc_tr F0 a2, a3⟩
theorem in_pred (x : Int32) (n : Nat) (hn : n < 2 ^ 31) : ((x < 0 ∨ nI n ≤ x) ∧ ∀ (ln : Nat → Nat) (s' : dr_S), f_X12_in ln x 0 (nI n - 1) s' = some (0, s')) ∨ ∃ j, j < n ∧ x = nI j ∧ ∀ (ln : Nat → Nat) (s' : dr_S), f_X12_in ln x 0 (nI n - 1) s' = some (1, s') := by
  cases n with
  | zero =>
    left
    have hx : x < 0 ∨ nI 0 ≤ x := by
      by_cases q : x < 0
      · exact Or.inl q
      · right
        rw [Int32.le_iff_toInt_le]
        rw [Int32.lt_iff_toInt_lt] at q
        have e0 : (nI 0).toInt = (0 : Int32).toInt := rfl
        omega
    refine ⟨hx, fun ln s' => ?_⟩
    unfold f_X12_in
    rcases hx with q | q
    · rw [if_pos q]
    · rw [if_neg (nI_gex (n := 0) (by omega) q), if_pos (by
        rw [Int32.lt_iff_toInt_lt]
        rw [Int32.le_iff_toInt_le] at q
        have e0 : (nI 0).toInt = 0 := rfl
        have e1 : (nI 0 - 1).toInt = -1 := rfl
        omega)]
  | succ n =>
    rw [nI_pred]
    exact in_cases x n hn
theorem ok_nth {ln : Nat → Nat} {s : dr_S} {r : sg_R} (h : rr ln s r) (x : Int32) : call_ok ln (f_X11_nth ln x) (f_X12_nth ln x) s r := by
  have h0 := h
  obtain ⟨hC, hM, ⟨hiv, hi2⟩, h204, h203⟩ := h
  have hiv0 := hiv
  obtain ⟨rk, t, st, hp, hT, hcn⟩ := hiv
  have hlv := iv_lv st
  have hfl := fun d hd => (iv_fst (lev := 0) st hcn d hd).1
  obtain ⟨s1, a1, a2, a3⟩ := qm_lists hM st hcn
  have hlen := (hc_len hlv 256 (sg_first r 0) hfl).1
  have M1 := lc_M a2 hM
  have e12 : ∀ v, dr_bnd (f_X12_in ln x 0 (nI (sg_cards r).length - 1) s1) (fun r3 s2 => (if r3 = 0 then some ((-1), s2) else (dr_rd ln s2 62 x).bind (fun v4 => some (v4, s2)))) = some (v, s1) → f_X12_nth ln x s = some (v, s1) := by
    intro v hv
    unfold f_X12_nth
    rw [a1, q_bv, a3.1]
    exact hv
  have e11 : f_X11_nth ln x s = dr_bnd (f_X1_kth_p14 ln dr_N x (nO (sg_first r 0)) 0 s) (fun r2 s1 => some (r2, s1)) := by
    unfold f_X11_nth f_X1_kth
    rw [q_fst0 hC st hcn, q_bi]
  rcases in_pred x (sg_cards r).length (by rw [sg_cards_eq]; omega) with ⟨g, g2⟩ | ⟨j, hj, ej, g2⟩
  · have v11 : f_X11_nth ln x s = some (-1, s) := by
      rw [e11]
      rcases g with g | g
      · have q : ∀ fu, f_X1_kth_p14 ln (fu + 1) x (nO (sg_first r 0)) 0 s = some (-1, s) := by
          intro fu
          rw [f_X1_kth_p14, if_neg (by decide), if_pos g]
          by_cases e : nO (sg_first r 0) = -1
          · rw [if_pos e]
          · rw [if_neg e]
        rw [show f_X1_kth_p14 ln dr_N x (nO (sg_first r 0)) 0 s = _ from q 999999, q_bi]
      · obtain ⟨n, hn, en⟩ := nI_of (nI_gex (n := (sg_cards r).length) (by rw [sg_cards_eq]; omega) g)
        rw [en] at g
        have hn2 := (nI_leI (by rw [sg_cards_eq]; omega) hn).mp g
        rw [en, show f_X1_kth_p14 ln dr_N (nI n) (nO (sg_first r 0)) 0 s = _ from q1_kth_p hC hlv 256 dr_N 0 n (sg_first r 0) (by omega) (by unfold dr_N; omega) hn hfl, q_bi, ← sg_cards_eq, List.getElem?_eq_none (by omega)]
        rfl
    refine call_mk h0 v11 (dc_rf s) hC (fun hM1 => ⟨s1, e12 (-1) ?_, lc_dm a2, M1⟩) ⟨hiv0, hi2⟩
    rw [g2 ln s1, q_bi, if_pos rfl]
  · obtain ⟨g, hg⟩ := at_some hj
    have v11 : f_X11_nth ln x s = some (nI g, s) := by
      rw [e11, ej, show f_X1_kth_p14 ln dr_N (nI j) (nO (sg_first r 0)) 0 s = _ from q1_kth_p hC hlv 256 dr_N 0 j (sg_first r 0) (by omega) (by unfold dr_N; omega) (by rw [sg_cards_eq] at hj; omega) hfl, q_bi, ← sg_cards_eq, hg]
      rfl
    refine call_mk h0 v11 (dc_rf s) hC (fun hM1 => ⟨s1, e12 (nI g) ?_, lc_dm a2, M1⟩) ⟨hiv0, hi2⟩
    rw [g2 ln s1, q_bi, if_neg (by decide), ej, m_rdb (mM_L hM) 62 3600 rfl (by decide) (by decide) (by rw [sg_cards_eq] at hj; omega), a3.2 j g hg]
theorem qm_rank_p {ln : Nat → Nat} {s : dr_S} {r : sg_R} {h : Nat} {l : List Nat} (hM : rp_M ln s r) (hok : rl_ok (rm_ru r)) (hl : lc s l) (hh : h < 10000) (hlt : ∀ g ∈ l, g < 10000) (hn : l.length ≤ 3600) : ∀ (k fu i n : Nat), l.length = i + k → k < fu → f_X12_rank_p17 ln fu (nI h) (nI n) (nI i) s = some (nI (n + sg_cah (rm_ru r) h (l.drop i)), s)
  | k, 0, _, _, _, q => absurd q (Nat.not_lt_zero _)
  | 0, fu + 1, i, n, hk, hf => by
    rw [f_X12_rank_p17, hl.1, if_pos (nI_le (by omega) (by omega)), List.drop_eq_nil_of_le (by omega)]
    rfl
  | k + 1, fu + 1, i, n, hk, hf => by
    obtain ⟨g, hg⟩ := at_some (l := l) (i := i) (by omega)
    rw [f_X12_rank_p17, hl.1, if_neg (nI_ge (by omega) (by omega)), m_rdb (mM_L hM) 62 3600 rfl (by decide) (by decide) (by omega), hl.2 i g hg, qm_isAhead (qm_l (mM_L hM)) (mM_ru hM) hok (hlt g (List.mem_of_getElem? hg)) hh, q_bi, drop_at hg, sg_cah]
    unfold f_X12_rank_p45
    cases ha : sg_ah (rm_ru r) g h with
    | true =>
      rw [if_neg (show ¬ bI true = (0 : Int32) by decide), q_let, nI_1, q_let, nI_1, qm_rank_p hM hok hl hh hlt hn k fu (i + 1) (n + 1) (by omega) (by omega), if_pos rfl, Nat.add_assoc]
    | false =>
      rw [if_pos (show bI false = (0 : Int32) from rfl), q_let, q_let, nI_1, show ∀ x : Int32, x + 0 = x from Int32.add_zero, qm_rank_p hM hok hl hh hlt hn k fu (i + 1) n (by omega) (by omega), if_neg (by decide), Nat.zero_add]
theorem ok_rank {ln : Nat → Nat} {s : dr_S} {r : sg_R} (h : rr ln s r) (x : Int32) : call_ok ln (f_X11_rank ln x) (f_X12_rank ln x) s r := by
  have h0 := h
  obtain ⟨hC, hM, ⟨hiv, hi2⟩, h204, h203⟩ := h
  have hiv0 := hiv
  obtain ⟨rk, t, st, hp, hT, hcn⟩ := hiv
  have hlv := iv_lv st
  have hfl := fun d hd => (iv_fst (lev := 0) st hcn d hd).1
  rcases hd_cases x with q | ⟨g, hg, eg, qg⟩
  · refine call_ro h0 (-1) ?_ ?_
    · unfold f_X11_rank
      rw [(q ln s).1, q_bi, if_pos rfl]
    · unfold f_X12_rank
      rw [(q ln s).2, q_bi, if_pos rfl]
  · obtain ⟨s1, a1, a2, a3⟩ := qm_lists hM st hcn
    obtain ⟨hlen, hlt⟩ := hc_len hlv 256 (sg_first r 0) hfl
    have M1 := lc_M a2 hM
    have v11 : f_X11_rank ln x s = some (nI (sg_cah (rm_ru r) g (sg_cards r)), s) := by
      unfold f_X11_rank f_X1_aheadOf
      rw [(qg ln s).1, q_bi, if_neg (by decide), q_fst0 hC st hcn, q_bi, eg]
      have q := q1_aheadOf_p hC hlv hg 256 dr_N 0 0 (sg_first r 0) (by omega) (by unfold dr_N; omega) hfl
      rw [Nat.zero_add] at q
      rw [show f_X1_aheadOf_p14 ln dr_N (nI g) 0 (nO (sg_first r 0)) 0 s = _ from q, q_bi]
      rfl
    refine call_mk h0 v11 (dc_rf s) hC (fun hM1 => ⟨s1, ?_, lc_dm a2, M1⟩) ⟨hiv0, hi2⟩
    unfold f_X12_rank
    rw [(qg ln s).2, q_bi, if_neg (by decide), a1, q_bv, eg]
    have q := qm_rank_p M1 st.1.2.2.2 a3 hg (fun y hy => hlt y hy) (by rw [sg_cards_eq]; omega) (sg_cards r).length dr_N 0 0 (by omega) (by rw [sg_cards_eq]; unfold dr_N; omega)
    rw [Nat.zero_add, List.drop_zero] at q
    exact q
theorem ok_count {ln : Nat → Nat} {s : dr_S} {r : sg_R} (h : rr ln s r) (x : Int32) : call_ok ln (f_X11_count ln x) (f_X12_count ln x) s r := by
  have h0 := h
  obtain ⟨hC, hM, ⟨hiv, hi2⟩, h204, h203⟩ := h
  have hiv0 := hiv
  obtain ⟨rk, t, st, hp, hT, hcn⟩ := hiv
  have hlv := iv_lv st
  have hfl := fun d hd => (iv_fst (lev := 0) st hcn d hd).1
  have hat : ∀ c, c < 4 → ck_at (rm_ck r c) ≤ 4 := fun c hc => (st.2.2.2.1 c hc).2.1
  have hla : ∀ d, d < rm_us r → ∀ e, dv_la (rm_dr r d) = some e → e < 4 := fun d hd => (st.2.2.1 d hd).2
  have hus := st.1.2.1
  rcases in_cases x 8 (by omega) with ⟨g, _⟩ | ⟨w, hw, ew, _⟩
  · refine call_ro h0 (-1) ?_ ?_
    · unfold f_X11_count
      exact sw_out (n := 8) (by omega) g
    · unfold f_X12_count
      exact sw_out (n := 8) (by omega) g
  · have e11 : ∀ Fd, f_X11_count ln x s = (([(dr_bnd (f_X4_half ln  s) (fun r2 s1 => some (r2, s1))), (dr_bnd (f_X6_time ln  s) (fun r4 s3 => some (r4, s3))), (dr_bnd (f_X6_begun ln  s) (fun r6 s5 => some (r6, s5))), (dr_bnd (f_X4_top ln  s) (fun r8 s7 => some (r8, s7))), (dr_bnd (f_X4_inUse ln  s) (fun r10 s9 => some (r10, s9))), (dr_bnd (f_X1_howMany ln  s) (fun r12 s11 => some (r12, s11))), (dr_bnd (f_X3_atJobs ln  s) (fun r14 s13 => some (r14, s13))), (dr_bnd (f_X4_latched ln  s) (fun r16 s15 => some (r16, s15))), (dr_bnd (f_X5_parts ln  s) (fun r18 s17 => some (r18, s17)))] : List (Option (Int32 × dr_S))).getD w Fd) := by
      intro Fd
      unfold f_X11_count
      rw [ew]
      refine (q_sw (n := w) (lo := 0) (hi := 8) (by omega) (by omega) (by omega)).trans ?_
      rw [List.getD_eq_getElem?_getD, List.getD_eq_getElem?_getD, List.getElem?_eq_getElem (by show w - 0 < 9; omega), List.getElem?_eq_getElem (by show w < 9; omega)]
      rfl
    have e12 : ∀ Fd, f_X12_count ln x s = (([(some ((s.2 1200), s)), (some ((s.2 1204), s)), (some ((s.2 1226), s)), (some ((s.2 1205), s)), (dr_bnd (f_X12_used ln  s) (fun r2 s1 => some (r2, s1))), (dr_bndv (f_X12_lists ln  s) (fun s3 => some ((s3.2 1242), s3))), (dr_bnd (f_X12_atJobs ln  s) (fun r5 s4 => some (r5, s4))), ((f_X12_count_p93 ln dr_N 0 0 s)), (some ((s.2 1201), s))] : List (Option (Int32 × dr_S))).getD w Fd) := by
      intro Fd
      unfold f_X12_count
      rw [ew]
      refine (q_sw (n := w) (lo := 0) (hi := 8) (by omega) (by omega) (by omega)).trans ?_
      rw [List.getD_eq_getElem?_getD, List.getD_eq_getElem?_getD, List.getElem?_eq_getElem (by show w - 0 < 9; omega), List.getElem?_eq_getElem (by show w < 9; omega)]
      rfl
    have hm := hC.2.2.2
    have hws : w = 0 ∨ w = 1 ∨ w = 2 ∨ w = 3 ∨ w = 4 ∨ w = 5 ∨ w = 6 ∨ w = 7 ∨ w = 8 := by omega
    rcases hws with z | z | z | z | z | z | z | z | z <;> subst z
    · refine call_ro h0 (nI (rm_b r)) ((e11 none).trans ?_) ((e12 none).trans ?_)
      · show dr_bnd (f_X4_half ln s) (fun r2 s1 => some (r2, s1)) = _
        rw [q4_half hC.1, q_bi]
      · show some (s.2 1200, s) = _
        rw [mM_b hM]
    · refine call_ro h0 (nI (rm_ti r)) ((e11 none).trans ?_) ((e12 none).trans ?_)
      · show dr_bnd (f_X6_time ln s) (fun r2 s1 => some (r2, s1)) = _
        rw [q6_time hC.1, q_bi, hm.2.2.2.2.1]
      · show some (s.2 1204, s) = _
        rw [mM_ti hM]
    · refine call_ro h0 (nI (rm_nj r)) ((e11 none).trans ?_) ((e12 none).trans ?_)
      · show dr_bnd (f_X6_begun ln s) (fun r2 s1 => some (r2, s1)) = _
        rw [q6_begun hC.1, q_bi, hm.2.2.2.2.2.1]
      · show some (s.2 1226, s) = _
        rw [mM_nj hM]
    · refine call_ro h0 (nI (rm_to r)) ((e11 none).trans ?_) ((e12 none).trans ?_)
      · show dr_bnd (f_X4_top ln s) (fun r2 s1 => some (r2, s1)) = _
        rw [q4_top hC.1, q_bi, hm.1]
      · show some (s.2 1205, s) = _
        rw [mM_to hM]
    · refine call_ro h0 (nI (rm_us r)) ((e11 none).trans ?_) ((e12 none).trans ?_)
      · show dr_bnd (f_X4_inUse ln s) (fun r2 s1 => some (r2, s1)) = _
        rw [q4_inUse hC.1, q_bi, hm.2.1]
      · show dr_bnd (f_X12_used ln s) (fun r2 s1 => some (r2, s1)) = _
        rw [qm_used hM hus, q_bi]
    · obtain ⟨s1, a1, a2, a3⟩ := qm_lists hM st hcn
      refine call_mk h0 (v := nI (sg_cards r).length) ((e11 none).trans ?_) (dc_rf s) hC (fun hM1 => ⟨s1, (e12 none).trans ?_, lc_dm a2, lc_M a2 hM⟩) ⟨hiv0, hi2⟩
      · show dr_bnd (f_X1_howMany ln s) (fun r2 s1 => some (r2, s1)) = _
        unfold f_X1_howMany
        rw [q_fst0 hC st hcn, q_bi]
        have q := q1_howMany_p hC hlv 256 dr_N 0 0 (sg_first r 0) (by omega) (by unfold dr_N; omega) hfl
        rw [Nat.zero_add] at q
        rw [show f_X1_howMany_p13 ln dr_N 0 (nO (sg_first r 0)) 0 s = _ from q, q_bi]
        rfl
      · show dr_bndv (f_X12_lists ln s) (fun s3 => some ((s3.2 1242), s3)) = _
        rw [a1, q_bv, a3.1]
    · refine call_ro h0 (nI (sg_busy r)) ((e11 none).trans ?_) ((e12 none).trans ?_)
      · show dr_bnd (f_X3_atJobs ln s) (fun r2 s1 => some (r2, s1)) = _
        rw [q3_atJobs hC hat, q_bi]
      · show dr_bnd (f_X12_atJobs ln s) (fun r2 s1 => some (r2, s1)) = _
        rw [qm_atJobs hM hat, q_bi]
    · refine call_ro h0 (nI (sg_lat r)) ((e11 none).trans ?_) ((e12 none).trans ?_)
      · show dr_bnd (f_X4_latched ln s) (fun r2 s1 => some (r2, s1)) = _
        rw [q4_latched hC hus hla, q_bi]
      · exact qm_latched hM hus hla
    · refine call_ro h0 (nI (rm_ru r).length) ((e11 none).trans ?_) ((e12 none).trans ?_)
      · show dr_bnd (f_X5_parts ln s) (fun r2 s1 => some (r2, s1)) = _
        unfold f_X5_parts
        rw [hC.2.2.1.1, q_bi]
      · show some (s.2 1201, s) = _
        rw [(mM_ru hM).1]

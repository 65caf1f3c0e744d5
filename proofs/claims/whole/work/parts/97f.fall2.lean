/-! 97f: the call fall -/
theorem qm_crown {ln : Nat → Nat} {s : dr_S} {r : sg_R} {x : Int32} (hM : rp_M ln s r) (hw : wf_sz r) (hto : rm_to r < rm_us r) (hidle : ∀ c, c < 4 → ck_at (rm_ck r c) = 0) (hth : ∀ d, d < rm_us r → ∀ t, dv_th (rm_dr r d) = some t → t < rm_us r ∧ dv_hi (rm_dr r d) ≠ none) (hu : dv_th (rm_dr r (rm_to r)) ≠ none → rm_us r < 256) : ∃ s', f_X12_fall_p58 ln 1 x (nI 256) s = some (x, s') ∧ dm_F s s' ∧ rp_M ln s' (sg_cr r) := by
  have hus := hw.2.1
  have hb := hw.1
  have L := mM_L hM
  obtain ⟨d1, d2, d3⟩ := mM_dr hM _ hto
  rw [f_X12_fall_p58, if_pos (show (256 : Int32) ≤ nI 256 by decide), mM_to hM, m_rdb L 36 256 rfl (by decide) (by decide) (by omega), d2.2.2.1]
  unfold sg_cr
  by_cases e : dv_th (rm_dr r (rm_to r)) = none
  · rw [e, if_pos (show nO none = (-1 : Int32) from rfl), if_pos rfl]
    exact ⟨s, rfl, dm_rf s, hM⟩
  · have hu1 := hu e
    obtain ⟨tt, ett⟩ : ∃ t, dv_th (rm_dr r (rm_to r)) = some t := by
      cases hq : dv_th (rm_dr r (rm_to r)) with
      | none => exact absurd hq e
      | some t => exact ⟨t, rfl⟩
    have htt := (hth _ hto tt ett).1
    rw [if_neg e, ett, show nO (some tt) = nI tt from rfl, if_neg (n1_ne (by omega)), qm_spare L hu1 (mM_us hM), q_bi, qm_openb L hu1]
    have o1 := (dm_open_at (s := s) (u := rm_us r)).1
    have o2 := (dm_open_at (s := s) (u := rm_us r)).2
    have o3 := fun a => dm_open_o (s := s) (u := rm_us r) (a := a)
    have oF := dm_open_F (s := s) (u := rm_us r)
    have o4 : (dm_open s (rm_us r)).2 = s.2 := rfl
    generalize hS : dm_open s (rm_us r) = S at *
    obtain ⟨p31, p32, p35, p36, p37⟩ := o2
    have hne : rm_to r ≠ rm_us r := by omega
    rw [o4, mM_to hM, m_rdb L 31 256 rfl (by decide) (by decide) (by omega), show S.1 31 (rm_to r) = nI (dv_lev (rm_dr r (rm_to r))) from by rw [p31, q_updO hne, d1], nI_1, m_wrb L 31 256 rfl (by decide) (by decide) hu1, q_let, show (dr_put S 31 (rm_us r) (nI (dv_lev (rm_dr r (rm_to r)) + 1))).2 1205 = nI (rm_to r) from by rw [show (dr_put S 31 (rm_us r) (nI (dv_lev (rm_dr r (rm_to r)) + 1))).2 = S.2 from rfl, o4]; exact mM_to hM]
    generalize hB : dr_put S 31 (rm_us r) (nI (dv_lev (rm_dr r (rm_to r)) + 1)) = B
    have B2 : B.2 = s.2 := by rw [← hB]; exact o4
    have BF : dm_F s B := by rw [← hB]; exact dm_put _ _ _ oF (by decide)
    have b31 : B.1 31 = upd (S.1 31) (rm_us r) (nI (dv_lev (rm_dr r (rm_to r)) + 1)) := by rw [← hB]; rfl
    have bO : ∀ a, a ≠ 31 → B.1 a = S.1 a := fun a h => by rw [← hB, q_putO h]
    clear hB hS
    obtain ⟨s1, c1, c2, c3, c4, c5, c6, c7⟩ := qm_crown_p (ln := ln) (r := r) (x := x) L hb hu1 hth (2 * rm_b r + 1) dr_N 0 B (some (rm_to r)) [] (by rw [B2]; exact mM_b hM) (fun d hd => by
      obtain ⟨q1, q2, q3⟩ := mM_dr hM d hd
      rw [bO 35 (by decide), p35, q_updO (by omega), bO 36 (by decide), p36, q_updO (by omega)]
      exact ⟨q2.2.1, q2.2.2.1⟩) (fun i c hc => by cases hc) (fun i c hc => by cases hc) rfl (by omega) (by unfold dr_N; omega) (fun d hd => by cases hd; exact hto) (fun d hd => by cases hd) (fun d hd => by cases hd)
    rw [show f_X12_fall_p135 ln dr_N x (nI (rm_us r)) (nI (rm_to r)) 0 B = _ from c1, List.nil_append]
    rw [List.nil_append] at c6 c7
    have cl := chain_len r (2 * rm_b r + 1) (some (rm_to r))
    have cl1 : 1 ≤ (sg_chain r (2 * rm_b r + 1) (some (rm_to r))).length := by
      obtain ⟨n, hn⟩ : ∃ n, 2 * rm_b r + 1 = n + 1 := ⟨2 * rm_b r, rfl⟩
      rw [hn, sg_chain, List.length_cons]
      omega
    have Sd : ∀ d, rm_dr (sg_crown r) d = if d = rm_us r then (dv_lev (rm_dr r (rm_to r)) + 1, (sg_chain r (2 * rm_b r + 1) (some (rm_to r))).dropLast.map (fun d => (dv_hi (rm_dr r d)).getD 0), sg_chain r (2 * rm_b r + 1) (some (rm_to r)), none, none, none) else rm_dr r d := fun d => rfl
    unfold f_X12_fall_p217
    rw [show nI (sg_chain r (2 * rm_b r + 1) (some (rm_to r))).length - 1 = nI ((sg_chain r (2 * rm_b r + 1) (some (rm_to r))).length - 1) from by rw [show (1 : Int32) = nI 1 from rfl, pk_sub cl1], m_wrb L 32 256 rfl (by decide) (by decide) hu1, q_letS]
    refine ⟨_, rfl, dm_pf _ _ (dm_put _ _ _ (dm_tr BF c2) (by decide)) (by decide), ?_⟩
    generalize hT : dr_pf (dr_put s1 32 (rm_us r) (nI ((sg_chain r (2 * rm_b r + 1) (some (rm_to r))).length - 1))) 1205 (nI (rm_us r)) = T
    have tt5 : T.2 1205 = nI (rm_us r) := by rw [← hT, q_pf2]
    have tf : ∀ f, f ≠ 1205 → T.2 f = s.2 f := fun f h => by
      rw [← hT, q_pfO h]
      show s1.2 f = _
      rw [c3, B2]
    have t32 : T.1 32 = upd (upd (s.1 32) (rm_us r) 0) (rm_us r) (nI ((sg_chain r (2 * rm_b r + 1) (some (rm_to r))).length - 1)) := by
      rw [← hT]
      show upd (s1.1 32) _ _ = _
      rw [c4 32 (by decide) (by decide), bO 32 (by decide), p32]
    have tO : ∀ a, a ≠ 32 → T.1 a = s1.1 a := fun a h => by rw [← hT, q_pf1, q_putO h]
    have t31 : T.1 31 = upd (upd (s.1 31) (rm_us r) 0) (rm_us r) (nI (dv_lev (rm_dr r (rm_to r)) + 1)) := by rw [tO 31 (by decide), c4 31 (by decide) (by decide), b31, p31]
    have tQ : ∀ a, a ≠ 32 → a ≠ 33 → a ≠ 34 → a ≠ 31 → T.1 a = S.1 a := fun a h1 h2 h3 h4 => by rw [tO a h1, c4 a h2 h3, bO a h4]
    have tP : ∀ a, a < 30 ∨ 37 < a → T.1 a = s.1 a := fun a h => by rw [tQ a (by omega) (by omega) (by omega) (by omega), o3 a (by omega)]
    have t30 : T.1 30 = S.1 30 := tQ 30 (by decide) (by decide) (by decide) (by decide)
    have t35 : T.1 35 = upd (s.1 35) (rm_us r) (-1) := by rw [tQ 35 (by decide) (by decide) (by decide) (by decide), p35]
    have t36 : T.1 36 = upd (s.1 36) (rm_us r) (-1) := by rw [tQ 36 (by decide) (by decide) (by decide) (by decide), p36]
    have t37 : T.1 37 = upd (s.1 37) (rm_us r) (-1) := by rw [tQ 37 (by decide) (by decide) (by decide) (by decide), p37]
    have t33 : T.1 33 = s1.1 33 := tO 33 (by decide)
    have t34 : T.1 34 = s1.1 34 := tO 34 (by decide)
    have f33 : B.1 33 = s.1 33 := by rw [bO 33 (by decide), o3 33 (by decide)]
    have f34 : B.1 34 = s.1 34 := by rw [bO 34 (by decide), o3 34 (by decide)]
    clear hT
    refine rm_all hM hw rfl rfl (tf 1200 (by decide)) (tf 1201 (by decide)) (tP 28 (by decide)) (tP 29 (by decide)) (by rw [tf 1204 (by decide)]; have q := mM_ti hM; exact q) tt5 (fun d hd => ?_) (fun d hd => ?_) (fun d h1 h2 => ?_) (fun c hc => Or.inl ⟨rfl, ?_, fun h => absurd (hidle c hc) h, fun _ => rfl⟩) (by rw [tf 1226 (by decide)]; have q := mM_nj hM; exact q) (fun j hj => Or.inl ⟨hj, rfl, ?_⟩) (fun j h1 h2 => by rw [tP 55 (by decide), tP 56 (by decide)]; exact mM_j2 hM j h1 h2) (by rw [tf 1234 (by decide)]; have q := mM_nc hM; exact q) (fun i j t hi => Or.inl ⟨hi, ?_⟩)
    · rw [t30, o1]
      show (if d = rm_us r then (1 : Int32) else s.1 30 d) = (if d < rm_us r + 1 then 1 else 0)
      by_cases q : d = rm_us r
      · rw [if_pos q, if_pos (by omega)]
      · rw [if_neg q, mM_us hM d hd]
        by_cases q2 : d < rm_us r
        · rw [if_pos q2, if_pos (by omega)]
        · rw [if_neg q2, if_neg (by omega)]
    · have hd : d < rm_us r + 1 := hd
      rw [Sd]
      by_cases q : d = rm_us r
      · right
        rw [if_pos q, q]
        refine ⟨?_, ⟨?_, ?_, ?_, fun k h hk => ?_, fun _ k h hk => ?_⟩, ?_⟩
        · rw [t31, q_updS]; rfl
        · rw [t32, q_updS]
          show _ = nI (List.map _ _).length
          rw [List.length_map, List.length_dropLast]
        · rw [t35, q_updS]; rfl
        · rw [t36, q_updS]; rfl
        · rw [t33]; exact c7 k h hk
        · rw [t34]; exact c6 k h hk
        · rw [t37, q_updS]; rfl
      · left
        rw [if_neg q]
        refine ⟨by omega, rfl, ?_, ?_, ?_, ?_, ?_, fun k hk => ?_, fun k hk => ?_⟩
        · rw [t31, q_updO q, q_updO q]
        · rw [t32, q_updO q, q_updO q]
        · rw [t35, q_updO q]
        · rw [t36, q_updO q]
        · rw [t37, q_updO q]
        · rw [t33, (c5 _ (by omega)).1, f33]
        · rw [t34, (c5 _ (by omega)).2, f34]
    · have h1 : rm_us r + 1 ≤ d := h1
      rw [t37, q_updO (by omega)]
      exact mM_la hM d (by omega) h2
    · unfold mk_same
      rw [tP 38 (by decide), tP 39 (by decide), tP 40 (by decide), tP 41 (by decide), tP 42 (by decide), tP 43 (by decide), tP 44 (by decide), tP 45 (by decide), tP 46 (by decide), tP 47 (by decide), tP 48 (by decide), tP 49 (by decide)]
      exact ⟨rfl, rfl, rfl, rfl, rfl, rfl, rfl, rfl, rfl, fun _ _ => rfl, fun _ _ => rfl, fun _ _ => rfl⟩
    · unfold mj_same
      rw [tP 50 (by decide), tP 51 (by decide), tP 52 (by decide), tP 53 (by decide), tP 54 (by decide), tP 55 (by decide), tP 56 (by decide)]
      exact ⟨rfl, rfl, rfl, rfl, rfl, rfl, rfl⟩
    · rw [tP 57 (by decide), tP 58 (by decide), tP 59 (by decide)]
      exact ⟨rfl, rfl, rfl, rfl, rfl⟩
theorem ti_crown (r : sg_R) : rm_ti (sg_cr r) = rm_ti r := by
  unfold sg_cr
  split <;> rfl
theorem ok_fall {ln : Nat → Nat} {s : dr_S} {r : sg_R} (h : rr ln s r) : call_ok ln (f_X11_fall ln) (f_X12_fall ln) s r := by
  have h0 := h
  obtain ⟨hC, hM, ⟨hiv, hi2⟩, h204, h203⟩ := h
  have hiv0 := hiv
  obtain ⟨rk, t, st, hp, hT, hcn⟩ := hiv
  obtain ⟨s1, a1, a2, a3⟩ := q11_fall hC hiv0 st hcn h204
  refine call_mk h0 a1 a2 a3 (fun hM1 => ?_) ⟨iv_fall hiv0, iv2_fall hi2⟩ (by
    rw [fall_cr, ti_crown]
    have o := (open_eq (sg_lose4 r)).2.2.2.2.2.1
    have l := (lose4_sm r).2.2.2.2.2.1
    rw [o, l]
    exact Nat.le_add_right _ _)
  have hw := iv_sz st
  have L := mM_L hM1
  obtain ⟨s2, b1, b2, b3⟩ := qm_fall_p (ln := ln) hw (fun c hc => (st.2.2.2.1 c hc).2.1) (fun c hc q => by
    obtain ⟨_, ⟨j, j1, _⟩, _⟩ := (st.2.2.2.1 c hc).2.2.2 q
    exact ⟨j, j1, (st.2.2.2.1 c hc).2.2.1 j j1⟩) 4 dr_N 0 s1 (by omega) (by unfold dr_N; omega) hM1
  obtain ⟨s3, c1, c2, c3, c4, c5⟩ := qm_open_p (x := nI (sg_busy r)) L 256 dr_N 0 s2 (by omega) (by unfold dr_N; omega)
  have hw4 : wf_sz (sg_lose4 r) := loses_wf hw 4
  have hMo := rm_open b3 hw4 c3 c4 (fun p hp => by rw [c5, if_pos ⟨Nat.zero_le _, hp⟩])
  obtain ⟨⟨rk2, t2, st2, hpt2, hpd2, hcn2⟩, hidle, hus⟩ := iv_open rfl hiv0
  rw [fall_cr]
  generalize sg_open (sg_lose4 r) = R at *
  obtain ⟨s4, d1, d2, d3⟩ := qm_crown (x := nI (sg_busy r)) hMo (iv_sz st2) st2.2.1.1 hidle (fun d hd t ht => ⟨((st2.2.2.1 d hd).1.2.2.2.2.2.1 t ht).1, fun q => by
    have := (st2.2.2.1 d hd).1.2.2.2.2.1.mp q
    rw [ht] at this
    cases this⟩) hus
  refine ⟨s4, ?_, dm_tr b2 (dm_tr c2 d2), d3⟩
  unfold f_X12_fall
  rw [show f_X12_fall_p4 ln dr_N 0 0 s1 = _ from b1, show f_X12_fall_p58 ln dr_N (nI (sg_busy r)) 0 s2 = _ from c1, d1]

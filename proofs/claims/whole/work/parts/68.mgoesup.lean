/-! 68: a new drawer, the first of a level, going up; of the reference -/
theorem q_letS (x : dr_S) (Kx : dr_S → Option (Int32 × dr_S)) : dr_letS x Kx = Kx x := rfl
theorem c14 (d : Nat) : (14 : Int32) * nI d = nI (14 * d) := by rw [show (14 : Int32) = nI 14 from rfl, pk_mul]
theorem c64 (d : Nat) : (64 : Int32) * nI d = nI (64 * d) := by rw [show (64 : Int32) = nI 64 from rfl, pk_mul]
theorem qm_spare_p {ln : Nat → Nat} {s : dr_S} {u : Nat} (L : dq_ML ln) (hu : u < 256) (h : ∀ d, d < 256 → s.1 30 d = (if d < u then 1 else 0)) : ∀ (fu i : Nat), i ≤ u → u - i < fu → f_X12_spare_p2 ln fu (nI i) s = some (nI u, s)
  | 0, _, _, q => absurd q (Nat.not_lt_zero _)
  | fu + 1, i, hi, hf => by
    rw [f_X12_spare_p2, if_neg (show ¬ (256 : Int32) ≤ nI i from nI_ge (a := i) (b := 256) (by omega) (by omega)), m_rdb L 30 256 rfl (by decide) (by decide) (by omega), h i (by omega)]
    by_cases e : i = u
    · subst e
      rw [if_neg (Nat.lt_irrefl _), if_pos rfl]
      unfold f_X12_spare_p24
      rw [if_neg (show ¬ (256 : Int32) ≤ nI i from nI_ge (a := i) (b := 256) (by omega) (by omega))]
    · rw [if_pos (show i < u by omega), if_neg (by decide), q_let, nI_1]
      exact qm_spare_p L hu h fu (i + 1) (by omega) (by omega)
theorem qm_spare {ln : Nat → Nat} {s : dr_S} {u : Nat} (L : dq_ML ln) (hu : u < 256) (h : ∀ d, d < 256 → s.1 30 d = (if d < u then 1 else 0)) : f_X12_spare ln s = some (nI u, s) := qm_spare_p L hu h dr_N 0 (Nat.zero_le _) (by unfold dr_N; omega)
def dm_open (s : dr_S) (u : Nat) : dr_S := dr_put (dr_put (dr_put (dr_put (dr_put (dr_put (dr_put s 30 u 0) 31 u 0) 32 u 0) 35 u (-1)) 36 u (-1)) 37 u (-1)) 30 u 1
theorem qm_clears {ln : Nat → Nat} {s : dr_S} {u : Nat} (L : dq_ML ln) (hu : u < 256) : f_X12_clears ln (nI u) s = some (0, dr_put (dr_put (dr_put (dr_put (dr_put (dr_put s 30 u 0) 31 u 0) 32 u 0) 35 u (-1)) 36 u (-1)) 37 u (-1)) := by
  unfold f_X12_clears
  rw [m_wzb L 30 256 rfl (by decide) (by decide) hu, m_wrb L 31 256 rfl (by decide) (by decide) hu, m_wrb L 32 256 rfl (by decide) (by decide) hu, m_wrb L 35 256 rfl (by decide) (by decide) hu, m_wrb L 36 256 rfl (by decide) (by decide) hu, m_wrb L 37 256 rfl (by decide) (by decide) hu]
  rfl
theorem qm_openb {ln : Nat → Nat} {s : dr_S} {u : Nat} {Kx : dr_S → Option (Int32 × dr_S)} (L : dq_ML ln) (hu : u < 256) : dr_bndv (f_X12_clears ln (nI u) s) (fun q => (dr_wz ln q 30 (nI u) 1).bind Kx) = Kx (dm_open s u) := by
  rw [qm_clears L hu, q_bv, m_wzb L 30 256 rfl (by decide) (by decide) hu]
  rfl
theorem dm_open_F {s : dr_S} {u : Nat} : dm_F s (dm_open s u) := dm_put _ _ _ (dm_put _ _ _ (dm_put _ _ _ (dm_put _ _ _ (dm_put _ _ _ (dm_put _ _ _ (dm_put _ _ _ (dm_rf s) (by decide)) (by decide)) (by decide)) (by decide)) (by decide)) (by decide)) (by decide)
theorem dm_open_at {s : dr_S} {u : Nat} : (∀ p, (dm_open s u).1 30 p = if p = u then 1 else s.1 30 p) ∧ (dm_open s u).1 31 = upd (s.1 31) u 0 ∧ (dm_open s u).1 32 = upd (s.1 32) u 0 ∧ (dm_open s u).1 35 = upd (s.1 35) u (-1) ∧ (dm_open s u).1 36 = upd (s.1 36) u (-1) ∧ (dm_open s u).1 37 = upd (s.1 37) u (-1) := by
  refine ⟨fun p => ?_, rfl, rfl, rfl, rfl, rfl⟩
  show upd (upd (s.1 30) u 0) u 1 p = _
  by_cases e : p = u
  · rw [if_pos e, e, q_updS]
  · rw [if_neg e, q_updO e, q_updO e]
theorem dm_open_o {s : dr_S} {u a : Nat} (h : a ≠ 30 ∧ a ≠ 31 ∧ a ≠ 32 ∧ a ≠ 35 ∧ a ≠ 36 ∧ a ≠ 37) : (dm_open s u).1 a = s.1 a := by
  unfold dm_open
  rw [q_putO h.1, q_putO h.2.2.2.2.2, q_putO h.2.2.2.2.1, q_putO h.2.2.2.1, q_putO h.2.2.1, q_putO h.2.1, q_putO h.1]
/-- children are a level below -/
def wf_cl (r : sg_R) : Prop := ∀ d, d < rm_us r → dv_lev (rm_dr r d) < 63 ∧ (0 < dv_lev (rm_dr r d) → ∀ k ∈ dv_cs (rm_dr r d), dv_lev (rm_dr r k) + 1 = dv_lev (rm_dr r d))
theorem qm_firstOf_p {ln : Nat → Nat} {s : dr_S} {r : sg_R} {lev : Nat} (hr : rp_M ln s r) (hw : wf_sz r) (hdr : ∀ d, d < rm_us r → wf_dr r d ∧ (0 < dv_lev (rm_dr r d) → (dv_cs (rm_dr r d)).length = (dv_hs (rm_dr r d)).length + 1 ∧ ∀ k ∈ dv_cs (rm_dr r d), k < rm_us r)) (hcl : wf_cl r) (hlev : lev < 64) : ∀ (n fu d : Nat), d < rm_us r → dv_lev (rm_dr r d) ≤ n + lev → n < fu → f_X12_firstOf_p5 ln fu (nI lev) (nI d) s = some (nO (sg_fst r lev n d), s)
  | n, 0, _, _, _, q => absurd q (Nat.not_lt_zero _)
  | 0, fu + 1, d, hd, hn, hf => by
    have hus := hw.2.1
    have L := mM_L hr
    have hlv := (hcl d hd).1
    rw [f_X12_firstOf_p5, sg_fst, m_rdb L 31 256 rfl (by decide) (by decide) (by omega), (mM_dr hr d hd).1, if_pos (nI_le (by omega) (by omega)), m_rdb L 31 256 rfl (by decide) (by decide) (by omega), (mM_dr hr d hd).1]
    by_cases e : dv_lev (rm_dr r d) = lev
    · rw [if_pos (by rw [e]), if_pos e]
      rfl
    · rw [if_neg (nI_lit (by omega) (by omega) e), if_neg e]
      rfl
  | n + 1, fu + 1, d, hd, hn, hf => by
    have hus := hw.2.1
    have L := mM_L hr
    have hlv := (hcl d hd).1
    rw [f_X12_firstOf_p5, sg_fst, m_rdb L 31 256 rfl (by decide) (by decide) (by omega), (mM_dr hr d hd).1]
    by_cases h : lev < dv_lev (rm_dr r d)
    · obtain ⟨h1, h2⟩ := (hdr d hd).2 (by omega)
      obtain ⟨k, hk⟩ := at_some (l := dv_cs (rm_dr r d)) (i := 0) (by omega)
      have hm := List.mem_of_getElem? hk
      have hg : (dv_cs (rm_dr r d)).getD 0 0 = k := by
        rw [List.getD_eq_getElem?_getD, hk]
        rfl
      have hc := (hcl d hd).2 (by omega) k hm
      rw [if_neg (nI_ge h (by omega)), if_pos h, c14, m_rdb L 34 3584 rfl (by decide) (by decide) (by omega), show 14 * d = 14 * d + 0 from rfl, (mM_dr hr d hd).2.1.2.2.2.2 (by omega) 0 k hk, hg]
      exact qm_firstOf_p hr hw hdr hcl hlev n fu k (h2 k hm) (by omega) (by omega)
    · rw [if_pos (nI_le (by omega) (by omega)), if_neg h, m_rdb L 31 256 rfl (by decide) (by decide) (by omega), (mM_dr hr d hd).1]
      by_cases e : dv_lev (rm_dr r d) = lev
      · rw [if_pos (by rw [e]), if_pos e]
        rfl
      · rw [if_neg (nI_lit (by omega) (by omega) e), if_neg e]
        rfl
theorem qm_firstOf {ln : Nat → Nat} {s : dr_S} {r : sg_R} {lev : Nat} (hr : rp_M ln s r) (hw : wf_sz r) (hdr : ∀ d, d < rm_us r → wf_dr r d ∧ (0 < dv_lev (rm_dr r d) → (dv_cs (rm_dr r d)).length = (dv_hs (rm_dr r d)).length + 1 ∧ ∀ k ∈ dv_cs (rm_dr r d), k < rm_us r)) (hcl : wf_cl r) (hlev : lev < 64) (hto : rm_to r < rm_us r) : f_X12_firstOf ln (nI lev) s = some (nO (sg_first r lev), s) := by
  unfold f_X12_firstOf
  rw [q_let, mM_to hr]
  have := (hcl _ hto).1
  exact qm_firstOf_p hr hw hdr hcl hlev 256 dr_N _ hto (by omega) (by unfold dr_N; omega)
theorem sg_rise_eq (r : sg_R) (c : Nat) : sg_rise r c = (if ck_pl (rm_ck r c) = rm_to r then sg_end (sg_la (sg_sT (sg_sU (sg_sD r (rm_us r) (dv_lev (rm_dr r (ck_pl (rm_ck r c))) + 1, [ck_so (rm_ck r c)], [ck_pl (rm_ck r c), (ck_ri (rm_ck r c)).getD 0], none, none, none)) (rm_us r + 1)) (rm_us r)) c (ck_pl (rm_ck r c)) none) c 1
  else sg_move r c (match ck_pa (rm_ck r c) (dv_lev (rm_dr r (ck_pl (rm_ck r c))) + 1) with | none => sg_first r (dv_lev (rm_dr r (ck_pl (rm_ck r c))) + 1) | some p => some p)) := rfl
theorem qm_goesUp {ln : Nat → Nat} {s : dr_S} {r : sg_R} {c : Nat} (hr : rp_M ln s r) (hs : wf_step r c) (hm : wf_md r c) (hcl : wf_cl r) (hri : wf_rise r c) (hat : ck_at (rm_ck r c) = 4) : ∃ s', f_X12_goesUp ln (nI c) s = some (0, s') ∧ dm_F s s' ∧ rp_M ln s' (sg_rise r c) := by
  obtain ⟨hw, hok, hck, hdr, hc⟩ := hs
  have hat0 : ck_at (rm_ck r c) ≠ 0 := by rw [hat]; decide
  obtain ⟨hf, hat4, hck3⟩ := hck c hc
  obtain ⟨hpl, hso, j, hj, hjn, hki⟩ := hck3 hat0
  have hus := hw.2.1
  have hnj := hw.2.2.1
  have hb := hw.1
  have L := mM_L hr
  obtain ⟨hto, hri2⟩ := hri
  obtain ⟨⟨n, hn, hnu⟩, hu, hpa⟩ := hri2 hat
  obtain ⟨k1, k2, k3, k4, k5, k6, k7, k8⟩ := mM_ck hr c hc
  have k9 := k8 hat0
  clear k8
  rw [if_neg (by omega)] at k9
  have e43 : s.1 43 c = nI n := by rw [k5, hn]; rfl
  obtain ⟨⟨ho, hlv, hla, htl, -⟩, hcs⟩ := hdr _ hpl
  have hl63 := (hcl _ hpl).1
  obtain ⟨d1, d2, d3⟩ := mM_dr hr _ hpl
  rw [sg_rise_eq]
  unfold f_X12_goesUp
  rw [m_rdb L 40 4 rfl (by decide) (by decide) hc, k3 hat0, mM_to hr, show (ck_ri (rm_ck r c)).getD 0 = n from by rw [hn]; rfl]
  by_cases e : ck_pl (rm_ck r c) = rm_to r
  · have hne : ck_pl (rm_ck r c) ≠ rm_us r := by omega
    rw [if_pos (by rw [e]), if_pos e, qm_spare L hu (mM_us hr), q_bi, qm_openb L hu]
    generalize hS : dm_open s (rm_us r) = S
    have o1 := (dm_open_at (s := s) (u := rm_us r)).1
    have o2 := (dm_open_at (s := s) (u := rm_us r)).2
    have o3 := fun a => dm_open_o (s := s) (u := rm_us r) (a := a)
    have oF := dm_open_F (s := s) (u := rm_us r)
    have o4 : (dm_open s (rm_us r)).2 = s.2 := rfl
    rw [hS] at o1 o2 o3 oF o4
    obtain ⟨p31, p32, p35, p36, p37⟩ := o2
    have v31 : S.1 31 (ck_pl (rm_ck r c)) = nI (dv_lev (rm_dr r (ck_pl (rm_ck r c)))) := by rw [p31, q_updO hne, d1]
    rw [m_rdb L 31 256 rfl (by decide) (by decide) (by omega), v31, nI_1, m_wrb L 31 256 rfl (by decide) (by decide) hu, m_wrb L 32 256 rfl (by decide) (by decide) hu, m_rdb L 42 4 rfl (by decide) (by decide) hc, c14, m_wrb L 33 3584 rfl (by decide) (by decide) (by omega), m_wrb L 34 3584 rfl (by decide) (by decide) (by omega), m_rdb L 43 4 rfl (by decide) (by decide) hc, nI_1, m_wrb L 34 3584 rfl (by decide) (by decide) (by omega)]
    have v42 : (dr_put (dr_put S 31 (rm_us r) (nI (dv_lev (rm_dr r (ck_pl (rm_ck r c))) + 1))) 32 (rm_us r) 1).1 42 c = nI (ck_so (rm_ck r c)) := by
      show S.1 42 c = _
      rw [o3 42 (by decide), k9]
    have v43 : (dr_put (dr_put (dr_put (dr_put S 31 (rm_us r) (nI (dv_lev (rm_dr r (ck_pl (rm_ck r c))) + 1))) 32 (rm_us r) 1) 33 (14 * rm_us r) (nI (ck_so (rm_ck r c)))) 34 (14 * rm_us r) (nI (ck_pl (rm_ck r c)))).1 43 c = nI n := by
      show S.1 43 c = _
      rw [o3 43 (by decide), e43]
    rw [v42, v43, q_letS]
    generalize hT : dr_pf (dr_put (dr_put (dr_put (dr_put (dr_put S 31 (rm_us r) (nI (dv_lev (rm_dr r (ck_pl (rm_ck r c))) + 1))) 32 (rm_us r) 1) 33 (14 * rm_us r) (nI (ck_so (rm_ck r c)))) 34 (14 * rm_us r) (nI (ck_pl (rm_ck r c)))) 34 (14 * rm_us r + 1) (nI n)) 1205 (nI (rm_us r)) = T
    have TF : dm_F s T := by
      rw [← hT]
      exact dm_pf _ _ (dm_put _ _ _ (dm_put _ _ _ (dm_put _ _ _ (dm_put _ _ _ (dm_put _ _ _ oF (by decide)) (by decide)) (by decide)) (by decide)) (by decide)) (by decide)
    have t30 : T.1 30 = S.1 30 := by rw [← hT]; rfl
    have t31 : T.1 31 = upd (S.1 31) (rm_us r) (nI (dv_lev (rm_dr r (ck_pl (rm_ck r c))) + 1)) := by rw [← hT]; rfl
    have t32 : T.1 32 = upd (S.1 32) (rm_us r) 1 := by rw [← hT]; rfl
    have t33 : T.1 33 = upd (S.1 33) (14 * rm_us r) (nI (ck_so (rm_ck r c))) := by rw [← hT]; rfl
    have t34 : T.1 34 = upd (upd (S.1 34) (14 * rm_us r) (nI (ck_pl (rm_ck r c)))) (14 * rm_us r + 1) (nI n) := by rw [← hT]; rfl
    have tO : ∀ a, a ≠ 31 → a ≠ 32 → a ≠ 33 → a ≠ 34 → T.1 a = S.1 a := fun a h1 h2 h3 h4 => by
      rw [← hT, q_pf1, q_putO h4, q_putO h4, q_putO h3, q_putO h2, q_putO h1]
    have tO2 : ∀ a, a < 30 ∨ 37 < a → T.1 a = s.1 a := fun a h => by rw [tO a (by omega) (by omega) (by omega) (by omega), o3 a (by omega)]
    have tf : ∀ f, f ≠ 1205 → T.2 f = s.2 f := fun f h => by
      rw [← hT, q_pfO h]
      show S.2 f = _
      rw [o4]
    have tt : T.2 1205 = nI (rm_us r) := by rw [← hT, q_pf2]
    have m1 : rp_M ln T (sg_sT (sg_sU (sg_sD r (rm_us r) (dv_lev (rm_dr r (ck_pl (rm_ck r c))) + 1, [ck_so (rm_ck r c)], [ck_pl (rm_ck r c), n], none, none, none)) (rm_us r + 1)) (rm_us r)) := by
      refine rm_all hr hw rfl rfl (tf 1200 (by decide)) (tf 1201 (by decide)) (tO2 28 (by decide)) (tO2 29 (by decide)) (by rw [tf 1204 (by decide)]; have q := mM_ti hr; exact q) tt (fun d hd => ?_) (fun d hd => ?_) (fun d h1 h2 => ?_) (fun e he => Or.inl ⟨rfl, ?_, fun h => ?_, fun _ => rfl⟩) (by rw [tf 1226 (by decide)]; have q := mM_nj hr; exact q) (fun j hj => Or.inl ⟨hj, rfl, ?_⟩) (fun j h1 h2 => by rw [tO2 55 (by decide), tO2 56 (by decide)]; exact mM_j2 hr j h1 h2) (by rw [tf 1234 (by decide)]; have q := mM_nc hr; exact q) (fun i j t hi => Or.inl ⟨hi, ?_⟩)
      · rw [t30, o1]
        show (if d = rm_us r then (1 : Int32) else s.1 30 d) = (if d < rm_us r + 1 then 1 else 0)
        by_cases q : d = rm_us r
        · rw [if_pos q, if_pos (by omega)]
        · rw [if_neg q, mM_us hr d hd]
          by_cases q2 : d < rm_us r
          · rw [if_pos q2, if_pos (by omega)]
          · rw [if_neg q2, if_neg (by omega)]
      · have hd : d < rm_us r + 1 := hd
        have ed : rm_dr (sg_sT (sg_sU (sg_sD r (rm_us r) (dv_lev (rm_dr r (ck_pl (rm_ck r c))) + 1, [ck_so (rm_ck r c)], [ck_pl (rm_ck r c), n], none, none, none)) (rm_us r + 1)) (rm_us r)) d = (if d = rm_us r then (dv_lev (rm_dr r (ck_pl (rm_ck r c))) + 1, [ck_so (rm_ck r c)], [ck_pl (rm_ck r c), n], none, none, none) else rm_dr r d) := rfl
        rw [ed]
        by_cases q : d = rm_us r
        · right
          rw [if_pos q, q]
          refine ⟨?_, ⟨?_, ?_, ?_, fun k h hk => ?_, fun _ k h hk => ?_⟩, ?_⟩
          · rw [t31, q_updS]; rfl
          · rw [t32, q_updS]; rfl
          · rw [tO 35 (by decide) (by decide) (by decide) (by decide), p35, q_updS]; rfl
          · rw [tO 36 (by decide) (by decide) (by decide) (by decide), p36, q_updS]; rfl
          · have hk : [ck_so (rm_ck r c)][k]? = some h := hk
            cases k with
            | zero =>
              cases hk
              rw [t33]
              exact q_updS _ _ _
            | succ k => cases hk
          · have hk : [ck_pl (rm_ck r c), n][k]? = some h := hk
            cases k with
            | zero =>
              cases hk
              rw [t34, q_updO (by omega)]
              exact q_updS _ _ _
            | succ k =>
              cases k with
              | zero =>
                cases hk
                rw [t34]
                exact q_updS _ _ _
              | succ k => cases hk
          · rw [tO 37 (by decide) (by decide) (by decide) (by decide), p37, q_updS]; rfl
        · left
          rw [if_neg q]
          refine ⟨by omega, rfl, ?_, ?_, ?_, ?_, ?_, fun k hk => ?_, fun k hk => ?_⟩
          · rw [t31, q_updO q, p31, q_updO q]
          · rw [t32, q_updO q, p32, q_updO q]
          · rw [tO 35 (by decide) (by decide) (by decide) (by decide), p35, q_updO q]
          · rw [tO 36 (by decide) (by decide) (by decide) (by decide), p36, q_updO q]
          · rw [tO 37 (by decide) (by decide) (by decide) (by decide), p37, q_updO q]
          · rw [t33, q_updO (by omega), o3 33 (by decide)]
          · rw [t34, q_updO (by omega), q_updO (by omega), o3 34 (by decide)]
      · have h1 : rm_us r + 1 ≤ d := h1
        rw [tO 37 (by decide) (by decide) (by decide) (by decide), p37, q_updO (by omega)]
        exact mM_la hr d (by omega) h2
      · unfold mk_same
        rw [tO2 38 (by decide), tO2 39 (by decide), tO2 40 (by decide), tO2 41 (by decide), tO2 42 (by decide), tO2 43 (by decide), tO2 44 (by decide), tO2 45 (by decide), tO2 46 (by decide), tO2 47 (by decide), tO2 48 (by decide), tO2 49 (by decide)]
        exact ⟨rfl, rfl, rfl, rfl, rfl, rfl, rfl, rfl, rfl, fun _ _ => rfl, fun _ _ => rfl, fun _ _ => rfl⟩
      · show dv_lev (if ck_pl (rm_ck r e) = rm_us r then _ else rm_dr r (ck_pl (rm_ck r e))) = _
        have := ((hck e he).2.2 h).1
        rw [if_neg (by omega)]
      · unfold mj_same
        rw [tO2 50 (by decide), tO2 51 (by decide), tO2 52 (by decide), tO2 53 (by decide), tO2 54 (by decide), tO2 55 (by decide), tO2 56 (by decide)]
        exact ⟨rfl, rfl, rfl, rfl, rfl, rfl, rfl⟩
      · rw [tO2 57 (by decide), tO2 58 (by decide), tO2 59 (by decide)]
        exact ⟨rfl, rfl, rfl, rfl, rfl⟩
    have hw1 : wf_sz (sg_sT (sg_sU (sg_sD r (rm_us r) (dv_lev (rm_dr r (ck_pl (rm_ck r c))) + 1, [ck_so (rm_ck r c)], [ck_pl (rm_ck r c), n], none, none, none)) (rm_us r + 1)) (rm_us r)) := by
      refine ⟨hw.1, by show rm_us r + 1 ≤ 256; omega, hw.2.2.1, fun q hq => ?_, hw.2.2.2.2⟩
      show rw_ok (rm_b r) (if q = rm_us r then _ else rm_dr r q)
      have hq : q < rm_us r + 1 := hq
      by_cases hqu : q = rm_us r
      · rw [if_pos hqu]
        exact ⟨by show 1 ≤ _; omega, by show 2 ≤ _; omega⟩
      · rw [if_neg hqu]
        exact hw.2.2.2.1 q (by omega)
    obtain ⟨s2, e2, F2, m2⟩ := qm_letsGo (c := c) (d := ck_pl (rm_ck r c)) m1 hw1 hc hf (by show _ < rm_us r + 1; omega)
    have K := ck_la (sg_sT (sg_sU (sg_sD r (rm_us r) (dv_lev (rm_dr r (ck_pl (rm_ck r c))) + 1, [ck_so (rm_ck r c)], [ck_pl (rm_ck r c), n], none, none, none)) (rm_us r + 1)) (rm_us r)) c (ck_pl (rm_ck r c)) none
    obtain ⟨s3, e3, F3, m3⟩ := qm_ends (c := c) (j := j) (a := 1) m2 (wf_la hw1 (by show _ < rm_us r + 1; omega)) hc (by rw [K.1]; exact hj) (by rw [K.2.2.2.2.1]; exact hjn)
    refine ⟨s3, ?_, dm_tr TF (dm_tr F2 F3), m3⟩
    rw [e2, q_bv, show f_X12_ends ln (nI c) 1 s2 = _ from e3, q_bv]
  · rw [if_neg (nI_lit (by omega) (by omega) e), if_neg e, m_rdb L 31 256 rfl (by decide) (by decide) (by omega), d1, c64, nI_add, nI_1, m_rdb L 44 256 rfl (by decide) (by decide) (by omega), show 64 * c + dv_lev (rm_dr r (ck_pl (rm_ck r c))) + 1 = 64 * c + (dv_lev (rm_dr r (ck_pl (rm_ck r c))) + 1) by omega, k6 hat0 _ (by omega)]
    have mv : ∀ t : Option Nat, (∀ q, t = some q → q < rm_us r ∧ dv_lev (rm_dr r q) = dv_lev (rm_dr r (ck_pl (rm_ck r c))) + 1) → ∃ s', f_X12_goesUp_p150 ln (nI c) (nI (ck_pl (rm_ck r c))) (nO t) s = some (0, s') ∧ dm_F s s' ∧ rp_M ln s' (sg_move r c t) := by
      intro t ht
      unfold f_X12_goesUp_p150
      cases t with
      | none =>
        rw [if_pos (show nO none = (-1 : Int32) from rfl)]
        exact ⟨s, rfl, dm_rf s, hr⟩
      | some t =>
        obtain ⟨htt, htv⟩ := ht t rfl
        have htd : t ≠ ck_pl (rm_ck r c) := fun q => by rw [q] at htv; omega
        rw [show nO (some t) = nI t from rfl, if_neg (n1_ne (by omega)), qm_isOthers hr hw hc hf htt (hdr t htt).1.2.2.1, q_bi, sg_move_eq]
        cases hfr : sg_free r c t with
        | true =>
          rw [if_pos (show bI (!true) = (0 : Int32) from rfl), if_pos rfl]
          obtain ⟨s1, s2, e1, e2, F2, m2⟩ := qm_shift (c := c) (d := ck_pl (rm_ck r c)) (t := t) hr hw hc hf hpl htt htd
          rw [e1, q_bv, e2, q_bv, m_wrb L 40 4 rfl (by decide) (by decide) hc, m_wrb L 39 4 rfl (by decide) (by decide) hc]
          refine ⟨_, rfl, dm_put _ _ _ (dm_put _ _ _ F2 (by decide)) (by decide), ?_⟩
          have K := ck_la r c (ck_pl (rm_ck r c)) none
          have K2 := ck_la (sg_la r c (ck_pl (rm_ck r c)) none) c t (some c)
          have kk : rm_ck (sg_la (sg_la r c (ck_pl (rm_ck r c)) none) c t (some c)) = rm_ck r := K2.1.trans K.1
          obtain ⟨l1, l2, l3, l4, l5, l6, l7, l8⟩ := mM_ck m2 c hc
          have q := rm_ckput (s' := dr_put (dr_put s2 40 c (nI t)) 39 c 2) m2 (wf_la (wf_la hw hpl) (by rw [K.2.2.1]; exact htt)) hc (by rw [kk]; exact hat0) 2 t (by decide) rfl rfl (fun k h1 h2 h3 h4 => by rw [q_putO h3, q_putO h4]) rfl (by
            have l9 := l8 (by rw [kk]; exact hat0)
            rw [kk, la_lev, la_lev, hat, if_neg (by omega)] at l9
            rw [la_lev, la_lev, htv, kk, if_neg (by omega)]
            exact l9)
          rw [kk] at q
          exact q
        | false =>
          rw [if_neg (show ¬ bI (!false) = (0 : Int32) by decide), if_neg (by decide)]
          exact ⟨s, rfl, dm_rf s, hr⟩
    cases hp : ck_pa (rm_ck r c) (dv_lev (rm_dr r (ck_pl (rm_ck r c))) + 1) with
    | none =>
      rw [if_pos (show nO none = (-1 : Int32) from rfl), m_rdb L 31 256 rfl (by decide) (by decide) (by omega), d1, nI_1, qm_firstOf hr hw hdr hcl (by omega) hto, q_bi]
      exact mv _ (fun q hq => sg_fst_lt (fun d hd => (hdr d hd).2) _ _ q hto hq)
    | some p =>
      have hp2 := hm.2 hat0 _ p hp
      rw [if_neg (show ¬ nO (some p) = (-1 : Int32) from n1_ne (by omega))]
      exact mv (some p) (fun q hq => by cases hq; exact hp2)

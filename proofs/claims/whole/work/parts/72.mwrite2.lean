/-! 72: writing; one step; of the reference -/
theorem bI_s (i : Nat) : ¬ bI (some i).isSome = (0 : Int32) := by
  show ¬ bI true = (0 : Int32)
  decide
theorem bI_s2 (i : Nat) : ¬ (0 : Int32) = bI (some i).isSome := by
  show ¬ (0 : Int32) = bI true
  decide
theorem qm_change {ln : Nat → Nat} {s : dr_S} {r : sg_R} {c d j h : Nat} {z : Int32} (hr : rp_M ln s r) (hw : wf_sz r) (hh : h = jb_he (rm_jb r j)) (hz : z = (if jb_ki (rm_jb r j) = 1 then 1 else 0)) (hl : (rm_ch r).length < 120) : ∃ s1, f_X12_writes_p194 ln (nI c) (nI d) (nI h) z s = f_X12_writes_p353 ln (nI c) (nI d) s1 ∧ dm_F s s1 ∧ rp_M ln s1 (sg_sC r (rm_ch r ++ [(j, rm_ti r)])) := by
  have L := mM_L hr
  have hnc := mM_nc hr
  unfold f_X12_writes_p194
  rw [hnc, m_wrb L 57 120 rfl (by decide) (by decide) hl, show (dr_put s 57 (rm_ch r).length (s.2 1204)).2 1234 = nI (rm_ch r).length from hnc, m_wrb L 58 120 rfl (by decide) (by decide) hl, show (dr_put (dr_put s 57 (rm_ch r).length (s.2 1204)) 58 (rm_ch r).length (nI h)).2 1234 = nI (rm_ch r).length from hnc, m_wzb L 59 120 rfl (by decide) (by decide) hl, q_letS]
  refine ⟨_, rfl, dm_pf _ _ (dm_put _ _ _ (dm_put _ _ _ (dm_put _ _ _ (dm_rf s) (by decide)) (by decide)) (by decide)) (by decide), ?_⟩
  have hz2 : vp_nar .boolean z = (if jb_ki (rm_jb r j) = 1 then 1 else 0) := by
    rw [hz]
    split <;> rfl
  rw [hz2]
  generalize hT : dr_pf (dr_put (dr_put (dr_put s 57 (rm_ch r).length (s.2 1204)) 58 (rm_ch r).length (nI h)) 59 (rm_ch r).length (if jb_ki (rm_jb r j) = 1 then 1 else 0)) 1234 _ = T
  have t57 : T.1 57 = upd (s.1 57) (rm_ch r).length (nI (rm_ti r)) := by rw [← hT, ← mM_ti hr]; rfl
  have t58 : T.1 58 = upd (s.1 58) (rm_ch r).length (nI h) := by rw [← hT]; rfl
  have t59 : T.1 59 = upd (s.1 59) (rm_ch r).length (if jb_ki (rm_jb r j) = 1 then 1 else 0) := by rw [← hT]; rfl
  have tO : ∀ a, a ≠ 57 → a ≠ 58 → a ≠ 59 → T.1 a = s.1 a := fun a h1 h2 h3 => by
    rw [← hT, q_pf1, q_putO h3, q_putO h2, q_putO h1]
  have tf : ∀ f, f ≠ 1234 → T.2 f = s.2 f := fun f h => by
    rw [← hT, q_pfO h]
    rfl
  have tt : T.2 1234 = nI ((rm_ch r).length + 1) := by
    rw [← hT, q_pf2, show (dr_put (dr_put (dr_put s 57 (rm_ch r).length (s.2 1204)) 58 (rm_ch r).length (nI h)) 59 (rm_ch r).length (if jb_ki (rm_jb r j) = 1 then 1 else 0)).2 1234 = nI (rm_ch r).length from hnc, nI_1]
  refine rm_all hr hw rfl rfl (tf 1200 (by decide)) (tf 1201 (by decide)) (tO 28 (by decide) (by decide) (by decide)) (tO 29 (by decide) (by decide) (by decide)) (by rw [tf 1204 (by decide)]; have q := mM_ti hr; exact q) (by rw [tf 1205 (by decide)]; have q := mM_to hr; exact q) (fun q hq => by rw [tO 30 (by decide) (by decide) (by decide)]; exact mM_us hr q hq) (fun q hq => Or.inl ⟨hq, rfl, ?_⟩) (fun q h1 h2 => by rw [tO 37 (by decide) (by decide) (by decide)]; exact mM_la hr q h1 h2) (fun e he => Or.inl ⟨rfl, ?_, fun h => rfl, fun _ => rfl⟩) (by rw [tf 1226 (by decide)]; have q := mM_nj hr; exact q) (fun j hj => Or.inl ⟨hj, rfl, ?_⟩) (fun j h1 h2 => by rw [tO 55 (by decide) (by decide) (by decide), tO 56 (by decide) (by decide) (by decide)]; exact mM_j2 hr j h1 h2) (by rw [tt]; show _ = nI (rm_ch r ++ [(j, rm_ti r)]).length; rw [List.length_append]; rfl) (fun i k t hi => ?_)
  · unfold md_same
    rw [tO 31 (by decide) (by decide) (by decide), tO 32 (by decide) (by decide) (by decide), tO 33 (by decide) (by decide) (by decide), tO 34 (by decide) (by decide) (by decide), tO 35 (by decide) (by decide) (by decide), tO 36 (by decide) (by decide) (by decide), tO 37 (by decide) (by decide) (by decide)]
    exact ⟨rfl, rfl, rfl, rfl, rfl, fun _ _ => rfl, fun _ _ => rfl⟩
  · unfold mk_same
    rw [tO 38 (by decide) (by decide) (by decide), tO 39 (by decide) (by decide) (by decide), tO 40 (by decide) (by decide) (by decide), tO 41 (by decide) (by decide) (by decide), tO 42 (by decide) (by decide) (by decide), tO 43 (by decide) (by decide) (by decide), tO 44 (by decide) (by decide) (by decide), tO 45 (by decide) (by decide) (by decide), tO 46 (by decide) (by decide) (by decide), tO 47 (by decide) (by decide) (by decide), tO 48 (by decide) (by decide) (by decide), tO 49 (by decide) (by decide) (by decide)]
    exact ⟨rfl, rfl, rfl, rfl, rfl, rfl, rfl, rfl, rfl, fun _ _ => rfl, fun _ _ => rfl, fun _ _ => rfl⟩
  · unfold mj_same
    rw [tO 50 (by decide) (by decide) (by decide), tO 51 (by decide) (by decide) (by decide), tO 52 (by decide) (by decide) (by decide), tO 53 (by decide) (by decide) (by decide), tO 54 (by decide) (by decide) (by decide), tO 55 (by decide) (by decide) (by decide), tO 56 (by decide) (by decide) (by decide)]
    exact ⟨rfl, rfl, rfl, rfl, rfl, rfl, rfl⟩
  · have hi : (rm_ch r ++ [(j, rm_ti r)])[i]? = some (k, t) := hi
    by_cases e : i < (rm_ch r).length
    · left
      rw [List.getElem?_append_left e] at hi
      refine ⟨hi, ?_⟩
      rw [t57, t58, t59, q_updO (by omega), q_updO (by omega), q_updO (by omega)]
      exact ⟨rfl, rfl, rfl, rfl, rfl⟩
    · right
      have hlt := (List.getElem?_eq_some_iff.mp hi).1
      rw [List.length_append] at hlt
      have hlt : i < (rm_ch r).length + 1 := hlt
      have ei : i = (rm_ch r).length := by omega
      subst ei
      rw [List.getElem?_append_right (Nat.le_refl _), Nat.sub_self] at hi
      cases hi
      rw [t57, t58, t59, q_updS, q_updS, q_updS, hh]
      exact ⟨rfl, rfl, rfl⟩
theorem qm_p38z {ln : Nat → Nat} {x1 x2 x3 x5 : Int32} {s : dr_S} : f_X12_writes_p36 ln x1 x2 x3 0 x5 s = f_X12_writes_p65 ln x1 x2 x3 0 x5 s := by
  unfold f_X12_writes_p36
  have q : ∀ fu, f_X12_writes_p38 ln (fu + 1) x1 x2 x3 0 x5 s = f_X12_writes_p65 ln x1 x2 x3 0 x5 s := fun fu => by
    rw [f_X12_writes_p38, if_pos rfl]
  exact q 999999
theorem sg_write_eq (r : sg_R) (c : Nat) : sg_write r c = (if dv_lev (rm_dr r (ck_pl (rm_ck r c))) = 0 then
    if decide (jb_ki (rm_jb r (ck_job (rm_ck r c))) = 1) = (sg_pos (dv_hs (ck_co (rm_ck r c))) (ck_so (rm_ck r c))).isSome then sg_end (sg_la r c (ck_pl (rm_ck r c)) none) c 0
    else sg_done (sg_sC (sg_sD r (ck_pl (rm_ck r c)) (0, (match sg_pos (dv_hs (ck_co (rm_ck r c))) (ck_so (rm_ck r c)) with | none => sg_ins (dv_hs (ck_co (rm_ck r c))) (sg_way (rm_ru r) (dv_hs (ck_co (rm_ck r c))) (ck_so (rm_ck r c))) (ck_so (rm_ck r c)) | some i => (dv_hs (ck_co (rm_ck r c))).eraseIdx i), dv_cs (ck_co (rm_ck r c)), dv_hi (ck_co (rm_ck r c)), dv_th (ck_co (rm_ck r c)), dv_la (rm_dr r (ck_pl (rm_ck r c))))) (rm_ch r ++ [(ck_job (rm_ck r c), rm_ti r)])) c (ck_pl (rm_ck r c))
  else sg_done (sg_sD r (ck_pl (rm_ck r c)) (dv_lev (rm_dr r (ck_pl (rm_ck r c))), (match sg_pos (dv_hs (ck_co (rm_ck r c))) (ck_so (rm_ck r c)) with | none => sg_ins (dv_hs (ck_co (rm_ck r c))) (sg_way (rm_ru r) (dv_hs (ck_co (rm_ck r c))) (ck_so (rm_ck r c))) (ck_so (rm_ck r c)) | some _ => dv_hs (ck_co (rm_ck r c))), (match sg_pos (dv_hs (ck_co (rm_ck r c))) (ck_so (rm_ck r c)) with | none => sg_ins (dv_cs (ck_co (rm_ck r c))) (sg_way (rm_ru r) (dv_hs (ck_co (rm_ck r c))) (ck_so (rm_ck r c)) + 1) ((ck_ri (rm_ck r c)).getD 0) | some i => (dv_cs (ck_co (rm_ck r c))).set (i + 1) ((ck_ri (rm_ck r c)).getD 0)), dv_hi (ck_co (rm_ck r c)), dv_th (ck_co (rm_ck r c)), dv_la (rm_dr r (ck_pl (rm_ck r c))))) c (ck_pl (rm_ck r c))) := rfl
theorem qm_writes {ln : Nat → Nat} {s : dr_S} {r : sg_R} {c : Nat} (hr : rp_M ln s r) (hs : wf_step r c) (hwr : wf_wr r c) (hch : dv_lev (rm_dr r (ck_pl (rm_ck r c))) = 0 → (rm_ch r).length < 120) (hat : ck_at (rm_ck r c) = 3) : ∃ s', f_X12_writes ln (nI c) s = some (0, s') ∧ dm_F s s' ∧ rp_M ln s' (sg_write r c) := by
  obtain ⟨hw, hok, hck, hdr, hc⟩ := hs
  obtain ⟨w1, w2, w3, w4, w5, w6⟩ := hwr hat
  have hat0 : ck_at (rm_ck r c) ≠ 0 := by rw [hat]; decide
  obtain ⟨hf, hat4, hck3⟩ := hck c hc
  obtain ⟨hpl, hso, j, hj, hjn, hki⟩ := hck3 hat0
  have hckp : ∀ e, e < 4 → ck_at (rm_ck r e) ≠ 0 → ck_pl (rm_ck r e) < rm_us r := fun e he h => ((hck e he).2.2 h).1
  have hus := hw.2.1
  have hnj := hw.2.2.1
  have hb := hw.1
  have L := mM_L hr
  have hjb : ck_job (rm_ck r c) = j := by unfold ck_job; rw [hj]; rfl
  obtain ⟨k1, k2, k3, k4, k5, k6, k7, k8⟩ := mM_ck hr c hc
  have k9 := k8 hat0
  clear k8
  have e40 := k3 hat0
  have hrow := k7 hat
  have e41 : s.1 41 c = nI j := by rw [k4, hj]; rfl
  have ehe : ck_he r c = jb_he (rm_jb r j) := by unfold ck_he; rw [hj]
  have hco := hw.2.2.2.2 c hc hat
  have hlv := (hdr _ hpl).1.2.1
  obtain ⟨d1, d2, d3⟩ := mM_dr hr _ hpl
  have wl := sg_way_le (rm_ru r) (ck_so (rm_ck r c)) (dv_hs (ck_co (rm_ck r c)))
  have elf := qm_looksFor hr hw hc hat0 hat4 hpl hlv hj hjn
  have e65 : f_X12_writes ln (nI c) s = f_X12_writes_p65 ln (nI c) (nI (ck_pl (rm_ck r c))) (nI (ck_so (rm_ck r c))) (bI (sg_pos (dv_hs (ck_co (rm_ck r c))) (ck_so (rm_ck r c))).isSome) (nI (match sg_pos (dv_hs (ck_co (rm_ck r c))) (ck_so (rm_ck r c)) with | none => sg_way (rm_ru r) (dv_hs (ck_co (rm_ck r c))) (ck_so (rm_ck r c)) | some i => i)) s := by
    unfold f_X12_writes
    rw [m_rdb L 40 4 rfl (by decide) (by decide) hc, e40, elf, q_bi, qm_hasCopy L hc hrow (by omega) w2.2.1 hso, q_bi]
    cases hp : sg_pos (dv_hs (ck_co (rm_ck r c))) (ck_so (rm_ck r c)) with
    | none =>
      rw [if_pos (show bI (none : Option Nat).isSome = (0 : Int32) from rfl), qm_placeIn L (mM_ru hr) hok hc hrow (by omega) w2.2.1 hso hp, q_bi]
      exact qm_p38z
    | some i =>
      rw [if_neg (bI_s i)]
      unfold f_X12_writes_p36
      have q := qm_p38 (d := ck_pl (rm_ck r c)) L hc hrow (by omega) w2.2.1 hso dr_N 0 i (by unfold dr_N; omega) hp
      rw [Nat.zero_add] at q
      exact q
  rw [e65, sg_write_eq]
  unfold f_X12_writes_p65
  rw [m_rdb L 31 256 rfl (by decide) (by decide) (by omega), d1]
  obtain ⟨sb, eb, Fb, mb⟩ := qm_becomes hr hw hc hat hpl w1
  rw [hjb]
  by_cases h0 : dv_lev (rm_dr r (ck_pl (rm_ck r c))) = 0
  · rw [hjb] at w5 w6
    rw [if_pos (show nI (dv_lev (rm_dr r (ck_pl (rm_ck r c)))) = (0 : Int32) by rw [h0]; rfl), if_pos h0, m_rdb L 41 4 rfl (by decide) (by decide) hc, e41, m_rdb L 50 120 rfl (by decide) (by decide) (by omega), (mM_jb hr j hjn).1]
    rw [hat, if_pos (Or.inr ⟨by decide, h0⟩), ehe] at k9
    have e94 : ∀ x4 x5, (if nI (jb_ki (rm_jb r j)) = (1 : Int32) then f_X12_writes_p94 ln (nI c) (nI (ck_pl (rm_ck r c))) (nI (ck_so (rm_ck r c))) x4 x5 1 s else f_X12_writes_p94 ln (nI c) (nI (ck_pl (rm_ck r c))) (nI (ck_so (rm_ck r c))) x4 x5 0 s) = f_X12_writes_p94 ln (nI c) (nI (ck_pl (rm_ck r c))) (nI (ck_so (rm_ck r c))) x4 x5 (if jb_ki (rm_jb r j) = 1 then 1 else 0) s := by
      intro x4 x5
      by_cases e : jb_ki (rm_jb r j) = 1
      · rw [e, if_pos (show nI 1 = (1 : Int32) from rfl), if_pos rfl]
      · rw [if_neg (show ¬ nI (jb_ki (rm_jb r j)) = (1 : Int32) from nI_lit (k := 1) (by omega) (by omega) e), if_neg e]
    rw [e94]
    unfold f_X12_writes_p94
    have fin : ∀ (s1 : dr_S) (X : sg_D), dm_F s s1 → rp_M ln s1 (sg_sD r (ck_pl (rm_ck r c)) X) → dv_lev X = 0 → (dv_hs X).length ≤ 2 * rm_b r + 1 → (dv_cs X).length ≤ 2 * rm_b r + 2 → ((dv_hs X).length = 2 * rm_b r + 1 → jb_ki (rm_jb r j) = 1) → ∃ s', f_X12_writes_p194 ln (nI c) (nI (ck_pl (rm_ck r c))) (nI (ck_so (rm_ck r c))) (if jb_ki (rm_jb r j) = 1 then 1 else 0) s1 = some (0, s') ∧ dm_F s s' ∧ rp_M ln s' (sg_done (sg_sC (sg_sD r (ck_pl (rm_ck r c)) X) (rm_ch r ++ [(j, rm_ti r)])) c (ck_pl (rm_ck r c))) := by
      intro s1 X F1 m1 x1 x2 x3 x4
      have hwx : wf_sz (sg_sD r (ck_pl (rm_ck r c)) X) := wf_sD hw ⟨x2, x3⟩
      obtain ⟨s2, e2, F2, m2⟩ := qm_change (c := c) (d := ck_pl (rm_ck r c)) (j := j) (h := ck_so (rm_ck r c)) (z := if jb_ki (rm_jb r j) = 1 then 1 else 0) m1 hwx k9.symm rfl (hch h0)
      have m2 : rp_M ln s2 (sg_sC (sg_sD r (ck_pl (rm_ck r c)) X) (rm_ch r ++ [(j, rm_ti r)])) := m2
      have ed : rm_dr (sg_sC (sg_sD r (ck_pl (rm_ck r c)) X) (rm_ch r ++ [(j, rm_ti r)])) (ck_pl (rm_ck r c)) = X := sD_at r _ X
      obtain ⟨s3, e3, F3, m3⟩ := qm_done (c := c) (d := ck_pl (rm_ck r c)) (j := j) m2 hwx hckp hc hf hat rfl hpl hj hjn (by rw [ed, x1]; decide) (by rw [ed, x1]; intro q; exact absurd q (by decide)) (by
        rw [ed]
        intro q
        exact w5 (Or.inl (x4 q)))
      exact ⟨s3, e2.trans e3, dm_tr F1 (dm_tr F2 F3), m3⟩
    cases hp : sg_pos (dv_hs (ck_co (rm_ck r c))) (ck_so (rm_ck r c)) with
    | none =>
      by_cases hk : jb_ki (rm_jb r j) = 1
      · have ec : ¬ decide (jb_ki (rm_jb r j) = 1) = (none : Option Nat).isSome := by rw [decide_eq_true hk]; decide
        have hdp : decide (jb_ki (rm_jb r j) = 1) = true := decide_eq_true hk
        simp only [hdp, hk, if_true] at ec fin ⊢
        rw [if_neg (show ¬ (1 : Int32) = bI (none : Option Nat).isSome by decide), eb, q_bv, if_neg (by decide), if_neg ec]
        obtain ⟨s1, e1, F1, m1⟩ := qm_comes (k := sg_way (rm_ru r) (dv_hs (ck_co (rm_ck r c))) (ck_so (rm_ck r c))) (h := ck_so (rm_ck r c)) mb (wf_sD hw ⟨hco.1, hco.2⟩) hpl (sD_at _ _ _) (by show (dv_hs (ck_co (rm_ck r c))).length ≤ 12; omega) (by show (dv_cs (ck_co (rm_ck r c))).length ≤ 13; have := hco.2; omega) (by show _ ≤ (dv_hs (ck_co (rm_ck r c))).length; omega)
        rw [sD_sD] at m1
        rw [e1, q_bv]
        have hl := sg_ins_len (v := ck_so (rm_ck r c)) wl
        have m1 : rp_M ln s1 (sg_sD r (ck_pl (rm_ck r c)) (dv_lev (rm_dr r (ck_pl (rm_ck r c))), sg_ins (dv_hs (ck_co (rm_ck r c))) (sg_way (rm_ru r) (dv_hs (ck_co (rm_ck r c))) (ck_so (rm_ck r c))) (ck_so (rm_ck r c)), dv_cs (ck_co (rm_ck r c)), dv_hi (ck_co (rm_ck r c)), dv_th (ck_co (rm_ck r c)), dv_la (rm_dr r (ck_pl (rm_ck r c))))) := m1
        rw [h0] at m1
        exact fin s1 _ (dm_tr Fb F1) m1 rfl (by show (sg_ins _ _ _).length ≤ _; omega) hco.2 (fun _ => trivial)
      · have ec : decide (jb_ki (rm_jb r j) = 1) = (none : Option Nat).isSome := decide_eq_false hk
        rw [if_neg hk, if_pos ec, if_pos (show (0 : Int32) = bI (none : Option Nat).isSome from rfl)]
        obtain ⟨s1, e1, F1, m1⟩ := qm_letsGo (c := c) (d := ck_pl (rm_ck r c)) hr hw hc hf hpl
        have K := ck_la r c (ck_pl (rm_ck r c)) none
        obtain ⟨s2, e2, F2, m2⟩ := qm_ends (c := c) (j := j) (a := 0) m1 (wf_la hw hpl) hc (by rw [K.1]; exact hj) (by rw [K.2.2.2.2.1]; exact hjn)
        refine ⟨s2, ?_, dm_tr F1 F2, m2⟩
        rw [e1, q_bv, show f_X12_ends ln (nI c) 0 s1 = _ from e2, q_bv]
    | some i =>
      have hi := (List.getElem?_eq_some_iff.mp (sg_pos_lt hp)).1
      by_cases hk : jb_ki (rm_jb r j) = 1
      · have ec : decide (jb_ki (rm_jb r j) = 1) = (some i).isSome := decide_eq_true hk
        rw [if_pos hk, if_pos ec, if_pos (show (1 : Int32) = bI (some i).isSome from rfl)]
        obtain ⟨s1, e1, F1, m1⟩ := qm_letsGo (c := c) (d := ck_pl (rm_ck r c)) hr hw hc hf hpl
        have K := ck_la r c (ck_pl (rm_ck r c)) none
        obtain ⟨s2, e2, F2, m2⟩ := qm_ends (c := c) (j := j) (a := 0) m1 (wf_la hw hpl) hc (by rw [K.1]; exact hj) (by rw [K.2.2.2.2.1]; exact hjn)
        refine ⟨s2, ?_, dm_tr F1 F2, m2⟩
        rw [e1, q_bv, show f_X12_ends ln (nI c) 0 s1 = _ from e2, q_bv]
      · have ec : ¬ decide (jb_ki (rm_jb r j) = 1) = (some i).isSome := by rw [decide_eq_false hk]; exact Bool.false_ne_true
        simp only [if_neg hk] at fin ⊢
        rw [if_neg (bI_s2 i), eb, q_bv, if_pos trivial, if_neg ec]
        obtain ⟨s1, e1, F1, m1⟩ := qm_cardOut (c := c) (k := i) (h := ck_so (rm_ck r c)) (z := 0) mb (wf_sD hw ⟨hco.1, hco.2⟩) hpl (sD_at _ _ _) (by show (dv_hs (ck_co (rm_ck r c))).length ≤ 12; omega) (by show _ < (dv_hs (ck_co (rm_ck r c))).length; omega) h0
        rw [sD_sD] at m1
        have hl := List.length_eraseIdx_le (dv_hs (ck_co (rm_ck r c))) i
        have m1 : rp_M ln s1 (sg_sD r (ck_pl (rm_ck r c)) (dv_lev (rm_dr r (ck_pl (rm_ck r c))), (dv_hs (ck_co (rm_ck r c))).eraseIdx i, dv_cs (ck_co (rm_ck r c)), dv_hi (ck_co (rm_ck r c)), dv_th (ck_co (rm_ck r c)), dv_la (rm_dr r (ck_pl (rm_ck r c))))) := m1
        rw [h0] at m1
        obtain ⟨s2, e2, F2, m2⟩ := fin s1 _ (dm_tr Fb F1) m1 rfl (by show (List.eraseIdx _ _).length ≤ _; omega) hco.2 (fun q => by
          have q : ((dv_hs (ck_co (rm_ck r c))).eraseIdx i).length = 2 * rm_b r + 1 := q
          omega)
        exact ⟨s2, e1.trans e2, F2, m2⟩
  · rw [if_neg (show ¬ nI (dv_lev (rm_dr r (ck_pl (rm_ck r c)))) = (0 : Int32) from nI_lit (k := 0) (by omega) (by omega) h0), if_neg h0, eb, q_bv]
    obtain ⟨w4a, n, hn⟩ := w4 (by omega)
    rw [show (ck_ri (rm_ck r c)).getD 0 = n from by rw [hn]; rfl]
    have fin : ∀ (s1 : dr_S) (X : sg_D), dm_F s s1 → rp_M ln s1 (sg_sD r (ck_pl (rm_ck r c)) X) → dv_lev X = dv_lev (rm_dr r (ck_pl (rm_ck r c))) → (dv_hs X).length ≤ 2 * rm_b r + 1 → (dv_cs X).length = (dv_hs X).length + 1 → ∃ s', f_X12_writes_p353 ln (nI c) (nI (ck_pl (rm_ck r c))) s1 = some (0, s') ∧ dm_F s s' ∧ rp_M ln s' (sg_done (sg_sD r (ck_pl (rm_ck r c)) X) c (ck_pl (rm_ck r c))) := by
      intro s1 X F1 m1 x1 x2 x3
      have hwx : wf_sz (sg_sD r (ck_pl (rm_ck r c)) X) := wf_sD hw ⟨x2, by omega⟩
      have ed : rm_dr (sg_sD r (ck_pl (rm_ck r c)) X) (ck_pl (rm_ck r c)) = X := sD_at r _ X
      obtain ⟨s3, e3, F3, m3⟩ := qm_done (c := c) (d := ck_pl (rm_ck r c)) (j := j) m1 hwx hckp hc hf hat rfl hpl hj hjn (by rw [ed, x1]; exact hlv) (by rw [ed]; intro _; exact x3) (fun _ => w5 (Or.inr (by omega)))
      exact ⟨s3, e3, dm_tr F1 F3, m3⟩
    cases hp : sg_pos (dv_hs (ck_co (rm_ck r c))) (ck_so (rm_ck r c)) with
    | none =>
      rw [if_pos (show bI (none : Option Nat).isSome = (0 : Int32) from rfl)]
      obtain ⟨b1, b2, b3⟩ := mM_dr mb _ hpl
      rw [sD_at] at b2
      rw [m_rdb L 32 256 rfl (by decide) (by decide) (by omega), b2.1, nI_1, q_let]
      obtain ⟨s1, e1, F1, m1⟩ := qm_childIn (c := c) (d := ck_pl (rm_ck r c)) (k := sg_way (rm_ru r) (dv_hs (ck_co (rm_ck r c))) (ck_so (rm_ck r c))) (h := ck_so (rm_ck r c)) (n := n) mb (wf_sD hw ⟨hco.1, hco.2⟩) hc hn hpl (sD_at _ _ _) w4a (by show (dv_hs (ck_co (rm_ck r c))).length ≤ 12; omega) wl
      rw [sD_sD] at m1
      rw [e1]
      have m1 : rp_M ln s1 (sg_sD r (ck_pl (rm_ck r c)) (dv_lev (rm_dr r (ck_pl (rm_ck r c))), dv_hs (ck_co (rm_ck r c)), sg_ins (dv_cs (ck_co (rm_ck r c))) (sg_way (rm_ru r) (dv_hs (ck_co (rm_ck r c))) (ck_so (rm_ck r c)) + 1) n, dv_hi (ck_co (rm_ck r c)), dv_th (ck_co (rm_ck r c)), dv_la (rm_dr r (ck_pl (rm_ck r c))))) := m1
      have hl := sg_ins_len (v := ck_so (rm_ck r c)) wl
      have hl2 := sg_ins_len (l := dv_cs (ck_co (rm_ck r c))) (k := sg_way (rm_ru r) (dv_hs (ck_co (rm_ck r c))) (ck_so (rm_ck r c)) + 1) (v := n) (by omega)
      obtain ⟨s2, e2, F2, m2⟩ := qm_comes (k := sg_way (rm_ru r) (dv_hs (ck_co (rm_ck r c))) (ck_so (rm_ck r c))) (h := ck_so (rm_ck r c)) m1 (wf_sD hw ⟨hco.1, by show (sg_ins _ _ _).length ≤ _; omega⟩) hpl (sD_at _ _ _) (by show (dv_hs (ck_co (rm_ck r c))).length ≤ 12; omega) (by show (sg_ins _ _ _).length ≤ 13; omega) wl
      rw [sD_sD] at m2
      rw [e2, q_bv]
      have m2 : rp_M ln s2 (sg_sD r (ck_pl (rm_ck r c)) (dv_lev (rm_dr r (ck_pl (rm_ck r c))), sg_ins (dv_hs (ck_co (rm_ck r c))) (sg_way (rm_ru r) (dv_hs (ck_co (rm_ck r c))) (ck_so (rm_ck r c))) (ck_so (rm_ck r c)), sg_ins (dv_cs (ck_co (rm_ck r c))) (sg_way (rm_ru r) (dv_hs (ck_co (rm_ck r c))) (ck_so (rm_ck r c)) + 1) n, dv_hi (ck_co (rm_ck r c)), dv_th (ck_co (rm_ck r c)), dv_la (rm_dr r (ck_pl (rm_ck r c))))) := m2
      exact fin s2 _ (dm_tr Fb (dm_tr F1 F2)) m2 rfl (by show (sg_ins _ _ _).length ≤ _; omega) (by show (sg_ins _ _ _).length = (sg_ins _ _ _).length + 1; omega)
    | some i =>
      have hi := (List.getElem?_eq_some_iff.mp (sg_pos_lt hp)).1
      obtain ⟨kb1, kb2, kb3, kb4, kb5, kb6, kb7, kb8⟩ := mM_ck mb c hc
      have e43 : sb.1 43 c = nI n := by rw [kb5, show ck_ri (rm_ck (sg_sD r (ck_pl (rm_ck r c)) _) c) = some n from hn]; rfl
      dsimp only
      rw [if_neg (bI_s i), m_rdb L 43 4 rfl (by decide) (by decide) hc, e43, c14, nI_add, nI_1, m_wrb L 34 3584 rfl (by decide) (by decide) (by omega)]
      have m1 : rp_M ln (dr_put sb 34 (14 * ck_pl (rm_ck r c) + i + 1) (nI n)) (sg_sD (sg_sD r (ck_pl (rm_ck r c)) (dv_lev (rm_dr r (ck_pl (rm_ck r c))), dv_hs (ck_co (rm_ck r c)), dv_cs (ck_co (rm_ck r c)), dv_hi (ck_co (rm_ck r c)), dv_th (ck_co (rm_ck r c)), dv_la (rm_dr r (ck_pl (rm_ck r c))))) (ck_pl (rm_ck r c)) (dv_lev (rm_dr r (ck_pl (rm_ck r c))), dv_hs (ck_co (rm_ck r c)), (dv_cs (ck_co (rm_ck r c))).set (i + 1) n, dv_hi (ck_co (rm_ck r c)), dv_th (ck_co (rm_ck r c)), dv_la (rm_dr r (ck_pl (rm_ck r c))))) := by
        obtain ⟨b1, ⟨b2, b3, b4, b5, b6⟩, b7⟩ := mM_dr mb _ hpl
        rw [sD_at] at b1 b2 b3 b4 b5 b6 b7
        refine rm_sD mb (wf_sD hw ⟨hco.1, hco.2⟩) hpl (by rw [sD_at]; rfl) (fun a h1 h2 h3 => q_putO (by omega)) rfl (fun e he hne => ⟨rfl, rfl, rfl, rfl, rfl, fun _ _ => rfl, fun k hk => ?_⟩) ⟨b1, ⟨b2, b3, b4, b5, fun hl k g hk => ?_⟩, b7⟩
        · show upd (sb.1 34) _ _ _ = _
          rw [q_updO (by omega)]
        · have hk : ((dv_cs (ck_co (rm_ck r c))).set (i + 1) n)[k]? = some g := hk
          show upd (sb.1 34) (14 * ck_pl (rm_ck r c) + i + 1) (nI n) (14 * ck_pl (rm_ck r c) + k) = _
          rw [List.getElem?_set] at hk
          by_cases e : i + 1 = k
          · rw [if_pos e, if_pos (by omega)] at hk
            cases hk
            subst e
            rw [show 14 * ck_pl (rm_ck r c) + (i + 1) = 14 * ck_pl (rm_ck r c) + i + 1 from rfl, q_updS]
          · rw [if_neg e] at hk
            rw [q_updO (by omega)]
            exact b6 hl k g hk
      rw [sD_sD] at m1
      exact fin _ _ (dm_put _ _ _ Fb (by decide)) m1 rfl (by show (dv_hs (ck_co (rm_ck r c))).length ≤ _; omega) (by show (List.set _ _ _).length = (dv_hs (ck_co (rm_ck r c))).length + 1; rw [List.length_set]; exact w4a)

/-! 89: fault, step -/
theorem q11_idleC {ln : Nat → Nat} {s : dr_S} {r : sg_R} {c : Nat} (h : rp_C ln s r) (hc : c < 4) (hat : ck_at (rm_ck r c) ≤ 4) : f_X11_isIdleClerk ln (nI c) s = some (if ck_at (rm_ck r c) = 0 then 1 else 0, s) := by
  unfold f_X11_isIdleClerk f_X11_isClerk
  rw [if_neg (nI_pos (by omega)), if_neg (show ¬ (4 : Int32) ≤ nI c from nI_ge (b := 4) (by omega) (by omega)), q_bi, if_neg (by decide), q11_idle h hc hat, q_bi]
  by_cases e : ck_at (rm_ck r c) = 0
  · rw [if_pos e, if_neg (by decide)]
  · rw [if_neg e, if_pos rfl]
theorem at_ite {A B : Option (Int32 × dr_S)} {n : Nat} (hn : n ≤ 4) : (if nI n = (0 : Int32) then A else B) = if n = 0 then A else B := by
  by_cases e : n = 0
  · rw [if_pos e, e, if_pos (show nI 0 = (0 : Int32) from rfl)]
  · rw [if_neg e, if_neg (show ¬ nI n = (0 : Int32) from nI_lit (k := 0) (by omega) (by omega) e)]
theorem ok_fault {ln : Nat → Nat} {s : dr_S} {r : sg_R} (h : rr ln s r) (x y : Int32) : call_ok ln (f_X11_fault ln x y) (f_X12_fault ln x y) s r := by
  have h0 := h
  obtain ⟨hC, hM, ⟨hiv, hi2⟩, h204, h203⟩ := h
  have hiv0 := hiv
  obtain ⟨rk, t, st, hp, hT, hcn⟩ := hiv
  have L := mM_L hM
  rcases cl_cases x with q | ⟨c, hc, ec, qc⟩
  · refine call_ro h0 0 ?_ ?_
    · unfold f_X11_fault f_X11_isIdleClerk
      rw [(q ln s).1, q_bi, if_pos rfl, q_bi, if_pos rfl]
    · unfold f_X12_fault
      rw [(q ln s).2, q_bi, if_pos rfl]
  · obtain ⟨k1, k2, k3, k4⟩ := st.2.2.2.1 c hc
    have e12 : f_X12_fault ln x y s = (if ck_at (rm_ck r c) = 0 then dr_bnd (f_X12_in ln y 0 2 s) (fun r5 s4 => (if r5 = 0 then some (0, s4) else (dr_wr ln s4 38 (nI c) y).bind (fun s6 => some (1, s6)))) else some (0, s)) := by
      unfold f_X12_fault
      rw [(qc ln s).2, q_bi, if_neg (by decide), ec, m_rdb L 39 4 rfl (by decide) (by decide) hc, (mM_ck hM c hc).2.1, at_ite k2]
    have e11 : f_X11_fault ln x y s = (if ck_at (rm_ck r c) = 0 then (if y < 0 then some (0, s) else (if y ≤ 2 then dr_bndv (f_X3_set ln (nI c) 5 y s) (fun s3 => some (1, s3)) else some (0, s))) else some (0, s)) := by
      unfold f_X11_fault
      rw [ec, q11_idleC hC hc k2, q_bi]
      by_cases e : ck_at (rm_ck r c) = 0
      · rw [if_pos e, if_pos e, if_neg (by decide)]
      · rw [if_neg e, if_neg e, if_pos rfl]
    by_cases hat : ck_at (rm_ck r c) = 0
    · rw [if_pos hat] at e11 e12
      rcases in_cases y 2 (by omega) with ⟨g, g2⟩ | ⟨f, hf, ef, g2⟩
      · refine call_ro h0 0 ?_ ?_
        · rw [e11]
          rcases g with g | g
          · rw [if_pos g]
          · rw [if_neg (nI_gex (n := 3) (by omega) g), if_neg (show ¬ y ≤ 2 from le_lit (n := 2) (by omega) g)]
        · rw [e12, show f_X12_in ln y 0 2 s = _ from g2 ln s, q_bi, if_pos rfl]
      · rw [ef, if_neg (nI_pos (by omega)), if_pos (show nI f ≤ 2 from nI_le (b := 2) (by omega) (by omega))] at e11
        rw [show f_X12_in ln y 0 2 s = _ from g2 ln s, q_bi, if_neg (by decide), ef] at e12
        obtain ⟨s1, a1, C1⟩ := q3_set (c := c) (k := 5) (v := nI f) hC.1 hc (by omega) (Or.inl h204)
        rw [show f_X3_set ln (nI c) 5 (nI f) s = _ from a1, q_bv] at e11
        have m1 : rp_mem (upd (s.1 14) (cp (rm_b r) c 5) (nI f)) (sg_fault r c f) := by
          have hk := hC.2.2.2.2.2.2.1 c hc
          have ne : ∀ i, i ≠ 5 → cp (rm_b r) c i ≠ cp (rm_b r) c 5 := fun i h q => h (by unfold cp at q; omega)
          refine rp_sK hC.2.2.2 (iv_sz st) hc (fun p h1 h2 => q_updO (h1 5 (by omega))) ⟨?_, ?_, ?_, ?_, ?_, ?_, fun q => absurd hat q, fun q => by rw [show ck_at (ck_at (rm_ck r c), ck_pl (rm_ck r c), ck_jo (rm_ck r c), f, ck_so (rm_ck r c), ck_ri (rm_ck r c), ck_pa (rm_ck r c), ck_co (rm_ck r c)) = 0 from hat] at q; exact absurd q (by decide)⟩
          · rw [q_updO (ne 0 (by decide))]; exact hk.1
          · rw [q_updO (ne 1 (by decide))]; exact hk.2.1
          · rw [q_updO (ne 2 (by decide))]; exact hk.2.2.1
          · rw [q_updO (ne 3 (by decide))]; exact hk.2.2.2.1
          · rw [q_updO (ne 4 (by decide))]; exact hk.2.2.2.2.1
          · rw [q_updS]; rfl
        refine call_mk h0 (by rw [ef]; exact e11) (dc_C C1 h204) (rp_C_of (r' := sg_fault r c f) hC C1 rfl rfl m1) (fun hM1 => ?_) ⟨iv_fault hiv0 hc hat (by omega), iv2_fault hc hi2⟩
        have e12' : f_X12_fault ln x y s1 = some (1, dr_put s1 38 c (nI f)) := by
          unfold f_X12_fault
          rw [(qc ln s1).2, q_bi, if_neg (by decide), ec, m_rdb L 39 4 rfl (by decide) (by decide) hc, (mM_ck hM1 c hc).2.1, at_ite k2, if_pos hat, show f_X12_in ln y 0 2 s1 = _ from g2 ln s1, q_bi, if_neg (by decide), ef, m_wrb L 38 4 rfl (by decide) (by decide) hc]
        refine ⟨_, e12', dm_put _ _ _ (dm_rf _) (by decide), ?_⟩
        obtain ⟨m1', m2, m3, m4, m5, m6, m7, m8⟩ := mM_ck hM1 c hc
        refine rm_sK hM1 (iv_sz st) (fun a h1 h2 h3 => q_putO (by omega)) rfl (fun e he hne => ⟨?_, rfl, rfl, rfl, rfl, rfl, rfl, rfl, rfl, fun _ _ => rfl, fun _ _ => rfl, fun _ _ => rfl⟩) ⟨?_, m2, fun q => absurd hat q, m4, m5, fun q => absurd hat q, fun q => by rw [show ck_at (ck_at (rm_ck r c), ck_pl (rm_ck r c), ck_jo (rm_ck r c), f, ck_so (rm_ck r c), ck_ri (rm_ck r c), ck_pa (rm_ck r c), ck_co (rm_ck r c)) = 0 from hat] at q; exact absurd q (by decide), fun q => absurd hat q⟩
        · show upd (s1.1 38) c (nI f) e = _
          rw [q_updO hne]
        · show upd (s1.1 38) c (nI f) c = _
          rw [q_updS]
          rfl
    · rw [if_neg hat] at e11 e12
      exact call_ro h0 0 e11 e12
/-- steps one behind the other -/
theorem iv_steps {c : Nat} (hc : c < 4) : ∀ (n : Nat) (r : sg_R), iv r → iv2 r → iv (sg_steps r c n).2 ∧ iv2 (sg_steps r c n).2 ∧ (sg_steps r c n).1 ≤ n
  | 0, r, h, h2 => ⟨h, h2, Nat.le_refl _⟩
  | n + 1, r, h, h2 => by
    rw [sg_steps]
    by_cases e : ck_at (rm_ck r c) = 0
    · rw [if_pos e]
      exact ⟨h, h2, Nat.zero_le _⟩
    · rw [if_neg e]
      obtain ⟨a, b, d⟩ := iv_steps hc n (sg_step r c) (iv_step h hc e) (iv2_step h2 e)
      exact ⟨a, b, Nat.succ_le_succ d⟩
theorem ti_end (r : sg_R) (c a : Nat) : rm_ti (sg_end r c a) = rm_ti r := rfl
theorem ti_la (r : sg_R) (c d : Nat) (v : Option Nat) : rm_ti (sg_la r c d v) = rm_ti r := (la_all r c d v).2.1
theorem ti_move (r : sg_R) (c : Nat) (t : Option Nat) : rm_ti (sg_move r c t) = rm_ti r := by
  cases t with
  | none => rfl
  | some t =>
    rw [sg_move_eq]
    split
    · show rm_ti (sg_la (sg_la r c _ none) c t (some c)) = _
      rw [ti_la, ti_la]
    · rfl
theorem ti_done (r : sg_R) (c d : Nat) : rm_ti (sg_done r c d) = rm_ti r := by
  unfold sg_done
  split
  · rw [ti_end, ti_la]
  · rfl
theorem ti_step (r : sg_R) (c : Nat) : rm_ti (sg_step r c) = rm_ti r + 1 := by
  rw [sg_step_eq]
  generalize ck_job (rm_ck r c) = j
  have p : rm_ti (sg_pass r j) = rm_ti r + 1 := rfl
  split
  · rw [sg_read_eq]
    split
    · split <;> rfl
    · split
      · rfl
      · split
        · rfl
        · split
          · show rm_ti (sg_la (sg_pass r j) c _ (some c)) = _
            rw [ti_la, p]
          · rfl
  · split
    · rw [sg_hold_eq]
      split
      · rw [ti_move, p]
      · rfl
    · split
      · rw [sg_write_eq]
        split
        · split
          · rw [ti_end, ti_la, p]
          · rw [ti_done]; rfl
        · rw [ti_done]; rfl
      · split
        · rw [sg_rise_eq]
          split
          · rw [ti_end, ti_la]; rfl
          · rw [ti_move, p]
        · rfl
theorem ti_steps (c : Nat) : ∀ (n : Nat) (r : sg_R), rm_ti (sg_steps r c n).2 ≤ rm_ti r + n
  | 0, r => Nat.le_refl _
  | n + 1, r => by
    rw [sg_steps]
    split
    · exact Nat.le_add_right _ _
    · have := ti_steps c n (sg_step r c)
      rw [ti_step] at this
      show rm_ti (sg_steps (sg_step r c) c n).2 ≤ _
      omega
theorem q11_step_p {ln : Nat → Nat} {c n : Nat} (hc : c < 4) (hn : n ≤ 30) : ∀ (k fu i : Nat) (s : dr_S) (r : sg_R), n = i + k → k < fu → rp_C ln s r → iv r → s.2 204 = 0 → ∃ s', f_X11_step_p33 ln fu (nI c) (nI n) (nI i) s = some (nI (i + (sg_steps r c k).1), s') ∧ dc_F s s' ∧ rp_C ln s' (sg_steps r c k).2
  | k, 0, _, _, _, _, q, _, _, _ => absurd q (Nat.not_lt_zero _)
  | 0, fu + 1, i, s, r, hk, hf, hC, hiv, h204 => by
    rw [f_X11_step_p33, if_pos (nI_le (by omega) (by omega))]
    exact ⟨s, rfl, dc_rf s, hC⟩
  | k + 1, fu + 1, i, s, r, hk, hf, hC, hiv, h204 => by
    have hst := hiv
    obtain ⟨rk, t, st, _⟩ := hst
    rw [f_X11_step_p33, if_neg (nI_ge (a := i) (b := n) (by omega) (by omega)), q11_idle hC hc (st.2.2.2.1 c hc).2.1, q_bi, sg_steps]
    by_cases e : ck_at (rm_ck r c) = 0
    · rw [if_pos e, if_pos e, if_neg (by decide)]
      exact ⟨s, rfl, dc_rf s, hC⟩
    · rw [if_neg e, if_neg e, if_pos rfl]
      obtain ⟨s1, g, a1, C1, m1⟩ := q10_go hC (iv_one hiv hc e).1 (Or.inl h204)
      rw [a1, q_bv, q_let, nI_1]
      have kk := (sk_step e).1
      obtain ⟨s2, a2, F2, m2⟩ := q11_step_p hc hn k fu (i + 1) s1 (sg_step r c) (by omega) (by omega) (rp_C_of (r' := sg_step r c) hC C1 kk.2.2.1.1 kk.2.2.1.2.1 m1) (iv_step hiv hc e) (by rw [C1.2.2.1 204 (by decide)]; exact h204)
      refine ⟨s2, ?_, dc_tr (dc_C C1 h204) F2, m2⟩
      rw [a2, show i + 1 + (sg_steps (sg_step r c) c k).1 = i + ((sg_steps (sg_step r c) c k).1 + 1) by omega]
theorem qm_step_p {ln : Nat → Nat} {c n : Nat} (hc : c < 4) (hn : n ≤ 30) : ∀ (k fu i : Nat) (s : dr_S) (r : sg_R), n = i + k → k < fu → rp_M ln s r → iv r → ∃ s', f_X12_step_p32 ln fu (nI c) (nI n) (nI i) s = some (nI (i + (sg_steps r c k).1), s') ∧ dm_F s s' ∧ rp_M ln s' (sg_steps r c k).2
  | k, 0, _, _, _, _, q, _, _ => absurd q (Nat.not_lt_zero _)
  | 0, fu + 1, i, s, r, hk, hf, hM, hiv => by
    rw [f_X12_step_p32, if_pos (nI_le (by omega) (by omega))]
    exact ⟨s, rfl, dm_rf s, hM⟩
  | k + 1, fu + 1, i, s, r, hk, hf, hM, hiv => by
    have hst := hiv
    obtain ⟨rk, t, st, _⟩ := hst
    rw [f_X12_step_p32, if_neg (nI_ge (a := i) (b := n) (by omega) (by omega)), m_rdb (mM_L hM) 39 4 rfl (by decide) (by decide) hc, (mM_ck hM c hc).2.1, at_ite (st.2.2.2.1 c hc).2.1, sg_steps]
    by_cases e : ck_at (rm_ck r c) = 0
    · rw [if_pos e, if_pos e]
      exact ⟨s, rfl, dm_rf s, hM⟩
    · rw [if_neg e, if_neg e]
      obtain ⟨s1, a1, F1, m1⟩ := qm_one hM (iv_one hiv hc e)
      rw [a1, q_bv, q_let, nI_1]
      obtain ⟨s2, a2, F2, m2⟩ := qm_step_p hc hn k fu (i + 1) s1 (sg_step r c) (by omega) (by omega) m1 (iv_step hiv hc e)
      refine ⟨s2, ?_, dm_tr F1 F2, m2⟩
      rw [a2, show i + 1 + (sg_steps (sg_step r c) c k).1 = i + ((sg_steps (sg_step r c) c k).1 + 1) by omega]
theorem ok_step {ln : Nat → Nat} {s : dr_S} {r : sg_R} (h : rr ln s r) (x y : Int32) : call_ok ln (f_X11_step ln x y) (f_X12_step ln x y) s r := by
  have h0 := h
  obtain ⟨hC, hM, ⟨hiv, hi2⟩, h204, h203⟩ := h
  have hiv0 := hiv
  obtain ⟨rk, t, st, hp, hT, hcn⟩ := hiv
  have L := mM_L hM
  rcases cl_cases x with q | ⟨c, hc, ec, qc⟩
  · refine call_ro h0 (-1) ?_ ?_
    · unfold f_X11_step
      rw [(q ln s).1, q_bi, if_pos rfl]
    · unfold f_X12_step
      rw [(q ln s).2, q_bi, if_pos rfl]
  · obtain ⟨k1, k2, k3, k4⟩ := st.2.2.2.1 c hc
    have e12 : ∀ s', rp_M ln s' r → f_X12_step ln x y s' = (if ck_at (rm_ck r c) = 0 then some ((-1), s') else dr_bnd (f_X12_in ln y 1 30 s') (fun r5 s4 => (if r5 = 0 then some ((-1), s4) else (f_X12_step_p32 ln dr_N (nI c) y 0 s4)))) := by
      intro s' hM'
      unfold f_X12_step
      rw [(qc ln s').2, q_bi, if_neg (by decide), ec, m_rdb L 39 4 rfl (by decide) (by decide) hc, (mM_ck hM' c hc).2.1, at_ite k2]
    have e11 : f_X11_step ln x y s = (if ck_at (rm_ck r c) = 0 then some ((-1), s) else (if y < 1 then some ((-1), s) else (if y ≤ 30 then (f_X11_step_p33 ln dr_N (nI c) y 0 s) else some ((-1), s)))) := by
      unfold f_X11_step
      rw [(qc ln s).1, q_bi, if_neg (by decide), ec, q11_idle hC hc k2, q_bi]
      by_cases e : ck_at (rm_ck r c) = 0
      · rw [if_pos e, if_pos e, if_neg (by decide)]
      · rw [if_neg e, if_neg e, if_pos rfl]
    have e12s := e12 s hM
    by_cases hat : ck_at (rm_ck r c) = 0
    · rw [if_pos hat] at e11 e12s
      exact call_ro h0 (-1) e11 e12s
    · rw [if_neg hat] at e11 e12s
      by_cases hy1 : y < 1
      · refine call_ro h0 (-1) (by rw [e11, if_pos hy1]) ?_
        rw [e12s]
        unfold f_X12_in
        rw [if_pos hy1, q_bi, if_pos rfl]
      · by_cases hy2 : y ≤ 30
        · have hy0 : ¬ y < 0 := fun q => hy1 (by
            rw [Int32.lt_iff_toInt_lt] at q ⊢
            have e0 : (0 : Int32).toInt = 0 := rfl
            have e1 : (1 : Int32).toInt = 1 := rfl
            omega)
          obtain ⟨n, hn, en⟩ := nI_of hy0
          rw [en] at hy1 hy2 e11
          have hn30 : n ≤ 30 := (nI_leI (a := n) (b := 30) hn (by omega)).mp hy2
          rw [if_neg hy1, if_pos hy2] at e11
          obtain ⟨s1, a1, F1, m1⟩ := q11_step_p hc hn30 n dr_N 0 s r (by omega) (by unfold dr_N; omega) hC hiv0 h204
          rw [Nat.zero_add] at a1
          obtain ⟨i1, i2, i3⟩ := iv_steps hc n r hiv0 hi2
          refine call_mk h0 (by rw [en, e11]; exact a1) F1 m1 (fun hM1 => ?_) ⟨i1, i2⟩ (by have := ti_steps c n r; omega)
          obtain ⟨s2, a2, F2, m2⟩ := qm_step_p hc hn30 n dr_N 0 s1 r (by omega) (by unfold dr_N; omega) hM1 hiv0
          rw [Nat.zero_add] at a2
          refine ⟨s2, ?_, F2, m2⟩
          rw [e12 s1 hM1, if_neg hat, en]
          unfold f_X12_in
          rw [if_neg hy1, if_neg (show ¬ (30 : Int32) < nI n from nI_nlt (b := n) (a := 30) hn30 (by omega)), q_bi, if_neg (by decide)]
          exact a2
        · refine call_ro h0 (-1) (by rw [e11, if_neg hy1, if_neg hy2]) ?_
          rw [e12s]
          unfold f_X12_in
          rw [if_neg hy1, if_pos (by
            rw [Int32.lt_iff_toInt_lt]
            rw [Int32.le_iff_toInt_le] at hy2
            omega), q_bi, if_pos rfl]

/-! 91: begin; how many clerks, latches -/
theorem ok_begin {ln : Nat → Nat} {s : dr_S} {r : sg_R} (h : rr ln s r) (x y z : Int32) : call_ok ln (f_X11_begin ln x y z) (f_X12_begin ln x y z) s r := by
  have h0 := h
  obtain ⟨hC, hM, ⟨hiv, hi2⟩, h204, h203⟩ := h
  have hiv0 := hiv
  obtain ⟨rk, t, st, hp, hT, hcn⟩ := hiv
  have L := mM_L hM
  have hus := st.1.2.1
  have hnj := st.1.2.2.1
  have gu := q4_inUse hC.1
  rw [hC.2.2.2.2.1] at gu
  have gb := q6_begun hC.1
  rw [hC.2.2.2.2.2.2.2.2.1] at gb
  rcases cl_cases x with q | ⟨c, hc, ec, qc⟩
  · refine call_ro h0 (-1) ?_ ?_
    · unfold f_X11_begin f_X11_isIdleClerk
      rw [(q ln s).1, q_bi, if_pos rfl, q_bi, if_pos rfl]
    · unfold f_X12_begin
      rw [(q ln s).2, q_bi, if_pos rfl]
  · obtain ⟨k1, k2, k3, k4⟩ := st.2.2.2.1 c hc
    have e12 : ∀ s', rp_M ln s' r → f_X12_begin ln x y z s' = (if ck_at (rm_ck r c) = 0 then dr_bnd (f_X12_in ln y 0 2 s') (fun r5 s4 => (if r5 = 0 then some ((-1), s4) else dr_bnd (f_X12_isHeading ln z s4) (fun r7 s6 => (if r7 = 0 then some ((-1), s6) else (if (s6.2 1226) = 120 then some ((-1), s6) else (if y = 1 then dr_bnd (f_X12_used ln  s6) (fun r9 s8 => (if ((60 : Int32) ≤ (256 - r9) : Prop) then (f_X12_begin_p65 ln x y z s8) else some ((-1), s8))) else (f_X12_begin_p65 ln x y z s6))))))) else some ((-1), s')) := by
      intro s' hM'
      unfold f_X12_begin
      rw [(qc ln s').2, q_bi, if_neg (by decide), ec, m_rdb L 39 4 rfl (by decide) (by decide) hc, (mM_ck hM' c hc).2.1, at_ite k2]
    have e11 : f_X11_begin ln x y z s = (if ck_at (rm_ck r c) = 0 then (if y < 0 then some ((-1), s) else (if ((2 : Int32) < y : Prop) then some ((-1), s) else dr_bnd (f_X11_isHeading ln z s) (fun r4 s3 => (if r4 = 0 then some ((-1), s3) else dr_bnd (f_X6_begun ln  s3) (fun r6 s5 => (if r6 < 120 then (if y = 1 then dr_bnd (f_X4_inUse ln  s5) (fun r8 s7 => (if ((60 : Int32) ≤ (256 - r8) : Prop) then (f_X11_begin_p63 ln x y z s7) else some ((-1), s7))) else (f_X11_begin_p63 ln x y z s5)) else some ((-1), s5))))))) else some ((-1), s)) := by
      unfold f_X11_begin
      rw [ec, q11_idleC hC hc k2, q_bi]
      by_cases e : ck_at (rm_ck r c) = 0
      · rw [if_pos e, if_pos e, if_neg (by decide)]
      · rw [if_neg e, if_neg e, if_pos rfl]
    have e12s := e12 s hM
    by_cases hat : ck_at (rm_ck r c) = 0
    · rw [if_pos hat] at e11 e12s
      rcases in_cases y 2 (by omega) with ⟨g, g2⟩ | ⟨kd, hk, ek, g2⟩
      · refine call_ro h0 (-1) ?_ ?_
        · rw [e11]
          rcases g with g | g
          · rw [if_pos g]
          · rw [if_neg (nI_gex (n := 3) (by omega) g), if_pos (show (2 : Int32) < y from nI_ltx (n := 2) (by omega) g)]
        · rw [e12s, show f_X12_in ln y 0 2 s = _ from g2 ln s, q_bi, if_pos rfl]
      · rw [if_neg (show ¬ y < 0 by rw [ek]; exact nI_pos (by omega)), if_neg (show ¬ (2 : Int32) < y by rw [ek]; exact nI_nlt (b := kd) (a := 2) (by omega) (by omega))] at e11
        rw [show f_X12_in ln y 0 2 s = _ from g2 ln s, q_bi, if_neg (by decide)] at e12s
        rcases hd_cases z with q | ⟨hh, hhl, eh, qh⟩
        · refine call_ro h0 (-1) ?_ ?_
          · rw [e11, (q ln s).1, q_bi, if_pos rfl]
          · rw [e12s, (q ln s).2, q_bi, if_pos rfl]
        · rw [(qh ln s).1, q_bi, if_neg (by decide), gb, q_bi] at e11
          rw [(qh ln s).2, q_bi, if_neg (by decide), mM_nj hM] at e12s
          by_cases hn : rm_nj r < 120
          · rw [if_pos (show nI (rm_nj r) < 120 from nI_lt (b := 120) hn (by omega))] at e11
            rw [if_neg (show ¬ nI (rm_nj r) = 120 from nI_lit (k := 120) (by omega) (by omega) (by omega)), qm_used hM hus, q_bi] at e12s
            rw [gu, q_bi] at e11
            have hchn : (rm_ch r).lookup (rm_nj r) = none := ch_none (fun i t hi => (st.2.2.2.2.2.1.1 i t hi).1)
            have e256 : (256 : Int32) - nI (rm_us r) = nI (256 - rm_us r) := by rw [show (256 : Int32) = nI 256 from rfl, pk_sub (by omega)]
            have ekk : ∀ {A B : Option (Int32 × dr_S)}, (if y = 1 then A else B) = if kd = 1 then A else B := by
              intro A B
              by_cases e : kd = 1
              · rw [if_pos e, if_pos (by rw [ek, e]; rfl)]
              · rw [if_neg e, if_neg (by rw [ek]; exact nI_lit (k := 1) (by omega) (by omega) e)]
            have e60 : ∀ {A B : Option (Int32 × dr_S)}, (if ((60 : Int32) ≤ (256 - nI (rm_us r)) : Prop) then A else B) = if rm_us r ≤ 196 then A else B := by
              intro A B
              rw [e256]
              by_cases e : rm_us r ≤ 196
              · rw [if_pos e, if_pos (show (60 : Int32) ≤ nI (256 - rm_us r) from nI_le (a := 60) (by omega) (by omega))]
              · rw [if_neg e, if_neg (show ¬ (60 : Int32) ≤ nI (256 - rm_us r) from nI_ge (b := 60) (by omega) (by omega))]
            rw [ekk, e60] at e11 e12s
            by_cases hgo : kd = 1 ∧ ¬ rm_us r ≤ 196
            · rw [if_pos hgo.1, if_neg hgo.2] at e11 e12s
              exact call_ro h0 (-1) e11 e12s
            · have f11 : f_X11_begin ln x y z s = f_X11_begin_p63 ln x y z s := by
                rw [e11]
                by_cases e : kd = 1
                · rw [if_pos e, if_pos (by omega)]
                · rw [if_neg e]
              obtain ⟨s1, a1, F1, m1⟩ := q11_begin (kind := kd) (h := hh) hC (iv_sz st) hc hn hchn (hi2 c hc hat) h204
              refine call_mk h0 (by rw [f11, ec, ek, eh]; exact a1) F1 m1 (fun hM1 => ?_) ⟨iv_begin hiv0 hc hat (by omega) hhl hn (fun e => by omega), iv2_begin hi2⟩
              obtain ⟨s2, a2, F2, m2⟩ := qm_begin (kind := kd) (h := hh) hM1 (iv_sz st) hc hn (fun e he j hj => (st.2.2.2.1 e he).2.2.1 j hj) (fun j t hj => (st.2.2.2.2.2.1.1 j t hj).1)
              refine ⟨s2, ?_, F2, m2⟩
              rw [e12 s1 hM1, if_pos hat, show f_X12_in ln y 0 2 s1 = _ from g2 ln s1, q_bi, if_neg (by decide), (qh ln s1).2, q_bi, if_neg (by decide), mM_nj hM1, if_neg (show ¬ nI (rm_nj r) = 120 from nI_lit (k := 120) (by omega) (by omega) (by omega)), qm_used hM1 hus, q_bi, ekk, e60]
              by_cases e : kd = 1
              · rw [if_pos e, if_pos (by omega), ec, ek, eh]
                exact a2
              · rw [if_neg e, ec, ek, eh]
                exact a2
          · have hn2 : rm_nj r = 120 := by omega
            refine call_ro h0 (-1) ?_ ?_
            · rw [e11, if_neg (show ¬ nI (rm_nj r) < 120 from nI_nlt (a := rm_nj r) (b := 120) (by omega) (by omega))]
            · rw [e12s, hn2, if_pos (show nI 120 = (120 : Int32) from rfl)]
    · rw [if_neg hat] at e11 e12s
      exact call_ro h0 (-1) e11 e12s
/-- clerks at jobs -/
def nbz (f : Nat → Bool) : Nat → Nat
  | 0 => 0
  | n + 1 => nbz f n + (if f n then 1 else 0)
theorem nbz_le {f : Nat → Bool} : ∀ n, nbz f n ≤ n
  | 0 => Nat.le_refl _
  | n + 1 => by
    rw [nbz]
    have := nbz_le (f := f) n
    split <;> omega
def sg_busy (r : sg_R) : Nat := nbz (fun c => decide (ck_at (rm_ck r c) ≠ 0)) 4
theorem q3_atJobs_p {ln : Nat → Nat} {s : dr_S} {r : sg_R} (hC : rp_C ln s r) (hat : ∀ c, c < 4 → ck_at (rm_ck r c) ≤ 4) : ∀ (k fu i : Nat), 4 = i + k → k < fu → f_X3_atJobs_p4 ln fu (nI (nbz (fun c => decide (ck_at (rm_ck r c) ≠ 0)) i)) (nI i) s = some (nI (sg_busy r), s)
  | k, 0, _, _, q => absurd q (Nat.not_lt_zero _)
  | 0, fu + 1, i, hk, hf => by
    rw [f_X3_atJobs_p4, if_pos (show (4 : Int32) ≤ nI i from nI_le (a := 4) (by omega) (by omega)), show i = 4 by omega]
    rfl
  | k + 1, fu + 1, i, hk, hf => by
    have ih := q3_atJobs_p hC hat k fu (i + 1) (by omega) (by omega)
    rw [nbz] at ih
    rw [f_X3_atJobs_p4, if_neg (show ¬ (4 : Int32) ≤ nI i from nI_ge (b := 4) (by omega) (by omega)), q11_idle hC (by omega) (hat i (by omega)), q_bi]
    unfold f_X3_atJobs_p20
    by_cases e : ck_at (rm_ck r i) = 0
    · rw [if_pos e, if_neg (by decide), q_let, nI_1]
      rw [if_neg (show ¬ decide (ck_at (rm_ck r i) ≠ 0) = true by rw [decide_eq_true_eq]; exact fun q => q e)] at ih
      exact ih
    · rw [if_neg e, if_pos rfl, q_let, q_let, nI_1, nI_1]
      rw [if_pos (decide_eq_true e)] at ih
      exact ih
theorem q3_atJobs {ln : Nat → Nat} {s : dr_S} {r : sg_R} (hC : rp_C ln s r) (hat : ∀ c, c < 4 → ck_at (rm_ck r c) ≤ 4) : f_X3_atJobs ln s = some (nI (sg_busy r), s) := q3_atJobs_p hC hat 4 dr_N 0 (by omega) (by unfold dr_N; omega)
theorem qm_atJobs_p {ln : Nat → Nat} {s : dr_S} {r : sg_R} (hM : rp_M ln s r) (hat : ∀ c, c < 4 → ck_at (rm_ck r c) ≤ 4) : ∀ (k fu i : Nat), 4 = i + k → k < fu → f_X12_atJobs_p4 ln fu (nI (nbz (fun c => decide (ck_at (rm_ck r c) ≠ 0)) i)) (nI i) s = some (nI (sg_busy r), s)
  | k, 0, _, _, q => absurd q (Nat.not_lt_zero _)
  | 0, fu + 1, i, hk, hf => by
    rw [f_X12_atJobs_p4, if_pos (show (4 : Int32) ≤ nI i from nI_le (a := 4) (by omega) (by omega)), show i = 4 by omega]
    rfl
  | k + 1, fu + 1, i, hk, hf => by
    have ih := qm_atJobs_p hM hat k fu (i + 1) (by omega) (by omega)
    rw [nbz] at ih
    rw [f_X12_atJobs_p4, if_neg (show ¬ (4 : Int32) ≤ nI i from nI_ge (b := 4) (by omega) (by omega)), m_rdb (mM_L hM) 39 4 rfl (by decide) (by decide) (by omega), (mM_ck hM i (by omega)).2.1, at_ite (hat i (by omega))]
    unfold f_X12_atJobs_p24
    by_cases e : ck_at (rm_ck r i) = 0
    · rw [if_pos e, q_let, q_let, nI_1, show ∀ x : Int32, x + 0 = x from Int32.add_zero]
      rw [if_neg (show ¬ decide (ck_at (rm_ck r i) ≠ 0) = true by rw [decide_eq_true_eq]; exact fun q => q e)] at ih
      exact ih
    · rw [if_neg e, q_let, q_let, nI_1, nI_1]
      rw [if_pos (decide_eq_true e)] at ih
      exact ih
theorem qm_atJobs {ln : Nat → Nat} {s : dr_S} {r : sg_R} (hM : rp_M ln s r) (hat : ∀ c, c < 4 → ck_at (rm_ck r c) ≤ 4) : f_X12_atJobs ln s = some (nI (sg_busy r), s) := qm_atJobs_p hM hat 4 dr_N 0 (by omega) (by unfold dr_N; omega)
/-- latches -/
def sg_lat (r : sg_R) : Nat := nbz (fun d => (dv_la (rm_dr r d)).isSome) (rm_us r)
theorem q4_latched_p {ln : Nat → Nat} {s : dr_S} {r : sg_R} (hC : rp_C ln s r) (hus : rm_us r ≤ 256) (hla : ∀ d, d < rm_us r → ∀ e, dv_la (rm_dr r d) = some e → e < 4) : ∀ (k fu i : Nat), rm_us r = i + k → k < fu → f_X4_latched_p4 ln fu (nI (nbz (fun d => (dv_la (rm_dr r d)).isSome) i)) (nI i) s = some (nI (sg_lat r), s)
  | k, 0, _, _, q => absurd q (Nat.not_lt_zero _)
  | 0, fu + 1, i, hk, hf => by
    have gu := q4_inUse hC.1
    rw [hC.2.2.2.2.1] at gu
    rw [f_X4_latched_p4, gu, q_bi, if_pos (nI_le (by omega) (by omega)), show i = rm_us r by omega]
    rfl
  | k + 1, fu + 1, i, hk, hf => by
    have gu := q4_inUse hC.1
    have hb := hC.1.1
    rw [hC.2.2.2.2.1] at gu
    have ih := q4_latched_p hC hus hla k fu (i + 1) (by omega) (by omega)
    rw [nbz] at ih
    have g4 := q4_get (d := i) (k := 4) hC.1 (by omega) (by omega)
    rw [(hC.2.2.2.2.2.1 i (by omega)).2] at g4
    rw [f_X4_latched_p4, gu, q_bi, if_neg (nI_ge (by omega) (by omega)), show f_X4_get ln (nI i) 4 s = _ from g4, q_bi]
    unfold f_X4_latched_p25
    cases hl : dv_la (rm_dr r i) with
    | none =>
      rw [hl] at ih
      rw [if_pos (show nO none = (-1 : Int32) from rfl), q_let, nI_1]
      exact ih
    | some e =>
      rw [hl] at ih
      have := hla i (by omega) e hl
      rw [if_neg (show ¬ nO (some e) = (-1 : Int32) from n1_ne (by omega)), q_let, q_let, nI_1, nI_1]
      exact ih
theorem q4_latched {ln : Nat → Nat} {s : dr_S} {r : sg_R} (hC : rp_C ln s r) (hus : rm_us r ≤ 256) (hla : ∀ d, d < rm_us r → ∀ e, dv_la (rm_dr r d) = some e → e < 4) : f_X4_latched ln s = some (nI (sg_lat r), s) := q4_latched_p hC hus hla (rm_us r) dr_N 0 (by omega) (by unfold dr_N; omega)
theorem qm_latched_p {ln : Nat → Nat} {s : dr_S} {r : sg_R} (hM : rp_M ln s r) (hus : rm_us r ≤ 256) (hla : ∀ d, d < rm_us r → ∀ e, dv_la (rm_dr r d) = some e → e < 4) : ∀ (k fu i n : Nat), 256 = i + k → k < fu → n = nbz (fun d => (dv_la (rm_dr r d)).isSome) (min i (rm_us r)) → f_X12_count_p93 ln fu (nI n) (nI i) s = some (nI (sg_lat r), s)
  | k, 0, _, _, _, q, _ => absurd q (Nat.not_lt_zero _)
  | 0, fu + 1, i, n, hk, hf, hn => by
    rw [f_X12_count_p93, if_pos (show (256 : Int32) ≤ nI i from nI_le (a := 256) (by omega) (by omega)), hn, show min i (rm_us r) = rm_us r by omega]
    rfl
  | k + 1, fu + 1, i, n, hk, hf, hn => by
    rw [f_X12_count_p93, if_neg (show ¬ (256 : Int32) ≤ nI i from nI_ge (b := 256) (by omega) (by omega)), m_rdb (mM_L hM) 37 256 rfl (by decide) (by decide) (by omega)]
    unfold f_X12_count_p116
    by_cases e : i < rm_us r
    · rw [show min i (rm_us r) = i by omega] at hn
      rw [(mM_dr hM i e).2.2]
      cases hl : dv_la (rm_dr r i) with
      | none =>
        rw [if_pos (show nO none = (-1 : Int32) from rfl), q_let, q_let, nI_1, show ∀ x : Int32, x + 0 = x from Int32.add_zero]
        refine qm_latched_p hM hus hla k fu (i + 1) n (by omega) (by omega) ?_
        rw [show min (i + 1) (rm_us r) = i + 1 by omega, nbz, hl, hn]
        rfl
      | some c =>
        have := hla i e c hl
        rw [if_neg (show ¬ nO (some c) = (-1 : Int32) from n1_ne (by omega)), q_let, q_let, nI_1, nI_1]
        refine qm_latched_p hM hus hla k fu (i + 1) (n + 1) (by omega) (by omega) ?_
        rw [show min (i + 1) (rm_us r) = i + 1 by omega, nbz, hl, hn]
        rfl
    · rw [mM_la hM i (by omega) (by omega), if_pos rfl, q_let, q_let, nI_1, show ∀ x : Int32, x + 0 = x from Int32.add_zero]
      refine qm_latched_p hM hus hla k fu (i + 1) n (by omega) (by omega) ?_
      rw [hn, show min (i + 1) (rm_us r) = min i (rm_us r) by omega]
theorem qm_latched {ln : Nat → Nat} {s : dr_S} {r : sg_R} (hM : rp_M ln s r) (hus : rm_us r ≤ 256) (hla : ∀ d, d < rm_us r → ∀ e, dv_la (rm_dr r d) = some e → e < 4) : f_X12_count_p93 ln dr_N 0 0 s = some (nI (sg_lat r), s) := qm_latched_p hM hus hla 256 dr_N 0 0 (by omega) (by unfold dr_N; omega) (by rw [show min 0 (rm_us r) = 0 by omega]; rfl)

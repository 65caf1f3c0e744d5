/-! 87: calls: what holds between them; the plain ones -/
def rr (ln : Nat → Nat) (s : dr_S) (r : sg_R) : Prop := rp_C ln s r ∧ rp_M ln s r ∧ (iv r ∧ iv2 r) ∧ s.2 204 = 0 ∧ s.2 203 = 0
/-- both answer alike, and all holds again -/
def call_ok (ln : Nat → Nat) (F G : dr_S → Option (Int32 × dr_S)) (s : dr_S) (r : sg_R) : Prop := ∃ v s1 s2 r', F s = some (v, s1) ∧ G s1 = some (v, s2) ∧ rr ln s2 r' ∧ rm_ti r' ≤ rm_ti r + 30
theorem call_ro {ln : Nat → Nat} {F G : dr_S → Option (Int32 × dr_S)} {s : dr_S} {r : sg_R} (h : rr ln s r) (v : Int32) (h1 : F s = some (v, s)) (h2 : G s = some (v, s)) : call_ok ln F G s r := ⟨v, s, s, r, h1, h2, h, Nat.le_add_right _ _⟩
/-- the reference's part stays -/
def dc_F (s s1 : dr_S) : Prop := (∀ a, 28 ≤ a → s1.1 a = s.1 a) ∧ (∀ f, 1200 ≤ f → s1.2 f = s.2 f) ∧ s1.2 204 = s.2 204 ∧ s1.2 203 = s.2 203
theorem dc_rf (s : dr_S) : dc_F s s := ⟨fun _ _ => rfl, fun _ _ => rfl, rfl, rfl⟩
theorem dc_tr {s s1 s2 : dr_S} (h1 : dc_F s s1) (h2 : dc_F s1 s2) : dc_F s s2 := ⟨fun a h => (h2.1 a h).trans (h1.1 a h), fun a h => (h2.2.1 a h).trans (h1.2.1 a h), h2.2.2.1.trans h1.2.2.1, h2.2.2.2.trans h1.2.2.2⟩
theorem dc_C {s s1 : dr_S} {g : Nat → Int32} {k : Nat} (h : dq_C s s1 g k) (h0 : s.2 204 = 0) : dc_F s s1 := ⟨fun a ha => h.2.1 a (by omega) (by omega) (by omega), fun f hf => h.2.2.1 f (by omega), h.2.2.1 204 (by decide), h.2.2.2.2.2 h0⟩
theorem rM_fr {ln : Nat → Nat} {s s1 : dr_S} {r : sg_R} (h : rp_M ln s r) (ha : ∀ a, 28 ≤ a → a < 60 → s1.1 a = s.1 a) (hf : ∀ f, 1200 ≤ f → f < 1240 → s1.2 f = s.2 f) : rp_M ln s1 r := by
  unfold rp_M rp_mrow rp_mck rp_mrow
  rw [hf 1200 (by decide) (by decide), hf 1201 (by decide) (by decide), hf 1204 (by decide) (by decide), hf 1205 (by decide) (by decide), hf 1226 (by decide) (by decide), hf 1234 (by decide) (by decide), ha 28 (by decide) (by decide), ha 29 (by decide) (by decide), ha 30 (by decide) (by decide), ha 31 (by decide) (by decide), ha 32 (by decide) (by decide), ha 33 (by decide) (by decide), ha 34 (by decide) (by decide), ha 35 (by decide) (by decide), ha 36 (by decide) (by decide), ha 37 (by decide) (by decide), ha 38 (by decide) (by decide), ha 39 (by decide) (by decide), ha 40 (by decide) (by decide), ha 41 (by decide) (by decide), ha 42 (by decide) (by decide), ha 43 (by decide) (by decide), ha 44 (by decide) (by decide), ha 45 (by decide) (by decide), ha 46 (by decide) (by decide), ha 47 (by decide) (by decide), ha 48 (by decide) (by decide), ha 49 (by decide) (by decide), ha 50 (by decide) (by decide), ha 51 (by decide) (by decide), ha 52 (by decide) (by decide), ha 53 (by decide) (by decide), ha 54 (by decide) (by decide), ha 55 (by decide) (by decide), ha 56 (by decide) (by decide), ha 57 (by decide) (by decide), ha 58 (by decide) (by decide), ha 59 (by decide) (by decide)]
  exact h
theorem rM_dc {ln : Nat → Nat} {s s1 : dr_S} {r : sg_R} (h : rp_M ln s r) (hd : dc_F s s1) : rp_M ln s1 r := rM_fr h (fun a ha _ => hd.1 a ha) (fun f hf _ => hd.2.1 f hf)
theorem rC_fr {ln : Nat → Nat} {s s1 : dr_S} {r : sg_R} (h : rp_C ln s r) (ha : s1.1 14 = s.1 14 ∧ s1.1 18 = s.1 18) (hf : ∀ f, f ∈ [402, 403, 404, 405, 406, 301, 601, 602, 603, 503] → s1.2 f = s.2 f) : rp_C ln s1 r := by
  unfold rp_C dq_G rp_rule
  rw [ha.1, ha.2, hf 402 (by decide), hf 403 (by decide), hf 404 (by decide), hf 405 (by decide), hf 406 (by decide), hf 301 (by decide), hf 601 (by decide), hf 602 (by decide), hf 603 (by decide), hf 503 (by decide)]
  exact h
theorem rC_dm {ln : Nat → Nat} {s s1 : dr_S} {r : sg_R} (h : rp_C ln s r) (hd : dm_F s s1) : rp_C ln s1 r := rC_fr h ⟨hd.1 14 (by decide), hd.1 18 (by decide)⟩ (fun f hf => hd.2.1 f (by
  simp only [List.mem_cons, List.not_mem_nil, or_false] at hf
  omega))
theorem call_mk {ln : Nat → Nat} {F G : dr_S → Option (Int32 × dr_S)} {s s1 : dr_S} {r r' : sg_R} {v : Int32} (h : rr ln s r) (e1 : F s = some (v, s1)) (c1 : dc_F s s1) (c2 : rp_C ln s1 r') (m : rp_M ln s1 r → ∃ s2, G s1 = some (v, s2) ∧ dm_F s1 s2 ∧ rp_M ln s2 r') (hi : iv r' ∧ iv2 r') (ht : rm_ti r' ≤ rm_ti r + 30 := by exact Nat.le_add_right _ _) : call_ok ln F G s r := by
  obtain ⟨s2, e2, F2, m2⟩ := m (rM_dc h.2.1 c1)
  refine ⟨v, s1, s2, r', e1, e2, ⟨rC_dm c2 F2, m2, hi, ?_, ?_⟩, ht⟩
  · rw [F2.2.1 204 (by decide), c1.2.2.1]
    exact h.2.2.2.1
  · rw [F2.2.1 203 (by decide), c1.2.2.2]
    exact h.2.2.2.2
/-- ranges of arguments -/
theorem nI_ltx {x : Int32} {n : Nat} (hn : n + 1 < 2 ^ 31) (h : nI (n + 1) ≤ x) : nI n < x := by
  rw [Int32.lt_iff_toInt_lt]
  rw [Int32.le_iff_toInt_le] at h
  rw [nI_toInt (by omega)] at h ⊢
  omega
theorem nI_gex {x : Int32} {n : Nat} (hn : n < 2 ^ 31) (h : nI n ≤ x) : ¬ x < 0 := by
  intro q
  rw [Int32.lt_iff_toInt_lt] at q
  rw [Int32.le_iff_toInt_le, nI_toInt (by omega)] at h
  have e0 : (0 : Int32).toInt = 0 := rfl
  omega
theorem in_cases (x : Int32) (n : Nat) (hn : n + 1 < 2 ^ 31) : ((x < 0 ∨ nI (n + 1) ≤ x) ∧ ∀ (ln : Nat → Nat) (s : dr_S), f_X12_in ln x 0 (nI n) s = some (0, s)) ∨ ∃ j, j < n + 1 ∧ x = nI j ∧ ∀ (ln : Nat → Nat) (s : dr_S), f_X12_in ln x 0 (nI n) s = some (1, s) := by
  rcases pk_ix x (n := n + 1) hn with h | h | ⟨j, hj, e⟩
  · refine Or.inl ⟨Or.inl h, fun ln s => ?_⟩
    unfold f_X12_in
    rw [if_pos h]
  · refine Or.inl ⟨Or.inr h, fun ln s => ?_⟩
    unfold f_X12_in
    rw [if_neg (nI_gex hn h), if_pos (nI_ltx hn h)]
  · refine Or.inr ⟨j, hj, e, fun ln s => ?_⟩
    unfold f_X12_in
    rw [e, if_neg (nI_pos (by omega)), if_neg (nI_nlt (by omega) (by omega))]
theorem cl_cases (x : Int32) : (∀ (ln : Nat → Nat) (s : dr_S), f_X11_isClerk ln x s = some (0, s) ∧ f_X12_in ln x 0 3 s = some (0, s)) ∨ ∃ c, c < 4 ∧ x = nI c ∧ ∀ (ln : Nat → Nat) (s : dr_S), f_X11_isClerk ln x s = some (1, s) ∧ f_X12_in ln x 0 3 s = some (1, s) := by
  rcases in_cases x 3 (by omega) with ⟨h, h2⟩ | ⟨j, hj, e, h2⟩
  · refine Or.inl (fun ln s => ⟨?_, h2 ln s⟩)
    unfold f_X11_isClerk
    rcases h with h | h
    · rw [if_pos h]
    · rw [if_neg (nI_gex (n := 4) (by omega) h), if_pos (show (4 : Int32) ≤ x from h)]
  · refine Or.inr ⟨j, hj, e, fun ln s => ⟨?_, h2 ln s⟩⟩
    unfold f_X11_isClerk
    rw [e, if_neg (nI_pos (by omega)), if_neg (show ¬ (4 : Int32) ≤ nI j from nI_ge (b := 4) (by omega) (by omega))]
theorem hd_cases (x : Int32) : (∀ (ln : Nat → Nat) (s : dr_S), f_X11_isHeading ln x s = some (0, s) ∧ f_X12_isHeading ln x s = some (0, s)) ∨ ∃ h, h < 10000 ∧ x = nI h ∧ ∀ (ln : Nat → Nat) (s : dr_S), f_X11_isHeading ln x s = some (1, s) ∧ f_X12_isHeading ln x s = some (1, s) := by
  rcases in_cases x 9999 (by omega) with ⟨h, h2⟩ | ⟨j, hj, e, h2⟩
  · refine Or.inl (fun ln s => ⟨?_, ?_⟩)
    · unfold f_X11_isHeading
      rcases h with h | h
      · rw [if_pos h]
      · rw [if_neg (nI_gex (n := 10000) (by omega) h), if_pos (show (10000 : Int32) ≤ x from h)]
    · unfold f_X12_isHeading
      rw [show f_X12_in ln x 0 9999 s = _ from h2 ln s, q_bi]
      rfl
  · refine Or.inr ⟨j, hj, e, fun ln s => ⟨?_, ?_⟩⟩
    · unfold f_X11_isHeading
      rw [e, if_neg (nI_pos (by omega)), if_neg (show ¬ (10000 : Int32) ≤ nI j from nI_ge (b := 10000) (by omega) (by omega))]
    · unfold f_X12_isHeading
      rw [show f_X12_in ln x 0 9999 s = _ from h2 ln s, q_bi]
      rfl
theorem ok_ahead {ln : Nat → Nat} {s : dr_S} {r : sg_R} (h : rr ln s r) (x y : Int32) : call_ok ln (f_X11_ahead ln x y) (f_X12_ahead ln x y) s r := by
  obtain ⟨rk, t, st, _⟩ := h.2.2.1.1
  have hok := st.1.2.2.2
  rcases hd_cases x with q | ⟨a, ha, ea, qa⟩
  · refine call_ro h (-1) ?_ ?_
    · unfold f_X11_ahead
      rw [(q ln s).1, q_bi, if_pos rfl]
    · unfold f_X12_ahead
      rw [(q ln s).2, q_bi, if_pos rfl]
  · rcases hd_cases y with q | ⟨b, hb, eb, qb⟩
    · refine call_ro h (-1) ?_ ?_
      · unfold f_X11_ahead
        rw [(qa ln s).1, q_bi, if_neg (by decide), (q ln s).1, q_bi, if_pos rfl]
      · unfold f_X12_ahead
        rw [(qa ln s).2, q_bi, if_neg (by decide), (q ln s).2, q_bi, if_pos rfl]
    · refine call_ro h (bI (sg_ah (rm_ru r) a b)) ?_ ?_
      · unfold f_X11_ahead
        rw [(qa ln s).1, q_bi, if_neg (by decide), (qb ln s).1, q_bi, if_neg (by decide), ea, eb, q5_isAhead h.1.2.1.1 h.1.2.2.1 hok ha hb, q_bi]
        cases sg_ah (rm_ru r) a b <;> rfl
      · unfold f_X12_ahead
        rw [(qa ln s).2, q_bi, if_neg (by decide), (qb ln s).2, q_bi, if_neg (by decide), ea, eb, qm_isAhead (qm_l (mM_L h.2.1)) (mM_ru h.2.1) hok ha hb, q_bi]
        cases sg_ah (rm_ru r) a b <;> rfl
theorem q11_idle {ln : Nat → Nat} {s : dr_S} {r : sg_R} {c : Nat} (h : rp_C ln s r) (hc : c < 4) (hat : ck_at (rm_ck r c) ≤ 4) : f_X3_isIdle ln (nI c) s = some (if ck_at (rm_ck r c) = 0 then 1 else 0, s) := by
  rw [q3_isIdle h.1 hc, (h.2.2.2.2.2.2.1 c hc).1]
  by_cases e : ck_at (rm_ck r c) = 0
  · rw [if_pos e, e]
    rfl
  · rw [if_neg e, if_neg (show ¬ nI (ck_at (rm_ck r c)) = (0 : Int32) from nI_lit (k := 0) (by omega) (by omega) e)]
theorem ok_clerk {ln : Nat → Nat} {s : dr_S} {r : sg_R} (h : rr ln s r) (x y : Int32) : call_ok ln (f_X11_clerk ln x y) (f_X12_clerk ln x y) s r := by
  have h0 := h
  obtain ⟨hC, hM, ⟨hiv, hi2⟩, _⟩ := h
  obtain ⟨rk, t, st, hp, hT, hcn⟩ := hiv
  have L := mM_L hM
  rcases cl_cases x with q | ⟨c, hc, ec, qc⟩
  · refine call_ro h0 (-1) ?_ ?_
    · unfold f_X11_clerk
      rw [(q ln s).1, q_bi, if_pos rfl]
    · unfold f_X12_clerk
      rw [(q ln s).2, q_bi, if_pos rfl]
  · obtain ⟨k1, k2, k3, k4⟩ := st.2.2.2.1 c hc
    obtain ⟨m1, m2, m3, m4, m5, m6, m7, m8⟩ := mM_ck hM c hc
    obtain ⟨c1, c2, c3, c4, c5, c6, c7, c8⟩ := hC.2.2.2.2.2.2.1 c hc
    rcases in_cases y 4 (by omega) with ⟨g, _⟩ | ⟨w, hw, ew, _⟩
    · refine call_ro h0 (-1) ?_ ?_
      · unfold f_X11_clerk
        rw [(qc ln s).1, q_bi, if_neg (by decide)]
        rcases g with g | g
        · rw [if_pos g]
        · rw [if_neg (nI_gex (n := 5) (by omega) g), if_neg (show ¬ y ≤ 4 from fun z => by
            have := nI_ltx (n := 4) (by omega) g
            rw [Int32.lt_iff_toInt_lt] at this
            rw [Int32.le_iff_toInt_le] at z
            have e4 : (nI 4).toInt = (4 : Int32).toInt := rfl
            omega)]
      · unfold f_X12_clerk
        rw [(qc ln s).2, q_bi, if_neg (by decide)]
        unfold dr_sw
        rw [if_pos ?_]
        rcases g with g | g
        · left
          rw [Int32.lt_iff_toInt_lt] at g
          exact g
        · right
          have := nI_ltx (n := 4) (by omega) g
          rw [Int32.lt_iff_toInt_lt, nI_toInt (by omega)] at this
          exact this
    · have e11 : f_X11_clerk ln x y s = some (s.1 14 (cp (rm_b r) c w), s) := by
        unfold f_X11_clerk
        rw [(qc ln s).1, q_bi, if_neg (by decide), ew, if_neg (nI_pos (by omega)), if_pos (show nI w ≤ 4 from nI_le (b := 4) (by omega) (by omega)), ec, q3_get hC.1 hc (by omega), q_bi]
      have e12 : ∀ v, ([((dr_rd ln s 39 x).bind (fun v3 => some (v3, s))), ((dr_rd ln s 39 x).bind (fun v4 => (if v4 = 0 then some ((-1), s) else (dr_rd ln s 40 x).bind (fun v5 => some (v5, s))))), ((dr_rd ln s 41 x).bind (fun v6 => some (v6, s))), ((dr_rd ln s 39 x).bind (fun v7 => (if v7 = 0 then some ((-1), s) else dr_bnd (f_X12_looksFor ln x s) (fun r9 s8 => some (r9, s8))))), ((dr_rd ln s 39 x).bind (fun v10 => (if v10 = 0 then some ((-1), s) else (dr_rd ln s 43 x).bind (fun v11 => some (v11, s)))))] : List (Option (Int32 × dr_S))).getD w none = some (v, s) → f_X12_clerk ln x y s = some (v, s) := by
        intro v hv
        unfold f_X12_clerk
        rw [(qc ln s).2, q_bi, if_neg (by decide), ew]
        refine (q_sw (n := w) (lo := 0) (hi := 4) (by omega) (by omega) (by omega)).trans ?_
        exact hv
      rw [ec] at e11 e12
      have ea : ∀ {A B : Option (Int32 × dr_S)}, (if nI (ck_at (rm_ck r c)) = (0 : Int32) then A else B) = if ck_at (rm_ck r c) = 0 then A else B := by
        intro A B
        by_cases e : ck_at (rm_ck r c) = 0
        · rw [if_pos e, e, if_pos (show nI 0 = (0 : Int32) from rfl)]
        · rw [if_neg e, if_neg (show ¬ nI (ck_at (rm_ck r c)) = (0 : Int32) from nI_lit (k := 0) (by omega) (by omega) e)]
      have hws : w = 0 ∨ w = 1 ∨ w = 2 ∨ w = 3 ∨ w = 4 := by omega
      rcases hws with z | z | z | z | z <;> subst z
      · refine call_ro h0 (nI (ck_at (rm_ck r c))) (by rw [ec, e11, c1]) ?_
        rw [ec]
        refine e12 _ ?_
        show (dr_rd ln s 39 (nI c)).bind (fun v3 => some (v3, s)) = _
        rw [m_rdb L 39 4 rfl (by decide) (by decide) hc, m2]
      · refine call_ro h0 (if ck_at (rm_ck r c) = 0 then -1 else nI (ck_pl (rm_ck r c))) (by rw [ec, e11, c2]) ?_
        rw [ec]
        refine e12 _ ?_
        show (dr_rd ln s 39 (nI c)).bind (fun v4 => (if v4 = 0 then some ((-1), s) else (dr_rd ln s 40 (nI c)).bind (fun v5 => some (v5, s)))) = _
        rw [m_rdb L 39 4 rfl (by decide) (by decide) hc, m2, ea]
        by_cases e : ck_at (rm_ck r c) = 0
        · rw [if_pos e, if_pos e]
        · rw [if_neg e, if_neg e, m_rdb L 40 4 rfl (by decide) (by decide) hc, m3 e]
      · refine call_ro h0 (nO (ck_jo (rm_ck r c))) (by rw [ec, e11, c3]) ?_
        rw [ec]
        refine e12 _ ?_
        show (dr_rd ln s 41 (nI c)).bind (fun v6 => some (v6, s)) = _
        rw [m_rdb L 41 4 rfl (by decide) (by decide) hc, m4]
      · refine call_ro h0 (if ck_at (rm_ck r c) = 0 then -1 else nI (ck_so (rm_ck r c))) (by rw [ec, e11, c4]) ?_
        rw [ec]
        refine e12 _ ?_
        show (dr_rd ln s 39 (nI c)).bind (fun v7 => (if v7 = 0 then some ((-1), s) else dr_bnd (f_X12_looksFor ln (nI c) s) (fun r9 s8 => some (r9, s8)))) = _
        rw [m_rdb L 39 4 rfl (by decide) (by decide) hc, m2, ea]
        by_cases e : ck_at (rm_ck r c) = 0
        · rw [if_pos e, if_pos e]
        · obtain ⟨⟨p1, p2⟩, ⟨j, j1, _⟩, _⟩ := k4 e
          rw [if_neg e, if_neg e, qm_looksFor hM (iv_sz st) hc e k2 p1 (Nat.lt_of_le_of_lt (iv_l11 st hcn p1) (by decide)) j1 (k3 j j1), q_bi]
      · refine call_ro h0 (nO (ck_ri (rm_ck r c))) (by rw [ec, e11, c5]) ?_
        rw [ec]
        refine e12 _ ?_
        show (dr_rd ln s 39 (nI c)).bind (fun v10 => (if v10 = 0 then some ((-1), s) else (dr_rd ln s 43 (nI c)).bind (fun v11 => some (v11, s)))) = _
        rw [m_rdb L 39 4 rfl (by decide) (by decide) hc, m2, ea]
        by_cases e : ck_at (rm_ck r c) = 0
        · rw [if_pos e, hi2 c hc e]
          rfl
        · rw [if_neg e, m_rdb L 43 4 rfl (by decide) (by decide) hc, m5]
theorem le_lit {x : Int32} {n : Nat} (hn : n + 1 < 2 ^ 31) (g : nI (n + 1) ≤ x) : ¬ x ≤ nI n := fun z => by
  have := nI_ltx hn g
  rw [Int32.lt_iff_toInt_lt] at this
  rw [Int32.le_iff_toInt_le] at z
  omega
theorem sw_out {x : Int32} {n : Nat} {Fs : List (Option (Int32 × dr_S))} {Fd : Option (Int32 × dr_S)} (hn : n + 1 < 2 ^ 31) (g : x < 0 ∨ nI (n + 1) ≤ x) : dr_sw x 0 n Fs Fd = Fd := by
  unfold dr_sw
  rw [if_pos ?_]
  rcases g with g | g
  · left
    rw [Int32.lt_iff_toInt_lt] at g
    exact g
  · right
    have := nI_ltx hn g
    rw [Int32.lt_iff_toInt_lt, nI_toInt (by omega)] at this
    exact this
theorem ok_job {ln : Nat → Nat} {s : dr_S} {r : sg_R} (h : rr ln s r) (x y : Int32) : call_ok ln (f_X11_job ln x y) (f_X12_job ln x y) s r := by
  have h0 := h
  obtain ⟨hC, hM, ⟨hiv, hi2⟩, _⟩ := h
  obtain ⟨rk, t, st, hp, hT, hcn⟩ := hiv
  have L := mM_L hM
  have hnj := st.1.2.2.1
  have eb := hC.2.2.2.2.2.2.2.2.1
  have gb := q6_begun hC.1
  rw [eb] at gb
  have jc : (∀ (ln : Nat → Nat) (s' : dr_S), f_X12_in ln x 0 (nI (rm_nj r) - 1) s' = some (0, s') ∧ (x < 0 ∨ nI (rm_nj r) ≤ x)) ∨ ∃ j, j < rm_nj r ∧ x = nI j ∧ ∀ (ln : Nat → Nat) (s' : dr_S), f_X12_in ln x 0 (nI (rm_nj r) - 1) s' = some (1, s') := by
    cases hn : rm_nj r with
    | zero =>
      left
      intro ln s'
      have hx : x < 0 ∨ nI 0 ≤ x := by
        by_cases q : x < 0
        · exact Or.inl q
        · right
          rw [Int32.le_iff_toInt_le]
          rw [Int32.lt_iff_toInt_lt] at q
          have e0 : (nI 0).toInt = (0 : Int32).toInt := rfl
          omega
      refine ⟨?_, hx⟩
      unfold f_X12_in
      rcases hx with q | q
      · rw [if_pos q]
      · rw [if_neg (nI_gex (n := 0) (by omega) q), if_pos (by
          rw [Int32.lt_iff_toInt_lt]
          rw [Int32.le_iff_toInt_le] at q
          have e0 : (nI 0).toInt = 0 := rfl
          have e1 : (nI 0 - 1).toInt = -1 := rfl
          omega)]
    | succ n =>
      rw [nI_pred]
      rcases in_cases x n (by omega) with ⟨g, g2⟩ | ⟨j, hj, e, g2⟩
      · exact Or.inl (fun ln s' => ⟨g2 ln s', g⟩)
      · exact Or.inr ⟨j, hj, e, g2⟩
  have e12 := mM_nj hM
  rcases jc with q | ⟨j, hj, ej, qj⟩
  · refine call_ro h0 (-1) ?_ ?_
    · unfold f_X11_job
      rcases (q ln s).2 with z | z
      · rw [if_pos z]
      · rw [if_neg (nI_gex (n := rm_nj r) (by omega) z), gb, q_bi, if_pos z]
    · unfold f_X12_job
      rw [e12, (q ln s).1, q_bi, if_pos rfl]
  · obtain ⟨m1, m2, m3, m4, m5, m6, m7⟩ := mM_jb hM j hj
    obtain ⟨c1, c2, c3, c4, c5, c6, c7, c8⟩ := hC.2.2.2.2.2.2.2.2.2 j hj
    have e11a : ¬ x < 0 ∧ ¬ nI (rm_nj r) ≤ x := by rw [ej]; exact ⟨nI_pos (by omega), nI_ge hj (by omega)⟩
    rcases in_cases y 6 (by omega) with ⟨g, _⟩ | ⟨w, hw, ew, _⟩
    · refine call_ro h0 (-1) ?_ ?_
      · unfold f_X11_job
        rw [if_neg e11a.1, gb, q_bi, if_neg e11a.2]
        rcases g with g | g
        · rw [if_pos g]
        · rw [if_neg (nI_gex (n := 7) (by omega) g), if_neg (show ¬ y ≤ 6 from le_lit (n := 6) (by omega) g)]
      · unfold f_X12_job
        rw [e12, qj ln s, q_bi, if_neg (by decide)]
        exact sw_out (n := 6) (by omega) g
    · have e11 : f_X11_job ln x y s = some (s.1 14 (jp (rm_b r) j w), s) := by
        unfold f_X11_job
        rw [if_neg e11a.1, gb, q_bi, if_neg e11a.2, ew, if_neg (nI_pos (by omega)), if_pos (show nI w ≤ 6 from nI_le (b := 6) (by omega) (by omega)), ej, q6_get hC.1 (by omega) (by omega), q_bi]
      have e12b : ∀ v, ([((dr_rd ln s 50 x).bind (fun v3 => some (v3, s))), ((dr_rd ln s 51 x).bind (fun v4 => some (v4, s))), ((dr_rd ln s 52 x).bind (fun v5 => some (v5, s))), ((dr_rd ln s 53 x).bind (fun v6 => some (v6, s))), ((dr_rd ln s 54 x).bind (fun v7 => some (v7, s))), ((dr_rd ln s 55 x).bind (fun v8 => some (v8, s))), ((dr_rd ln s 56 x).bind (fun v9 => (if v9 = 0 then some (0, s) else some (1, s))))] : List (Option (Int32 × dr_S))).getD w none = some (v, s) → f_X12_job ln x y s = some (v, s) := by
        intro v hv
        unfold f_X12_job
        rw [e12, qj ln s, q_bi, if_neg (by decide), ew]
        refine (q_sw (n := w) (lo := 0) (hi := 6) (by omega) (by omega) (by omega)).trans ?_
        exact hv
      rw [ej] at e11 e12b
      have hws : w = 0 ∨ w = 1 ∨ w = 2 ∨ w = 3 ∨ w = 4 ∨ w = 5 ∨ w = 6 := by omega
      rcases hws with z | z | z | z | z | z | z <;> subst z
      · refine call_ro h0 (nI (jb_ki (rm_jb r j))) (by rw [ej, e11, c1]) ?_
        rw [ej]
        refine e12b _ ?_
        show (dr_rd ln s 50 (nI j)).bind (fun v3 => some (v3, s)) = _
        rw [m_rdb L 50 120 rfl (by decide) (by decide) (by omega), m1]
      · refine call_ro h0 (nI (jb_he (rm_jb r j))) (by rw [ej, e11, c2]) ?_
        rw [ej]
        refine e12b _ ?_
        show (dr_rd ln s 51 (nI j)).bind (fun v3 => some (v3, s)) = _
        rw [m_rdb L 51 120 rfl (by decide) (by decide) (by omega), m2]
      · refine call_ro h0 (nO (jb_an (rm_jb r j))) (by rw [ej, e11, c3]) ?_
        rw [ej]
        refine e12b _ ?_
        show (dr_rd ln s 52 (nI j)).bind (fun v3 => some (v3, s)) = _
        rw [m_rdb L 52 120 rfl (by decide) (by decide) (by omega), m3]
      · refine call_ro h0 (nI (jb_be (rm_jb r j))) (by rw [ej, e11, c4]) ?_
        rw [ej]
        refine e12b _ ?_
        show (dr_rd ln s 53 (nI j)).bind (fun v3 => some (v3, s)) = _
        rw [m_rdb L 53 120 rfl (by decide) (by decide) (by omega), m4]
      · refine call_ro h0 (nO (jb_en (rm_jb r j))) (by rw [ej, e11, c5]) ?_
        rw [ej]
        refine e12b _ ?_
        show (dr_rd ln s 54 (nI j)).bind (fun v3 => some (v3, s)) = _
        rw [m_rdb L 54 120 rfl (by decide) (by decide) (by omega), m5]
      · refine call_ro h0 (nI (jb_st (rm_jb r j))) (by rw [ej, e11, c6]) ?_
        rw [ej]
        refine e12b _ ?_
        show (dr_rd ln s 55 (nI j)).bind (fun v3 => some (v3, s)) = _
        rw [m_rdb L 55 120 rfl (by decide) (by decide) (by omega), m6]
      · refine call_ro h0 (if jb_lo (rm_jb r j) then 1 else 0) (by rw [ej, e11, c7]) ?_
        rw [ej]
        refine e12b _ ?_
        show (dr_rd ln s 56 (nI j)).bind (fun v9 => (if v9 = 0 then some (0, s) else some (1, s))) = _
        rw [m_rdb L 56 120 rfl (by decide) (by decide) (by omega), m7]
        cases jb_lo (rm_jb r j) <;> rfl

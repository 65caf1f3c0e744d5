/-! 78: reading, holding, going up: the invariant stays -/
theorem sK_at (r : sg_R) (c : Nat) (x : sg_K) : rm_ck (sg_sK r c x) c = x := by
  show (if c = c then x else _) = x
  rw [if_pos rfl]
theorem sK_ne {r : sg_R} {c e : Nat} {x : sg_K} (h : e ≠ c) : rm_ck (sg_sK r c x) e = rm_ck r e := by
  show (if e = c then x else rm_ck r e) = _
  rw [if_neg h]
theorem pd_0 {r : sg_R} {c L : Nat} (h : ck_at (rm_ck r c) = 0 ∨ ck_at (rm_ck r c) = 1) : pd r L c = 0 := by
  unfold pd
  rw [if_neg (by omega)]
theorem pt_0 {r : sg_R} {c : Nat} (h : ck_at (rm_ck r c) = 0) : pt r c = 0 := by
  unfold pt
  rw [if_pos (Or.inl h)]
/-- r2 is the room r behind the step's count, but for latches -/
def iv_ba (r : sg_R) (c j : Nat) (r2 : sg_R) : Prop := (rm_b r2 = rm_b r ∧ rm_ru r2 = rm_ru r ∧ rm_us r2 = rm_us r ∧ rm_to r2 = rm_to r ∧ rm_nj r2 = rm_nj r ∧ rm_ti r2 = rm_ti r + 1 ∧ rm_ch r2 = rm_ch r) ∧ rm_ck r2 = rm_ck r ∧ rm_jb r2 = rm_jb (sg_pass r j) ∧ (∀ d, iv_sm (rm_dr r2 d) (rm_dr r d)) ∧ (∀ d, dv_la (rm_dr r2 d) = dv_la (rm_dr r d) ∨ dv_la (rm_dr r2 d) = none ∨ dv_la (rm_dr r2 d) = some c)
theorem ba_pass (r : sg_R) (c j : Nat) : iv_ba r c j (sg_pass r j) := ⟨⟨rfl, rfl, rfl, rfl, rfl, rfl, rfl⟩, rfl, rfl, fun _ => sm_rf _, fun _ => Or.inl rfl⟩
theorem ba_la {r r2 : sg_R} {c j d : Nat} {v : Option Nat} (h : iv_ba r c j r2) (hv : v = none ∨ v = some c) : iv_ba r c j (sg_la r2 c d v) := by
  obtain ⟨⟨h1, h2, h3, h4, h5, h6, h7⟩, h8, h9, h10, h11⟩ := h
  have K := ck_la r2 c d v
  obtain ⟨a1, a2, a3, a4, a5⟩ := la_all r2 c d v
  refine ⟨⟨K.2.1.trans h1, K.2.2.2.1.trans h2, K.2.2.1.trans h3, a1.trans h4, K.2.2.2.2.1.trans h5, a2.trans h6, a3.trans h7⟩, K.1.trans h8, K.2.2.2.2.2.trans h9, fun e => sm_tr (a4 e) (h10 e), fun e => ?_⟩
  rcases a5 e with q | q
  · rw [q]; exact h11 e
  · rw [q]
    rcases hv with z | z
    · exact Or.inr (Or.inl z)
    · exact Or.inr (Or.inr z)
theorem ba_gr {r r2 : sg_R} {c j : Nat} (h : iv_ba r c j r2) (rk : Nat → Nat) : iv_gr r rk r2 rk := by
  obtain ⟨⟨h1, h2, h3, h4, h5, h6, h7⟩, h8, h9, h10, h11⟩ := h
  exact ⟨h1, by omega, fun d _ => (h10 d).1, by omega, fun i _ => by rw [h9]; exact ⟨(pass_jb r j i).1, (pass_jb r j i).2.1⟩, fun _ _ _ _ q => q⟩
theorem pass_ne {r : sg_R} {j i : Nat} (h : i ≠ j) : rm_jb (sg_pass r j) i = rm_jb r i := by
  show (if i = j then _ else rm_jb r i) = _
  rw [if_neg h]
/-- he stays at his job -/
theorem iv_setK {r r2 : sg_R} {c j : Nat} {x : sg_K} (h : iv r) (hc : c < 4) (hat : ck_at (rm_ck r c) ≠ 0) (hj : ck_jo (rm_ck r c) = some j) (hb : iv_ba r c j r2) (hxj : ck_jo x = some j) (hxf : ck_fa x = ck_fa (rm_ck r c)) (hxa : ck_at x ≤ 4 ∧ ck_at x ≠ 0)
    (hx : ∀ rk, iv_st r rk → (ck_pl x < rm_us r ∧ ck_so x < 10000) ∧ (ck_at x ≠ 1 → jb_ki (rm_jb r j) ≠ 0) ∧ (ck_at x = 4 ∨ (ck_at x ≠ 1 ∧ 0 < dv_lev (rm_dr r (ck_pl x))) → jb_ki (rm_jb r j) = 1) ∧ (ck_at x = 1 ∨ (ck_at x ≠ 4 ∧ dv_lev (rm_dr r (ck_pl x)) = 0) → jb_he (rm_jb r j) = ck_so x ∧ (rm_ch r).lookup j = none) ∧ (∀ l p, ck_pa x l = some p → p < rm_us r ∧ dv_lev (rm_dr r p) = l) ∧ (ck_at x = 4 → ∃ n, ck_ri x = some n ∧ n < rm_us r ∧ dv_lev (rm_dr r n) = dv_lev (rm_dr r (ck_pl x))) ∧ ((ck_at x = 2 ∨ ck_at x = 3) → 0 < dv_lev (rm_dr r (ck_pl x)) → ∃ n, ck_ri x = some n ∧ n < rm_us r ∧ dv_lev (rm_dr r n) + 1 = dv_lev (rm_dr r (ck_pl x))) ∧ (ck_at x = 3 → iv_x r rk (ck_pl x) (ck_co x)))
    (hpd : ∀ L, pd (sg_sK r2 c x) L c ≤ pd r L c) (hpt : pt (sg_sK r2 c x) c ≤ pt r c) (h3 : ck_at x = 3 → iv_sm (ck_co x) (rm_dr r (ck_pl x)) ∨ (ck_at (rm_ck r c) = 3 ∧ x = rm_ck r c)) (hnt : ¬ (ck_at (rm_ck r c) = 4 ∧ ck_pl (rm_ck r c) = rm_to r)) : iv (sg_sK r2 c x) := by
  have hb0 := hb
  obtain ⟨⟨h1, h2, h3', h4, h5, h6, h7⟩, h8, h9, h10, h11⟩ := hb
  have hpj := pass_jb r j
  have hjn : j < rm_nj r := by
    obtain ⟨rk, t, st, _⟩ := h
    exact (st.2.2.2.1 c hc).2.2.1 j hj
  refine iv_quiet h hc hat hj h1 h2 h3' h4 h5 h6 h7 h10 h11 (fun e he => ?_) (fun rk st => ?_) (by rw [sK_at]; exact hxj) (fun i hi => ?_) ?_ ?_ hpd hpt (fun q => ?_) hnt
  · rw [sK_ne he, h8]
  · obtain ⟨k1, k2, k3, k4⟩ := st.2.2.2.1 c hc
    obtain ⟨_, ⟨j', j1, j2, j3, j4, j5, j6⟩, _⟩ := k4 hat
    have ejj : j' = j := by rw [hj] at j1; cases j1; rfl
    subst ejj
    obtain ⟨x1, x2, x3, x4, x5, x6, x7, x8⟩ := hx rk st
    have hl : ∀ d, dv_lev (rm_dr (sg_sK r2 c x) d) = dv_lev (rm_dr r d) := fun d => (h10 d).1
    have eu : rm_us (sg_sK r2 c x) = rm_us r := h3'
    have ej : rm_jb (sg_sK r2 c x) = rm_jb (sg_pass r j') := h9
    have ec : rm_ch (sg_sK r2 c x) = rm_ch r := h7
    have en : rm_nj (sg_sK r2 c x) = rm_nj r := h5
    unfold iv_k
    rw [sK_at, hl, eu, ej, ec, en]
    obtain ⟨p1, p2, p3, p4, p5, p6⟩ := hpj j'
    refine ⟨by rw [hxf]; exact k1, hxa.1, fun i hi => by rw [hxj] at hi; cases hi; exact k3 _ j1, fun _ => ⟨x1, ⟨j', hxj, by rw [p1]; exact j2, by rw [p5, p6]; exact j3, by rw [p1]; exact x2, by rw [p1]; exact x3, by rw [p2]; exact x4⟩, fun l p hp => by rw [hl]; exact x5 l p hp, fun q => ?_, fun q1 q2 => ?_, fun q => ?_⟩⟩
    · obtain ⟨n, n1, n2, n3⟩ := x6 q
      exact ⟨n, n1, n2, by rw [hl]; exact n3⟩
    · obtain ⟨n, n1, n2, n3⟩ := x7 q1 q2
      exact ⟨n, n1, n2, by rw [hl]; exact n3⟩
    · exact iv_x_mono (r' := sg_sK r2 c x) (ba_gr hb0 rk) x1.1 (x8 q) (sm_rf _)
  · show rm_jb r2 i = _
    rw [h9, pass_ne hi]
  · show iv_jb _ (rm_jb r2 j)
    rw [h9]
    obtain ⟨rk, t, st, _⟩ := h
    exact jb_pass st hjn
  · show jb_ki (rm_jb r2 j) = _ ∧ jb_he (rm_jb r2 j) = _
    rw [h9]
    exact ⟨(hpj j).1, (hpj j).2.1⟩
  · rw [sK_at] at q ⊢
    obtain ⟨rk, t, st, _⟩ := h
    exact ⟨(hx rk st).1.1, h3 q⟩
/-- he comes to the end of his job -/
theorem iv_endK {r r2 : sg_R} {c j a : Nat} (h : iv r) (hc : c < 4) (hat : ck_at (rm_ck r c) ≠ 0) (hj : ck_jo (rm_ck r c) = some j) (hb : iv_ba r c j r2) (ha : a ≤ 1) (hnt : ¬ (ck_at (rm_ck r c) = 4 ∧ ck_pl (rm_ck r c) = rm_to r)) : iv (sg_end r2 c a) := by
  obtain ⟨⟨h1, h2, h3', h4, h5, h6, h7⟩, h8, h9, h10, h11⟩ := hb
  have hpj := pass_jb r j
  have hjb : ck_job (rm_ck r2 c) = j := by unfold ck_job; rw [h8, hj]; rfl
  rw [sg_end_eq, hjb]
  have ejb : ∀ i (y : sg_J) (x : sg_K), rm_jb (sg_sK (sg_sJ r2 j y) c x) i = if i = j then y else rm_jb r2 i := fun _ _ _ => rfl
  have hst := h
  obtain ⟨rk0, t0, st0, _⟩ := hst
  have hjn : j < rm_nj r := (st0.2.2.2.1 c hc).2.2.1 j hj
  have hlo : jb_lo (rm_jb r j) = false := by
    obtain ⟨_, ⟨j', j1, j2, j3, _⟩, _⟩ := (st0.2.2.2.1 c hc).2.2.2 hat
    rw [hj] at j1
    cases j1
    exact j3.2
  refine iv_quiet h hc hat hj h1 h2 h3' h4 h5 h6 h7 h10 h11 (fun e he => ?_) (fun rk st => ?_) (by rw [sK_at, h8]; exact hj) (fun i hi => ?_) ?_ ?_ (fun L => ?_) ?_ (fun q => ?_) hnt
  · rw [sK_ne he]
    show rm_ck r2 e = _
    rw [h8]
  · obtain ⟨k1, k2, k3, k4⟩ := st.2.2.2.1 c hc
    unfold iv_k
    rw [sK_at]
    refine ⟨by show ck_fa (rm_ck r2 c) ≤ 2; rw [h8]; exact k1, by show (0 : Nat) ≤ 4; omega, fun i hi => ?_, fun q => absurd rfl q⟩
    have hi : ck_jo (rm_ck r2 c) = some i := hi
    rw [h8] at hi
    show i < rm_nj r2
    rw [h5]
    exact k3 i hi
  · rw [ejb, if_neg hi, h9, pass_ne hi]
  · rw [ejb, if_pos rfl, h9]
    exact end_jb (a := a) st0 hjn hlo ha (hpj j).1 (hpj j).2.1 (hpj j).2.2.2.1 (hpj j).2.2.2.2.2 rfl (by show some (rm_ti r2) = _; rw [h6])
  · rw [ejb, if_pos rfl, h9]
    exact ⟨(hpj j).1, (hpj j).2.1⟩
  · rw [pd_0 (Or.inl (by rw [sK_at]; rfl))]
    exact Nat.zero_le _
  · rw [pt_0 (by rw [sK_at]; rfl)]
    exact Nat.zero_le _
  · rw [sK_at] at q
    exact absurd (show (0 : Nat) = 3 from q) (by decide)
theorem sK_id (r : sg_R) (c : Nat) : sg_sK r c (rm_ck r c) = r := by
  unfold sg_sK
  have e : (fun i => if i = c then rm_ck r c else r.2.2.1 i) = r.2.2.1 := by
    funext i
    by_cases q : i = c
    · rw [if_pos q, q]; rfl
    · rw [if_neg q]
  rw [e]
/-- he waits -/
theorem iv_wait {r : sg_R} {c j : Nat} (h : iv r) (hc : c < 4) (hat : ck_at (rm_ck r c) ≠ 0) (hj : ck_jo (rm_ck r c) = some j) (hnt : ¬ (ck_at (rm_ck r c) = 4 ∧ ck_pl (rm_ck r c) = rm_to r)) : iv (sg_pass r j) := by
  have hst := h
  obtain ⟨rk0, t0, st0, _⟩ := hst
  have q := iv_setK (r2 := sg_pass r j) (x := rm_ck r c) h hc hat hj (ba_pass r c j) hj rfl ⟨(st0.2.2.2.1 c hc).2.1, hat⟩ (fun rk st => ?_) (fun L => ?_) ?_ (fun q => Or.inr ⟨q, rfl⟩) hnt
  · rw [show rm_ck r c = rm_ck (sg_pass r j) c from rfl, sK_id] at q
    exact q
  · obtain ⟨k1, k2, k3, k4⟩ := st.2.2.2.1 c hc
    obtain ⟨p, ⟨j', j1, j2, j3, j4, j5, j6⟩, p3, p4, p5, p6⟩ := k4 hat
    have ejj : j' = j := by rw [hj] at j1; cases j1; rfl
    subst ejj
    exact ⟨p, j4, j5, j6, p3, p4, p5, p6⟩
  · rw [show rm_ck r c = rm_ck (sg_pass r j) c from rfl, sK_id]
    exact Nat.le_refl _
  · rw [show rm_ck r c = rm_ck (sg_pass r j) c from rfl, sK_id]
    have e : pt (sg_pass r j) c = pt r c := by
      unfold pt
      rw [show rm_ck (sg_pass r j) = rm_ck r from rfl, show rm_dr (sg_pass r j) = rm_dr r from rfl, (pass_jb r j _).1]
    rw [e]
    exact Nat.le_refl _

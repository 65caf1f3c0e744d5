/-! 77: steps that change no drawer's content -/
theorem iv_quiet {r r' : sg_R} {c j : Nat} (h : iv r) (hc : c < 4) (hat : ck_at (rm_ck r c) ≠ 0) (hj : ck_jo (rm_ck r c) = some j) (eb : rm_b r' = rm_b r) (eru : rm_ru r' = rm_ru r) (eus : rm_us r' = rm_us r) (eto : rm_to r' = rm_to r) (enj : rm_nj r' = rm_nj r) (eti : rm_ti r' = rm_ti r + 1) (ech : rm_ch r' = rm_ch r)
    (hD : ∀ d, iv_sm (rm_dr r' d) (rm_dr r d)) (hla : ∀ d, dv_la (rm_dr r' d) = dv_la (rm_dr r d) ∨ dv_la (rm_dr r' d) = none ∨ dv_la (rm_dr r' d) = some c)
    (hK : ∀ e, e ≠ c → rm_ck r' e = rm_ck r e) (hKc : ∀ rk, iv_st r rk → iv_k r' rk c) (hjo : ck_jo (rm_ck r' c) = some j)
    (hJ : ∀ i, i ≠ j → rm_jb r' i = rm_jb r i) (hJj : iv_jb (rm_ti r + 1) (rm_jb r' j)) (hjk : jb_ki (rm_jb r' j) = jb_ki (rm_jb r j) ∧ jb_he (rm_jb r' j) = jb_he (rm_jb r j))
    (hpd : ∀ L, pd r' L c ≤ pd r L c) (hpt : pt r' c ≤ pt r c) (h3 : ck_at (rm_ck r' c) = 3 → ck_pl (rm_ck r' c) < rm_us r ∧ (iv_sm (ck_co (rm_ck r' c)) (rm_dr r (ck_pl (rm_ck r' c))) ∨ (ck_at (rm_ck r c) = 3 ∧ rm_ck r' c = rm_ck r c))) (hnt : ¬ (ck_at (rm_ck r c) = 4 ∧ ck_pl (rm_ck r c) = rm_to r)) : iv r' := by
  obtain ⟨rk, t, h, hp, hT, hcn⟩ := h
  have hl : ∀ d, dv_lev (rm_dr r' d) = dv_lev (rm_dr r d) := fun d => (hD d).1
  have hjb : ck_job (rm_ck r c) = j := by unfold ck_job; rw [hj]; rfl
  have hki : ∀ i, jb_ki (rm_jb r' i) = jb_ki (rm_jb r i) ∧ jb_he (rm_jb r' i) = jb_he (rm_jb r i) := fun i => by
    by_cases e : i = j
    · rw [e]; exact hjk
    · rw [hJ i e]; exact ⟨rfl, rfl⟩
  have g : iv_gr r rk r' rk := ⟨eb, by omega, fun d _ => hl d, by omega, fun i _ => hki i, fun _ _ _ _ q => q⟩
  have st : iv_st r' rk := by
    refine iv_core (c := c) (j := j) h g (by rw [eus]; exact h.1.2.1) eru enj eti ⟨by rw [eto, eus]; exact h.2.1.1, fun d hd => ?_⟩ hc hat hj (fun d hd => Or.inl ⟨by omega, hD d⟩) (fun d hd e he => ?_) hK (hKc rk h) hjo hJ hJj (Or.inl ech)
    · rw [hl, hl, eto]
      exact h.2.1.2 d (by omega)
    · rcases hla d with q | q | q
      · rw [q] at he
        exact (h.2.2.1 d (by omega)).2 e he
      · rw [q] at he; cases he
      · rw [q] at he
        cases he
        exact hc
  have s1 := fun L => pd_sum (r := r) (r' := r') hc hK (fun e he q => hl _) L
  have s2 := pt_sum (r := r) (r' := r') hc hK (fun e he q => hl _) (fun e he q => (hki _).1)
  refine ⟨rk, t, st, by rw [eus]; omega, fun q => ?_, ?_⟩
  · have q2 : ∃ e, e < 4 ∧ ck_at (rm_ck r e) = 4 ∧ ck_pl (rm_ck r e) = rm_to r := by
      apply hT
      rcases q with q | ⟨e, he, q1, q2, q3⟩
      · left
        rw [eto, (hD _).2.2.2.2] at q
        exact q
      · by_cases ec : e = c
        · subst ec
          rcases (h3 q1).2 with z | ⟨z1, z2⟩
          · left
            rw [z.2.2.2.2, q2, eto] at q3
            exact q3
          · right
            rw [z2, eto] at q2
            rw [z2] at q3
            exact ⟨e, he, z1, q2, q3⟩
        · right
          rw [hK e ec] at q1 q2 q3
          rw [eto] at q2
          exact ⟨e, he, q1, q2, q3⟩
    obtain ⟨e, he, a1, a2⟩ := q2
    have ec : e ≠ c := fun z => by rw [z] at a1 a2; exact hnt ⟨a1, a2⟩
    exact ⟨e, he, by rw [hK e ec]; exact a1, by rw [hK e ec, eto]; exact a2⟩
  · rw [eto, hl]
    have hps : ∀ L, psum (pd r' L) ≤ psum (pd r L) := fun L => by
      have := s1 L
      have := hpd L
      omega
    refine cnv_wr hcn (fun L => ?_) hps (fun L m hm => Or.inr ⟨m, ?_, Nat.le_refl _, Nat.add_le_add_left (hps L) m⟩)
    · unfold cnt
      rw [eus]
      exact cntN_same (fun d _ => hl d)
    · rcases hm with ⟨d, hd, a1, a2⟩ | ⟨e, he, a1, a2, a3⟩
      · exact Or.inl ⟨d, by omega, by rw [← hl]; exact a1, by rw [← (hD d).2.1]; exact a2⟩
      · by_cases ec : e = c
        · subst ec
          obtain ⟨z0, z⟩ := h3 a1
          rcases z with z | ⟨z1, z2⟩
          · exact Or.inl ⟨_, z0, by rw [← hl]; exact a2, by rw [← z.2.1]; exact a3⟩
          · rw [z2] at a2 a3
            exact Or.inr ⟨e, he, z1, by rw [← hl]; exact a2, a3⟩
        · rw [hK e ec] at a1 a2 a3
          exact Or.inr ⟨e, he, a1, by rw [← hl]; exact a2, a3⟩
/-- the job's record after a step, and after its end -/
theorem jb_pass {r : sg_R} {rk : Nat → Nat} {j : Nat} (h : iv_st r rk) (hjn : j < rm_nj r) : iv_jb (rm_ti r + 1) (rm_jb (sg_pass r j) j) := by
  obtain ⟨p1, p2, p3, p4, p5, p6⟩ := pass_jb r j j
  obtain ⟨a1, a2, a3, a4, a5⟩ := h.2.2.2.2.2.2 j hjn
  unfold iv_jb
  rw [p1, p2, p3, p4, p5, p6]
  exact ⟨a1, a2, by omega, fun e he => ⟨(a4 e he).1, by have := (a4 e he).2.1; omega, (a4 e he).2.2⟩, a5⟩
theorem end_jb {r : sg_R} {rk : Nat → Nat} {j a : Nat} {y : sg_J} (h : iv_st r rk) (hjn : j < rm_nj r) (hen : jb_lo (rm_jb r j) = false) (ha : a ≤ 1) (h1 : jb_ki y = jb_ki (rm_jb r j)) (h2 : jb_he y = jb_he (rm_jb r j)) (h3 : jb_be y = jb_be (rm_jb r j)) (h4 : jb_lo y = jb_lo (rm_jb r j)) (h5 : jb_an y = some a) (h6 : jb_en y = some (rm_ti r + 1)) : iv_jb (rm_ti r + 1) y := by
  obtain ⟨a1, a2, a3, a4, a5⟩ := h.2.2.2.2.2.2 j hjn
  unfold iv_jb
  rw [h1, h2, h3, h4, h5, h6]
  refine ⟨a1, a2, by omega, fun e he => ?_, fun q => by cases q⟩
  cases he
  refine ⟨by omega, Nat.le_refl _, hen, ?_⟩
  have : a = 0 ∨ a = 1 := by omega
  rcases this with q | q
  · left; rw [q]
  · right; rw [q]

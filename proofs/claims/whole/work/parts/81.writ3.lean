/-! 81: writing keeps the invariant -/
/-- what a drawer may hold between the writing and the parting -/
def iv_y (r : sg_R) (rk : Nat → Nat) (d : Nat) (x : sg_D) : Prop :=
  dv_lev x = dv_lev (rm_dr r d) ∧ (dv_hs x).length ≤ 2 * rm_b r + 1 ∧ (∀ h ∈ dv_hs x, h < 10000) ∧ (∀ g, dv_hi x = some g → g < 10000) ∧ (dv_hi x = none ↔ dv_th x = none) ∧ (∀ t, dv_th x = some t → t < rm_us r ∧ dv_lev (rm_dr r t) = dv_lev x ∧ rk d < rk t) ∧ (0 < dv_lev x → (dv_cs x).length = (dv_hs x).length + 1 ∧ ∀ k ∈ dv_cs x, k < rm_us r ∧ dv_lev (rm_dr r k) + 1 = dv_lev x) ∧ (dv_lev x = 0 → dv_cs x = [] ∧ ∀ h ∈ dv_hs x, ∃ j, j < rm_nj r ∧ jb_ki (rm_jb r j) = 1 ∧ jb_he (rm_jb r j) = h)
theorem iv_yx {r : sg_R} {rk : Nat → Nat} {d : Nat} {x : sg_D} (h : iv_y r rk d x) (hl : (dv_hs x).length ≤ 2 * rm_b r) : iv_x r rk d x := ⟨h.1, hl, h.2.2⟩
/-- r2: the room behind the step's count with X in drawer d -/
def iv_bw (r : sg_R) (j d : Nat) (X : sg_D) (r2 : sg_R) : Prop := (rm_b r2 = rm_b r ∧ rm_ru r2 = rm_ru r ∧ rm_us r2 = rm_us r ∧ rm_to r2 = rm_to r ∧ rm_nj r2 = rm_nj r ∧ rm_ti r2 = rm_ti r + 1) ∧ rm_ck r2 = rm_ck r ∧ rm_jb r2 = rm_jb (sg_pass r j) ∧ (∀ e, rm_dr r2 e = if e = d then X else rm_dr r e)
theorem iv_wr_end {r r2 : sg_R} {rk : Nat → Nat} {t c j : Nat} {X : sg_D} (st : iv_st r rk) (hp : rm_us r + psum (pt r) ≤ 256) (hT : iv_T r) (hcn : cnv t (dv_lev (rm_dr r (rm_to r))) (cnt r) (fun L => psum (pd r L)) (mh r)) (hc : c < 4) (hat : ck_at (rm_ck r c) = 3) (hj : ck_jo (rm_ck r c) = some j) (hb : iv_bw r j (ck_pl (rm_ck r c)) X r2)
    (hch : rm_ch r2 = rm_ch r ∨ (rm_ch r2 = rm_ch r ++ [(j, rm_ti r + 1)] ∧ (rm_ch r).lookup j = none ∧ jb_ki (rm_jb r j) ≠ 0)) (hX : iv_x r rk (ck_pl (rm_ck r c)) X) (hla : dv_la X = dv_la (rm_dr r (ck_pl (rm_ck r c)))) (hth : dv_th X = dv_th (ck_co (rm_ck r c))) (hlen : 0 < dv_lev X → (dv_hs (ck_co (rm_ck r c))).length ≤ (dv_hs X).length ∧ (dv_hs X).length ≤ (dv_hs (ck_co (rm_ck r c))).length + 1) : iv (sg_end (sg_la r2 c (ck_pl (rm_ck r c)) none) c 1) := by
  have hat0 : ck_at (rm_ck r c) ≠ 0 := by rw [hat]; decide
  have st0 := st
  obtain ⟨⟨g1, g2, g3, g4⟩, g5, g6, g7, g8, g9, g10⟩ := st
  obtain ⟨k1, k2, k3, k4⟩ := g7 c hc
  obtain ⟨⟨p1, p2⟩, ⟨j', j1, j2, j3, _⟩, _⟩ := k4 hat0
  have ejj : j' = j := by rw [hj] at j1; cases j1; rfl
  subst ejj
  have hjn := k3 j' j1
  clear k4
  obtain ⟨⟨b1, b2, b3, b4, b5, b6⟩, b8, b9, b10⟩ := hb
  have K := ck_la r2 c (ck_pl (rm_ck r c)) none
  obtain ⟨a1, a2, a3, a4, a5⟩ := la_all r2 c (ck_pl (rm_ck r c)) none
  have hjb : ck_job (rm_ck (sg_la r2 c (ck_pl (rm_ck r c)) none) c) = j' := by unfold ck_job; rw [K.1, b8, hj]; rfl
  rw [sg_end_eq, hjb]
  generalize hS : sg_sK (sg_sJ (sg_la r2 c (ck_pl (rm_ck r c)) none) j' (jb_ki (rm_jb (sg_la r2 c (ck_pl (rm_ck r c)) none) j'), jb_he (rm_jb (sg_la r2 c (ck_pl (rm_ck r c)) none) j'), some 1, jb_be (rm_jb (sg_la r2 c (ck_pl (rm_ck r c)) none) j'), some (rm_ti (sg_la r2 c (ck_pl (rm_ck r c)) none)), jb_st (rm_jb (sg_la r2 c (ck_pl (rm_ck r c)) none) j'), jb_lo (rm_jb (sg_la r2 c (ck_pl (rm_ck r c)) none) j'))) c (ck_put (rm_ck (sg_la r2 c (ck_pl (rm_ck r c)) none) c) 0 (ck_pl (rm_ck (sg_la r2 c (ck_pl (rm_ck r c)) none) c)) (ck_so (rm_ck (sg_la r2 c (ck_pl (rm_ck r c)) none) c)) none) = S
  have S1 : rm_b S = rm_b r ∧ rm_ru S = rm_ru r ∧ rm_us S = rm_us r ∧ rm_to S = rm_to r ∧ rm_nj S = rm_nj r ∧ rm_ti S = rm_ti r + 1 ∧ rm_ch S = rm_ch r2 := by
    rw [← hS]
    exact ⟨K.2.1.trans b1, K.2.2.2.1.trans b2, K.2.2.1.trans b3, a1.trans b4, K.2.2.2.2.1.trans b5, a2.trans b6, a3⟩
  have Sc : ck_at (rm_ck S c) = 0 ∧ ck_jo (rm_ck S c) = some j' ∧ ck_fa (rm_ck S c) = ck_fa (rm_ck r c) := by
    rw [← hS, sK_at]
    refine ⟨rfl, ?_, ?_⟩
    · show ck_jo (rm_ck (sg_la r2 c (ck_pl (rm_ck r c)) none) c) = _
      rw [K.1, b8, hj]
    · show ck_fa (rm_ck (sg_la r2 c (ck_pl (rm_ck r c)) none) c) = _
      rw [K.1, b8]
  have Se : ∀ e, e ≠ c → rm_ck S e = rm_ck r e := by
    intro e he
    rw [← hS, sK_ne he]
    show rm_ck (sg_la r2 c (ck_pl (rm_ck r c)) none) e = _
    rw [K.1, b8]
  have Sj : ∀ i, rm_jb S i = if i = j' then (jb_ki (rm_jb (sg_pass r j') j'), jb_he (rm_jb (sg_pass r j') j'), some 1, jb_be (rm_jb (sg_pass r j') j'), some (rm_ti r + 1), jb_st (rm_jb (sg_pass r j') j'), jb_lo (rm_jb (sg_pass r j') j')) else rm_jb (sg_pass r j') i := by
    intro i
    rw [← hS]
    show (if i = j' then _ else rm_jb (sg_la r2 c (ck_pl (rm_ck r c)) none) i) = _
    rw [K.2.2.2.2.2, a2, b6, b9]
  have Sd : ∀ d, iv_sm (rm_dr S d) (rm_dr r2 d) := by
    intro d
    rw [← hS]
    exact a4 d
  have Sl : ∀ d, dv_la (rm_dr S d) = dv_la (rm_dr r2 d) ∨ dv_la (rm_dr S d) = none := by
    intro d
    rw [← hS]
    exact a5 d
  clear hS
  obtain ⟨s1, s2, s3, s4, s5, s6, s7⟩ := S1
  have hne : ∀ e, e ≠ ck_pl (rm_ck r c) → rm_dr r2 e = rm_dr r e := fun e he => by rw [b10, if_neg he]
  have hnw : rm_dr r2 (ck_pl (rm_ck r c)) = X := by rw [b10, if_pos rfl]
  have hlv : ∀ e, dv_lev (rm_dr S e) = dv_lev (rm_dr r e) := fun e => by
    rw [(Sd e).1]
    by_cases q : e = ck_pl (rm_ck r c)
    · rw [q, hnw, hX.1]
    · rw [hne e q]
  have pj := pass_jb r j'
  have hki2 : ∀ i, jb_ki (rm_jb S i) = jb_ki (rm_jb r i) ∧ jb_he (rm_jb S i) = jb_he (rm_jb r i) := by
    intro i
    rw [Sj]
    by_cases e : i = j'
    · rw [if_pos e, e]
      exact ⟨(pj j').1, (pj j').2.1⟩
    · rw [if_neg e]
      exact ⟨(pj i).1, (pj i).2.1⟩
  have gr : iv_gr r rk S rk := ⟨s1, by omega, fun d _ => hlv d, by omega, fun i _ => hki2 i, fun _ _ _ _ q => q⟩
  have stS : iv_st S rk := by
    refine iv_core (c := c) (j := j') st0 gr (by omega) s2 s5 s6 ⟨by rw [s4, s3]; exact g5.1, fun d hd => ?_⟩ hc hat0 hj (fun d hd => ?_) (fun d hd e he => ?_) Se ?_ Sc.2.1 (fun i hi => ?_) ?_ (by rw [s7]; exact hch)
    · rw [hlv, hlv, s4]
      exact g5.2 d (by omega)
    · by_cases e : d = ck_pl (rm_ck r c)
      · right
        rw [e]
        refine iv_x_mono gr p1 hX ?_
        have := Sd (ck_pl (rm_ck r c))
        rw [hnw] at this
        exact this
      · left
        refine ⟨by omega, ?_⟩
        have := Sd d
        rw [hne d e] at this
        exact this
    · rcases Sl d with q | q
      · rw [q] at he
        by_cases e2 : d = ck_pl (rm_ck r c)
        · rw [e2, hnw, hla] at he
          exact (g6 _ p1).2 e he
        · rw [hne d e2] at he
          exact (g6 d (by omega)).2 e he
      · rw [q] at he; cases he
    · unfold iv_k
      rw [Sc.1, Sc.2.1, Sc.2.2, s5]
      exact ⟨k1, by omega, fun i hi => by cases hi; exact hjn, fun q => absurd rfl q⟩
    · rw [Sj, if_neg hi, pass_ne hi]
    · rw [Sj, if_pos rfl]
      exact end_jb (a := 1) st0 hjn j3.2 (by omega) (pj j').1 (pj j').2.1 (pj j').2.2.2.1 (pj j').2.2.2.2.2 rfl rfl
  have q1 := fun L => pd_sum (r := r) (r' := S) hc Se (fun e he q => hlv _) L
  have q2 := pt_sum (r := r) (r' := S) hc Se (fun e he q => hlv _) (fun e he q => (hki2 _).1)
  have hpd0 : ∀ L, pd S L c = 0 := fun L => pd_0 (Or.inl Sc.1)
  have hpt0 : pt S c = 0 := pt_0 Sc.1
  refine ⟨rk, t, stS, ?_, fun q => ?_, ?_⟩
  · rw [hpt0] at q2
    omega
  · have w : ∃ e, e < 4 ∧ ck_at (rm_ck r e) = 4 ∧ ck_pl (rm_ck r e) = rm_to r := by
      apply hT
      rw [s4] at q
      rcases q with q | ⟨e, he, z1, z2, z3⟩
      · by_cases e2 : rm_to r = ck_pl (rm_ck r c)
        · right
          rw [(Sd _).2.2.2.2, e2, hnw, hth] at q
          exact ⟨c, hc, hat, e2.symm, q⟩
        · left
          rw [(Sd _).2.2.2.2, hne _ e2] at q
          exact q
      · by_cases ec : e = c
        · rw [ec, Sc.1] at z1
          exact absurd z1 (by decide)
        · right
          rw [Se e ec] at z1 z2 z3
          exact ⟨e, he, z1, z2, z3⟩
    obtain ⟨e, he, z1, z2⟩ := w
    have ec : e ≠ c := fun z => by rw [z, hat] at z1; exact absurd z1 (by decide)
    exact ⟨e, he, by rw [Se e ec]; exact z1, by rw [Se e ec, s4]; exact z2⟩
  · rw [s4, hlv]
    have hps : ∀ L, psum (pd S L) ≤ psum (pd r L) := fun L => by
      have := q1 L
      rw [hpd0] at this
      omega
    refine cnv_wr hcn (fun L => ?_) hps (fun L m hm => ?_)
    · unfold cnt
      rw [s3]
      exact cntN_same (fun d _ => hlv d)
    · rcases hm with ⟨d, hd, z1, z2⟩ | ⟨e, he, z1, z2, z3⟩
      · by_cases e : d = ck_pl (rm_ck r c)
        · by_cases hL : L = 0
          · exact Or.inl hL
          · right
            rw [e, hlv] at z1
            rw [e, (Sd _).2.1, hnw] at z2
            obtain ⟨l1, l2⟩ := hlen (by rw [hX.1, z1]; omega)
            refine ⟨(dv_hs (ck_co (rm_ck r c))).length, Or.inr ⟨c, hc, hat, z1, rfl⟩, by omega, ?_⟩
            have := q1 L
            rw [hpd0, show pd r L c = 1 from by unfold pd; rw [if_pos (Or.inr ⟨Or.inr hat, z1, by omega⟩)]] at this
            show m + psum (pd S L) ≤ _ + psum (pd r L)
            omega
        · right
          rw [hlv] at z1
          rw [(Sd d).2.1, hne d e] at z2
          exact ⟨m, Or.inl ⟨d, by omega, z1, z2⟩, Nat.le_refl _, Nat.add_le_add_left (hps L) m⟩
      · by_cases ec : e = c
        · rw [ec, Sc.1] at z1
          exact absurd z1 (by decide)
        · right
          rw [Se e ec] at z1 z2 z3
          rw [hlv] at z2
          exact ⟨m, Or.inr ⟨e, he, z1, z2, z3⟩, Nat.le_refl _, Nat.add_le_add_left (hps L) m⟩

/-! 84: begin, fault, rule keep the invariant -/
theorem pt_13 (r : sg_R) (c : Nat) : pt r c ≤ 13 := by
  unfold pt
  split
  · omega
  · split
    · omega
    · split <;> omega
theorem ch_none {r : sg_R} {j : Nat} (h : ∀ i t, (i, t) ∈ rm_ch r → i < j) : (rm_ch r).lookup j = none := by
  have q : ∀ (l : List (Nat × Nat)), (∀ p ∈ l, p.1 ≠ j) → l.lookup j = none := by
    intro l
    induction l with
    | nil => intro _; rfl
    | cons w v ih =>
      intro hl
      show List.lookup j ((w.1, w.2) :: v) = none
      have e2 : (j == w.1) = false := by
        have := hl w List.mem_cons_self
        simpa using fun z => this z.symm
      simp only [List.lookup, e2]
      exact ih (fun p hp => hl p (List.mem_cons_of_mem _ hp))
  exact q _ (fun p hp z => by have := h p.1 p.2 hp; omega)
theorem iv_begin {r : sg_R} {c kind h : Nat} (hiv : iv r) (hc : c < 4) (hat : ck_at (rm_ck r c) = 0) (hk : kind ≤ 2) (hh : h < 10000) (hn : rm_nj r < 120) (hu : kind = 1 → rm_us r ≤ 196) : iv (sg_begin r c kind h) := by
  obtain ⟨rk, t, st, hp, hT, hcn⟩ := hiv
  have st0 := st
  obtain ⟨⟨g1, g2, g3, g4⟩, g5, g6, g7, g8, g9, g10⟩ := st
  have Sc : rm_ck (sg_begin r c kind h) c = (1, rm_to r, some (rm_nj r), ck_fa (rm_ck r c), h, none, (fun _ => none), ck_co (rm_ck r c)) := sK_at _ _ _
  have Se : ∀ e, e ≠ c → rm_ck (sg_begin r c kind h) e = rm_ck r e := fun e he => (sK_ne he)
  have Sj : ∀ i, rm_jb (sg_begin r c kind h) i = if i = rm_nj r then (kind, h, none, rm_ti r, none, 0, false) else rm_jb r i := fun i => rfl
  have Sjn : ∀ i, i < rm_nj r → rm_jb (sg_begin r c kind h) i = rm_jb r i := fun i hi => by rw [Sj, if_neg (by omega)]
  have S1 : rm_b (sg_begin r c kind h) = rm_b r ∧ rm_ru (sg_begin r c kind h) = rm_ru r ∧ rm_us (sg_begin r c kind h) = rm_us r ∧ rm_to (sg_begin r c kind h) = rm_to r ∧ rm_nj (sg_begin r c kind h) = rm_nj r + 1 ∧ rm_ti (sg_begin r c kind h) = rm_ti r ∧ rm_ch (sg_begin r c kind h) = rm_ch r ∧ rm_dr (sg_begin r c kind h) = rm_dr r := ⟨rfl, rfl, rfl, rfl, rfl, rfl, rfl, rfl⟩
  generalize sg_begin r c kind h = S at *
  obtain ⟨s1, s2, s3, s4, s5, s6, s7, s8⟩ := S1
  have hjo : ∀ e, e < 4 → e ≠ c → ∀ j, ck_jo (rm_ck r e) = some j → j < rm_nj r := fun e he _ j hj => (g7 e he).2.2.1 j hj
  have gr : iv_gr r rk S rk := ⟨s1, by omega, fun d _ => by rw [s8], by omega, fun i hi => by rw [Sjn i hi]; exact ⟨rfl, rfl⟩, fun _ _ _ _ q => q⟩
  have stS : iv_st S rk := by
    refine ⟨⟨by rw [s1]; exact g1, by omega, by omega, by rw [s2]; exact g4⟩, by rw [s3, s4, s8]; exact g5, fun d hd => ?_, fun e he => ?_, fun e f he hf hne q => ?_, ?_, fun i hi => ?_⟩
    · rw [s3] at hd
      rw [s8]
      exact ⟨iv_x_mono gr hd (g6 d hd).1 (sm_rf _), (g6 d hd).2⟩
    · by_cases ec : e = c
      · subst ec
        unfold iv_k
        rw [Sc, s3, s5, s7, s8]
        show ck_fa (rm_ck r e) ≤ 2 ∧ 1 ≤ 4 ∧ (∀ j, some (rm_nj r) = some j → j < rm_nj r + 1) ∧ ((1 : Nat) ≠ 0 → (rm_to r < rm_us r ∧ h < 10000) ∧ _)
        refine ⟨(g7 e he).1, by omega, fun j hj => by cases hj; omega, fun _ => ⟨⟨g5.1, hh⟩, ⟨rm_nj r, rfl, ?_, ?_, fun q => absurd rfl q, fun q => ?_, fun _ => ⟨?_, ?_⟩⟩, fun l p hp => (by cases hp), fun q => absurd (show (1 : Nat) = 4 from q) (by decide), fun q => ?_, fun q => absurd (show (1 : Nat) = 3 from q) (by decide)⟩⟩
        · rw [Sj, if_pos rfl]; exact hk
        · rw [Sj, if_pos rfl]; exact ⟨rfl, rfl⟩
        · rcases q with q | q
          · exact absurd (show (1 : Nat) = 4 from q) (by decide)
          · exact absurd rfl q.1
        · rw [Sj, if_pos rfl]; rfl
        · exact ch_none (fun i t hi => (g9.1 i t hi).1)
        · rcases q with q | q
          · exact absurd (show (1 : Nat) = 2 from q) (by decide)
          · exact absurd (show (1 : Nat) = 3 from q) (by decide)
      · refine iv_k_mono gr (g7 e he) (Se e ec) (fun j hj _ => ?_)
        rw [Sjn j (hjo e he ec j hj), s7]
        exact ⟨⟨rfl, rfl⟩, fun z => z⟩
    · by_cases ec : e = c
      · subst ec
        rw [Sc, Se f (fun z => hne z.symm)]
        intro z
        have := hjo f hf (fun z => hne z.symm) _ z
        omega
      · rw [Se e ec] at q
        rw [Se e ec]
        by_cases fc : f = c
        · subst fc
          rw [Sc]
          intro z
          have := hjo e he ec _ z.symm
          omega
        · rw [Se f fc]
          exact g8 e f he hf hne q
    · obtain ⟨c1, c2, c3⟩ := g9
      refine ⟨fun i t hi => ?_, by rw [s7]; exact c2, by rw [s7]; exact c3⟩
      rw [s7] at hi
      obtain ⟨a1, a2, a3⟩ := c1 i t hi
      rw [Sjn i a1, s5, s6]
      exact ⟨by omega, a2, a3⟩
    · rw [s5] at hi
      rw [s6]
      by_cases e : i = rm_nj r
      · rw [Sj, if_pos e]
        exact ⟨hk, hh, Nat.le_refl _, fun e he => (by cases he), fun _ => rfl⟩
      · rw [Sjn i (by omega)]
        exact g10 i (by omega)
  have q1 : ∀ L, psum (pd S L) = psum (pd r L) := fun L => by
    have := pd_sum (r := r) (r' := S) hc Se (fun e he q => by rw [s8]) L
    rw [pd_0 (Or.inl hat), pd_0 (Or.inr (by rw [Sc]; rfl))] at this
    exact this
  have q2 := pt_sum (r := r) (r' := S) hc Se (fun e he q => by rw [s8]) (fun e he q => by
    obtain ⟨_, ⟨j, j1, _⟩, _⟩ := (g7 e he).2.2.2 q
    rw [show ck_job (rm_ck r e) = j from by unfold ck_job; rw [j1]; rfl, Sjn j ((g7 e he).2.2.1 j j1)])
  rw [pt_0 hat] at q2
  refine ⟨rk, t, stS, ?_, fun q => ?_, ?_⟩
  · rw [s3]
    by_cases e : kind = 1
    · have := hu e
      have h0 := pt_13 S 0
      have h1 := pt_13 S 1
      have h2 := pt_13 S 2
      have h3 := pt_13 S 3
      unfold psum
      omega
    · have : pt S c = 0 := by
        unfold pt
        rw [Sc]
        refine if_pos (Or.inr ?_)
        show jb_ki (rm_jb S (rm_nj r)) ≠ 1
        rw [Sj, if_pos rfl]
        exact e
      omega
  · have w : ∃ e, e < 4 ∧ ck_at (rm_ck r e) = 4 ∧ ck_pl (rm_ck r e) = rm_to r := by
      apply hT
      rw [s4, s8] at q
      rcases q with q | ⟨e, he, z1, z2, z3⟩
      · exact Or.inl q
      · by_cases ec : e = c
        · rw [ec, Sc] at z1
          exact absurd (show (1 : Nat) = 3 from z1) (by decide)
        · rw [Se e ec] at z1 z2 z3
          exact Or.inr ⟨e, he, z1, z2, z3⟩
    obtain ⟨e, he, z1, z2⟩ := w
    have ec : e ≠ c := fun z => by rw [z, hat] at z1; exact absurd z1 (by decide)
    exact ⟨e, he, by rw [Se e ec]; exact z1, by rw [Se e ec, s4]; exact z2⟩
  · rw [s4, s8]
    refine cnv_wr hcn (fun L => ?_) (fun L => Nat.le_of_eq (q1 L)) (fun L m hm => Or.inr ⟨m, ?_, Nat.le_refl _, Nat.le_of_eq (by show m + psum (pd S L) = m + psum (pd r L); rw [q1])⟩)
    · unfold cnt
      rw [s3, s8]
    · rcases hm with ⟨d, hd, z1, z2⟩ | ⟨e, he, z1, z2, z3⟩
      · rw [s8] at z1 z2
        exact Or.inl ⟨d, by omega, z1, z2⟩
      · by_cases ec : e = c
        · rw [ec, Sc] at z1
          exact absurd (show (1 : Nat) = 3 from z1) (by decide)
        · rw [Se e ec] at z1 z2 z3
          rw [s8] at z2
          exact Or.inr ⟨e, he, z1, z2, z3⟩
/-- another fault of a clerk at rest -/
def sg_fault (r : sg_R) (c f : Nat) : sg_R := sg_sK r c (ck_at (rm_ck r c), ck_pl (rm_ck r c), ck_jo (rm_ck r c), f, ck_so (rm_ck r c), ck_ri (rm_ck r c), ck_pa (rm_ck r c), ck_co (rm_ck r c))
theorem iv_fault {r : sg_R} {c f : Nat} (hiv : iv r) (hc : c < 4) (hat : ck_at (rm_ck r c) = 0) (hf : f ≤ 2) : iv (sg_fault r c f) := by
  obtain ⟨rk, t, st, hp, hT, hcn⟩ := hiv
  obtain ⟨⟨g1, g2, g3, g4⟩, g5, g6, g7, g8, g9, g10⟩ := st
  have Sc : rm_ck (sg_fault r c f) c = (ck_at (rm_ck r c), ck_pl (rm_ck r c), ck_jo (rm_ck r c), f, ck_so (rm_ck r c), ck_ri (rm_ck r c), ck_pa (rm_ck r c), ck_co (rm_ck r c)) := sK_at _ _ _
  have Se : ∀ e, e ≠ c → rm_ck (sg_fault r c f) e = rm_ck r e := fun e he => (sK_ne he)
  have Sat : ∀ e, ck_at (rm_ck (sg_fault r c f) e) = ck_at (rm_ck r e) := fun e => by
    by_cases ec : e = c
    · rw [ec, Sc]; rfl
    · rw [Se e ec]
  have Sjo : ∀ e, ck_jo (rm_ck (sg_fault r c f) e) = ck_jo (rm_ck r e) := fun e => by
    by_cases ec : e = c
    · rw [ec, Sc]; rfl
    · rw [Se e ec]
  have ne : ∀ e, ck_at (rm_ck r e) ≠ 0 → e ≠ c := fun e q z => q (by rw [z]; exact hat)
  have gr : iv_gr r rk (sg_fault r c f) rk := ⟨rfl, Nat.le_refl _, fun d _ => rfl, Nat.le_refl _, fun i hi => ⟨rfl, rfl⟩, fun _ _ _ _ q => q⟩
  have stS : iv_st (sg_fault r c f) rk := by
    refine ⟨⟨g1, g2, g3, g4⟩, g5, fun d hd => ⟨iv_x_mono gr hd (g6 d hd).1 (sm_rf _), (g6 d hd).2⟩, fun e he => ?_, fun e k he hk hne q => ?_, g9, g10⟩
    · by_cases ec : e = c
      · subst ec
        unfold iv_k
        rw [Sc]
        exact ⟨hf, (g7 e he).2.1, (g7 e he).2.2.1, fun q => absurd hat q⟩
      · exact iv_k_mono gr (g7 e he) (Se e ec) (fun j _ _ => ⟨⟨rfl, rfl⟩, fun z => z⟩)
    · rw [Sat] at q
      rw [Sjo, Sjo]
      exact g8 e k he hk hne q
  have pdE : ∀ L e, pd (sg_fault r c f) L e = pd r L e := fun L e => by
    by_cases ec : e = c
    · rw [ec, pd_0 (Or.inl hat), pd_0 (Or.inl (by rw [Sat]; exact hat))]
    · unfold pd
      rw [Se e ec]
      rfl
  have ptE : ∀ e, pt (sg_fault r c f) e = pt r e := fun e => by
    by_cases ec : e = c
    · rw [ec, pt_0 hat, pt_0 (by rw [Sat]; exact hat)]
    · unfold pt
      rw [Se e ec]
      rfl
  have h3 : ∀ e, ck_at (rm_ck (sg_fault r c f) e) ≠ 0 → rm_ck (sg_fault r c f) e = rm_ck r e := fun e q => Se e (ne e (by rw [Sat] at q; exact q))
  refine ⟨rk, t, stS, ?_, fun q => ?_, ?_⟩
  · rw [show pt (sg_fault r c f) = pt r from funext ptE]
    exact hp
  · have w : ∃ e, e < 4 ∧ ck_at (rm_ck r e) = 4 ∧ ck_pl (rm_ck r e) = rm_to r := by
      apply hT
      rcases q with q | ⟨e, he, z1, z2, z3⟩
      · exact Or.inl q
      · have ee := h3 e (by rw [z1]; decide)
        rw [ee] at z1 z2 z3
        exact Or.inr ⟨e, he, z1, z2, z3⟩
    obtain ⟨e, he, z1, z2⟩ := w
    have ec : e ≠ c := ne e (by rw [z1]; decide)
    exact ⟨e, he, by rw [Se e ec]; exact z1, by rw [Se e ec]; exact z2⟩
  · have e1 : (fun L => psum (pd (sg_fault r c f) L)) = (fun L => psum (pd r L)) := funext (fun L => by rw [show pd (sg_fault r c f) L = pd r L from funext (pdE L)])
    rw [e1]
    refine cnv_wr hcn (fun L => rfl) (fun L => Nat.le_refl _) (fun L m hm => Or.inr ⟨m, ?_, Nat.le_refl _, Nat.le_refl _⟩)
    rcases hm with z | ⟨e, he, z1, z2, z3⟩
    · exact Or.inl z
    · have ee := h3 e (by rw [z1]; decide)
      rw [ee] at z1 z2 z3
      exact Or.inr ⟨e, he, z1, z2, z3⟩
theorem iv_rule {r : sg_R} {ru : List (Nat × Bool)} (h : iv r) (hr : rl_ok ru) : iv (sg_sR r ru) := by
  obtain ⟨rk, t, ⟨⟨g1, g2, g3, g4⟩, g5, g6, g7, g8, g9, g10⟩, hp, hT, hcn⟩ := h
  exact ⟨rk, t, ⟨⟨g1, g2, g3, hr⟩, g5, g6, g7, g8, g9, g10⟩, hp, hT, hcn⟩

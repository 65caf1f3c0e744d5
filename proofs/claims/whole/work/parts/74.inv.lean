/-! 74: what always holds of the room -/
/-- of a drawer's content x (its own, or a copy's) that belongs to drawer d -/
def iv_x (r : sg_R) (rk : Nat → Nat) (d : Nat) (x : sg_D) : Prop :=
  dv_lev x = dv_lev (rm_dr r d) ∧ (dv_hs x).length ≤ 2 * rm_b r ∧ (∀ h ∈ dv_hs x, h < 10000) ∧ (∀ g, dv_hi x = some g → g < 10000) ∧ (dv_hi x = none ↔ dv_th x = none) ∧ (∀ t, dv_th x = some t → t < rm_us r ∧ dv_lev (rm_dr r t) = dv_lev x ∧ rk d < rk t) ∧ (0 < dv_lev x → (dv_cs x).length = (dv_hs x).length + 1 ∧ ∀ k ∈ dv_cs x, k < rm_us r ∧ dv_lev (rm_dr r k) + 1 = dv_lev x) ∧ (dv_lev x = 0 → dv_cs x = [] ∧ ∀ h ∈ dv_hs x, ∃ j, j < rm_nj r ∧ jb_ki (rm_jb r j) = 1 ∧ jb_he (rm_jb r j) = h)
def iv_k (r : sg_R) (rk : Nat → Nat) (c : Nat) : Prop :=
  ck_fa (rm_ck r c) ≤ 2 ∧ ck_at (rm_ck r c) ≤ 4 ∧ (∀ j, ck_jo (rm_ck r c) = some j → j < rm_nj r) ∧ (ck_at (rm_ck r c) ≠ 0 →
    (ck_pl (rm_ck r c) < rm_us r ∧ ck_so (rm_ck r c) < 10000) ∧
    (∃ j, ck_jo (rm_ck r c) = some j ∧ jb_ki (rm_jb r j) ≤ 2 ∧ (jb_en (rm_jb r j) = none ∧ jb_lo (rm_jb r j) = false) ∧ (ck_at (rm_ck r c) ≠ 1 → jb_ki (rm_jb r j) ≠ 0) ∧ (ck_at (rm_ck r c) = 4 ∨ (ck_at (rm_ck r c) ≠ 1 ∧ 0 < dv_lev (rm_dr r (ck_pl (rm_ck r c)))) → jb_ki (rm_jb r j) = 1) ∧ (ck_at (rm_ck r c) = 1 ∨ (ck_at (rm_ck r c) ≠ 4 ∧ dv_lev (rm_dr r (ck_pl (rm_ck r c))) = 0) → jb_he (rm_jb r j) = ck_so (rm_ck r c) ∧ (rm_ch r).lookup j = none)) ∧
    (∀ l p, ck_pa (rm_ck r c) l = some p → p < rm_us r ∧ dv_lev (rm_dr r p) = l) ∧
    (ck_at (rm_ck r c) = 4 → ∃ n, ck_ri (rm_ck r c) = some n ∧ n < rm_us r ∧ dv_lev (rm_dr r n) = dv_lev (rm_dr r (ck_pl (rm_ck r c)))) ∧
    ((ck_at (rm_ck r c) = 2 ∨ ck_at (rm_ck r c) = 3) → 0 < dv_lev (rm_dr r (ck_pl (rm_ck r c))) → ∃ n, ck_ri (rm_ck r c) = some n ∧ n < rm_us r ∧ dv_lev (rm_dr r n) + 1 = dv_lev (rm_dr r (ck_pl (rm_ck r c)))) ∧
    (ck_at (rm_ck r c) = 3 → iv_x r rk (ck_pl (rm_ck r c)) (ck_co (rm_ck r c))))
def iv_jb (ti : Nat) (y : sg_J) : Prop := jb_ki y ≤ 2 ∧ jb_he y < 10000 ∧ jb_be y ≤ ti ∧ (∀ e, jb_en y = some e → jb_be y < e ∧ e ≤ ti ∧ jb_lo y = false ∧ (jb_an y = some 0 ∨ jb_an y = some 1)) ∧ (jb_en y = none → jb_an y = none)
def iv_ch (r : sg_R) : Prop := (∀ j t, (j, t) ∈ rm_ch r → j < rm_nj r ∧ jb_ki (rm_jb r j) ≠ 0 ∧ t ≤ rm_ti r) ∧ ((rm_ch r).map Prod.fst).Nodup ∧ (rm_ch r).Pairwise (fun a b => a.2 < b.2)
/-- what stands at rest -/
def iv_st (r : sg_R) (rk : Nat → Nat) : Prop :=
  ((2 ≤ rm_b r ∧ rm_b r ≤ 5) ∧ rm_us r ≤ 256 ∧ rm_nj r ≤ 120 ∧ rl_ok (rm_ru r)) ∧ (rm_to r < rm_us r ∧ ∀ d, d < rm_us r → dv_lev (rm_dr r d) ≤ dv_lev (rm_dr r (rm_to r))) ∧
  (∀ d, d < rm_us r → iv_x r rk d (rm_dr r d) ∧ ∀ e, dv_la (rm_dr r d) = some e → e < 4) ∧ (∀ c, c < 4 → iv_k r rk c) ∧ (∀ c e, c < 4 → e < 4 → c ≠ e → ck_at (rm_ck r c) ≠ 0 → ck_jo (rm_ck r e) ≠ ck_jo (rm_ck r c)) ∧ iv_ch r ∧ (∀ j, j < rm_nj r → iv_jb (rm_ti r) (rm_jb r j))
/-- the room grows -/
def iv_gr (r : sg_R) (rk : Nat → Nat) (r' : sg_R) (rk' : Nat → Nat) : Prop := rm_b r' = rm_b r ∧ rm_us r ≤ rm_us r' ∧ (∀ d, d < rm_us r → dv_lev (rm_dr r' d) = dv_lev (rm_dr r d)) ∧ rm_nj r ≤ rm_nj r' ∧ (∀ j, j < rm_nj r → jb_ki (rm_jb r' j) = jb_ki (rm_jb r j) ∧ jb_he (rm_jb r' j) = jb_he (rm_jb r j)) ∧ (∀ d e, d < rm_us r → e < rm_us r → rk d < rk e → rk' d < rk' e)
def iv_sm (x y : sg_D) : Prop := dv_lev x = dv_lev y ∧ dv_hs x = dv_hs y ∧ dv_cs x = dv_cs y ∧ dv_hi x = dv_hi y ∧ dv_th x = dv_th y
theorem iv_x_mono {r r' : sg_R} {rk rk' : Nat → Nat} {d : Nat} {x y : sg_D} (g : iv_gr r rk r' rk') (hd : d < rm_us r) (h : iv_x r rk d x) (hs : iv_sm y x) : iv_x r' rk' d y := by
  obtain ⟨g1, g2, g3, g4, g5, g6⟩ := g
  obtain ⟨h1, h2, h3, h4, h5, h6, h7, h8⟩ := h
  obtain ⟨s1, s2, s3, s4, s5⟩ := hs
  unfold iv_x
  rw [s1, s2, s3, s4, s5, g1, g3 d hd]
  refine ⟨h1, h2, h3, h4, h5, fun t ht => ?_, fun hl => ⟨(h7 hl).1, fun k hk => ?_⟩, fun hl => ⟨(h8 hl).1, fun h hh => ?_⟩⟩
  · obtain ⟨a1, a2, a3⟩ := h6 t ht
    rw [g3 t a1]
    exact ⟨by omega, a2, g6 d t hd a1 a3⟩
  · obtain ⟨a1, a2⟩ := (h7 hl).2 k hk
    rw [g3 k a1]
    exact ⟨by omega, a2⟩
  · obtain ⟨j, a1, a2, a3⟩ := (h8 hl).2 h hh
    refine ⟨j, by omega, ?_, ?_⟩
    · rw [(g5 j a1).1, a2]
    · rw [(g5 j a1).2, a3]
theorem iv_k_mono {r r' : sg_R} {rk rk' : Nat → Nat} {c : Nat} (g : iv_gr r rk r' rk') (h : iv_k r rk c) (e : rm_ck r' c = rm_ck r c) (hj : ∀ j, ck_jo (rm_ck r c) = some j → ck_at (rm_ck r c) ≠ 0 → (jb_en (rm_jb r' j) = jb_en (rm_jb r j) ∧ jb_lo (rm_jb r' j) = jb_lo (rm_jb r j)) ∧ ((rm_ch r).lookup j = none → (rm_ch r').lookup j = none)) : iv_k r' rk' c := by
  have g0 := g
  obtain ⟨g1, g2, g3, g4, g5, g6⟩ := g
  obtain ⟨h1, h2, h3, h4⟩ := h
  unfold iv_k
  rw [e]
  refine ⟨h1, h2, fun j q => Nat.lt_of_lt_of_le (h3 j q) g4, fun q => ?_⟩
  obtain ⟨⟨p1, p2⟩, ⟨j, j1, j2, j3, j4, j5, j6⟩, p3, p4, p5, p6⟩ := h4 q
  have hjn := h3 j j1
  obtain ⟨e1, e2⟩ := hj j j1 q
  refine ⟨⟨by omega, p2⟩, ⟨j, j1, ?_, ?_, ?_, ?_, ?_⟩, fun l p hp => ?_, fun z => ?_, fun z1 z2 => ?_, fun z => ?_⟩
  · rw [(g5 j hjn).1]; exact j2
  · rw [e1.1, e1.2]; exact j3
  · rw [(g5 j hjn).1]; exact j4
  · rw [(g5 j hjn).1, g3 _ p1]; exact j5
  · rw [(g5 j hjn).2, g3 _ p1]
    exact fun z => ⟨(j6 z).1, e2 (j6 z).2⟩
  · obtain ⟨a1, a2⟩ := p3 l p hp
    rw [g3 p a1]
    exact ⟨by omega, a2⟩
  · obtain ⟨n, n1, n2, n3⟩ := p4 z
    refine ⟨n, n1, by omega, ?_⟩
    rw [g3 n n2, g3 _ p1]
    exact n3
  · rw [g3 _ p1] at z2
    obtain ⟨n, n1, n2, n3⟩ := p5 z1 z2
    refine ⟨n, n1, by omega, ?_⟩
    rw [g3 n n2, g3 _ p1]
    exact n3
  · exact iv_x_mono g0 p1 (p6 z) ⟨rfl, rfl, rfl, rfl, rfl⟩
/-- a step of clerk c at job j leaves the rest as it was -/
theorem iv_core {r r' : sg_R} {rk rk' : Nat → Nat} {c j : Nat} (hiv : iv_st r rk) (g : iv_gr r rk r' rk') (hus : rm_us r' ≤ 256) (eru : rm_ru r' = rm_ru r) (enj : rm_nj r' = rm_nj r) (eti : rm_ti r' = rm_ti r + 1)
    (hto : rm_to r' < rm_us r' ∧ ∀ d, d < rm_us r' → dv_lev (rm_dr r' d) ≤ dv_lev (rm_dr r' (rm_to r'))) (hc : c < 4) (hat : ck_at (rm_ck r c) ≠ 0) (hj : ck_jo (rm_ck r c) = some j)
    (hD : ∀ d, d < rm_us r' → (d < rm_us r ∧ iv_sm (rm_dr r' d) (rm_dr r d)) ∨ iv_x r' rk' d (rm_dr r' d)) (hla : ∀ d, d < rm_us r' → ∀ e, dv_la (rm_dr r' d) = some e → e < 4)
    (hK : ∀ e, e ≠ c → rm_ck r' e = rm_ck r e) (hKc : iv_k r' rk' c) (hjo : ck_jo (rm_ck r' c) = some j)
    (hJ : ∀ i, i ≠ j → rm_jb r' i = rm_jb r i) (hJj : iv_jb (rm_ti r + 1) (rm_jb r' j))
    (hch : rm_ch r' = rm_ch r ∨ (rm_ch r' = rm_ch r ++ [(j, rm_ti r + 1)] ∧ (rm_ch r).lookup j = none ∧ jb_ki (rm_jb r j) ≠ 0)) : iv_st r' rk' := by
  have g0 := g
  obtain ⟨g1, g2, g3, g4, g5, g6⟩ := g
  obtain ⟨⟨h1, h2, h3, h4⟩, h5, h6, h7, h8, h9, h10⟩ := hiv
  have hjn : j < rm_nj r := (h7 c hc).2.2.1 j hj
  refine ⟨⟨by rw [g1]; exact h1, hus, by rw [enj]; exact h3, by rw [eru]; exact h4⟩, hto, fun d hd => ⟨?_, hla d hd⟩, fun e he => ?_, fun e f he hf hne q => ?_, ?_, fun i hi => ?_⟩
  · rcases hD d hd with ⟨a1, a2⟩ | q
    · exact iv_x_mono g0 a1 (h6 d a1).1 a2
    · exact q
  · by_cases ec : e = c
    · rw [ec]; exact hKc
    · refine iv_k_mono g0 (h7 e he) (hK e ec) (fun i hi hat2 => ?_)
      have hij : i ≠ j := by
        intro z
        rw [z] at hi
        exact h8 c e hc he (fun z => ec z.symm) hat (hi.trans hj.symm)
      rw [hJ i hij]
      refine ⟨⟨rfl, rfl⟩, fun z => ?_⟩
      rcases hch with q | ⟨q, _, _⟩
      · rw [q]; exact z
      · rw [q, ch_look, z]
        show (if i = j then _ else none) = none
        rw [if_neg hij]
  · have jo : ∀ x, ck_jo (rm_ck r' x) = ck_jo (rm_ck r x) := fun x => by
      by_cases ex : x = c
      · rw [ex, hjo, hj]
      · rw [hK x ex]
    rw [jo e, jo f]
    by_cases ec : e = c
    · rw [ec]
      exact h8 c f hc hf (by rw [← ec]; exact hne) hat
    · rw [hK e ec] at q
      exact h8 e f he hf hne q
  · obtain ⟨c1, c2, c3⟩ := h9
    rcases hch with q | ⟨q, q2, q3⟩
    · refine ⟨fun i t hi => ?_, by rw [q]; exact c2, by rw [q]; exact c3⟩
      rw [q] at hi
      obtain ⟨a1, a2, a3⟩ := c1 i t hi
      rw [enj, (g5 i a1).1, eti]
      exact ⟨a1, a2, by omega⟩
    · refine ⟨fun i t hi => ?_, ?_, ?_⟩
      · rw [q] at hi
        rw [enj, eti]
        rcases List.mem_append.mp hi with z | z
        · obtain ⟨a1, a2, a3⟩ := c1 i t z
          rw [(g5 i a1).1]
          exact ⟨a1, a2, by omega⟩
        · have z := List.mem_singleton.mp z
          cases z
          rw [(g5 j hjn).1]
          exact ⟨hjn, q3, Nat.le_refl _⟩
      · rw [q, List.map_append]
        refine List.nodup_append.mpr ⟨c2, List.nodup_cons.mpr ⟨List.not_mem_nil, List.nodup_nil⟩, fun a ha b hb => ?_⟩
        have hb := List.mem_singleton.mp hb
        intro z
        rw [z, hb] at ha
        obtain ⟨p, hp, hp2⟩ := List.mem_map.mp ha
        have hn : ∀ (l : List (Nat × Nat)), l.lookup j = none → ∀ p ∈ l, p.1 ≠ j := by
          intro l
          induction l with
          | nil => intro _ p hp; cases hp
          | cons w v ih =>
            intro hl p hp
            have hl : List.lookup j ((w.1, w.2) :: v) = none := hl
            by_cases ej : j = w.1
            · subst ej
              simp [List.lookup] at hl
            · have e2 : (j == w.1) = false := by simpa using ej
              simp only [List.lookup, e2] at hl
              rcases List.mem_cons.mp hp with z | z
              · rw [z]; exact fun y => ej y.symm
              · exact ih hl p z
        exact hn _ q2 p hp hp2
      · rw [q]
        refine List.pairwise_append.mpr ⟨c3, List.pairwise_singleton _ _, fun a ha b hb => ?_⟩
        have hb := List.mem_singleton.mp hb
        rw [hb]
        have := (c1 a.1 a.2 ha).2.2
        show a.2 < rm_ti r + 1
        omega
  · rw [enj] at hi
    by_cases e : i = j
    · rw [e, eti]; exact hJj
    · rw [hJ i e, eti]
      obtain ⟨a1, a2, a3, a4, a5⟩ := h10 i hi
      exact ⟨a1, a2, by omega, fun x hx => ⟨(a4 x hx).1, by have := (a4 x hx).2.1; omega, (a4 x hx).2.2⟩, a5⟩

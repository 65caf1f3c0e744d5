/-! 85: a fall keeps the invariant -/
theorem lose_eq (r : sg_R) (c : Nat) : sg_lose r c = if ck_at (rm_ck r c) = 0 then r else sg_sK (sg_sJ r (ck_job (rm_ck r c)) (jb_ki (rm_jb r (ck_job (rm_ck r c))), jb_he (rm_jb r (ck_job (rm_ck r c))), jb_an (rm_jb r (ck_job (rm_ck r c))), jb_be (rm_jb r (ck_job (rm_ck r c))), jb_en (rm_jb r (ck_job (rm_ck r c))), jb_st (rm_jb r (ck_job (rm_ck r c))), true)) c (sg_idle (rm_ck r c)) := rfl
def ls_sm (r r' : sg_R) : Prop := rm_b r' = rm_b r ∧ rm_ru r' = rm_ru r ∧ rm_us r' = rm_us r ∧ rm_to r' = rm_to r ∧ rm_nj r' = rm_nj r ∧ rm_ti r' = rm_ti r ∧ rm_ch r' = rm_ch r ∧ rm_dr r' = rm_dr r
theorem lose_sm (r : sg_R) (c : Nat) : ls_sm r (sg_lose r c) := by
  rw [lose_eq]
  split
  · exact ⟨rfl, rfl, rfl, rfl, rfl, rfl, rfl, rfl⟩
  · exact ⟨rfl, rfl, rfl, rfl, rfl, rfl, rfl, rfl⟩
theorem ls_tr {r r1 r2 : sg_R} (h1 : ls_sm r r1) (h2 : ls_sm r1 r2) : ls_sm r r2 := ⟨h2.1.trans h1.1, h2.2.1.trans h1.2.1, h2.2.2.1.trans h1.2.2.1, h2.2.2.2.1.trans h1.2.2.2.1, h2.2.2.2.2.1.trans h1.2.2.2.2.1, h2.2.2.2.2.2.1.trans h1.2.2.2.2.2.1, h2.2.2.2.2.2.2.1.trans h1.2.2.2.2.2.2.1, h2.2.2.2.2.2.2.2.trans h1.2.2.2.2.2.2.2⟩
def sg_rest (x : sg_K) : sg_K := if ck_at x = 0 then x else sg_idle x
theorem rest_at (x : sg_K) : ck_at (sg_rest x) = 0 ∧ ck_fa (sg_rest x) = ck_fa x ∧ ck_jo (sg_rest x) = ck_jo x := by
  unfold sg_rest
  split
  · next h => exact ⟨h, rfl, rfl⟩
  · exact ⟨rfl, rfl, rfl⟩
theorem lose_ck (r : sg_R) (c e : Nat) : rm_ck (sg_lose r c) e = if e = c then sg_rest (rm_ck r c) else rm_ck r e := by
  rw [lose_eq]
  by_cases h : ck_at (rm_ck r c) = 0
  · rw [if_pos h]
    by_cases q : e = c
    · rw [if_pos q, q]
      unfold sg_rest
      rw [if_pos h]
    · rw [if_neg q]
  · rw [if_neg h]
    show (if e = c then _ else rm_ck r e) = _
    by_cases q : e = c
    · rw [if_pos q, if_pos q]
      unfold sg_rest
      rw [if_neg h]
    · rw [if_neg q, if_neg q]
def ls_jb (r r' : sg_R) : Prop := ∀ i, (jb_ki (rm_jb r' i) = jb_ki (rm_jb r i) ∧ jb_he (rm_jb r' i) = jb_he (rm_jb r i) ∧ jb_an (rm_jb r' i) = jb_an (rm_jb r i) ∧ jb_be (rm_jb r' i) = jb_be (rm_jb r i) ∧ jb_en (rm_jb r' i) = jb_en (rm_jb r i) ∧ jb_st (rm_jb r' i) = jb_st (rm_jb r i)) ∧ (jb_lo (rm_jb r' i) = true → jb_lo (rm_jb r i) = true ∨ jb_en (rm_jb r i) = none)
theorem lose_jb {r r' : sg_R} {c : Nat} (hJ : ls_jb r r') (hck : rm_ck r' c = rm_ck r c) (hen : ck_at (rm_ck r c) ≠ 0 → jb_en (rm_jb r (ck_job (rm_ck r c))) = none) : ls_jb r (sg_lose r' c) := by
  intro i
  rw [lose_eq, hck]
  by_cases h : ck_at (rm_ck r c) = 0
  · rw [if_pos h]
    exact hJ i
  · rw [if_neg h]
    obtain ⟨a, b⟩ := hJ i
    by_cases e : i = ck_job (rm_ck r c)
    · have q : rm_jb (sg_sK (sg_sJ r' (ck_job (rm_ck r c)) (jb_ki (rm_jb r' (ck_job (rm_ck r c))), jb_he (rm_jb r' (ck_job (rm_ck r c))), jb_an (rm_jb r' (ck_job (rm_ck r c))), jb_be (rm_jb r' (ck_job (rm_ck r c))), jb_en (rm_jb r' (ck_job (rm_ck r c))), jb_st (rm_jb r' (ck_job (rm_ck r c))), true)) c (sg_idle (rm_ck r c))) i = (jb_ki (rm_jb r' i), jb_he (rm_jb r' i), jb_an (rm_jb r' i), jb_be (rm_jb r' i), jb_en (rm_jb r' i), jb_st (rm_jb r' i), true) := by
        show (if i = ck_job (rm_ck r c) then _ else rm_jb r' i) = _
        rw [if_pos e, ← e]
      rw [q]
      refine ⟨a, fun _ => Or.inr ?_⟩
      rw [e]
      exact hen h
    · have q : rm_jb (sg_sK (sg_sJ r' (ck_job (rm_ck r c)) (jb_ki (rm_jb r' (ck_job (rm_ck r c))), jb_he (rm_jb r' (ck_job (rm_ck r c))), jb_an (rm_jb r' (ck_job (rm_ck r c))), jb_be (rm_jb r' (ck_job (rm_ck r c))), jb_en (rm_jb r' (ck_job (rm_ck r c))), jb_st (rm_jb r' (ck_job (rm_ck r c))), true)) c (sg_idle (rm_ck r c))) i = rm_jb r' i := by
        show (if i = ck_job (rm_ck r c) then _ else rm_jb r' i) = _
        rw [if_neg e]
      rw [q]
      exact ⟨a, b⟩
def sg_lose4 (r : sg_R) : sg_R := sg_lose (sg_lose (sg_lose (sg_lose r 0) 1) 2) 3
theorem lose4_sm (r : sg_R) : ls_sm r (sg_lose4 r) := ls_tr (ls_tr (ls_tr (lose_sm r 0) (lose_sm _ 1)) (lose_sm _ 2)) (lose_sm _ 3)
theorem lose4_ck (r : sg_R) {c : Nat} (hc : c < 4) : rm_ck (sg_lose4 r) c = sg_rest (rm_ck r c) := by
  have hcs : c = 0 ∨ c = 1 ∨ c = 2 ∨ c = 3 := by omega
  unfold sg_lose4
  rcases hcs with e | e | e | e <;> subst e
  · rw [lose_ck, if_neg (by decide), lose_ck, if_neg (by decide), lose_ck, if_neg (by decide), lose_ck, if_pos rfl]
  · rw [lose_ck, if_neg (by decide), lose_ck, if_neg (by decide), lose_ck, if_pos rfl, lose_ck, if_neg (by decide)]
  · rw [lose_ck, if_neg (by decide), lose_ck, if_pos rfl, lose_ck, if_neg (by decide), lose_ck, if_neg (by decide)]
  · rw [lose_ck, if_pos rfl, lose_ck, if_neg (by decide), lose_ck, if_neg (by decide), lose_ck, if_neg (by decide)]
theorem lose4_jb {r : sg_R} (hen : ∀ c, c < 4 → ck_at (rm_ck r c) ≠ 0 → jb_en (rm_jb r (ck_job (rm_ck r c))) = none) : ls_jb r (sg_lose4 r) := by
  have h0 : ls_jb r r := fun i => ⟨⟨rfl, rfl, rfl, rfl, rfl, rfl⟩, fun q => Or.inl q⟩
  have h1 := lose_jb (c := 0) h0 rfl (hen 0 (by omega))
  have h2 := lose_jb (c := 1) h1 (by rw [lose_ck, if_neg (by decide)]) (hen 1 (by omega))
  have h3 := lose_jb (c := 2) h2 (by rw [lose_ck, if_neg (by decide), lose_ck, if_neg (by decide)]) (hen 2 (by omega))
  exact lose_jb (c := 3) h3 (by rw [lose_ck, if_neg (by decide), lose_ck, if_neg (by decide), lose_ck, if_neg (by decide)]) (hen 3 (by omega))
/-- all latches open -/
def sg_open (r : sg_R) : sg_R := (r.1, (rm_us r, rm_to r, fun d => (dv_lev (rm_dr r d), dv_hs (rm_dr r d), dv_cs (rm_dr r d), dv_hi (rm_dr r d), dv_th (rm_dr r d), none)), r.2.2)
theorem open_eq (r : sg_R) : rm_b (sg_open r) = rm_b r ∧ rm_ru (sg_open r) = rm_ru r ∧ rm_us (sg_open r) = rm_us r ∧ rm_to (sg_open r) = rm_to r ∧ rm_nj (sg_open r) = rm_nj r ∧ rm_ti (sg_open r) = rm_ti r ∧ rm_ch (sg_open r) = rm_ch r ∧ rm_ck (sg_open r) = rm_ck r ∧ rm_jb (sg_open r) = rm_jb r ∧ (∀ d, iv_sm (rm_dr (sg_open r) d) (rm_dr r d)) ∧ (∀ d, dv_la (rm_dr (sg_open r) d) = none) := ⟨rfl, rfl, rfl, rfl, rfl, rfl, rfl, rfl, rfl, fun _ => ⟨rfl, rfl, rfl, rfl, rfl⟩, fun _ => rfl⟩
def sg_crown (r : sg_R) : sg_R := sg_sT (sg_sU (sg_sD r (rm_us r) (dv_lev (rm_dr r (rm_to r)) + 1, (sg_chain r (2 * rm_b r + 1) (some (rm_to r))).dropLast.map (fun d => (dv_hi (rm_dr r d)).getD 0), sg_chain r (2 * rm_b r + 1) (some (rm_to r)), none, none, none)) (rm_us r + 1)) (rm_us r)
theorem sg_fall_eq (r : sg_R) : sg_fall r = if dv_th (rm_dr (sg_open (sg_lose4 r)) (rm_to (sg_open (sg_lose4 r)))) = none then sg_open (sg_lose4 r) else sg_crown (sg_open (sg_lose4 r)) := rfl
theorem chain_mem {r : sg_R} {rk : Nat → Nat} (h : ∀ d, d < rm_us r → ∀ t, dv_th (rm_dr r d) = some t → t < rm_us r ∧ dv_lev (rm_dr r t) = dv_lev (rm_dr r d) ∧ rk d < rk t) : ∀ (n d : Nat), d < rm_us r → ∀ e ∈ sg_chain r n (some d), e < rm_us r ∧ dv_lev (rm_dr r e) = dv_lev (rm_dr r d) ∧ (e = d ∨ rk d < rk e)
  | 0, d, hd, e, he => by cases he
  | n + 1, d, hd, e, he => by
    rw [sg_chain] at he
    rcases List.mem_cons.mp he with q | q
    · rw [q]; exact ⟨hd, rfl, Or.inl rfl⟩
    · cases ht : dv_th (rm_dr r d) with
      | none =>
        rw [ht] at q
        cases n with
        | zero => cases q
        | succ n => cases q
      | some t =>
        rw [ht] at q
        obtain ⟨a1, a2, a3⟩ := h d hd t ht
        obtain ⟨b1, b2, b3⟩ := chain_mem h n t a1 e q
        refine ⟨b1, b2.trans a2, Or.inr ?_⟩
        rcases b3 with z | z
        · rw [z]; exact a3
        · omega
theorem chain_nd {r : sg_R} {rk : Nat → Nat} (h : ∀ d, d < rm_us r → ∀ t, dv_th (rm_dr r d) = some t → t < rm_us r ∧ dv_lev (rm_dr r t) = dv_lev (rm_dr r d) ∧ rk d < rk t) : ∀ (n d : Nat), d < rm_us r → (sg_chain r n (some d)).Nodup
  | 0, d, hd => List.nodup_nil
  | n + 1, d, hd => by
    rw [sg_chain]
    cases ht : dv_th (rm_dr r d) with
    | none =>
      cases n with
      | zero => exact List.nodup_cons.mpr ⟨List.not_mem_nil, List.nodup_nil⟩
      | succ n => exact List.nodup_cons.mpr ⟨List.not_mem_nil, List.nodup_nil⟩
    | some t =>
      obtain ⟨a1, a2, a3⟩ := h d hd t ht
      refine List.nodup_cons.mpr ⟨fun q => ?_, chain_nd h n t a1⟩
      obtain ⟨b1, b2, b3⟩ := chain_mem h n t a1 d q
      rcases b3 with z | z
      · rw [z] at a3; exact Nat.lt_irrefl _ a3
      · omega
theorem chain_len (r : sg_R) : ∀ (n : Nat) (d : Option Nat), (sg_chain r n d).length ≤ n
  | 0, d => Nat.le_refl _
  | n + 1, none => Nat.zero_le _
  | n + 1, some d => by
    rw [sg_chain, List.length_cons]
    have := chain_len r n (dv_th (rm_dr r d))
    omega
theorem iv_open {r S : sg_R} (hS : S = sg_open (sg_lose4 r)) (hiv : iv r) : (∃ rk t, iv_st S rk ∧ psum (pt S) = 0 ∧ (∀ L, psum (pd S L) = 0) ∧ cnv t (dv_lev (rm_dr S (rm_to S))) (cnt S) (fun L => psum (pd S L)) (mh S)) ∧ (∀ c, c < 4 → ck_at (rm_ck S c) = 0) ∧ (dv_th (rm_dr S (rm_to S)) ≠ none → rm_us S < 256) := by
  obtain ⟨rk, t, st, hp, hT, hcn⟩ := hiv
  have st0 := st
  obtain ⟨⟨g1, g2, g3, g4⟩, g5, g6, g7, g8, g9, g10⟩ := st
  obtain ⟨m1, m2, m3, m4, m5, m6, m7, m8⟩ := lose4_sm r
  have hjb := lose4_jb (r := r) (fun c hc q => by
    obtain ⟨_, ⟨j, j1, _, j3, _⟩, _⟩ := (g7 c hc).2.2.2 q
    rw [show ck_job (rm_ck r c) = j from by unfold ck_job; rw [j1]; rfl]
    exact j3.1)
  obtain ⟨o1, o2, o3, o4, o5, o6, o7, o8, o9, o10, o11⟩ := open_eq (sg_lose4 r)
  rw [← hS] at o1 o2 o3 o4 o5 o6 o7 o8 o9 o10 o11
  have hck : ∀ c, c < 4 → ck_at (rm_ck S c) = 0 ∧ ck_fa (rm_ck S c) = ck_fa (rm_ck r c) ∧ ck_jo (rm_ck S c) = ck_jo (rm_ck r c) := fun c hc => by
    rw [o8, lose4_ck r hc]
    exact rest_at _
  have hsm : ∀ d, iv_sm (rm_dr S d) (rm_dr r d) := fun d => by
    have q := o10 d
    rw [m8] at q
    exact q
  have hla : ∀ d, dv_la (rm_dr S d) = none := o11
  have S1 : rm_b S = rm_b r ∧ rm_ru S = rm_ru r ∧ rm_us S = rm_us r ∧ rm_to S = rm_to r ∧ rm_nj S = rm_nj r ∧ rm_ti S = rm_ti r ∧ rm_ch S = rm_ch r := ⟨o1.trans m1, o2.trans m2, o3.trans m3, o4.trans m4, o5.trans m5, o6.trans m6, o7.trans m7⟩
  have hjb : ls_jb r S := fun i => by
    rw [o9]
    exact hjb i
  clear hS
  obtain ⟨s1, s2, s3, s4, s5, s6, s7⟩ := S1
  have gr : iv_gr r rk S rk := ⟨s1, by omega, fun d _ => (hsm d).1, by omega, fun i _ => ⟨(hjb i).1.1, (hjb i).1.2.1⟩, fun _ _ _ _ q => q⟩
  have hpd : ∀ L, psum (pd S L) = 0 := fun L => psum_0 (fun c hc => pd_0 (Or.inl (hck c hc).1))
  refine ⟨⟨rk, t, ⟨⟨by rw [s1]; exact g1, by omega, by omega, by rw [s2]; exact g4⟩, ⟨by rw [s3, s4]; exact g5.1, fun d hd => ?_⟩, fun d hd => ⟨iv_x_mono gr (by omega) (g6 d (by omega)).1 (hsm d), fun e he => by rw [hla] at he; cases he⟩, fun c hc => ?_, fun c e hc he hne q => absurd (hck c hc).1 q, ?_, fun j hj => ?_⟩, psum_0 (fun c hc => pt_0 (hck c hc).1), hpd, ?_⟩, fun c hc => (hck c hc).1, fun q => ?_⟩
  · rw [(hsm _).1, (hsm _).1, s4]
    exact g5.2 d (by omega)
  · unfold iv_k
    obtain ⟨c1, c2, c3⟩ := hck c hc
    rw [c1, c2, c3, s5]
    exact ⟨(g7 c hc).1, by omega, (g7 c hc).2.2.1, fun q => absurd rfl q⟩
  · obtain ⟨c1, c2, c3⟩ := g9
    refine ⟨fun i t hi => ?_, by rw [s7]; exact c2, by rw [s7]; exact c3⟩
    rw [s7] at hi
    rw [s5, s6, (hjb i).1.1]
    exact c1 i t hi
  · rw [s5] at hj
    obtain ⟨⟨a1, a2, a3, a4, a5, a6⟩, a7⟩ := hjb j
    obtain ⟨b1, b2, b3, b4, b5⟩ := g10 j hj
    unfold iv_jb
    rw [a1, a2, a3, a4, a5, s6]
    refine ⟨b1, b2, b3, fun e he => ?_, b5⟩
    obtain ⟨d1, d2, d3, d4⟩ := b4 e he
    refine ⟨d1, d2, ?_, d4⟩
    cases hlo : jb_lo (rm_jb S j) with
    | false => rfl
    | true =>
      rcases a7 hlo with z | z
      · rw [z] at d3; cases d3
      · rw [z] at he; cases he
  · rw [s4, (hsm _).1]
    refine cnv_wr hcn (fun L => ?_) (fun L => by show psum (pd S L) ≤ _; rw [hpd]; exact Nat.zero_le _) (fun L m hm => Or.inr ⟨m, ?_, Nat.le_refl _, by show m + psum (pd S L) ≤ m + psum (pd r L); rw [hpd]; omega⟩)
    · unfold cnt
      rw [s3]
      exact cntN_same (fun d _ => (hsm d).1)
    · rcases hm with ⟨d, hd, z1, z2⟩ | ⟨e, he, z1, z2, z3⟩
      · rw [(hsm d).1] at z1
        rw [(hsm d).2.1] at z2
        exact Or.inl ⟨d, by omega, z1, z2⟩
      · rw [(hck e he).1] at z1
        exact absurd z1 (by decide)
  · rw [s4, (hsm _).2.2.2.2] at q
    obtain ⟨c, hc, z1, z2⟩ := hT (Or.inl q)
    have hz : ck_at (rm_ck r c) ≠ 0 := by rw [z1]; decide
    obtain ⟨_, ⟨j, j1, _, _, _, j5, _⟩, _⟩ := (g7 c hc).2.2.2 hz
    rw [s3]
    exact iv_us st0 hp hcn hc hz j1 (j5 (Or.inl z1))
theorem iv_fall {r : sg_R} (hiv : iv r) : iv (sg_fall r) := by
  rw [sg_fall_eq]
  generalize hR : sg_open (sg_lose4 r) = R
  obtain ⟨⟨rk, t, st, hpt, hpd, hcn⟩, hidle, hus⟩ := iv_open hR.symm hiv
  have no3 : ∀ c, c < 4 → ck_at (rm_ck R c) ≠ 3 := fun c hc q => by rw [hidle c hc] at q; cases q
  by_cases hth : dv_th (rm_dr R (rm_to R)) = none
  · rw [if_pos hth]
    refine ⟨rk, t, st, by rw [hpt]; exact st.1.2.1, fun q => ?_, hcn⟩
    rcases q with q | ⟨c, hc, z, _⟩
    · exact absurd hth q
    · exact absurd z (no3 c hc)
  · rw [if_neg hth]
    have hu := hus hth
    obtain ⟨⟨g1, g2, g3, g4⟩, g5, g6, g7, g8, g9, g10⟩ := st
    have hch : ∀ d, d < rm_us R → ∀ t, dv_th (rm_dr R d) = some t → t < rm_us R ∧ dv_lev (rm_dr R t) = dv_lev (rm_dr R d) ∧ rk d < rk t := fun d hd t ht => (g6 d hd).1.2.2.2.2.2.1 t ht
    have cm := chain_mem hch (2 * rm_b R + 1) (rm_to R) g5.1
    have cnd := chain_nd hch (2 * rm_b R + 1) (rm_to R) g5.1
    have cl := chain_len R (2 * rm_b R + 1) (some (rm_to R))
    have cl2 : 2 ≤ (sg_chain R (2 * rm_b R + 1) (some (rm_to R))).length := by
      cases ht : dv_th (rm_dr R (rm_to R)) with
      | none => exact absurd ht hth
      | some q =>
        obtain ⟨n, hn⟩ : ∃ n, 2 * rm_b R + 1 = n + 1 + 1 := ⟨2 * rm_b R - 1, by omega⟩
        rw [hn, sg_chain, ht, sg_chain, List.length_cons, List.length_cons]
        omega
    have cl3 := cntN_nd (f := fun d => dv_lev (rm_dr R d)) (L := dv_lev (rm_dr R (rm_to R))) (rm_us R) _ cnd (fun d hd => ⟨(cm d hd).1, (cm d hd).2.1⟩)
    have cl3 : (sg_chain R (2 * rm_b R + 1) (some (rm_to R))).length ≤ cnt R (dv_lev (rm_dr R (rm_to R))) := cl3
    have S1 : rm_b (sg_crown R) = rm_b R ∧ rm_ru (sg_crown R) = rm_ru R ∧ rm_us (sg_crown R) = rm_us R + 1 ∧ rm_to (sg_crown R) = rm_us R ∧ rm_nj (sg_crown R) = rm_nj R ∧ rm_ti (sg_crown R) = rm_ti R ∧ rm_ch (sg_crown R) = rm_ch R ∧ rm_ck (sg_crown R) = rm_ck R ∧ rm_jb (sg_crown R) = rm_jb R := ⟨rfl, rfl, rfl, rfl, rfl, rfl, rfl, rfl, rfl⟩
    have Sd : ∀ d, rm_dr (sg_crown R) d = if d = rm_us R then (dv_lev (rm_dr R (rm_to R)) + 1, (sg_chain R (2 * rm_b R + 1) (some (rm_to R))).dropLast.map (fun d => (dv_hi (rm_dr R d)).getD 0), sg_chain R (2 * rm_b R + 1) (some (rm_to R)), none, none, none) else rm_dr R d := fun d => rfl
    generalize sg_chain R (2 * rm_b R + 1) (some (rm_to R)) = l at *
    generalize sg_crown R = S at *
    obtain ⟨s1, s2, s3, s4, s5, s6, s7, s8, s9⟩ := S1
    have De : ∀ d, d < rm_us R → rm_dr S d = rm_dr R d := fun d hd => by rw [Sd, if_neg (by omega)]
    have Du : rm_dr S (rm_us R) = (dv_lev (rm_dr R (rm_to R)) + 1, l.dropLast.map (fun d => (dv_hi (rm_dr R d)).getD 0), l, none, none, none) := by rw [Sd, if_pos rfl]
    have hlv : ∀ d, d < rm_us R → dv_lev (rm_dr S d) = dv_lev (rm_dr R d) := fun d hd => by rw [De d hd]
    have hlu : dv_lev (rm_dr S (rm_us R)) = dv_lev (rm_dr R (rm_to R)) + 1 := by rw [Du]; rfl
    have hml : (l.dropLast.map (fun d => (dv_hi (rm_dr R d)).getD 0)).length = l.length - 1 := by rw [List.length_map, List.length_dropLast]
    have gr : iv_gr R rk S rk := ⟨s1, by omega, hlv, by omega, fun i _ => by rw [s9]; exact ⟨rfl, rfl⟩, fun _ _ _ _ q => q⟩
    have hpdS : ∀ L, psum (pd S L) = 0 := fun L => psum_0 (fun c hc => pd_0 (Or.inl (by rw [s8]; exact hidle c hc)))
    refine ⟨rk, t, ⟨⟨by rw [s1]; exact g1, by omega, by omega, by rw [s2]; exact g4⟩, ⟨by omega, fun d hd => ?_⟩, fun d hd => ?_, fun c hc => ?_, fun c e hc he hne q => ?_, ?_, fun j hj => ?_⟩, ?_, fun q => ?_, ?_⟩
    · rw [s4, hlu]
      by_cases e : d = rm_us R
      · rw [e, hlu]; exact Nat.le_refl _
      · rw [hlv d (by omega)]
        have := g5.2 d (by omega)
        omega
    · by_cases e : d = rm_us R
      · rw [e]
        refine ⟨?_, fun e he => by rw [Du] at he; cases he⟩
        unfold iv_x
        rw [Du]
        refine ⟨rfl, ?_, fun h hh => ?_, fun g hg => (by cases hg), ⟨fun _ => rfl, fun _ => rfl⟩, fun t ht => (by cases ht), fun _ => ⟨?_, fun k hk => ?_⟩, fun q => absurd (show dv_lev (rm_dr R (rm_to R)) + 1 = 0 from q) (Nat.succ_ne_zero _)⟩
        · show (l.dropLast.map _).length ≤ _
          rw [hml, s1]
          omega
        · have hh : h ∈ l.dropLast.map (fun d => (dv_hi (rm_dr R d)).getD 0) := hh
          obtain ⟨x, hx, hx2⟩ := List.mem_map.mp hh
          have hx3 := (cm x ((List.dropLast_sublist l).subset hx)).1
          rw [← hx2]
          cases hhi : dv_hi (rm_dr R x) with
          | none => show (0 : Nat) < 10000; omega
          | some g => exact (g6 x hx3).1.2.2.2.1 g hhi
        · show l.length = (l.dropLast.map _).length + 1
          rw [hml]
          omega
        · show k < _ ∧ _ = dv_lev (rm_dr R (rm_to R)) + 1
          obtain ⟨z1, z2, _⟩ := cm k hk
          rw [hlv k z1, z2]
          exact ⟨by omega, rfl⟩
      · have hd2 : d < rm_us R := by omega
        rw [De d hd2]
        exact ⟨iv_x_mono gr hd2 (g6 d hd2).1 (sm_rf _), (g6 d hd2).2⟩
    · refine iv_k_mono gr (g7 c hc) (by rw [s8]) (fun j _ _ => by rw [s9, s7]; exact ⟨⟨rfl, rfl⟩, fun z => z⟩)
    · rw [s8] at q
      exact absurd (hidle c hc) q
    · unfold iv_ch
      rw [s5, s6, s7, s9]
      exact g9
    · rw [s6, s9]
      exact g10 j (by omega)
    · rw [psum_0 (fun c hc => pt_0 (by rw [s8]; exact hidle c hc))]
      omega
    · exfalso
      rw [s4, Du, s8] at q
      rcases q with q | ⟨c, hc, z, _⟩
      · exact q rfl
      · exact no3 c hc z
    · rw [s4, hlu]
      refine cnv_up (M := l.length - 1) hcn ?_ (cnt_up s3 hlv hlu) (by omega) ?_ (fun L => by show psum (pd S L) ≤ _; rw [hpdS]; exact Nat.zero_le _) (hpdS _) (fun L m hm => ?_) (fun e => ?_)
      · exact cntN_none (fun d hd => by have := g5.2 d hd; show dv_lev (rm_dr R d) ≠ _; omega)
      · show l.length - 1 + 1 + psum (pd S _) ≤ _
        rw [hpdS]
        omega
      · rcases hm with ⟨d, hd, z1, z2⟩ | ⟨e, he, z1, _⟩
        · by_cases e : d = rm_us R
          · right; left
            rw [e] at z1 z2
            rw [hlu] at z1
            rw [Du] at z2
            exact ⟨z1.symm, z2.symm.trans hml⟩
          · right; right
            have hd2 : d < rm_us R := by omega
            rw [De d hd2] at z1 z2
            exact ⟨by rw [← z1]; exact g5.2 d hd2, Or.inl ⟨d, hd2, z1, z2⟩⟩
        · rw [s8] at z1
          exact absurd z1 (no3 e he)
      · have := cnt_12 R
        omega

/-! 97zk: the first room, both sides -/
theorem ln_ne (N : Nat) : ∀ i, i ≠ 14 → dr_ln N i = dr_ln 0 i := by
  intro i h
  unfold dr_ln
  split <;> first | rfl | exact absurd rfl h
theorem ln_14 (N : Nat) : dr_ln N 14 = N := rfl
theorem rb_rk (x : Int32) : r_b x = r_k x := by
  have e2 : (2 : Int32).toInt = 2 := rfl
  have e5 : (5 : Int32).toInt = 5 := rfl
  unfold r_b r_k dr_max dr_min
  by_cases h1 : x < 5
  · rw [if_pos h1]
    have h1' := h1
    rw [Int32.lt_iff_toInt_lt] at h1'
    by_cases h2 : (2 : Int32) < x
    · have h2' := h2
      rw [Int32.lt_iff_toInt_lt] at h2'
      rw [if_pos h2, if_pos (by rw [Int32.le_iff_toInt_le]; omega), if_pos (by rw [Int32.le_iff_toInt_le]; omega)]
    · have h2' := h2
      rw [Int32.lt_iff_toInt_lt] at h2'
      rw [if_neg h2]
      by_cases h3 : (2 : Int32) ≤ x
      · rw [if_pos h3, if_pos (by rw [Int32.le_iff_toInt_le]; omega)]
        rw [Int32.le_iff_toInt_le] at h3
        exact Int32.toInt_inj.mp (by omega)
      · rw [if_neg h3]
  · rw [if_neg h1, if_pos (show (2 : Int32) < 5 by decide)]
    have h1' := h1
    rw [Int32.lt_iff_toInt_lt] at h1'
    rw [if_pos (by rw [Int32.le_iff_toInt_le]; omega)]
    by_cases h3 : x ≤ (5 : Int32)
    · rw [if_pos h3]
      rw [Int32.le_iff_toInt_le] at h3
      exact Int32.toInt_inj.mp (by omega)
    · rw [if_neg h3]
theorem kb_in (x : Int32) : ∃ b : Nat, (2 ≤ b ∧ b ≤ 5) ∧ r_k x = nI b ∧ r_b x = nI b ∧ r_N x = 260 * (4 * b + 8) + 1476 ∧ r_cf x = nI (260 * (4 * b + 8) + 2) := by
  rw [rb_rk]
  unfold r_N r_cf
  rcases r_k_in x with h | h | h | h
  · exact ⟨2, by decide, h, h, by rw [h]; decide, by rw [h]; decide⟩
  · exact ⟨3, by decide, h, h, by rw [h]; decide, by rw [h]; decide⟩
  · exact ⟨4, by decide, h, h, by rw [h]; decide, by rw [h]; decide⟩
  · exact ⟨5, by decide, h, h, by rw [h]; decide, by rw [h]; decide⟩
theorem fld {b : Nat} (hb : 2 ≤ b ∧ b ≤ 5) : ((5 + ((2 * nI b) + 1)) + ((2 * nI b) + 2) : Int32) = nI (4 * b + 8) ∧ ((5 + (2 * nI b)) + 1 : Int32) = nI (2 * b + 6) ∧ (260 * nI (4 * b + 8) : Int32) = nI (260 * (4 * b + 8)) := by
  have h : b = 2 ∨ b = 3 ∨ b = 4 ∨ b = 5 := by omega
  rcases h with z | z | z | z <;> subst z <;> decide
theorem first_room (x : Int32) : ∃ (b : Nat) (s2 s3 sm : dr_S), f_X4_init (dr_ln (r_N x)) (s_X4_init dr_s0 (r_k x)) = some (0, s2) ∧ f_X3_init (dr_ln (r_N x)) (s_X3_init s2 (r_cf x)) = some (0, s3) ∧ f_X12_init (dr_ln (r_N x)) (s_model (r_b x)) = some (0, sm) ∧ rr (dr_ln (r_N x)) (s_all (s_room s3 x) sm) (r0 b) := by
  obtain ⟨b, hb, ek, eb, eN, ec⟩ := kb_in x
  obtain ⟨q1, q2, q3⟩ := fld hb
  have l14 : dr_ln (r_N x) 14 = 260 * (4 * b + 8) + 1476 := (ln_14 _).trans eN
  have hL : dq_L (dr_ln (r_N x)) := ⟨by rw [l14]; omega, rfl, rfl⟩
  have L : dq_ML (dr_ln (r_N x)) := fun i hi => ln_ne _ i (by omega)
  -- the class
  generalize hs4 : s_X4_init dr_s0 (r_k x) = s4
  have v402 : s4.2 402 = nI b := by rw [← hs4, ← ek]; rfl
  have v403 : s4.2 403 = nI (4 * b + 8) := by rw [← hs4, ← q1, ← ek]; rfl
  have v404 : s4.2 404 = nI (2 * b + 6) := by rw [← hs4, ← q2, ← ek]; rfl
  have v405 : s4.2 405 = nI (260 * (4 * b + 8)) := by rw [← hs4, ← q3, ← q1, ← ek]; rfl
  have v406 : s4.2 406 = nI (260 * (4 * b + 8) + 1) := by rw [← hs4, ← nI_1, ← q3, ← q1, ← ek]; rfl
  have z4 : ∀ f, f < 402 ∨ 406 < f → s4.2 f = 0 := fun f hf => by
    rw [← hs4]
    unfold s_X4_init
    rw [q_pfO (by omega), q_pfO (by omega), q_pfO (by omega), q_pfO (by omega), q_pfO (by omega)]
    rfl
  have a4 : ∀ a i, s4.1 a i = 0 := fun a i => by rw [← hs4]; rfl
  obtain ⟨s2, c1, c2, c3⟩ := q4_init (s := s4) hb hL l14 v403 v405 v406 (z4 204 (by omega))
  generalize hs5 : s_X3_init s2 (r_cf x) = s5
  have F5 : ∀ f, f ≠ 301 → s5.2 f = s4.2 f := fun f hf => by rw [← hs5]; show (dr_pf s2 301 (r_cf x)).2 f = _; rw [q_pfO hf, c2.2]
  have A5 : s5.1 = s2.1 := by rw [← hs5]; rfl
  have v301 : s5.2 301 = nI (260 * (4 * b + 8) + 2) := by rw [← hs5, ← ec]; rfl
  obtain ⟨s3, d1, d2, d3, d4⟩ := q3_init_p (b := b) hL l14 4 dr_N 0 s5 (by omega) (by unfold dr_N; omega) v301 (by rw [F5 204 (by decide)]; exact z4 204 (by omega))
  -- the reference
  obtain ⟨t1, e1, ⟨e2, e3, e4, _⟩⟩ := qm_init_p L 256 dr_N 0 (s_model (r_b x)) (by omega) (by unfold dr_N; omega)
  obtain ⟨sm, g1, g2, g3, g4, _⟩ := qm_init_c L 4 dr_N 0 (dr_put t1 30 0 1) (by omega) (by unfold dr_N; omega)
  have eM : f_X12_init (dr_ln (r_N x)) (s_model (r_b x)) = some (0, sm) := by
    unfold f_X12_init
    rw [show f_X12_init_p409 (dr_ln (r_N x)) dr_N 0 (s_model (r_b x)) = _ from e1, show (0 : Int32) = nI 0 from rfl, m_wzb L 30 256 rfl (by decide) (by decide) (by omega)]
    exact g1
  have m2 : ∀ f, f ≠ 1200 → sm.2 f = 0 := fun f hf => by
    rw [g2, q_put2, e2]
    show (dr_pf dr_s0 1200 (r_b x)).2 f = 0
    rw [q_pfO hf]
    rfl
  have m1200 : sm.2 1200 = nI b := by
    rw [g2, q_put2, e2, ← eb]
    rfl
  have mz : ∀ a i, a ≠ 30 → a ≠ 31 → a ≠ 32 → a ≠ 35 → a ≠ 36 → a ≠ 37 → a ≠ 41 → a ≠ 43 → sm.1 a i = 0 := fun a i h0 h1 h2 h3 h4 h5 h6 h7 => by
    rw [g3 a h6 h7, q_putO h0, e3 a h0 h1 h2 h3 h4 h5]
    rfl
  have md : ∀ d, d < 256 → sm.1 30 d = (if d < 1 then 1 else 0) ∧ sm.1 31 d = 0 ∧ sm.1 32 d = 0 ∧ sm.1 35 d = -1 ∧ sm.1 36 d = -1 ∧ sm.1 37 d = -1 := fun d hd => by
    obtain ⟨x0, x1, x2, x3, x4, x5⟩ := e4 d (Nat.zero_le _) hd
    rw [g3 30 (by decide) (by decide), g3 31 (by decide) (by decide), g3 32 (by decide) (by decide), g3 35 (by decide) (by decide), g3 36 (by decide) (by decide), g3 37 (by decide) (by decide)]
    refine ⟨?_, x1, x2, x3, x4, x5⟩
    rw [q_put1]
    by_cases e : d = 0
    · rw [e, q_updS]
      rfl
    · rw [q_updO e, x0, if_neg (by omega)]
  -- both together
  generalize hS : s_all (s_room s3 x) sm = S
  have SA : ∀ a, 28 ≤ a → S.1 a = sm.1 a := fun a ha => by rw [← hS]; exact if_pos ha
  have SF : ∀ f, 1200 ≤ f → S.2 f = sm.2 f := fun f hf => by rw [← hS]; exact if_pos hf
  have SR : ∀ f, f < 1200 → S.2 f = (s_room s3 x).2 f := fun f hf => by rw [← hS]; exact if_neg (by omega)
  have RA : ∀ f, f ≠ 601 → f ≠ 602 → f ≠ 603 → f ≠ 103 → f ≠ 708 → f ≠ 807 → f ≠ 808 → (s_room s3 x).2 f = s3.2 f := fun f h1 h2 h3 h4 h5 h6 h7 => by
    unfold s_room
    show (dr_pf (dr_pf (dr_pf (dr_pf (dr_pf (dr_pf (dr_pf s3 601 (r_cf x + 512)) 602 ((r_cf x + 512) + 960)) 603 (((r_cf x + 512) + 960) + 1)) 103 0) 708 0) 807 (-1)) 808 (-1)).2 f = s3.2 f
    rw [q_pfO h7, q_pfO h6, q_pfO h5, q_pfO h4, q_pfO h3, q_pfO h2, q_pfO h1]
  have S14 : S.1 14 = s3.1 14 := by rw [← hS]; rfl
  have S18 : S.1 18 = s3.1 18 := by rw [← hS]; rfl
  have v3 : ∀ f, f ≠ 301 → s3.2 f = s4.2 f := fun f hf => by rw [d2.2, F5 f hf]
  have u402 : S.2 402 = nI b := by rw [SR 402 (by decide), RA 402 (by decide) (by decide) (by decide) (by decide) (by decide) (by decide) (by decide), v3 402 (by decide), v402]
  have u403 : S.2 403 = nI (4 * b + 8) := by rw [SR 403 (by decide), RA 403 (by decide) (by decide) (by decide) (by decide) (by decide) (by decide) (by decide), v3 403 (by decide), v403]
  have u404 : S.2 404 = nI (2 * b + 6) := by rw [SR 404 (by decide), RA 404 (by decide) (by decide) (by decide) (by decide) (by decide) (by decide) (by decide), v3 404 (by decide), v404]
  have u405 : S.2 405 = nI (260 * (4 * b + 8)) := by rw [SR 405 (by decide), RA 405 (by decide) (by decide) (by decide) (by decide) (by decide) (by decide) (by decide), v3 405 (by decide), v405]
  have u406 : S.2 406 = nI (260 * (4 * b + 8) + 1) := by rw [SR 406 (by decide), RA 406 (by decide) (by decide) (by decide) (by decide) (by decide) (by decide) (by decide), v3 406 (by decide), v406]
  have u301 : S.2 301 = nI (260 * (4 * b + 8) + 2) := by rw [SR 301 (by decide), RA 301 (by decide) (by decide) (by decide) (by decide) (by decide) (by decide) (by decide), d2.2, v301]
  have u601 : S.2 601 = nI (260 * (4 * b + 8) + 514) := by
    rw [SR 601 (by decide)]
    show r_cf x + 512 = _
    rw [ec, show (512 : Int32) = nI 512 from rfl, nI_add]
  have u602 : S.2 602 = nI (260 * (4 * b + 8) + 1474) := by
    rw [SR 602 (by decide)]
    show (r_cf x + 512) + 960 = _
    rw [ec, show (512 : Int32) = nI 512 from rfl, nI_add, show (960 : Int32) = nI 960 from rfl, nI_add]
  have u603 : S.2 603 = nI (260 * (4 * b + 8) + 1475) := by
    rw [SR 603 (by decide)]
    show ((r_cf x + 512) + 960) + 1 = _
    rw [ec, show (512 : Int32) = nI 512 from rfl, nI_add, show (960 : Int32) = nI 960 from rfl, nI_add, nI_1]
  have u0 : ∀ f, f ∈ [503, 203, 204] → S.2 f = 0 := fun f hf => by
    have hf : f = 503 ∨ f = 203 ∨ f = 204 := by
      simp only [List.mem_cons, List.not_mem_nil, or_false] at hf
      exact hf
    rw [SR f (by omega), RA f (by omega) (by omega) (by omega) (by omega) (by omega) (by omega) (by omega), v3 f (by omega)]
    exact z4 f (by omega)
  have G : dq_G b (dr_ln (r_N x)) S := ⟨hb, ⟨l14, rfl, rfl⟩, u402, u403, u404, u405, u406, u301, u601, u602, u603⟩
  -- the row of numbers
  have dpi : ∀ k, k < 4 * b + 8 → dp b 0 k < 256 * (4 * b + 8) := fun k hk => dp_256 (by omega) hk
  have out3 : ∀ p, (∀ c, c < 4 → ∀ k, k < 5 → p ≠ cp b c k) → S.1 14 p = s2.1 14 p := fun p hp => by
    rw [S14, d3 p (fun c _ h2 k hk => hp c h2 k hk), A5]
  have big : ∀ p, 256 * (4 * b + 8) ≤ p → p ≠ 260 * (4 * b + 8) + 1 → s2.1 14 p = 0 := fun p hp q => by
    rw [c3]
    by_cases e : p = 260 * (4 * b + 8)
    · rw [e, q_updS]
    · rw [q_updO e, q_updO (by have := dpi 4 (by omega); omega), q_updO (by have := dpi 3 (by omega); omega), q_updO (by have := dpi 2 (by omega); omega), q_updO (by have := dpi 1 (by omega); omega), q_updO (by have := dpi 0 (by omega); omega), q_updO q, q_updO q]
      exact a4 14 p
  have nd : ∀ i j, i ≠ j → dp b 0 i ≠ dp b 0 j := fun i j q z => by unfold dp at z; omega
  have row0 : ∀ k, k < 4 * b + 8 → S.1 14 (dp b 0 k) = s2.1 14 (dp b 0 k) := fun k hk => out3 _ (fun c hc j hj q => by have := dpi k hk; unfold cp at q; omega)
  have C : rp_C (dr_ln (r_N x)) S (r0 b) := by
    refine ⟨G, ⟨rfl, rfl, rfl, rfl, fun i h1 h2 => ?_, rfl, rfl⟩, ⟨u0 503 (by decide), fun i d g h => (by cases h)⟩, ?_, ?_, fun d hd => ?_, fun c hc => ?_, ?_, ?_, fun j hj => absurd hj (Nat.not_lt_zero _)⟩
    · have h : i = 20 ∨ i = 21 ∨ i = 22 ∨ i = 23 ∨ i = 24 ∨ i = 25 := by omega
      rcases h with z | z | z | z | z | z <;> subst z <;> rfl
    · show S.1 14 (260 * (4 * b + 8)) = nI 0
      rw [out3 _ (fun c hc j hj q => by unfold cp at q; omega), big _ (by omega) (by omega)]
      rfl
    · show S.1 14 (260 * (4 * b + 8) + 1) = nI 1
      rw [out3 _ (fun c hc j hj q => by unfold cp at q; omega), c3, q_updO (by omega), q_updO (by have := dpi 4 (by omega); omega), q_updO (by have := dpi 3 (by omega); omega), q_updO (by have := dpi 2 (by omega); omega), q_updO (by have := dpi 1 (by omega); omega), q_updO (by have := dpi 0 (by omega); omega), q_updS]
      rfl
    · have hd : d < 1 := hd
      have e : d = 0 := by omega
      subst e
      have nt : ∀ k, k < 4 * b + 8 → dp b 0 k ≠ 260 * (4 * b + 8) := fun k hk => by have := dpi k hk; omega
      refine ⟨⟨?_, ?_, ?_, ?_, fun k g h => (by cases h), fun _ k g h => (by cases h)⟩, ?_⟩
      · show S.1 14 (dp b 0 0) = nI 0
        rw [row0 0 (by omega), c3, q_updO (nt 0 (by omega)), q_updO (nd 0 4 (by omega)), q_updO (nd 0 3 (by omega)), q_updO (nd 0 2 (by omega)), q_updO (nd 0 1 (by omega)), q_updS]
        rfl
      · show S.1 14 (dp b 0 1) = nI 0
        rw [row0 1 (by omega), c3, q_updO (nt 1 (by omega)), q_updO (nd 1 4 (by omega)), q_updO (nd 1 3 (by omega)), q_updO (nd 1 2 (by omega)), q_updS]
        rfl
      · show S.1 14 (dp b 0 2) = -1
        rw [row0 2 (by omega), c3, q_updO (nt 2 (by omega)), q_updO (nd 2 4 (by omega)), q_updO (nd 2 3 (by omega)), q_updS]
      · show S.1 14 (dp b 0 3) = -1
        rw [row0 3 (by omega), c3, q_updO (nt 3 (by omega)), q_updO (nd 3 4 (by omega)), q_updS]
      · show S.1 14 (dp b 0 4) = -1
        rw [row0 4 (by omega), c3, q_updO (nt 4 (by omega)), q_updS]
    · obtain ⟨x0, x1, x2, x3, x4⟩ := d4 c (Nat.zero_le _) hc
      rw [← S14] at x0 x1 x2 x3 x4
      refine ⟨x0, x1, x2, x3, x4, ?_, fun q => absurd rfl q, fun q => (by cases q)⟩
      show S.1 14 (cp b c 5) = nI 0
      rw [out3 _ (fun d hd j hj q => by unfold cp at q; omega), big _ (by unfold cp; omega) (by unfold cp; omega)]
      rfl
    · show S.1 14 (260 * (4 * b + 8) + 1474) = nI 0
      rw [out3 _ (fun c hc j hj q => by unfold cp at q; omega), big _ (by omega) (by omega)]
      rfl
    · show S.1 14 (260 * (4 * b + 8) + 1475) = nI 0
      rw [out3 _ (fun c hc j hj q => by unfold cp at q; omega), big _ (by omega) (by omega)]
      rfl
  have z : ∀ a i, 28 ≤ a → a ≠ 30 → a ≠ 31 → a ≠ 32 → a ≠ 35 → a ≠ 36 → a ≠ 37 → a ≠ 41 → a ≠ 43 → S.1 a i = 0 := fun a i h h0 h1 h2 h3 h4 h5 h6 h7 => by rw [SA a h]; exact mz a i h0 h1 h2 h3 h4 h5 h6 h7
  have w : ∀ f, 1200 ≤ f → f ≠ 1200 → S.2 f = 0 := fun f h1 h2 => by rw [SF f h1]; exact m2 f h2
  have M : rp_M (dr_ln (r_N x)) S (r0 b) := by
    refine ⟨L, by rw [SF 1200 (by decide)]; exact m1200, ⟨w 1201 (by decide) (by decide), fun i d g h => (by cases h)⟩, w 1204 (by decide) (by decide), w 1205 (by decide) (by decide), fun d hd => by rw [SA 30 (by decide)]; exact (md d hd).1, fun d hd => ?_, fun d _ hd => by rw [SA 37 (by decide)]; exact (md d hd).2.2.2.2.2, fun c hc => ?_, w 1226 (by decide) (by decide), fun j hj => absurd hj (Nat.not_lt_zero _), fun j _ _ => ⟨z 55 j (by decide) (by decide) (by decide) (by decide) (by decide) (by decide) (by decide) (by decide) (by decide), z 56 j (by decide) (by decide) (by decide) (by decide) (by decide) (by decide) (by decide) (by decide) (by decide)⟩, w 1234 (by decide) (by decide), fun i j t h => (by cases h)⟩
    · have hd : d < 1 := hd
      obtain ⟨x0, x1, x2, x3, x4, x5⟩ := md d (by omega)
      refine ⟨by rw [SA 31 (by decide)]; exact x1, ⟨by rw [SA 32 (by decide)]; exact x2, by rw [SA 35 (by decide)]; exact x3, by rw [SA 36 (by decide)]; exact x4, fun k g h => (by cases h), fun _ k g h => (by cases h)⟩, by rw [SA 37 (by decide)]; exact x5⟩
    · obtain ⟨x0, x1⟩ := g4 c (Nat.zero_le _) hc
      refine ⟨z 38 c (by decide) (by decide) (by decide) (by decide) (by decide) (by decide) (by decide) (by decide) (by decide), z 39 c (by decide) (by decide) (by decide) (by decide) (by decide) (by decide) (by decide) (by decide) (by decide), fun q => absurd rfl q, by rw [SA 41 (by decide)]; exact x0, by rw [SA 43 (by decide)]; exact x1, fun q => absurd rfl q, fun q => (by cases q), fun q => absurd rfl q⟩
  exact ⟨b, s2, s3, sm, c1, by rw [hs5]; exact d1, eM, by rw [hS]; exact ⟨C, M, iv_0 hb, u0 204 (by decide), u0 203 (by decide)⟩⟩

/-! 80: a new top keeps the invariant -/
theorem cnt_up {r r' : sg_R} {l : Nat} (eu : rm_us r' = rm_us r + 1) (hl : ∀ d, d < rm_us r → dv_lev (rm_dr r' d) = dv_lev (rm_dr r d)) (hn : dv_lev (rm_dr r' (rm_us r)) = l) (L : Nat) : cnt r' L = cnt r L + (if L = l then 1 else 0) := by
  unfold cnt
  rw [eu, cntN, cntN_same (f := fun d => dv_lev (rm_dr r d)) (fun d hd => hl d hd)]
  congr 1
  rw [hn]
  by_cases e : L = l
  · rw [if_pos e, if_pos e.symm]
  · rw [if_neg e, if_neg (fun z => e z.symm)]
theorem cnt_12 (r : sg_R) : cnt r 0 + cnt r 1 + cnt r 2 + cnt r 3 + cnt r 4 + cnt r 5 + cnt r 6 + cnt r 7 + cnt r 8 + cnt r 9 + cnt r 10 + cnt r 11 ≤ rm_us r := by
  have h := cntS_le (f := fun d => dv_lev (rm_dr r d)) 12 (rm_us r)
  simp only [cntS, Nat.zero_add] at h
  exact h
theorem iv_raise {r : sg_R} {c j : Nat} (h : iv r) (hc : c < 4) (hat : ck_at (rm_ck r c) = 4) (hpt : ck_pl (rm_ck r c) = rm_to r) (hj : ck_jo (rm_ck r c) = some j) : iv (sg_rise (sg_pass r j) c) := by
  have hat0 : ck_at (rm_ck r c) ≠ 0 := by rw [hat]; decide
  obtain ⟨rk, t, st, hp, hT, hcn⟩ := h
  have st0 := st
  obtain ⟨⟨g1, g2, g3, g4⟩, g5, g6, g7, g8, g9, g10⟩ := st
  obtain ⟨k1, k2, k3, k4⟩ := g7 c hc
  obtain ⟨⟨p1, p2⟩, ⟨j', j1, j2, j3, j4, j5, j6⟩, p3, p4, p5, p6⟩ := k4 hat0
  have ejj : j' = j := by rw [hj] at j1; cases j1; rfl
  subst ejj
  obtain ⟨n, n1, n2, n3⟩ := p4 hat
  have hki := j5 (Or.inl hat)
  have hu := iv_us st0 hp hcn hc hat0 j1 hki
  have hjn := k3 j' j1
  have hl11 := iv_l11 st0 hcn g5.1
  clear k4 p4 p5 p6 j4 j5 j6
  rw [sg_rise_eq, show rm_ck (sg_pass r j') = rm_ck r from rfl, show rm_dr (sg_pass r j') = rm_dr r from rfl, show rm_us (sg_pass r j') = rm_us r from rfl, show rm_to (sg_pass r j') = rm_to r from rfl, if_pos hpt, hpt, show (ck_ri (rm_ck r c)).getD 0 = n from by rw [n1]; rfl]
  rw [hpt] at n3
  generalize hR : sg_sT (sg_sU (sg_sD (sg_pass r j') (rm_us r) (dv_lev (rm_dr r (rm_to r)) + 1, [ck_so (rm_ck r c)], [rm_to r, n], none, none, none)) (rm_us r + 1)) (rm_us r) = R
  have R1 : rm_b R = rm_b r ∧ rm_ru R = rm_ru r ∧ rm_us R = rm_us r + 1 ∧ rm_to R = rm_us r ∧ rm_nj R = rm_nj r ∧ rm_ti R = rm_ti r + 1 ∧ rm_ch R = rm_ch r ∧ rm_ck R = rm_ck r ∧ rm_jb R = rm_jb (sg_pass r j') := by
    rw [← hR]
    exact ⟨rfl, rfl, rfl, rfl, rfl, rfl, rfl, rfl, rfl⟩
  have R2 : ∀ d, rm_dr R d = if d = rm_us r then (dv_lev (rm_dr r (rm_to r)) + 1, [ck_so (rm_ck r c)], [rm_to r, n], none, none, none) else rm_dr r d := by
    intro d
    rw [← hR]
    rfl
  clear hR
  obtain ⟨b1, b2, b3, b4, b5, b6, b7, b8, b9⟩ := R1
  have K := ck_la R c (rm_to r) none
  obtain ⟨a1, a2, a3, a4, a5⟩ := la_all R c (rm_to r) none
  have hjb : ck_job (rm_ck (sg_la R c (rm_to r) none) c) = j' := by unfold ck_job; rw [K.1, b8, hj]; rfl
  rw [sg_end_eq, hjb]
  generalize hS : sg_sK (sg_sJ (sg_la R c (rm_to r) none) j' (jb_ki (rm_jb (sg_la R c (rm_to r) none) j'), jb_he (rm_jb (sg_la R c (rm_to r) none) j'), some 1, jb_be (rm_jb (sg_la R c (rm_to r) none) j'), some (rm_ti (sg_la R c (rm_to r) none)), jb_st (rm_jb (sg_la R c (rm_to r) none) j'), jb_lo (rm_jb (sg_la R c (rm_to r) none) j'))) c (ck_put (rm_ck (sg_la R c (rm_to r) none) c) 0 (ck_pl (rm_ck (sg_la R c (rm_to r) none) c)) (ck_so (rm_ck (sg_la R c (rm_to r) none) c)) none) = S
  have S1 : rm_b S = rm_b r ∧ rm_ru S = rm_ru r ∧ rm_us S = rm_us r + 1 ∧ rm_to S = rm_us r ∧ rm_nj S = rm_nj r ∧ rm_ti S = rm_ti r + 1 ∧ rm_ch S = rm_ch r := by
    rw [← hS]
    exact ⟨K.2.1.trans b1, K.2.2.2.1.trans b2, K.2.2.1.trans b3, a1.trans b4, K.2.2.2.2.1.trans b5, a2.trans b6, a3.trans b7⟩
  have Sc : ck_at (rm_ck S c) = 0 ∧ ck_jo (rm_ck S c) = some j' ∧ ck_fa (rm_ck S c) = ck_fa (rm_ck r c) := by
    rw [← hS, sK_at]
    refine ⟨rfl, ?_, ?_⟩
    · show ck_jo (rm_ck (sg_la R c (rm_to r) none) c) = _
      rw [K.1, b8, hj]
    · show ck_fa (rm_ck (sg_la R c (rm_to r) none) c) = _
      rw [K.1, b8]
  have Se : ∀ e, e ≠ c → rm_ck S e = rm_ck r e := by
    intro e he
    rw [← hS, sK_ne he]
    show rm_ck (sg_la R c (rm_to r) none) e = _
    rw [K.1, b8]
  have Sj : ∀ i, rm_jb S i = if i = j' then (jb_ki (rm_jb (sg_pass r j') j'), jb_he (rm_jb (sg_pass r j') j'), some 1, jb_be (rm_jb (sg_pass r j') j'), some (rm_ti r + 1), jb_st (rm_jb (sg_pass r j') j'), jb_lo (rm_jb (sg_pass r j') j')) else rm_jb (sg_pass r j') i := by
    intro i
    rw [← hS]
    show (if i = j' then _ else rm_jb (sg_la R c (rm_to r) none) i) = _
    rw [K.2.2.2.2.2, a2, b6, b9]
  have Sd : ∀ d, iv_sm (rm_dr S d) (rm_dr R d) := by
    intro d
    rw [← hS]
    exact a4 d
  have Sl : ∀ d, dv_la (rm_dr S d) = dv_la (rm_dr R d) ∨ dv_la (rm_dr S d) = none := by
    intro d
    rw [← hS]
    exact a5 d
  clear hS
  obtain ⟨s1, s2, s3, s4, s5, s6, s7⟩ := S1
  have hne : ∀ d, d < rm_us r → rm_dr R d = rm_dr r d := fun d hd => by rw [R2, if_neg (by omega)]
  have hnw : rm_dr R (rm_us r) = (dv_lev (rm_dr r (rm_to r)) + 1, [ck_so (rm_ck r c)], [rm_to r, n], none, none, none) := by rw [R2, if_pos rfl]
  have hlv : ∀ d, d < rm_us r → dv_lev (rm_dr S d) = dv_lev (rm_dr r d) := fun d hd => by rw [(Sd d).1, hne d hd]
  have hlu : dv_lev (rm_dr S (rm_us r)) = dv_lev (rm_dr r (rm_to r)) + 1 := by rw [(Sd _).1, hnw]; rfl
  have pj := pass_jb r j'
  have hki2 : ∀ i, jb_ki (rm_jb S i) = jb_ki (rm_jb r i) ∧ jb_he (rm_jb S i) = jb_he (rm_jb r i) := by
    intro i
    rw [Sj]
    by_cases e : i = j'
    · rw [if_pos e, e]
      exact ⟨(pj j').1, (pj j').2.1⟩
    · rw [if_neg e]
      exact ⟨(pj i).1, (pj i).2.1⟩
  have gr : iv_gr r rk S rk := ⟨s1, by omega, hlv, by omega, fun i _ => hki2 i, fun _ _ _ _ q => q⟩
  have stS : iv_st S rk := by
    refine iv_core (c := c) (j := j') st0 gr (by omega) s2 s5 s6 ⟨by omega, fun d hd => ?_⟩ hc hat0 hj (fun d hd => ?_) (fun d hd e he => ?_) Se ?_ Sc.2.1 (fun i hi => ?_) ?_ (Or.inl s7)
    · rw [s4, hlu]
      by_cases e : d = rm_us r
      · rw [e, hlu]; exact Nat.le_refl _
      · rw [hlv d (by omega)]
        have := g5.2 d (by omega)
        omega
    · by_cases e : d = rm_us r
      · right
        rw [e]
        obtain ⟨m1, m2, m3, m4, m5⟩ := Sd (rm_us r)
        rw [hnw] at m1 m2 m3 m4 m5
        unfold iv_x
        rw [m1, m2, m3, m4, m5]
        refine ⟨rfl, ?_, fun h hh => ?_, fun g hg => (by cases hg), ⟨fun _ => rfl, fun _ => rfl⟩, fun t ht => (by cases ht), fun _ => ⟨rfl, fun k hk => ?_⟩, fun q => absurd (show dv_lev (rm_dr r (rm_to r)) + 1 = 0 from q) (Nat.succ_ne_zero _)⟩
        · show 1 ≤ _
          rw [s1]
          omega
        · have hh := List.mem_singleton.mp hh
          rw [hh]
          exact p2
        · show k < _ ∧ _ = dv_lev (rm_dr r (rm_to r)) + 1
          have hk : k ∈ [rm_to r, n] := hk
          rcases List.mem_cons.mp hk with z | z
          · rw [z, hlv _ g5.1]
            exact ⟨by have := g5.1; omega, rfl⟩
          · have z := List.mem_singleton.mp z
            rw [z, hlv _ n2, n3]
            exact ⟨by omega, rfl⟩
      · left
        refine ⟨by omega, ?_⟩
        have := Sd d
        rw [hne d (by omega)] at this
        exact this
    · rcases Sl d with q | q
      · rw [q] at he
        by_cases e2 : d = rm_us r
        · rw [e2, hnw] at he
          cases he
        · rw [hne d (by omega)] at he
          exact (g6 d (by omega)).2 e he
      · rw [q] at he; cases he
    · unfold iv_k
      rw [Sc.1, Sc.2.1, Sc.2.2, s5]
      exact ⟨k1, by omega, fun i hi => by cases hi; exact hjn, fun q => absurd rfl q⟩
    · rw [Sj, if_neg hi, pass_ne hi]
    · rw [Sj, if_pos rfl]
      exact end_jb (a := 1) st0 hjn j3.2 (by omega) (pj j').1 (pj j').2.1 (pj j').2.2.2.1 (pj j').2.2.2.2.2 rfl rfl
  have hplt : ∀ e, e < 4 → ck_at (rm_ck r e) ≠ 0 → ck_pl (rm_ck r e) < rm_us r := fun e he q => ((g7 e he).2.2.2 q).1.1
  have q1 := fun L => pd_sum (r := r) (r' := S) hc Se (fun e he q => hlv _ (hplt e he q)) L
  have q2 := pt_sum (r := r) (r' := S) hc Se (fun e he q => hlv _ (hplt e he q)) (fun e he q => (hki2 _).1)
  have hpd0 : ∀ L, pd S L c = 0 := fun L => pd_0 (Or.inl Sc.1)
  have hpt0 : pt S c = 0 := pt_0 Sc.1
  have hptc : 1 ≤ pt r c := by
    unfold pt
    rw [if_neg (by
      intro z
      rcases z with z | z
      · exact hat0 z
      · apply z
        rw [show ck_job (rm_ck r c) = j' from by unfold ck_job; rw [hj]; rfl]
        exact hki), if_pos hat, hpt]
    omega
  have hpdc : pd r (dv_lev (rm_dr r (rm_to r)) + 1) c = 1 := by
    unfold pd
    rw [hpt, if_pos (Or.inl ⟨hat, rfl⟩)]
  have hble : ∀ e, e < 4 → ck_at (rm_ck r e) ≠ 0 → dv_lev (rm_dr S (ck_pl (rm_ck r e))) ≤ dv_lev (rm_dr r (rm_to r)) := fun e he q => by
    rw [hlv _ (hplt e he q)]
    exact g5.2 _ (hplt e he q)
  refine ⟨rk, t, stS, ?_, fun q => ?_, ?_⟩
  · rw [hpt0] at q2
    omega
  · exfalso
    rw [s4] at q
    rcases q with q | ⟨e, he, z1, z2, z3⟩
    · rw [(Sd _).2.2.2.2, hnw] at q
      exact q rfl
    · by_cases ec : e = c
      · rw [ec, Sc.1] at z1
        exact absurd z1 (by decide)
      · rw [Se e ec] at z1 z2
        have := hplt e he (by rw [z1]; decide)
        omega
  · rw [s4, hlu]
    have hcn7 := hcn.2.2.2.2.2.2
    have hcn7 : 1 + psum (pd r (dv_lev (rm_dr r (rm_to r)) + 1)) ≤ cnt r (dv_lev (rm_dr r (rm_to r))) := hcn7
    refine cnv_up (M := 1) hcn ?_ (cnt_up s3 hlv hlu) (Nat.le_refl _) ?_ (fun L => ?_) ?_ (fun L m hm => ?_) (fun e => ?_)
    · exact cntN_none (fun d hd => by have := g5.2 d hd; show dv_lev (rm_dr r d) ≠ _; omega)
    · have := q1 (dv_lev (rm_dr r (rm_to r)) + 1)
      rw [hpd0, hpdc] at this
      show 1 + 1 + psum (pd S (dv_lev (rm_dr r (rm_to r)) + 1)) ≤ _
      omega
    · have := q1 L
      rw [hpd0] at this
      show psum (pd S L) ≤ psum (pd r L)
      omega
    · refine psum_0 (fun e he => ?_)
      by_cases ec : e = c
      · rw [ec]; exact hpd0 _
      · unfold pd
        rw [Se e ec]
        by_cases z : ck_at (rm_ck r e) = 0
        · rw [if_neg (by omega)]
        · have := hble e he z
          rw [if_neg (by omega)]
    · rcases hm with ⟨d, hd, z1, z2⟩ | ⟨e, he, z1, z2, z3⟩
      · by_cases e : d = rm_us r
        · right; left
          rw [e] at z1 z2
          rw [hlu] at z1
          rw [(Sd _).2.1, hnw] at z2
          exact ⟨z1.symm, z2.symm⟩
        · right; right
          have hd2 : d < rm_us r := by omega
          rw [hlv d hd2] at z1
          rw [(Sd d).2.1, hne d hd2] at z2
          exact ⟨by rw [← z1]; exact g5.2 d hd2, Or.inl ⟨d, hd2, z1, z2⟩⟩
      · by_cases ec : e = c
        · rw [ec, Sc.1] at z1
          exact absurd z1 (by decide)
        · right; right
          rw [Se e ec] at z1 z2 z3
          have hz : ck_at (rm_ck r e) ≠ 0 := by rw [z1]; decide
          rw [hlv _ (hplt e he hz)] at z2
          exact ⟨by rw [← z2]; exact g5.2 _ (hplt e he hz), Or.inr ⟨e, he, z1, z2, z3⟩⟩
    · have := cnt_12 r
      omega
/-- going up keeps the invariant -/
theorem iv_rise {r : sg_R} {c j : Nat} (h : iv r) (hc : c < 4) (hat : ck_at (rm_ck r c) = 4) (hj : ck_jo (rm_ck r c) = some j) : iv (sg_rise (sg_pass r j) c) := by
  by_cases hpt : ck_pl (rm_ck r c) = rm_to r
  · exact iv_raise h hc hat hpt hj
  · have hat0 : ck_at (rm_ck r c) ≠ 0 := by rw [hat]; decide
    have hnt : ¬ (ck_at (rm_ck r c) = 4 ∧ ck_pl (rm_ck r c) = rm_to r) := fun q => hpt q.2
    have hst := h
    obtain ⟨rk, t, st, hp, hT, hcn⟩ := hst
    have hs := iv_step_wf st hcn hc
    have mv : ∀ q : Option Nat, (∀ p, q = some p → p < rm_us r ∧ dv_lev (rm_dr r p) = dv_lev (rm_dr r (ck_pl (rm_ck r c))) + 1) → iv (sg_move (sg_pass r j) c q) := by
      intro q hq
      cases q with
      | none => exact iv_wait h hc hat0 hj hnt
      | some p =>
        obtain ⟨a1, a2⟩ := hq p rfl
        exact iv_move h hc (Or.inr hat) hj hnt a1 (by rw [if_pos hat]; exact a2)
    rw [sg_rise_eq, show rm_ck (sg_pass r j) = rm_ck r from rfl, show rm_dr (sg_pass r j) = rm_dr r from rfl, show rm_us (sg_pass r j) = rm_us r from rfl, show rm_to (sg_pass r j) = rm_to r from rfl, if_neg hpt]
    cases hp : ck_pa (rm_ck r c) (dv_lev (rm_dr r (ck_pl (rm_ck r c))) + 1) with
    | none =>
      refine mv _ (fun p hp => ?_)
      have hp : sg_fst (sg_pass r j) (dv_lev (rm_dr r (ck_pl (rm_ck r c))) + 1) 256 (rm_to r) = some p := hp
      exact sg_fst_lt (r := sg_pass r j) (fun d hd => (hs.2.2.2.1 d hd).2) _ _ p st.2.1.1 hp
    | some p =>
      refine mv _ (fun q hq => ?_)
      cases hq
      exact ((st.2.2.2.1 c hc).2.2.2 hat0).2.2.1 _ p hp

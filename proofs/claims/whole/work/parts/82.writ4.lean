/-! 82: writing with parting keeps the invariant -/
theorem part_eq (r : sg_R) (d q : Nat) : rm_dr (sg_part r d) q = (if q = d then (dv_lev (rm_dr r d), (dv_hs (rm_dr r d)).take (if 0 < dv_lev (rm_dr r d) then rm_b r else rm_b r + 1), (dv_cs (rm_dr r d)).take (rm_b r + 1), some ((dv_hs (rm_dr r d)).getD (rm_b r) 0), some (rm_us r), dv_la (rm_dr r d)) else if q = rm_us r then (dv_lev (rm_dr r d), (dv_hs (rm_dr r d)).drop (rm_b r + 1), (dv_cs (rm_dr r d)).drop (rm_b r + 1), dv_hi (rm_dr r d), dv_th (rm_dr r d), none) else rm_dr r q) := rfl
theorem iv_wr_part {r r2 : sg_R} {rk : Nat → Nat} {t c j : Nat} {X : sg_D} (st : iv_st r rk) (hp : rm_us r + psum (pt r) ≤ 256) (hT : iv_T r) (hcn : cnv t (dv_lev (rm_dr r (rm_to r))) (cnt r) (fun L => psum (pd r L)) (mh r)) (hc : c < 4) (hat : ck_at (rm_ck r c) = 3) (hj : ck_jo (rm_ck r c) = some j) (hb : iv_bw r j (ck_pl (rm_ck r c)) X r2)
    (hch : rm_ch r2 = rm_ch r ∨ (rm_ch r2 = rm_ch r ++ [(j, rm_ti r + 1)] ∧ (rm_ch r).lookup j = none ∧ jb_ki (rm_jb r j) ≠ 0)) (hX : iv_y r rk (ck_pl (rm_ck r c)) X) (hXl : (dv_hs X).length = 2 * rm_b r + 1) (hki : jb_ki (rm_jb r j) = 1) (hla : dv_la X = dv_la (rm_dr r (ck_pl (rm_ck r c)))) (hlen : 0 < dv_lev X → (dv_hs X).length ≤ (dv_hs (ck_co (rm_ck r c))).length + 1) : iv (sg_sK (sg_part r2 (ck_pl (rm_ck r c))) c (ck_put (rm_ck r2 c) 4 (ck_pl (rm_ck r c)) ((dv_hs X).getD (rm_b r) 0) (some (rm_us r)))) := by
  have hat0 : ck_at (rm_ck r c) ≠ 0 := by rw [hat]; decide
  have st0 := st
  have hu := iv_us st0 hp hcn hc hat0 hj hki
  obtain ⟨⟨g1, g2, g3, g4⟩, g5, g6, g7, g8, g9, g10⟩ := st
  obtain ⟨k1, k2, k3, k4⟩ := g7 c hc
  obtain ⟨⟨p1, p2⟩, ⟨j', j1, j2, j3, _⟩, p3, _⟩ := k4 hat0
  have ejj : j' = j := by rw [hj] at j1; cases j1; rfl
  subst ejj
  have hjn := k3 j' j1
  have hl11 := iv_l11 st0 hcn p1
  have hlT := g5.2 _ p1
  clear k4
  obtain ⟨⟨b1, b2, b3, b4, b5, b6⟩, b8, b9, b10⟩ := hb
  have hnw : rm_dr r2 (ck_pl (rm_ck r c)) = X := by rw [b10, if_pos rfl]
  have hlc : rm_ck r2 c = rm_ck r c := by rw [b8]
  rw [hlc]
  have PD : ∀ q, rm_dr (sg_part r2 (ck_pl (rm_ck r c))) q = (if q = ck_pl (rm_ck r c) then (dv_lev X, (dv_hs X).take (if 0 < dv_lev X then rm_b r else rm_b r + 1), (dv_cs X).take (rm_b r + 1), some ((dv_hs X).getD (rm_b r) 0), some (rm_us r), dv_la X) else if q = rm_us r then (dv_lev X, (dv_hs X).drop (rm_b r + 1), (dv_cs X).drop (rm_b r + 1), dv_hi X, dv_th X, none) else rm_dr r q) := by
    intro q
    rw [part_eq, hnw, b1, b3]
    by_cases e : q = ck_pl (rm_ck r c)
    · rw [if_pos e, if_pos e]
    · rw [if_neg e, if_neg e, b10, if_neg e]
  generalize hS : sg_sK (sg_part r2 (ck_pl (rm_ck r c))) c (ck_put (rm_ck r c) 4 (ck_pl (rm_ck r c)) ((dv_hs X).getD (rm_b r) 0) (some (rm_us r))) = S
  have S1 : rm_b S = rm_b r ∧ rm_ru S = rm_ru r ∧ rm_us S = rm_us r + 1 ∧ rm_to S = rm_to r ∧ rm_nj S = rm_nj r ∧ rm_ti S = rm_ti r + 1 ∧ rm_ch S = rm_ch r2 := by
    rw [← hS]
    exact ⟨b1, b2, by show rm_us r2 + 1 = _; rw [b3], b4, b5, b6, rfl⟩
  have Sc : rm_ck S c = ck_put (rm_ck r c) 4 (ck_pl (rm_ck r c)) ((dv_hs X).getD (rm_b r) 0) (some (rm_us r)) := by
    rw [← hS, sK_at]
  have Se : ∀ e, e ≠ c → rm_ck S e = rm_ck r e := by
    intro e he
    rw [← hS, sK_ne he]
    show rm_ck r2 e = _
    rw [b8]
  have Sj : rm_jb S = rm_jb (sg_pass r j') := by
    rw [← hS]
    exact b9
  have Sd : ∀ q, rm_dr S q = rm_dr (sg_part r2 (ck_pl (rm_ck r c))) q := by
    intro q
    rw [← hS]
    rfl
  clear hS
  obtain ⟨s1, s2, s3, s4, s5, s6, s7⟩ := S1
  have pj := pass_jb r j'
  have hne : ck_pl (rm_ck r c) ≠ rm_us r := by omega
  have Dd : rm_dr S (ck_pl (rm_ck r c)) = (dv_lev X, (dv_hs X).take (if 0 < dv_lev X then rm_b r else rm_b r + 1), (dv_cs X).take (rm_b r + 1), some ((dv_hs X).getD (rm_b r) 0), some (rm_us r), dv_la X) := by rw [Sd, PD, if_pos rfl]
  have Du : rm_dr S (rm_us r) = (dv_lev X, (dv_hs X).drop (rm_b r + 1), (dv_cs X).drop (rm_b r + 1), dv_hi X, dv_th X, none) := by rw [Sd, PD, if_neg (fun z => hne z.symm), if_pos rfl]
  have De : ∀ e, e ≠ ck_pl (rm_ck r c) → e ≠ rm_us r → rm_dr S e = rm_dr r e := fun e h1 h2 => by rw [Sd, PD, if_neg h1, if_neg h2]
  have hlv : ∀ e, e < rm_us r → dv_lev (rm_dr S e) = dv_lev (rm_dr r e) := fun e he => by
    by_cases q : e = ck_pl (rm_ck r c)
    · rw [q, Dd, ← hX.1]; rfl
    · rw [De e q (by omega)]
  have hlu : dv_lev (rm_dr S (rm_us r)) = dv_lev (rm_dr r (ck_pl (rm_ck r c))) := by rw [Du, ← hX.1]; rfl
  have hki2 : ∀ i, jb_ki (rm_jb S i) = jb_ki (rm_jb r i) ∧ jb_he (rm_jb S i) = jb_he (rm_jb r i) := fun i => by rw [Sj]; exact ⟨(pj i).1, (pj i).2.1⟩
  obtain ⟨x1, x2, x3, x4, x5, x6, x7, x8⟩ := hX
  have hsep : (dv_hs X).getD (rm_b r) 0 < 10000 := by
    rw [List.getD_eq_getElem?_getD, List.getElem?_eq_getElem (by omega)]
    exact x3 _ (List.getElem_mem _)
  have gr : iv_gr r rk S (fun e => if e = rm_us r then 2 * rk (ck_pl (rm_ck r c)) + 1 else 2 * rk e) := ⟨s1, by omega, hlv, by omega, fun i _ => hki2 i, fun d e hd he q => by
    show (if d = rm_us r then _ else _) < (if e = rm_us r then _ else _)
    rw [if_neg (by omega), if_neg (by omega)]
    omega⟩
  have stS : iv_st S (fun e => if e = rm_us r then 2 * rk (ck_pl (rm_ck r c)) + 1 else 2 * rk e) := by
    refine iv_core (c := c) (j := j') st0 gr (by omega) s2 s5 s6 ⟨by rw [s4, s3]; have := g5.1; omega, fun d hd => ?_⟩ hc hat0 hj (fun d hd => ?_) (fun d hd e he => ?_) Se ?_ (by rw [Sc]; exact hj) (fun i hi => ?_) ?_ (by rw [s7]; exact hch)
    · rw [s4, hlv _ g5.1]
      by_cases e : d = rm_us r
      · rw [e, hlu]; exact hlT
      · rw [hlv d (by omega)]
        exact g5.2 d (by omega)
    · by_cases e : d = ck_pl (rm_ck r c)
      · right
        rw [e]
        unfold iv_x
        rw [Dd]
        refine ⟨rfl, ?_, fun h hh => ?_, fun g hg => ?_, ⟨fun q => (by cases q), fun q => (by cases q)⟩, fun t ht => ?_, fun hl => ⟨?_, fun k hk => ?_⟩, fun hl => ⟨?_, fun h hh => ?_⟩⟩
        · show ((dv_hs X).take _).length ≤ _
          rw [List.length_take, s1]
          split <;> omega
        · exact x3 h (List.mem_of_mem_take hh)
        · have hg : some ((dv_hs X).getD (rm_b r) 0) = some g := hg
          cases hg
          exact hsep
        · have ht : some (rm_us r) = some t := ht
          cases ht
          refine ⟨by omega, ?_, ?_⟩
          · rw [hlu, ← x1]; rfl
          · show (if ck_pl (rm_ck r c) = rm_us r then _ else _) < (if rm_us r = rm_us r then _ else _)
            rw [if_neg hne, if_pos rfl]
            omega
        · show ((dv_cs X).take _).length = ((dv_hs X).take _).length + 1
          have hl : 0 < dv_lev X := hl
          rw [List.length_take, List.length_take, if_pos hl, (x7 hl).1, hXl]
          omega
        · have hl : 0 < dv_lev X := hl
          obtain ⟨y1, y2⟩ := (x7 hl).2 k (List.mem_of_mem_take hk)
          rw [hlv k y1]
          exact ⟨by omega, y2⟩
        · show (dv_cs X).take _ = []
          rw [(x8 hl).1]
          rfl
        · obtain ⟨i, i1, i2, i3⟩ := (x8 hl).2 h (List.mem_of_mem_take hh)
          exact ⟨i, by omega, by rw [(hki2 i).1]; exact i2, by rw [(hki2 i).2]; exact i3⟩
      · by_cases e2 : d = rm_us r
        · right
          rw [e2]
          unfold iv_x
          rw [Du]
          refine ⟨rfl, ?_, fun h hh => ?_, x4, x5, fun t ht => ?_, fun hl => ⟨?_, fun k hk => ?_⟩, fun hl => ⟨?_, fun h hh => ?_⟩⟩
          · show ((dv_hs X).drop _).length ≤ _
            rw [List.length_drop, s1]
            omega
          · exact x3 h (List.mem_of_mem_drop hh)
          · obtain ⟨y1, y2, y3⟩ := x6 t ht
            refine ⟨by omega, by rw [hlv t y1]; exact y2, ?_⟩
            show (if rm_us r = rm_us r then _ else _) < (if t = rm_us r then _ else _)
            rw [if_pos rfl, if_neg (by omega)]
            omega
          · show ((dv_cs X).drop _).length = ((dv_hs X).drop _).length + 1
            have hl : 0 < dv_lev X := hl
            rw [List.length_drop, List.length_drop, (x7 hl).1, hXl]
            omega
          · have hl : 0 < dv_lev X := hl
            obtain ⟨y1, y2⟩ := (x7 hl).2 k (List.mem_of_mem_drop hk)
            rw [hlv k y1]
            exact ⟨by omega, y2⟩
          · show (dv_cs X).drop _ = []
            rw [(x8 hl).1]
            rfl
          · obtain ⟨i, i1, i2, i3⟩ := (x8 hl).2 h (List.mem_of_mem_drop hh)
            exact ⟨i, by omega, by rw [(hki2 i).1]; exact i2, by rw [(hki2 i).2]; exact i3⟩
        · left
          refine ⟨by omega, ?_⟩
          rw [De d e e2]
          exact sm_rf _
    · by_cases e1 : d = ck_pl (rm_ck r c)
      · rw [e1, Dd] at he
        have he : dv_la X = some e := he
        rw [hla] at he
        exact (g6 _ p1).2 e he
      · by_cases e2 : d = rm_us r
        · rw [e2, Du] at he
          cases he
        · rw [De d e1 e2] at he
          exact (g6 d (by omega)).2 e he
    · unfold iv_k
      rw [Sc]
      show ck_fa (rm_ck r c) ≤ 2 ∧ 4 ≤ 4 ∧ (∀ j, ck_jo (rm_ck r c) = some j → j < rm_nj S) ∧ ((4 : Nat) ≠ 0 → (ck_pl (rm_ck r c) < rm_us S ∧ (dv_hs X).getD (rm_b r) 0 < 10000) ∧ _)
      refine ⟨k1, by omega, fun i hi => by rw [s5]; exact k3 i hi, fun _ => ⟨⟨by omega, hsep⟩, ⟨j', hj, ?_, ?_, fun _ => ?_, fun _ => ?_, fun q => ?_⟩, fun l p hp => ?_, fun _ => ⟨rm_us r, rfl, by omega, ?_⟩, fun q => ?_, fun q => absurd (show (4 : Nat) = 3 from q) (by decide)⟩⟩
      · rw [(hki2 j').1]; exact j2
      · rw [Sj, (pj j').2.2.2.2.1, (pj j').2.2.2.2.2]; exact j3
      · rw [(hki2 j').1, hki]; decide
      · rw [(hki2 j').1]; exact hki
      · rcases q with q | q
        · exact absurd (show (4 : Nat) = 1 from q) (by decide)
        · exact absurd rfl q.1
      · obtain ⟨y1, y2⟩ := p3 l p hp
        rw [hlv p y1]
        exact ⟨by omega, y2⟩
      · show dv_lev (rm_dr S (rm_us r)) = dv_lev (rm_dr S (ck_pl (rm_ck r c)))
        rw [hlu, hlv _ p1]
      · rcases q with q | q
        · exact absurd (show (4 : Nat) = 2 from q) (by decide)
        · exact absurd (show (4 : Nat) = 3 from q) (by decide)
    · rw [Sj, pass_ne hi]
    · rw [Sj]
      exact jb_pass st0 hjn
  have hplt : ∀ e, e < 4 → ck_at (rm_ck r e) ≠ 0 → ck_pl (rm_ck r e) < rm_us r := fun e he q => ((g7 e he).2.2.2 q).1.1
  have q1 := fun L => pd_sum (r := r) (r' := S) hc Se (fun e he q => hlv _ (hplt e he q)) L
  have q2 := pt_sum (r := r) (r' := S) hc Se (fun e he q => hlv _ (hplt e he q)) (fun e he q => (hki2 _).1)
  have pdS : ∀ L, pd S L c = if L = dv_lev (rm_dr r (ck_pl (rm_ck r c))) + 1 then 1 else 0 := by
    intro L
    unfold pd
    rw [Sc]
    show (if ((4 : Nat) = 4 ∧ dv_lev (rm_dr S (ck_pl (rm_ck r c))) + 1 = L) ∨ (((4 : Nat) = 2 ∨ (4 : Nat) = 3) ∧ dv_lev (rm_dr S (ck_pl (rm_ck r c))) = L ∧ 1 ≤ L) then 1 else 0) = _
    rw [hlv _ p1]
    by_cases e : L = dv_lev (rm_dr r (ck_pl (rm_ck r c))) + 1
    · rw [if_pos e, if_pos (Or.inl ⟨rfl, e.symm⟩)]
    · rw [if_neg e, if_neg (by omega)]
  have pdR : ∀ L, pd r L c = if L = dv_lev (rm_dr r (ck_pl (rm_ck r c))) ∧ 1 ≤ L then 1 else 0 := by
    intro L
    unfold pd
    by_cases e : L = dv_lev (rm_dr r (ck_pl (rm_ck r c))) ∧ 1 ≤ L
    · rw [if_pos e, if_pos (Or.inr ⟨Or.inr hat, e.1.symm, e.2⟩)]
    · rw [if_neg e, if_neg (by omega)]
  have hjb : ck_job (rm_ck r c) = j' := by unfold ck_job; rw [hj]; rfl
  have ptS : pt S c = 12 - dv_lev (rm_dr r (ck_pl (rm_ck r c))) := by
    unfold pt
    have e1 : ck_job (rm_ck S c) = j' := by rw [Sc]; exact hjb
    rw [e1, (hki2 j').1, if_neg (by
      intro z
      rcases z with z | z
      · rw [Sc] at z
        exact absurd (show (4 : Nat) = 0 from z) (by decide)
      · exact z hki), if_pos (by rw [Sc]; rfl), Sc]
    show 12 - dv_lev (rm_dr S (ck_pl (rm_ck r c))) = _
    rw [hlv _ p1]
  have ptR : pt r c = 13 - dv_lev (rm_dr r (ck_pl (rm_ck r c))) := by
    unfold pt
    rw [hjb, if_neg (by
      intro z
      rcases z with z | z
      · exact hat0 z
      · exact z hki), if_neg (by rw [hat]; decide), if_neg (by rw [hat]; decide)]
  refine ⟨_, t, stS, ?_, fun q => ?_, ?_⟩
  · rw [ptS, ptR] at q2
    omega
  · by_cases e2 : ck_pl (rm_ck r c) = rm_to r
    · exact ⟨c, hc, by rw [Sc]; rfl, by rw [Sc, s4]; exact e2⟩
    · have w : ∃ e, e < 4 ∧ ck_at (rm_ck r e) = 4 ∧ ck_pl (rm_ck r e) = rm_to r := by
        apply hT
        rw [s4] at q
        rcases q with q | ⟨e, he, z1, z2, z3⟩
        · left
          rw [De _ (fun z => e2 z.symm) (by have := g5.1; omega)] at q
          exact q
        · by_cases ec : e = c
          · rw [ec, Sc] at z1
            exact absurd (show (4 : Nat) = 3 from z1) (by decide)
          · right
            rw [Se e ec] at z1 z2 z3
            exact ⟨e, he, z1, z2, z3⟩
      obtain ⟨e, he, z1, z2⟩ := w
      have ec : e ≠ c := fun z => by rw [z, hat] at z1; exact absurd z1 (by decide)
      exact ⟨e, he, by rw [Se e ec]; exact z1, by rw [Se e ec, s4]; exact z2⟩
  · rw [s4, hlv _ g5.1]
    refine cnv_part (L0 := dv_lev (rm_dr r (ck_pl (rm_ck r c)))) hcn hlT (cntN_pos p1 rfl) (cnt_up s3 hlv hlu) ?_ (fun h1 => ?_) (fun L n1 n2 => ?_) (fun L m hm => ?_) (fun h1 => ?_)
    · have := q1 (dv_lev (rm_dr r (ck_pl (rm_ck r c))) + 1)
      rw [pdS, if_pos rfl] at this
      show psum (pd S (dv_lev (rm_dr r (ck_pl (rm_ck r c))) + 1)) ≤ psum (pd r (dv_lev (rm_dr r (ck_pl (rm_ck r c))) + 1)) + 1
      omega
    · have := q1 (dv_lev (rm_dr r (ck_pl (rm_ck r c))))
      have e1 : pd S (dv_lev (rm_dr r (ck_pl (rm_ck r c)))) c = 0 := by rw [pdS, if_neg (Nat.ne_of_lt (Nat.lt_succ_self _))]
      have e2 : pd r (dv_lev (rm_dr r (ck_pl (rm_ck r c)))) c = 1 := by rw [pdR, if_pos ⟨rfl, h1⟩]
      rw [e1, e2] at this
      show psum (pd S (dv_lev (rm_dr r (ck_pl (rm_ck r c))))) + 1 ≤ psum (pd r (dv_lev (rm_dr r (ck_pl (rm_ck r c)))))
      omega
    · have := q1 L
      rw [pdS, if_neg n2] at this
      show psum (pd S L) ≤ psum (pd r L)
      omega
    · rcases hm with ⟨d, hd, z1, z2⟩ | ⟨e, he, z1, z2, z3⟩
      · by_cases e : d = ck_pl (rm_ck r c)
        · right; right
          rw [e, hlv _ p1] at z1
          rw [e, Dd] at z2
          have z2 : ((dv_hs X).take (if 0 < dv_lev X then rm_b r else rm_b r + 1)).length = m := z2
          refine ⟨z1.symm, ?_⟩
          rw [List.length_take] at z2
          split at z2 <;> omega
        · by_cases e2 : d = rm_us r
          · right; right
            rw [e2, hlu] at z1
            rw [e2, Du] at z2
            have z2 : ((dv_hs X).drop (rm_b r + 1)).length = m := z2
            rw [List.length_drop] at z2
            exact ⟨z1.symm, by omega⟩
          · right; left
            rw [De d e e2] at z1 z2
            exact Or.inl ⟨d, by omega, z1, z2⟩
      · by_cases ec : e = c
        · rw [ec, Sc] at z1
          exact absurd (show (4 : Nat) = 3 from z1) (by decide)
        · right; left
          rw [Se e ec] at z1 z2 z3
          have hz : ck_at (rm_ck r e) ≠ 0 := by rw [z1]; decide
          rw [hlv _ (hplt e he hz)] at z2
          exact Or.inr ⟨e, he, z1, z2, z3⟩
    · refine ⟨(dv_hs (ck_co (rm_ck r c))).length, Or.inr ⟨c, hc, hat, rfl, rfl⟩, ?_⟩
      have := hlen (by rw [x1]; omega)
      omega

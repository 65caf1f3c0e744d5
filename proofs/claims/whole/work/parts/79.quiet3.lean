/-! 79: reading, holding, moving keep the invariant -/
def ptv (a l : Nat) : Nat := if a = 4 then 12 - l else if a = 1 then 13 else 13 - l
theorem pt_mono {r r' : sg_R} {c j : Nat} (hj : ck_jo (rm_ck r c) = some j) (hj' : ck_jo (rm_ck r' c) = some j) (hk : jb_ki (rm_jb r' j) = jb_ki (rm_jb r j)) (hat : ck_at (rm_ck r c) ≠ 0) (hv : ck_at (rm_ck r' c) ≠ 0 → ptv (ck_at (rm_ck r' c)) (dv_lev (rm_dr r' (ck_pl (rm_ck r' c)))) ≤ ptv (ck_at (rm_ck r c)) (dv_lev (rm_dr r (ck_pl (rm_ck r c))))) : pt r' c ≤ pt r c := by
  have e1 : ck_job (rm_ck r c) = j := by unfold ck_job; rw [hj]; rfl
  have e2 : ck_job (rm_ck r' c) = j := by unfold ck_job; rw [hj']; rfl
  unfold pt
  rw [e1, e2, hk]
  by_cases q : ck_at (rm_ck r' c) = 0 ∨ jb_ki (rm_jb r j) ≠ 1
  · rw [if_pos q]
    exact Nat.zero_le _
  · have q2 : ¬ (ck_at (rm_ck r c) = 0 ∨ jb_ki (rm_jb r j) ≠ 1) := by
      intro z
      rcases z with z | z
      · exact hat z
      · exact q (Or.inr z)
    rw [if_neg q, if_neg q2]
    exact hv (fun z => q (Or.inl z))
theorem ptv_le (a l : Nat) : ptv a l ≤ 13 := by
  unfold ptv
  split
  · omega
  · split <;> omega
theorem iv_read {r : sg_R} {c j : Nat} (h : iv r) (hc : c < 4) (hat : ck_at (rm_ck r c) = 1) (hj : ck_jo (rm_ck r c) = some j) : iv (sg_read (sg_pass r j) c) := by
  have hat0 : ck_at (rm_ck r c) ≠ 0 := by rw [hat]; decide
  have hnt : ¬ (ck_at (rm_ck r c) = 4 ∧ ck_pl (rm_ck r c) = rm_to r) := fun q => by omega
  have hjb : ck_job (rm_ck (sg_pass r j) c) = j := by unfold ck_job; rw [show rm_ck (sg_pass r j) c = rm_ck r c from rfl, hj]; rfl
  have P : ∀ rk, iv_st r rk → (ck_pl (rm_ck r c) < rm_us r ∧ ck_so (rm_ck r c) < 10000) ∧ (jb_he (rm_jb r j) = ck_so (rm_ck r c) ∧ (rm_ch r).lookup j = none) ∧ (∀ l p, ck_pa (rm_ck r c) l = some p → p < rm_us r ∧ dv_lev (rm_dr r p) = l) := by
    intro rk st
    obtain ⟨k1, k2, k3, k4⟩ := st.2.2.2.1 c hc
    obtain ⟨p, ⟨j', j1, j2, j3, j4, j5, j6⟩, p3, p4, p5, p6⟩ := k4 hat0
    have ejj : j' = j := by rw [hj] at j1; cases j1; rfl
    subst ejj
    exact ⟨p, j6 (Or.inl hat), p3⟩
  have ptb : ∀ (r2 : sg_R) (x : sg_K), iv_ba r c j r2 → ck_jo x = some j → pt (sg_sK r2 c x) c ≤ pt r c := by
    intro r2 x hb hx
    refine pt_mono hj (by rw [sK_at]; exact hx) ?_ hat0 (fun _ => ?_)
    · show jb_ki (rm_jb r2 j) = _
      rw [hb.2.2.1]
      exact (pass_jb r j j).1
    · rw [hat]
      exact ptv_le _ _
  rw [sg_read_eq, hjb]
  have e1 : rm_ck (sg_pass r j) = rm_ck r := rfl
  have e2 : rm_dr (sg_pass r j) = rm_dr r := rfl
  have e3 : rm_ru (sg_pass r j) = rm_ru r := rfl
  rw [e1, e2, e3, (pass_jb r j j).1]
  split
  · cases ht : dv_th (rm_dr r (ck_pl (rm_ck r c))) with
    | none => exact iv_wait h hc hat0 hj hnt
    | some t =>
      refine iv_setK h hc hat0 hj (ba_pass r c j) hj rfl ⟨by show 1 ≤ 4; omega, by show (1 : Nat) ≠ 0; omega⟩ (fun rk st => ?_) (fun L => ?_) (ptb _ _ (ba_pass r c j) hj) (fun q => absurd (show (1 : Nat) = 3 from q) (by decide)) hnt
      · obtain ⟨p1, p2, p3⟩ := P rk st
        exact ⟨⟨((st.2.2.1 _ p1.1).1.2.2.2.2.2.1 t ht).1, p1.2⟩, fun q => absurd rfl q, fun q => by rcases q with q | q; exact absurd (show (1 : Nat) = 4 from q) (by decide); exact absurd rfl q.1, fun _ => p2, p3, fun q => absurd (show (1 : Nat) = 4 from q) (by decide), fun q => by rcases q with q | q; exact absurd (show (1 : Nat) = 2 from q) (by decide); exact absurd (show (1 : Nat) = 3 from q) (by decide), fun q => absurd (show (1 : Nat) = 3 from q) (by decide)⟩
      · rw [pd_0 (Or.inr (by rw [sK_at]; rfl))]
        exact Nat.zero_le _
  · split
    · next h0 =>
      refine iv_setK h hc hat0 hj (ba_pass r c j) hj rfl ⟨by show 1 ≤ 4; omega, by show (1 : Nat) ≠ 0; omega⟩ (fun rk st => ?_) (fun L => ?_) (ptb _ _ (ba_pass r c j) hj) (fun q => absurd (show (1 : Nat) = 3 from q) (by decide)) hnt
      · obtain ⟨p1, p2, p3⟩ := P rk st
        obtain ⟨a1, a2⟩ := (st.2.2.1 _ p1.1).1.2.2.2.2.2.2.1 h0
        have wl := sg_way_le (rm_ru r) (ck_so (rm_ck r c)) (dv_hs (rm_dr r (ck_pl (rm_ck r c))))
        refine ⟨⟨?_, p1.2⟩, fun q => absurd rfl q, fun q => by rcases q with q | q; exact absurd (show (1 : Nat) = 4 from q) (by decide); exact absurd rfl q.1, fun _ => p2, fun l p hp => ?_, fun q => absurd (show (1 : Nat) = 4 from q) (by decide), fun q => by rcases q with q | q; exact absurd (show (1 : Nat) = 2 from q) (by decide); exact absurd (show (1 : Nat) = 3 from q) (by decide), fun q => absurd (show (1 : Nat) = 3 from q) (by decide)⟩
        · show (dv_cs (rm_dr r (ck_pl (rm_ck r c)))).getD _ 0 < _
          rw [List.getD_eq_getElem?_getD, List.getElem?_eq_getElem (by omega)]
          exact (a2 _ (List.getElem_mem _)).1
        · have hp : (if l = dv_lev (rm_dr r (ck_pl (rm_ck r c))) then some (ck_pl (rm_ck r c)) else ck_pa (rm_ck r c) l) = some p := hp
          by_cases e : l = dv_lev (rm_dr r (ck_pl (rm_ck r c)))
          · rw [if_pos e] at hp
            cases hp
            exact ⟨p1.1, e.symm⟩
          · rw [if_neg e] at hp
            exact p3 l p hp
      · rw [pd_0 (Or.inr (by rw [sK_at]; rfl))]
        exact Nat.zero_le _
    · next h0 =>
      split
      · refine iv_endK h hc hat0 hj (ba_pass r c j) ?_ hnt
        split <;> omega
      · next hk =>
        split
        · refine iv_setK h hc hat0 hj (ba_la (ba_pass r c j) (Or.inr rfl)) hj rfl ⟨by show 2 ≤ 4; omega, by show (2 : Nat) ≠ 0; omega⟩ (fun rk st => ?_) (fun L => ?_) (ptb _ _ (ba_la (ba_pass r c j) (Or.inr rfl)) hj) (fun q => absurd (show (2 : Nat) = 3 from q) (by decide)) hnt
          · obtain ⟨p1, p2, p3⟩ := P rk st
            refine ⟨p1, fun _ => hk, fun q => ?_, fun _ => p2, p3, fun q => absurd (show (2 : Nat) = 4 from q) (by decide), fun _ q => absurd q h0, fun q => absurd (show (2 : Nat) = 3 from q) (by decide)⟩
            rcases q with q | q
            · exact absurd (show (2 : Nat) = 4 from q) (by decide)
            · exact absurd q.2 h0
          · have hl := (ba_la (d := ck_pl (rm_ck r c)) (ba_pass r c j) (Or.inr rfl)).2.2.2.1
            unfold pd
            rw [sK_at]
            refine Nat.le_trans (Nat.le_of_eq (if_neg ?_)) (Nat.zero_le _)
            intro z
            rcases z with z | z
            · exact absurd (show (2 : Nat) = 4 from z.1) (by decide)
            · have z2 : dv_lev (rm_dr (sg_la (sg_pass r j) c (ck_pl (rm_ck r c)) (some c)) (ck_pl (rm_ck r c))) = L := z.2.1
              rw [(hl _).1] at z2
              have := z.2.2
              omega
        · exact iv_wait h hc hat0 hj hnt
/-- he moves on to drawer t, of his level or (rising) the next -/
theorem iv_move {r : sg_R} {c j t : Nat} (h : iv r) (hc : c < 4) (hat : ck_at (rm_ck r c) = 2 ∨ ck_at (rm_ck r c) = 4) (hj : ck_jo (rm_ck r c) = some j) (hnt : ¬ (ck_at (rm_ck r c) = 4 ∧ ck_pl (rm_ck r c) = rm_to r)) (ht : t < rm_us r) (hl : dv_lev (rm_dr r t) = (if ck_at (rm_ck r c) = 4 then dv_lev (rm_dr r (ck_pl (rm_ck r c))) + 1 else dv_lev (rm_dr r (ck_pl (rm_ck r c))))) : iv (sg_move (sg_pass r j) c (some t)) := by
  have hat0 : ck_at (rm_ck r c) ≠ 0 := by omega
  rw [sg_move_eq]
  split
  · have hb : iv_ba r c j (sg_la (sg_la (sg_pass r j) c (ck_pl (rm_ck (sg_pass r j) c)) none) c t (some c)) := ba_la (ba_la (ba_pass r c j) (Or.inl rfl)) (Or.inr rfl)
    have hlv := hb.2.2.2.1
    refine iv_setK h hc hat0 hj hb hj rfl ⟨by show 2 ≤ 4; omega, by show (2 : Nat) ≠ 0; omega⟩ (fun rk st => ?_) (fun L => ?_) ?_ (fun q => absurd (show (2 : Nat) = 3 from q) (by decide)) hnt
    · obtain ⟨k1, k2, k3, k4⟩ := st.2.2.2.1 c hc
      obtain ⟨p, ⟨j', j1, j2, j3, j4, j5, j6⟩, p3, p4, p5, p6⟩ := k4 hat0
      have ejj : j' = j := by rw [hj] at j1; cases j1; rfl
      subst ejj
      refine ⟨⟨ht, p.2⟩, fun _ => j4 (by rcases hat with e | e <;> rw [e] <;> decide), fun q => ?_, fun q => ?_, p3, fun q => absurd (show (2 : Nat) = 4 from q) (by decide), fun _ q => ?_, fun q => absurd (show (2 : Nat) = 3 from q) (by decide)⟩
      · rcases q with q | q
        · exact absurd (show (2 : Nat) = 4 from q) (by decide)
        · have q2 : 0 < dv_lev (rm_dr r t) := q.2
          rcases hat with e | e
          · rw [hl, if_neg (by rw [e]; decide)] at q2
            exact j5 (Or.inr ⟨by rw [e]; decide, q2⟩)
          · exact j5 (Or.inl e)
      · rcases q with q | q
        · exact absurd (show (2 : Nat) = 1 from q) (by decide)
        · have q2 : dv_lev (rm_dr r t) = 0 := q.2
          rcases hat with e | e
          · rw [hl, if_neg (by rw [e]; decide)] at q2
            exact j6 (Or.inr ⟨by rw [e]; decide, q2⟩)
          · rw [hl, if_pos e] at q2
            exact absurd q2 (Nat.succ_ne_zero _)
      · have q2 : 0 < dv_lev (rm_dr r t) := q
        rcases hat with e | e
        · rw [hl, if_neg (by rw [e]; decide)] at q2
          obtain ⟨n, n1, n2, n3⟩ := p5 (Or.inl e) q2
          exact ⟨n, n1, n2, by show _ = dv_lev (rm_dr r t); rw [hl, if_neg (by rw [e]; decide)]; exact n3⟩
        · obtain ⟨n, n1, n2, n3⟩ := p4 e
          exact ⟨n, n1, n2, by show _ = dv_lev (rm_dr r t); rw [hl, if_pos e, n3]⟩
    · unfold pd
      rw [sK_at]
      by_cases z : (2 : Nat) = 4 ∧ dv_lev (rm_dr r t) + 1 = L ∨ (((2 : Nat) = 2 ∨ (2 : Nat) = 3) ∧ dv_lev (rm_dr r t) = L ∧ 1 ≤ L)
      · refine Nat.le_trans (m := 1) ?_ (Nat.le_of_eq (if_pos ?_).symm)
        · split <;> omega
        · rcases z with z | z
          · exact absurd z.1 (by decide)
          · rcases hat with e | e
            · right
              refine ⟨Or.inl e, ?_, z.2.2⟩
              rw [← z.2.1, hl, if_neg (by rw [e]; decide)]
            · left
              refine ⟨e, ?_⟩
              rw [← z.2.1, hl, if_pos e]
      · refine Nat.le_trans (Nat.le_of_eq (if_neg ?_)) (Nat.zero_le _)
        intro y
        apply z
        rcases y with y | y
        · exact absurd (show (2 : Nat) = 4 from y.1) (by decide)
        · right
          refine ⟨Or.inl rfl, ?_, y.2.2⟩
          have y2 : dv_lev (rm_dr (sg_la (sg_la (sg_pass r j) c (ck_pl (rm_ck (sg_pass r j) c)) none) c t (some c)) t) = L := y.2.1
          rw [(hlv t).1] at y2
          exact y2
    · refine pt_mono hj (by rw [sK_at]; exact hj) ?_ hat0 (fun _ => ?_)
      · show jb_ki (rm_jb (sg_la (sg_la (sg_pass r j) c (ck_pl (rm_ck (sg_pass r j) c)) none) c t (some c)) j) = _
        rw [hb.2.2.1]
        exact (pass_jb r j j).1
      · rw [sK_at]
        show ptv 2 (dv_lev (rm_dr (sg_la (sg_la (sg_pass r j) c (ck_pl (rm_ck (sg_pass r j) c)) none) c t (some c)) t)) ≤ _
        rw [(hlv t).1, hl]
        rcases hat with e | e
        · rw [e]
          exact Nat.le_refl _
        · rw [e, if_pos rfl]
          unfold ptv
          rw [if_neg (by decide), if_neg (by decide), if_pos rfl]
          omega
  · exact iv_wait h hc hat0 hj hnt
theorem iv_hold {r : sg_R} {c j : Nat} (h : iv r) (hc : c < 4) (hat : ck_at (rm_ck r c) = 2) (hj : ck_jo (rm_ck r c) = some j) : iv (sg_hold (sg_pass r j) c) := by
  have hat0 : ck_at (rm_ck r c) ≠ 0 := by rw [hat]; decide
  have hnt : ¬ (ck_at (rm_ck r c) = 4 ∧ ck_pl (rm_ck r c) = rm_to r) := fun q => by omega
  rw [sg_hold_eq]
  have e1 : rm_ck (sg_pass r j) = rm_ck r := rfl
  have e2 : rm_dr (sg_pass r j) = rm_dr r := rfl
  rw [e1, e2]
  split
  · cases ht : dv_th (rm_dr r (ck_pl (rm_ck r c))) with
    | none => exact iv_wait h hc hat0 hj hnt
    | some t =>
      have hst := h
      obtain ⟨rk0, t0, st0, _⟩ := hst
      obtain ⟨p, _⟩ := (st0.2.2.2.1 c hc).2.2.2 hat0
      obtain ⟨a1, a2, a3⟩ := (st0.2.2.1 _ p.1).1.2.2.2.2.2.1 t ht
      exact iv_move h hc (Or.inl hat) hj hnt a1 (by rw [if_neg (by rw [hat]; decide)]; exact a2)
  · refine iv_setK h hc hat0 hj (ba_pass r c j) hj rfl ⟨by show 3 ≤ 4; omega, by show (3 : Nat) ≠ 0; omega⟩ (fun rk st => ?_) (fun L => ?_) ?_ (fun q => Or.inl (sm_rf _)) hnt
    · obtain ⟨k1, k2, k3, k4⟩ := st.2.2.2.1 c hc
      obtain ⟨p, ⟨j', j1, j2, j3, j4, j5, j6⟩, p3, p4, p5, p6⟩ := k4 hat0
      have ejj : j' = j := by rw [hj] at j1; cases j1; rfl
      subst ejj
      refine ⟨p, fun _ => j4 (by rw [hat]; decide), fun q => ?_, fun q => ?_, p3, fun q => absurd (show (3 : Nat) = 4 from q) (by decide), fun _ q => p5 (Or.inl hat) q, fun _ => (st.2.2.1 _ p.1).1⟩
      · rcases q with q | q
        · exact absurd (show (3 : Nat) = 4 from q) (by decide)
        · exact j5 (Or.inr ⟨by rw [hat]; decide, q.2⟩)
      · rcases q with q | q
        · exact absurd (show (3 : Nat) = 1 from q) (by decide)
        · exact j6 (Or.inr ⟨by rw [hat]; decide, q.2⟩)
    · unfold pd
      rw [sK_at]
      by_cases z : dv_lev (rm_dr r (ck_pl (rm_ck r c))) = L ∧ 1 ≤ L
      · refine Nat.le_trans (m := 1) ?_ (Nat.le_of_eq (if_pos (Or.inr ⟨Or.inl hat, z⟩)).symm)
        split <;> omega
      · refine Nat.le_trans (Nat.le_of_eq (if_neg ?_)) (Nat.zero_le _)
        intro y
        rcases y with y | y
        · exact absurd (show (3 : Nat) = 4 from y.1) (by decide)
        · exact z y.2
    · refine pt_mono hj (by rw [sK_at]; exact hj) (pass_jb r j j).1 hat0 (fun _ => ?_)
      rw [sK_at, hat]
      exact Nat.le_refl _

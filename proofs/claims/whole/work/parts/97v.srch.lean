/-! 97v: rows of steps that show it, as mathematics; what is asked behind a row, of the class -/
def sw (r : sg_R) (h1 h2 : Nat) : Bool := (sg_shp r (rm_us r) 0).isSome || (decide (jd r h1 = 0) || decide (jd r h2 = 0))
def fs (a c h1 h2 : Nat) : Nat → sg_R → Option (List (Option Nat))
  | 0, r => if sw r h1 h2 = true then some [] else none
  | n + 1, r => if ck_at (rm_ck r a) = 0 ∧ ck_at (rm_ck r c) = 0 then (fs a c h1 h2 n r).map (fun l => none :: l)
    else match (if ck_at (rm_ck r a) = 0 then none else (fs a c h1 h2 n (sg_step r a)).map (fun l => some a :: l)) with
      | some l => some l
      | none => if ck_at (rm_ck r c) = 0 then none else (fs a c h1 h2 n (sg_step r c)).map (fun l => some c :: l)
def jh (r : sg_R) (a h : Nat) : Prop := ∃ j, ck_jo (rm_ck r a) = some j ∧ jb_he (rm_jb r j) = h
def gw_P (a c h1 h2 : Nat) (r : sg_R) : Prop := iv r ∧ (a < 4 ∧ c < 4) ∧ jh r a h1 ∧ jh r c h2
theorem jh_step {r : sg_R} {x a h : Nat} (hat : ck_at (rm_ck r x) ≠ 0) (hj : jh r a h) : jh (sg_step r x) a h := by
  obtain ⟨s, _⟩ := sk_step (c := x) hat
  obtain ⟨j, j1, j2⟩ := hj
  refine ⟨j, ?_, by rw [(s.2.2.2.1 j).2.1]; exact j2⟩
  by_cases e : a = x
  · rw [e, s.2.1.2, ← e]
    exact j1
  · rw [s.1 a e]
    exact j1
theorem gw_step {r : sg_R} {a c h1 h2 x : Nat} (h : gw_P a c h1 h2 r) (hx : x < 4) (hat : ck_at (rm_ck r x) ≠ 0) : gw_P a c h1 h2 (sg_step r x) := ⟨iv_step h.1 hx hat, h.2.1, jh_step hat h.2.2.1, jh_step hat h.2.2.2⟩
theorem jd_01 (r : sg_R) (h : Nat) : jd r h = -1 ∨ jd r h = 0 ∨ jd r h = 1 := by
  unfold jd
  split
  · exact Or.inl rfl
  · right
    unfold bI
    split
    · exact Or.inr rfl
    · exact Or.inl rfl
theorem jh_ok {r : sg_R} {rk : Nat → Nat} {a h : Nat} (st : iv_st r rk) (ha : a < 4) (hj : jh r a h) : ∃ j, ck_jo (rm_ck r a) = some j ∧ j < rm_nj r ∧ jb_he (rm_jb r j) = h ∧ h < 10000 := by
  obtain ⟨j, j1, j2⟩ := hj
  have hn := (st.2.2.2.1 a ha).2.2.1 j j1
  exact ⟨j, j1, hn, j2, by rw [← j2]; exact (st.2.2.2.2.2.2 j hn).2.1⟩
theorem q8_wrong {ln : Nat → Nat} {s : dr_S} {r : sg_R} {a c h1 h2 : Nat} (hC : rp_C ln s r) (hP : gw_P a c h1 h2 r) (hti : rm_ti r < 2 ^ 30) (e7 : s.2 807 = nI a) (e8 : s.2 808 = nI c) : ∃ s', f_X8_isWrongNow ln s = some (bI (sw r h1 h2), s') ∧ lq_F s s' := by
  obtain ⟨hiv, ⟨ha, hc⟩, jh1, jh2⟩ := hP
  obtain ⟨rk, t, st, hp, hT, hcn⟩ := hiv
  obtain ⟨ja, a1, a2, a3, a4⟩ := jh_ok st ha jh1
  obtain ⟨jc, c1, c2, c3, c4⟩ := jh_ok st hc jh2
  have hnj := st.1.2.2.1
  have hv := st.2.2.2.2.2.2
  have g1 := q3_get (c := a) (k := 2) hC.1 ha (by omega)
  rw [(hC.2.2.2.2.2.2.1 a ha).2.2.1, a1] at g1
  have g2 := q6_get (c := ja) (k := 1) hC.1 (by omega) (by omega)
  rw [(hC.2.2.2.2.2.2.2.2.2 ja a2).2.1, a3] at g2
  have g3 := q3_get (c := c) (k := 2) hC.1 hc (by omega)
  rw [(hC.2.2.2.2.2.2.1 c hc).2.2.1, c1] at g3
  have g4 := q6_get (c := jc) (k := 1) hC.1 (by omega) (by omega)
  rw [(hC.2.2.2.2.2.2.2.2.2 jc c2).2.1, c3] at g4
  unfold f_X8_isWrongNow
  rw [e7, show f_X3_get ln (nI a) 2 s = some (nI ja, s) from g1, q_bi, show f_X6_get ln (nI ja) 1 s = some (nI h1, s) from g2, q_bi, e8, show f_X3_get ln (nI c) 2 s = some (nI jc, s) from g3, q_bi, show f_X6_get ln (nI jc) 1 s = some (nI h2, s) from g4, q_bi, q9_least hC (iv_sh st hcn), q_bi]
  unfold sw
  cases hsh : sg_shp r (rm_us r) 0 with
  | some d =>
    have hd : d < 2 ^ 31 := by
      have key : ∀ (k i : Nat), sg_shp r k i = some d → d < i + k := by
        intro k
        induction k with
        | zero => intro i q; cases q
        | succ k ih =>
          intro i q
          rw [sg_shp] at q
          split at q
          · cases q; omega
          · have := ih (i + 1) q
            omega
      have := key _ _ hsh
      have := st.1.2.1
      omega
    rw [if_neg (show ¬ nO (some d) = (-1 : Int32) from n1_ne hd)]
    exact ⟨s, rfl, lq_rf s⟩
  | none =>
    rw [if_pos (show nO none = (-1 : Int32) from rfl)]
    obtain ⟨s1, b1, b2, _⟩ := q7_judge hC a4 hti hnj hv
    rw [b1, q_bi]
    by_cases z1 : jd r h1 = 0
    · rw [if_pos z1, decide_eq_true z1]
      exact ⟨s1, rfl, b2⟩
    · rw [if_neg z1, decide_eq_false z1]
      obtain ⟨s2, d1, d2, _⟩ := q7_judge (lq_C hC b2) c4 hti hnj hv
      rw [d1, q_bi]
      by_cases z2 : jd r h2 = 0
      · rw [if_pos z2, decide_eq_true z2]
        exact ⟨s2, rfl, lq_tr b2 d2⟩
      · rw [if_neg z2, decide_eq_false z2]
        exact ⟨s2, rfl, lq_tr b2 d2⟩

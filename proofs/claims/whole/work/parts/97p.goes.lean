/-! 97p: the orders of the answers, of the class -/
theorem bI_0 (c : Bool) : (bI c = 0) = (c = false) := by cases c <;> decide
theorem q7_ncf_p {ln : Nat → Nat} {s : dr_S} {r : sg_R} {J : List Nat} {S k : Nat} (hT : lt_C s r J) (hJ : l_ok r J) (l23 : ln 23 = 9) (l24 : ln 24 = 9) (hti : rm_ti r < 2 ^ 30) (hS : S < 512) (hk : k < J.length) : ∀ (n fu i : Nat), J.length = i + n → n < fu → f_X7_nothingComesFirst_p2 ln fu (nI k) (nI S) (nI i) s = some (bI (l_nf r J S k n i), s)
  | n, 0, _, _, q => absurd q (Nat.not_lt_zero _)
  | 0, fu + 1, i, hi, hf => by
    have := hJ.1
    rw [f_X7_nothingComesFirst_p2, hT.1, if_pos (nI_le (by omega) (by omega))]
    rfl
  | n + 1, fu + 1, i, hi, hf => by
    have := hJ.1
    have ih := q7_ncf_p hT hJ l23 l24 hti hS hk n fu (i + 1) (by omega) (by omega)
    obtain ⟨j1, j2, j3, j4, j5, j6⟩ := hJ.2 i (by omega)
    obtain ⟨k1, k2, k3, k4, k5, k6⟩ := hJ.2 k hk
    obtain ⟨_, _, _, _, t24⟩ := hT.2 i (by omega)
    obtain ⟨_, _, _, t23, _⟩ := hT.2 k hk
    rw [f_X7_nothingComesFirst_p2, hT.1, if_neg (nI_ge (by omega) (by omega)), if_neg (show ¬ (9 : Int32) ≤ nI i from nI_ge (b := 9) (by omega) (by omega)), l_nf]
    unfold f_X7_nothingComesFirst_p41
    cases hb : S.testBit i with
    | true =>
      rw [if_neg (fun q => by have := (b_and hS (show i < 9 by omega)).mp q; rw [hb] at this; cases this), q_let, nI_1, ih, Bool.true_or, Bool.true_and]
    | false =>
      rw [if_pos ((b_and hS (show i < 9 by omega)).mpr hb), q_rd (by omega) (by omega), Option.bind_some, q_rd (by omega) (by omega), Option.bind_some, t24, t23, j5, show nO (some (l_en r J i)) = nI (l_en r J i) from rfl, Bool.false_or]
      by_cases q : jb_be (lj r J k) < l_en r J i
      · rw [if_pos (nI_lt q (by omega)), q_let, nI_1, ih, decide_eq_true q, Bool.true_and]
      · rw [if_neg (nI_nlt (by omega) (by omega)), decide_eq_false q, Bool.false_and]
        rfl
theorem q7_right {ln : Nat → Nat} {s : dr_S} {r : sg_R} {J : List Nat} {k : Nat} {th : Bool} (hT : lt_C s r J) (hJ : l_ok r J) (l21 : ln 21 = 9) (l22 : ln 22 = 9) (hk : k < J.length) : f_X7_isRight ln (nI k) (bI th) s = some (bI (l_right r J th k), s) := by
  have := hJ.1
  obtain ⟨k1, k2, k3, k4, k5, k6⟩ := hJ.2 k hk
  obtain ⟨_, t21, t22, _, _⟩ := hT.2 k hk
  unfold f_X7_isRight f_X7_isRight_p15 f_X7_isRight_p33 f_X7_isRight_p41 l_right l_an
  rw [q_rd (by omega) (by omega), Option.bind_some, q_rd (by omega) (by omega), Option.bind_some, Option.bind_some, t21, t22]
  generalize jb_ki (lj r J k) = x at *
  have hx : x = 0 ∨ x = 1 ∨ x = 2 := by omega
  rcases k6 with e | e <;> rw [e] <;> rcases hx with z | z | z <;> subst z <;> cases th <;> rfl
/-- of a set whose bit stands there no order goes on -/
def dd_ok (s : dr_S) (r : sg_R) (J : List Nat) : Prop := ∀ S, S < 2 ^ J.length → (s.1 26 (S / 32)) &&& (1 <<< nI (S % 32)) ≠ 0 → l_L (l_mc r J) J.length (cm S J.length) S = false
def go_F (s s' : dr_S) (p : Nat) : Prop := (∀ a, a ≠ 25 → a ≠ 26 → s'.1 a = s.1 a) ∧ s'.2 = s.2 ∧ ∀ q, q < p → s'.1 25 q = s.1 25 q
theorem go_rf (s : dr_S) (p : Nat) : go_F s s p := ⟨fun _ _ _ => rfl, rfl, fun _ _ => rfl⟩
theorem go_tr {s s1 s2 : dr_S} {p p' : Nat} (h1 : go_F s s1 p) (h2 : go_F s1 s2 p') (h : p ≤ p') : go_F s s2 p := ⟨fun a x y => (h2.1 a x y).trans (h1.1 a x y), h2.2.1.trans h1.2.1, fun q hq => (h2.2.2 q (by omega)).trans (h1.2.2 q hq)⟩
theorem go_lt {s s' : dr_S} {r : sg_R} {J : List Nat} {p : Nat} (F : go_F s s' p) (h : lt_C s r J) : lt_C s' r J := by
  unfold lt_C
  rw [F.2.1, F.1 20 (by decide) (by decide), F.1 21 (by decide) (by decide), F.1 22 (by decide) (by decide), F.1 23 (by decide) (by decide), F.1 24 (by decide) (by decide)]
  exact h
def go_ok (r : sg_R) (J : List Nat) (n : Nat) (F : Int32 → Int32 → Int32 → dr_S → Option (Int32 × dr_S)) : Prop := ∀ (S : Nat) (s : dr_S), S < 2 ^ J.length → cm S J.length = n → lt_C s r J → dd_ok s r J → ∃ s', F (nI (J.length - n)) (nI S) (bI (l_par r J S J.length)) s = some (bI (l_L (l_mc r J) J.length n S), s') ∧ go_F s s' (J.length - n) ∧ dd_ok s' r J ∧ (l_L (l_mc r J) J.length n S = true → ∀ k g, (l_row (l_mc r J) J.length n S)[k]? = some g → s'.1 25 (J.length - n + k) = nI (J.getD g 0))
theorem q7_dead {ln : Nat → Nat} {s : dr_S} {r : sg_R} {J : List Nat} {S : Nat} {rc : Int32 → Int32 → Int32 → dr_S → Option (Int32 × dr_S)} (l26 : ln 26 = 16) (hJ : l_ok r J) (hS : S < 2 ^ J.length) (hd : dd_ok s r J) (hL : l_L (l_mc r J) J.length (cm S J.length) S = false) (p : Nat) : ∃ s', f_X7_goesOn_p187 ln rc (nI S) s = some (0, s') ∧ go_F s s' p ∧ dd_ok s' r J := by
  have h5 := p2_le hJ.1
  have hS5 : S < 512 := by omega
  obtain ⟨w1, w2⟩ := bt_wd ⟨S, hS5⟩
  have w1 : (nI S >>> (5 &&& 31) : Int32) = nI (S / 32) := w1
  have w2 : (1 <<< ((nI S &&& 31) &&& 31) : Int32) = 1 <<< nI (S % 32) := w2
  unfold f_X7_goesOn_p187
  rw [w1, w2, q_rd (by omega) (by omega), Option.bind_some, q_wr (by omega) (by omega), Option.bind_some]
  refine ⟨_, rfl, ⟨fun a x y => q_putO y, rfl, fun q _ => by rw [q_putO (by decide)]⟩, fun S2 h2 hb => ?_⟩
  rw [q_put1] at hb
  by_cases e : S2 / 32 = S / 32
  · rw [e, q_updS] at hb
    rcases d_or (by omega) (by omega) hb with z | z
    · exact hd S2 h2 (by rw [e]; exact z)
    · have : S2 = S := by omega
      rw [this]
      exact hL
  · rw [q_updO e] at hb
    exact hd S2 h2 hb

/-! 97n: the jobs of a heading, and the orders of their answers -/
def lj (r : sg_R) (J : List Nat) (k : Nat) : sg_J := rm_jb r (J.getD k 0)
def l_an (r : sg_R) (J : List Nat) (k : Nat) : Bool := decide (jb_an (lj r J k) = some 1)
def l_en (r : sg_R) (J : List Nat) (k : Nat) : Nat := (jb_en (lj r J k)).getD 0
def l_nf (r : sg_R) (J : List Nat) (S k : Nat) : Nat → Nat → Bool
  | 0, _ => true
  | n + 1, i => (S.testBit i || decide (jb_be (lj r J k) < l_en r J i)) && l_nf r J S k n (i + 1)
def l_chg (r : sg_R) (J : List Nat) (k : Nat) : Bool := l_an r J k && decide (jb_ki (lj r J k) ≠ 0)
def l_par (r : sg_R) (J : List Nat) (S : Nat) : Nat → Bool
  | 0 => false
  | i + 1 => l_par r J S i != (S.testBit i && l_chg r J i)
def l_w (r : sg_R) (J : List Nat) (k : Nat) : Int := if jb_ki (lj r J k) = 1 then 1 else if jb_ki (lj r J k) = 2 then -1 else 0
def l_sm (r : sg_R) (J : List Nat) (S : Nat) : Nat → Int
  | 0 => 0
  | i + 1 => l_sm r J S i + (if S.testBit i && l_an r J i then l_w r J i else 0)
def l_right (r : sg_R) (J : List Nat) (there : Bool) (k : Nat) : Bool := l_an r J k == (there != decide (jb_ki (lj r J k) = 1))
/-- as the class asks, as the reference asks -/
def l_mc (r : sg_R) (J : List Nat) (S k : Nat) : Bool := !S.testBit k && (l_nf r J S k J.length 0 && l_right r J (l_par r J S J.length) k)
def l_mr (r : sg_R) (J : List Nat) (S k : Nat) : Bool := !S.testBit k && (l_nf r J S k J.length 0 && l_right r J (decide (0 < l_sm r J S J.length)) k)
/-- the jobs that can be asked -/
def l_ok (r : sg_R) (J : List Nat) : Prop := J.length ≤ 9 ∧ ∀ k, k < J.length → J.getD k 0 < rm_nj r ∧ jb_ki (lj r J k) ≤ 2 ∧ jb_be (lj r J k) < l_en r J k ∧ l_en r J k ≤ rm_ti r ∧ jb_en (lj r J k) = some (l_en r J k) ∧ (jb_an (lj r J k) = some 0 ∨ jb_an (lj r J k) = some 1)
theorem par_or' {r : sg_R} {J : List Nat} {S k : Nat} : ∀ i, i ≤ k → l_par r J (S ||| 2 ^ k) i = l_par r J S i ∧ l_sm r J (S ||| 2 ^ k) i = l_sm r J S i
  | 0, _ => ⟨rfl, rfl⟩
  | i + 1, h => by
    have ih := par_or' (r := r) (J := J) (S := S) (k := k) i (by omega)
    rw [l_par, l_par, l_sm, l_sm, ih.1, ih.2, tb_or, decide_eq_false (show ¬ k = i by omega), Bool.or_false]
    exact ⟨rfl, rfl⟩
theorem par_or {r : sg_R} {J : List Nat} {S k : Nat} (hb : S.testBit k = false) : ∀ i, k < i → l_par r J (S ||| 2 ^ k) i = (l_par r J S i != l_chg r J k) ∧ l_sm r J (S ||| 2 ^ k) i = l_sm r J S i + (if l_an r J k then l_w r J k else 0)
  | 0, h => absurd h (Nat.not_lt_zero _)
  | i + 1, h => by
    rw [l_par, l_par, l_sm, l_sm, tb_or]
    by_cases e : k = i
    · subst e
      have ih := par_or' (r := r) (J := J) (S := S) (k := k) k (Nat.le_refl _)
      rw [ih.1, ih.2, hb, decide_eq_true rfl]
      generalize l_par r J S k = a
      generalize l_chg r J k = b
      generalize l_an r J k = c
      constructor
      · cases a <;> cases b <;> rfl
      · cases c
        · show l_sm r J S k + 0 = l_sm r J S k + 0 + 0
          omega
        · show l_sm r J S k + l_w r J k = l_sm r J S k + 0 + l_w r J k
          omega
    · have ih := par_or (r := r) (J := J) hb i (by omega)
      rw [ih.1, ih.2, decide_eq_false e, Bool.or_false]
      generalize l_par r J S i = a
      generalize l_chg r J k = b
      generalize (S.testBit i && l_chg r J i) = c
      constructor
      · cases a <;> cases b <;> cases c <;> rfl
      · omega
def l_good (r : sg_R) (J : List Nat) (S : Nat) : Prop := l_sm r J S J.length = (if l_par r J S J.length then 1 else 0)
theorem good_0 {r : sg_R} {J : List Nat} : l_good r J 0 := by
  have : ∀ i, l_sm r J 0 i = 0 ∧ l_par r J 0 i = false := by
    intro i
    induction i with
    | zero => exact ⟨rfl, rfl⟩
    | succ i ih =>
      rw [l_sm, l_par, ih.1, ih.2, Nat.zero_testBit]
      exact ⟨rfl, rfl⟩
  unfold l_good
  rw [(this _).1, (this _).2]
  rfl
theorem good_eq {r : sg_R} {J : List Nat} {S : Nat} (h : l_good r J S) : decide (0 < l_sm r J S J.length) = l_par r J S J.length := by
  unfold l_good at h
  rw [h]
  cases l_par r J S J.length <;> rfl
theorem may_eq {r : sg_R} {J : List Nat} (S k : Nat) (h : l_good r J S) (_ : k < J.length) : l_mc r J S k = l_mr r J S k := by
  unfold l_mc l_mr
  rw [good_eq h]
theorem good_s {r : sg_R} {J : List Nat} (hJ : l_ok r J) (S k : Nat) (h : l_good r J S) (hk : k < J.length) (hm : l_mc r J S k = true) : l_good r J (S ||| 2 ^ k) := by
  have hb : S.testBit k = false := by
    cases q : S.testBit k
    · rfl
    · unfold l_mc at hm
      rw [q] at hm
      cases hm
  have hr : l_right r J (l_par r J S J.length) k = true := by
    unfold l_mc at hm
    rw [Bool.and_eq_true, Bool.and_eq_true] at hm
    exact hm.2.2
  have hp := par_or (r := r) (J := J) hb J.length hk
  have hki := (hJ.2 k hk).2.1
  unfold l_good at h ⊢
  rw [hp.1, hp.2, h]
  unfold l_right at hr
  unfold l_chg l_w
  generalize l_par r J S J.length = a at *
  generalize l_an r J k = b at *
  generalize jb_ki (lj r J k) = x at *
  have hx : x = 0 ∨ x = 1 ∨ x = 2 := by omega
  rcases hx with e | e | e <;> subst e <;> cases a <;> cases b <;> first | rfl | (exfalso; revert hr; decide)
theorem l_eq {r : sg_R} {J : List Nat} (hJ : l_ok r J) (n : Nat) : l_L (l_mc r J) J.length n 0 = l_L (l_mr r J) J.length n 0 ∧ l_row (l_mc r J) J.length n 0 = l_row (l_mr r J) J.length n 0 :=
  l_cg (good := l_good r J) (fun S k a b => may_eq S k a b) (fun S k a b c => good_s hJ S k a b c) n 0 good_0
/-- the jobs of a heading that can be asked, in order -/
def l_ask (r : sg_R) (h : Nat) : Nat → Nat → List Nat → Option (List Nat)
  | 0, _, l => some l
  | k + 1, i, l => if jb_he (rm_jb r i) = h then (if (jb_en (rm_jb r i)).isSome = true ∧ l.length < 9 then l_ask r h k (i + 1) (l ++ [i]) else none) else l_ask r h k (i + 1) l
theorem l_ok_app {r : sg_R} {J : List Nat} {i e : Nat} (hJ : l_ok r J) (hl : J.length < 9) (hi : i < rm_nj r) (hv : iv_jb (rm_ti r) (rm_jb r i)) (he : jb_en (rm_jb r i) = some e) : l_ok r (J ++ [i]) := by
  refine ⟨by rw [List.length_append]; exact hl, fun k hk => ?_⟩
  rw [List.length_append] at hk
  have hk : k < J.length + 1 := hk
  unfold l_en lj
  by_cases q : k < J.length
  · have e2 : (J ++ [i]).getD k 0 = J.getD k 0 := by rw [List.getD_eq_getElem?_getD, List.getD_eq_getElem?_getD, List.getElem?_append_left q]
    rw [e2]
    exact hJ.2 k q
  · have e2 : (J ++ [i]).getD k 0 = i := by rw [List.getD_eq_getElem?_getD, List.getElem?_append_right (by omega), show k - J.length = 0 by omega]; rfl
    rw [e2, he]
    obtain ⟨a1, a2, a3, a4, a5⟩ := hv
    obtain ⟨b1, b2, b3, b4⟩ := a4 e he
    exact ⟨hi, a1, b1, b2, rfl, b4⟩
theorem l_ask_ok {r : sg_R} {h : Nat} (hv : ∀ i, i < rm_nj r → iv_jb (rm_ti r) (rm_jb r i)) : ∀ (k i : Nat) (l J : List Nat), rm_nj r = i + k → l_ok r l → l_ask r h k i l = some J → l_ok r J
  | 0, i, l, J, _, hl, e => by
    cases e
    exact hl
  | k + 1, i, l, J, hk, hl, e => by
    rw [l_ask] at e
    split at e
    · split at e
      · rename_i q
        cases he : jb_en (rm_jb r i) with
        | none =>
          rw [he] at q
          exact absurd q.1 (by decide)
        | some x => exact l_ask_ok hv k (i + 1) _ J (by omega) (l_ok_app hl q.2 (by omega) (hv i (by omega)) he) e
      · cases e
    · exact l_ask_ok hv k (i + 1) _ J (by omega) hl e

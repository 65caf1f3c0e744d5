/-! 97m: sets of at most nine jobs, as numbers -/
theorem bt_and : ∀ (S : Fin 512) (i : Fin 9), ((nI S.1 &&& (1 <<< (nI i.1 &&& 31)) : Int32) = 0) = ((S.1.testBit i.1) = false) := by
  have h : ∀ (S : Fin 512) (i : Fin 9), (decide ((nI S.1 &&& (1 <<< (nI i.1 &&& 31)) : Int32) = 0)) = !(S.1.testBit i.1) := by decide +kernel
  intro S i
  have := h S i
  by_cases q : (nI S.1 &&& (1 <<< (nI i.1 &&& 31)) : Int32) = 0
  · rw [decide_eq_true q] at this
    cases z : S.1.testBit i.1
    · exact eq_true q |>.trans (eq_true rfl).symm
    · rw [z] at this; cases this
  · rw [decide_eq_false q] at this
    cases z : S.1.testBit i.1
    · rw [z] at this; cases this
    · exact (eq_false q).trans (eq_false (by decide)).symm
theorem bt_or : ∀ (S : Fin 512) (i : Fin 9), (nI S.1 ||| (1 <<< (nI i.1 &&& 31)) : Int32) = nI (S.1 ||| 2 ^ i.1) := by decide +kernel
theorem bt_sh : ∀ (S : Fin 512) (i : Fin 9), ((nI S.1 >>> (nI i.1 &&& 31)) &&& 1 : Int32) = (if S.1.testBit i.1 then 1 else 0) := by decide +kernel
theorem bt_wd : ∀ (S : Fin 512), (nI S.1 >>> (5 &&& 31) : Int32) = nI (S.1 / 32) ∧ (1 <<< ((nI S.1 &&& 31) &&& 31) : Int32) = 1 <<< nI (S.1 % 32) := by decide +kernel
theorem bt_ne : ∀ (i j : Fin 32), i ≠ j → ((1 <<< nI i.1) &&& (1 <<< nI j.1) : Int32) = 0 := by decide +kernel
theorem bt_all : ∀ (m : Fin 10), ((1 <<< (nI m.1 &&& 31)) - 1 : Int32) = nI (2 ^ m.1 - 1) := by decide +kernel
theorem b_and {S i : Nat} (hS : S < 512) (hi : i < 9) : ((nI S &&& (1 <<< (nI i &&& 31)) : Int32) = 0) = ((S.testBit i) = false) := bt_and ⟨S, hS⟩ ⟨i, hi⟩
theorem b_or {S i : Nat} (hS : S < 512) (hi : i < 9) : (nI S ||| (1 <<< (nI i &&& 31)) : Int32) = nI (S ||| 2 ^ i) := bt_or ⟨S, hS⟩ ⟨i, hi⟩
theorem b_sh {S i : Nat} (hS : S < 512) (hi : i < 9) : ((nI S >>> (nI i &&& 31)) &&& 1 : Int32) = (if S.testBit i then 1 else 0) := bt_sh ⟨S, hS⟩ ⟨i, hi⟩
theorem b_all {m : Nat} (h : m ≤ 9) : ((1 <<< (nI m &&& 31)) - 1 : Int32) = nI (2 ^ m - 1) := bt_all ⟨m, by omega⟩
/-- one bit of a word -/
theorem d_or {v : Int32} {i j : Nat} (hi : i < 32) (hj : j < 32) (h : (v ||| (1 <<< nI i)) &&& (1 <<< nI j) ≠ 0) : v &&& (1 <<< nI j) ≠ 0 ∨ i = j := by
  by_cases e : i = j
  · exact Or.inr e
  · left
    intro q
    apply h
    have := bt_ne ⟨i, hi⟩ ⟨j, hj⟩ (fun z => e (by cases z; rfl))
    have this : ((1 <<< nI i) &&& (1 <<< nI j) : Int32) = 0 := this
    generalize (1 <<< nI i : Int32) = w at *
    generalize (1 <<< nI j : Int32) = x at *
    apply Int32.toBitVec_inj.mp
    have q := congrArg Int32.toBitVec q
    have this := congrArg Int32.toBitVec this
    rw [Int32.toBitVec_and] at q this ⊢
    rw [Int32.toBitVec_or]
    apply BitVec.eq_of_getLsbD_eq
    intro k hk
    have q := congrArg (fun z => BitVec.getLsbD z k) q
    have this := congrArg (fun z => BitVec.getLsbD z k) this
    simp only [BitVec.getLsbD_and, BitVec.getLsbD_or] at q this ⊢
    rw [Bool.and_or_distrib_right, q, this]
    cases (Int32.toBitVec 0).getLsbD k <;> rfl
/-- how many of the first m are not in the set -/
def cm (S : Nat) : Nat → Nat
  | 0 => 0
  | m + 1 => cm S m + (if S.testBit m then 0 else 1)
theorem tb_or (S k j : Nat) : (S ||| 2 ^ k).testBit j = (S.testBit j || decide (k = j)) := by
  rw [Nat.testBit_or, Nat.testBit_two_pow]
theorem cm_or' {S k : Nat} : ∀ m, m ≤ k → cm (S ||| 2 ^ k) m = cm S m
  | 0, _ => rfl
  | m + 1, h => by
    rw [cm, cm, cm_or' m (by omega), tb_or, decide_eq_false (show ¬ k = m by omega), Bool.or_false]
theorem cm_or {S k : Nat} (hb : S.testBit k = false) : ∀ m, k < m → cm (S ||| 2 ^ k) m + 1 = cm S m
  | 0, h => absurd h (Nat.not_lt_zero _)
  | m + 1, h => by
    rw [cm, cm, tb_or]
    by_cases e : k = m
    · subst e
      rw [cm_or' k (Nat.le_refl _), hb, decide_eq_true rfl]
      rfl
    · rw [decide_eq_false e, Bool.or_false, ← cm_or hb m (by omega)]
      omega
theorem cm_le {S : Nat} : ∀ m, cm S m ≤ m
  | 0 => Nat.le_refl _
  | m + 1 => by
    have := cm_le (S := S) m
    rw [cm]
    split <;> omega
theorem cm_0 : ∀ m, cm 0 m = m
  | 0 => rfl
  | m + 1 => by
    rw [cm, cm_0 m, Nat.zero_testBit]
    rfl
theorem cm_bit {S : Nat} : ∀ m k, cm S m = 0 → k < m → S.testBit k = true
  | 0, k, _, h => absurd h (Nat.not_lt_zero _)
  | m + 1, k, h0, h => by
    rw [cm] at h0
    by_cases e : k = m
    · subst e
      cases q : S.testBit k
      · rw [q] at h0
        have h0 : cm S k + 1 = 0 := h0
        omega
      · rfl
    · exact cm_bit m k (by omega) (by omega)
theorem cm_all {S m : Nat} (hS : S < 2 ^ m) (h : cm S m = 0) : S = 2 ^ m - 1 := by
  apply Nat.eq_of_testBit_eq
  intro i
  rw [Nat.testBit_two_pow_sub_one]
  by_cases hi : i < m
  · rw [cm_bit m i h hi, decide_eq_true hi]
  · rw [decide_eq_false hi]
    exact Nat.testBit_lt_two_pow (Nat.lt_of_lt_of_le hS (Nat.pow_le_pow_right (by omega) (by omega)))
theorem cm_full {m : Nat} : ∀ k, k ≤ m → cm (2 ^ m - 1) k = 0
  | 0, _ => rfl
  | k + 1, h => by
    rw [cm, cm_full k (by omega), Nat.testBit_two_pow_sub_one, decide_eq_true (show k < m by omega)]
    rfl
theorem or_lt {S k m : Nat} (hS : S < 2 ^ m) (hk : k < m) : S ||| 2 ^ k < 2 ^ m := Nat.or_lt_two_pow hS (Nat.pow_lt_pow_right (by omega) hk)
theorem or_gt {S k : Nat} (hb : S.testBit k = false) : S < S ||| 2 ^ k := by
  rcases Nat.lt_or_ge S (S ||| 2 ^ k) with h | h
  · exact h
  · have e : S ||| 2 ^ k = S := Nat.le_antisymm h Nat.left_le_or
    have := tb_or S k k
    rw [e, hb, decide_eq_true rfl] at this
    cases this
theorem p2_le {m : Nat} (h : m ≤ 9) : 2 ^ m ≤ 512 := Nat.pow_le_pow_right (n := 2) (by omega) h
theorem p2_pos (m : Nat) : 0 < 2 ^ m := Nat.pow_pos (by omega)
/-- which rows of moves lead through all -/
def l_L (may : Nat → Nat → Bool) (m : Nat) : Nat → Nat → Bool
  | 0, _ => true
  | n + 1, S => (List.range' 0 m).any (fun k => may S k && l_L may m n (S ||| 2 ^ k))
def l_row (may : Nat → Nat → Bool) (m : Nat) : Nat → Nat → List Nat
  | 0, _ => []
  | n + 1, S => match (List.range' 0 m).find? (fun k => may S k && l_L may m n (S ||| 2 ^ k)) with
    | some k => k :: l_row may m n (S ||| 2 ^ k)
    | none => []
theorem any_cg {f g : Nat → Bool} : ∀ (l : List Nat), (∀ k ∈ l, f k = g k) → l.any f = l.any g ∧ l.find? f = l.find? g
  | [], _ => ⟨rfl, rfl⟩
  | k :: l, h => by
    have ih := any_cg l (fun j hj => h j (List.mem_cons_of_mem _ hj))
    rw [List.any_cons, List.any_cons, List.find?_cons, List.find?_cons, ih.1, ih.2, h k List.mem_cons_self]
    exact ⟨rfl, rfl⟩
theorem l_cg {may1 may2 : Nat → Nat → Bool} {m : Nat} {good : Nat → Prop} (h1 : ∀ S k, good S → k < m → may1 S k = may2 S k) (h2 : ∀ S k, good S → k < m → may1 S k = true → good (S ||| 2 ^ k)) : ∀ (n S : Nat), good S → l_L may1 m n S = l_L may2 m n S ∧ l_row may1 m n S = l_row may2 m n S
  | 0, _, _ => ⟨rfl, rfl⟩
  | n + 1, S, hS => by
    have key : ∀ k ∈ List.range' 0 m, (may1 S k && l_L may1 m n (S ||| 2 ^ k)) = (may2 S k && l_L may2 m n (S ||| 2 ^ k)) := by
      intro k hk
      have hk := (List.mem_range'_1.mp hk).2
      rw [← h1 S k hS (by omega)]
      cases q : may1 S k
      · rfl
      · rw [(l_cg h1 h2 n _ (h2 S k hS (by omega) q)).1]
    have kk := any_cg _ key
    refine ⟨by rw [l_L, l_L, kk.1], ?_⟩
    rw [l_row, l_row, kk.2]
    cases hf : (List.range' 0 m).find? (fun k => may2 S k && l_L may2 m n (S ||| 2 ^ k)) with
    | none => rfl
    | some k =>
      have hm := List.mem_of_find?_eq_some hf
      have hp := List.find?_some hf
      have hk := (List.mem_range'_1.mp hm).2
      have hmay : may1 S k = true := by
        rw [h1 S k hS (by omega)]
        rw [Bool.and_eq_true] at hp
        exact hp.1
      show k :: l_row may1 m n _ = k :: l_row may2 m n _
      rw [(l_cg h1 h2 n _ (h2 S k hS (by omega) hmay)).2]

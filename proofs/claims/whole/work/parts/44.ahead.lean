/-! 44: the order of headings, on both sides -/
def bI (c : Bool) : Int32 := if c then 1 else 0
theorem sg_dig_lt {h k : Nat} (hh : h < 10000) : sg_dig h k < 10 := by
  unfold sg_dig
  split
  · omega
  · split
    · omega
    · split <;> omega
theorem sg_wor_pos (k : Nat) : 0 < sg_wor k ∧ sg_wor k ≤ 1000 := by
  unfold sg_wor
  split
  · omega
  · split
    · omega
    · split <;> omega
theorem sg_dig_wor {h k : Nat} (hh : h < 10000) : h / sg_wor k % 10 = sg_dig h k := by
  unfold sg_wor sg_dig
  split
  · omega
  · split
    · rfl
    · split
      · rfl
      · omega
theorem q_dig {h w : Nat} (hh : h < 2 ^ 31) (h0 : 0 < w) (hw : w < 2 ^ 31) : (nI h / nI w) - (nI h / nI w) / 10 * 10 = nI (h / w % 10) := by
  have h2 : h / w < 2 ^ 31 := Nat.lt_of_le_of_lt (Nat.div_le_self _ _) hh
  rw [pk_div hh h0 hw, show (10 : Int32) = nI 10 from rfl, pk_rem h2 (by omega) (by omega)]
def rl_ok (ru : List (Nat × Bool)) : Prop := ru.length ≤ 4 ∧ ∀ (i d : Nat) (g : Bool), ru[i]? = some (d, g) → d < 4
theorem q_neg_le {w : Nat} (h0 : 0 < w) (hw : w < 2 ^ 31) : -nI w ≤ 0 ∧ -(-nI w) = nI w := by
  refine ⟨?_, by simp⟩
  rw [Int32.le_iff_toInt_le, sb_negT hw]
  have : (0 : Int32).toInt = 0 := by decide
  omega
theorem q5_isAhead_p {ln : Nat → Nat} {s : dr_S} {ru : List (Nat × Bool)} {x y : Nat} (hl : ln 18 = 4) (hr : rp_rule s ru) (hok : rl_ok ru) (hx : x < 10000) (hy : y < 10000) : ∀ (fu i : Nat), i ≤ ru.length → ru.length - i < fu → f_X5_isAhead_p2 ln fu (nI x) (nI y) (nI i) s = some (bI (sg_ah (ru.drop i) x y), s)
  | 0, _, _, h => absurd h (Nat.not_lt_zero _)
  | fu + 1, i, hi, hf => by
    have h4 := hok.1
    rw [f_X5_isAhead_p2, hr.1]
    by_cases h : i = ru.length
    · subst h
      rw [if_pos (nI_le (Nat.le_refl _) (by omega)), List.drop_length]
      unfold f_X5_isAhead_p126
      by_cases hxy : x < y
      · rw [if_neg (nI_ge hxy (by omega))]
        simp [bI, sg_ah, hxy]
      · rw [if_pos (nI_le (by omega) (by omega))]
        simp [bI, sg_ah, hxy]
    · have hlt : i < ru.length := by omega
      rw [if_neg (nI_ge hlt (by omega)), if_neg (show ¬ (4 : Int32) ≤ nI i from nI_ge (a := i) (b := 4) (by omega) (by omega)), q_rd (by omega) (by omega)]
      obtain ⟨⟨d, g⟩, he⟩ : ∃ q, ru[i]? = some q := ⟨_, List.getElem?_eq_getElem hlt⟩
      have hv := hr.2 i d g he
      have hdrop : ru.drop i = (d, g) :: ru.drop (i + 1) := by
        rw [List.drop_eq_getElem_cons hlt]
        rw [List.getElem?_eq_getElem hlt] at he
        rw [Option.some.inj he]
      have ih := q5_isAhead_p hl hr hok hx hy fu (i + 1) (by omega) (by omega)
      obtain ⟨w0, w1⟩ := sg_wor_pos d
      rw [hdrop, sg_ah]
      have hwn : ¬ nI (sg_wor d) = 0 := nI_ne0 w0 (by omega)
      -- the rest, once the worth and the way are known
      have rest : ∀ z : Int32, f_X5_isAhead_p52 ln (f_X5_isAhead_p2 ln fu) (nI x) (nI y) (nI i) z (nI (sg_wor d)) s = (if sg_dig x d = sg_dig y d then some (bI (sg_ah (ru.drop (i + 1)) x y), s) else if sg_dig y d < sg_dig x d then (if z = 0 then some (1, s) else some (0, s)) else (if z = 1 then some (1, s) else some (0, s))) := by
        intro z
        unfold f_X5_isAhead_p52 f_X5_isAhead_p70 f_X5_isAhead_p88 f_X5_isAhead_p111
        rw [if_neg hwn]
        unfold dr_nz
        rw [if_neg hwn, if_neg hwn, if_neg hwn, q_dig (by omega) w0 (by omega), q_dig (by omega) w0 (by omega), sg_dig_wor hx, sg_dig_wor hy]
        have a1 := sg_dig_lt (k := d) hx
        have a2 := sg_dig_lt (k := d) hy
        by_cases e : sg_dig x d = sg_dig y d
        · rw [if_pos e, e, if_pos rfl]
          show f_X5_isAhead_p2 ln fu (nI x) (nI y) (nI i + 1) s = _
          rw [nI_1, ih]
        · rw [if_neg e, if_neg (fun q => e ((nI_eq (by omega) (by omega)).mp q))]
          by_cases e2 : sg_dig y d < sg_dig x d
          · rw [if_pos e2, if_pos (nI_le (by omega) (by omega))]
          · rw [if_neg e2, if_neg (nI_ge (by omega) (by omega))]
      show (if s.1 18 i ≤ 0 then f_X5_isAhead_p29 ln (f_X5_isAhead_p2 ln fu) (nI x) (nI y) (nI i) 0 s else f_X5_isAhead_p29 ln (f_X5_isAhead_p2 ln fu) (nI x) (nI y) (nI i) 1 s) = _
      unfold f_X5_isAhead_p29
      rw [q_rd (by omega) (by omega)]
      cases g with
      | true =>
        rw [if_pos rfl] at hv
        obtain ⟨n1, n2⟩ := q_neg_le w0 (by omega : sg_wor d < 2 ^ 31)
        rw [hv, if_pos n1, if_pos rfl]
        show f_X5_isAhead_p52 ln (f_X5_isAhead_p2 ln fu) (nI x) (nI y) (nI i) 0 (-(-nI (sg_wor d))) s = _
        rw [n2, rest 0]
        by_cases e : sg_dig x d = sg_dig y d
        · rw [if_pos e, if_pos e]
        · rw [if_neg e, if_neg e, if_pos rfl]
          by_cases e2 : sg_dig y d < sg_dig x d
          · rw [if_pos e2, if_pos rfl]
            simp [bI, e2]
          · rw [if_neg e2, if_neg (by decide)]
            simp [bI, e2]
      | false =>
        rw [if_neg (by decide)] at hv
        rw [hv, if_neg (nI_nle w0 (by omega)), if_neg (by decide)]
        show f_X5_isAhead_p52 ln (f_X5_isAhead_p2 ln fu) (nI x) (nI y) (nI i) 1 (nI (sg_wor d)) s = _
        rw [rest 1]
        by_cases e : sg_dig x d = sg_dig y d
        · rw [if_pos e, if_pos e]
        · rw [if_neg e, if_neg e]
          by_cases e2 : sg_dig y d < sg_dig x d
          · rw [if_pos e2, if_neg (show ¬ (1 : Int32) = 0 by decide)]
            have : ¬ sg_dig x d < sg_dig y d := by omega
            simp [bI, this]
          · rw [if_neg e2, if_pos rfl]
            have : sg_dig x d < sg_dig y d := by omega
            simp [bI, this]
theorem q5_isAhead {ln : Nat → Nat} {s : dr_S} {ru : List (Nat × Bool)} {x y : Nat} (hl : ln 18 = 4) (hr : rp_rule s ru) (hok : rl_ok ru) (hx : x < 10000) (hy : y < 10000) : f_X5_isAhead ln (nI x) (nI y) s = some (bI (sg_ah ru x y), s) := by
  have h := q5_isAhead_p hl hr hok hx hy dr_N 0 (Nat.zero_le _) (by have := hok.1; unfold dr_N; omega)
  exact h
/-- the reference's -/
theorem qm_digit {ln : Nat → Nat} {s : dr_S} {h d : Nat} (hh : h < 10000) (hd : d < 4) : f_X12_digit ln (nI h) (nI d) s = some (nI (sg_dig h d), s) := by
  unfold f_X12_digit
  have hw := sg_dig_wor (k := d) hh
  rcases (by omega : d = 0 ∨ d = 1 ∨ d = 2 ∨ d = 3) with rfl | rfl | rfl | rfl
  · rw [if_pos (by decide), show (1000 : Int32) = nI 1000 from rfl, pk_div (by omega) (by omega) (by omega)]
    rfl
  · rw [if_neg (by decide), if_pos (by decide), show (100 : Int32) = nI 100 from rfl, q_dig (by omega) (by omega) (by omega)]
    rfl
  · rw [if_neg (by decide), if_neg (by decide), if_pos (by decide)]
    have e := q_dig (h := h) (w := 10) (by omega) (by omega) (by omega)
    rw [show nI 10 = (10 : Int32) from rfl] at e
    rw [e]
    rfl
  · rw [if_neg (by decide), if_neg (by decide), if_neg (by decide)]
    rw [show (10 : Int32) = nI 10 from rfl, pk_rem (by omega) (by omega) (by omega)]
    rfl
theorem qm_isAhead_p {ln : Nat → Nat} {s : dr_S} {ru : List (Nat × Bool)} {x y : Nat} (hl : ln 28 = 4 ∧ ln 29 = 4) (hr : s.2 1201 = nI ru.length ∧ ∀ (i d : Nat) (g : Bool), ru[i]? = some (d, g) → s.1 28 i = nI d ∧ s.1 29 i = (if g then 1 else 0)) (hok : rl_ok ru) (hx : x < 10000) (hy : y < 10000) : ∀ (fu i : Nat), i ≤ ru.length → ru.length - i < fu → f_X12_isAhead_p2 ln fu (nI x) (nI y) (nI i) s = some (bI (sg_ah (ru.drop i) x y), s)
  | 0, _, _, h => absurd h (Nat.not_lt_zero _)
  | fu + 1, i, hi, hf => by
    have h4 := hok.1
    rw [f_X12_isAhead_p2, hr.1]
    by_cases h : i = ru.length
    · subst h
      rw [if_pos (nI_le (Nat.le_refl _) (by omega)), List.drop_length]
      by_cases hxy : x < y
      · rw [if_neg (nI_ge hxy (by omega))]
        simp [bI, sg_ah, hxy]
      · rw [if_pos (nI_le (by omega) (by omega))]
        simp [bI, sg_ah, hxy]
    · have hlt : i < ru.length := by omega
      obtain ⟨⟨d, g⟩, he⟩ : ∃ q, ru[i]? = some q := ⟨_, List.getElem?_eq_getElem hlt⟩
      obtain ⟨hv, hg⟩ := hr.2 i d g he
      have hd := hok.2 i d g he
      have hdrop : ru.drop i = (d, g) :: ru.drop (i + 1) := by
        rw [List.drop_eq_getElem_cons hlt]
        rw [List.getElem?_eq_getElem hlt] at he
        rw [Option.some.inj he]
      have ih := qm_isAhead_p hl hr hok hx hy fu (i + 1) (by omega) (by omega)
      have a1 := sg_dig_lt (k := d) hx
      have a2 := sg_dig_lt (k := d) hy
      rw [if_neg (nI_ge hlt (by omega)), q_rd (by omega) (by omega), hdrop, sg_ah]
      rw [Option.bind_some, hv, qm_digit hx hd, q_bi, q_rd (by omega) (by omega), Option.bind_some, hv, qm_digit hy hd, q_bi]
      by_cases e : sg_dig x d = sg_dig y d
      · rw [if_pos e, e, if_pos rfl]
        show f_X12_isAhead_p2 ln fu (nI x) (nI y) (nI i + 1) s = _
        rw [nI_1, ih]
      · rw [if_neg e, if_neg (fun q => e ((nI_eq (by omega) (by omega)).mp q)), q_rd (by omega) (by omega)]
        rw [Option.bind_some, hg]
        cases g with
        | true =>
          rw [if_pos rfl, if_neg (by decide), if_pos rfl]
          by_cases e2 : sg_dig y d < sg_dig x d
          · rw [if_neg (nI_ge e2 (by omega))]
            simp [bI, e2]
          · rw [if_pos (nI_le (by omega) (by omega))]
            simp [bI, e2]
        | false =>
          rw [if_pos (show (if false = true then (1 : Int32) else 0) = 0 by decide)]
          by_cases e2 : sg_dig x d < sg_dig y d
          · rw [if_neg (nI_ge e2 (by omega))]
            simp [bI, e2]
          · rw [if_pos (nI_le (by omega) (by omega))]
            simp [bI, e2]
theorem qm_isAhead {ln : Nat → Nat} {s : dr_S} {ru : List (Nat × Bool)} {x y : Nat} (hl : ln 28 = 4 ∧ ln 29 = 4) (hr : s.2 1201 = nI ru.length ∧ ∀ (i d : Nat) (g : Bool), ru[i]? = some (d, g) → s.1 28 i = nI d ∧ s.1 29 i = (if g then 1 else 0)) (hok : rl_ok ru) (hx : x < 10000) (hy : y < 10000) : f_X12_isAhead ln (nI x) (nI y) s = some (bI (sg_ah ru x y), s) := by
  have h := qm_isAhead_p hl hr hok hx hy dr_N 0 (Nat.zero_le _) (by have := hok.1; unfold dr_N; omega)
  exact h

/-! 97h: reading a rule's text -/
/-- what is wanted: none: nothing more; some none: a part; some (some d): a sign behind the letter d -/
def sg_ps (by' : Nat → Nat) : Nat → Nat → Option (Option Nat) → List (Nat × Bool) → Option Nat × List (Nat × Bool)
  | 0, i, st, ru => (if st = none then none else some i, ru)
  | k + 1, i, st, ru => if by' i = 32 then sg_ps by' k (i + 1) st ru else (match st with
    | none => (some i, ru)
    | some none => if by' i = 59 then sg_ps by' k (i + 1) none ru else if 97 ≤ by' i ∧ by' i ≤ 100 ∧ by' i - 97 ∉ ru.map Prod.fst then sg_ps by' k (i + 1) (some (some (by' i - 97))) ru else (some i, ru)
    | some (some d) => if by' i = 43 ∨ by' i = 45 then sg_ps by' k (i + 1) (some none) (ru ++ [(d, decide (by' i = 45))]) else (some i, ru))
theorem sg_ps_s (by' : Nat → Nat) (k i : Nat) (st : Option (Option Nat)) (ru : List (Nat × Bool)) : sg_ps by' (k + 1) i st ru = if by' i = 32 then sg_ps by' k (i + 1) st ru else (match st with
    | none => (some i, ru)
    | some none => if by' i = 59 then sg_ps by' k (i + 1) none ru else if 97 ≤ by' i ∧ by' i ≤ 100 ∧ by' i - 97 ∉ ru.map Prod.fst then sg_ps by' k (i + 1) (some (some (by' i - 97))) ru else (some i, ru)
    | some (some d) => if by' i = 43 ∨ by' i = 45 then sg_ps by' k (i + 1) (some none) (ru ++ [(d, decide (by' i = 45))]) else (some i, ru)) := by
  cases st with
  | none => rfl
  | some st => cases st <;> rfl
def ps_ok (st : Option (Option Nat)) (ru : List (Nat × Bool)) : Prop := (ru.map Prod.fst).Nodup ∧ (∀ e ∈ ru, e.1 < 4) ∧ (∀ d, st = some (some d) → d < 4 ∧ d ∉ ru.map Prod.fst)
theorem ps_len {ru : List (Nat × Bool)} {st : Option (Option Nat)} (h : ps_ok st ru) : ru.length ≤ 4 ∧ ∀ d, st = some (some d) → ru.length < 4 := by
  have q := nodup_lt (n := 4) h.1 (fun d hd => by
    obtain ⟨p, hp1, hp2⟩ := List.mem_map.mp hd
    rw [← hp2]
    exact h.2.1 p hp1)
  rw [List.length_map] at q
  refine ⟨q, fun d hd => ?_⟩
  obtain ⟨h1, h2⟩ := h.2.2 d hd
  have q2 := nodup_lt (n := 4) (List.nodup_cons.mpr ⟨h2, h.1⟩) (fun e he => by
    rcases List.mem_cons.mp he with z | z
    · rw [z]; exact h1
    · obtain ⟨p, hp1, hp2⟩ := List.mem_map.mp z
      rw [← hp2]
      exact h.2.1 p hp1)
  rw [List.length_cons, List.length_map] at q2
  omega
theorem ps_rl {by' : Nat → Nat} : ∀ (k i : Nat) (st : Option (Option Nat)) (ru : List (Nat × Bool)), ps_ok st ru → ps_ok none (sg_ps by' k i st ru).2
  | 0, i, st, ru, h => ⟨h.1, h.2.1, fun d hd => by cases hd⟩
  | k + 1, i, st, ru, h => by
    rw [sg_ps_s]
    split
    · exact ps_rl k (i + 1) st ru h
    · cases st with
      | none => exact ⟨h.1, h.2.1, fun d hd => by cases hd⟩
      | some st =>
        cases st with
        | none =>
          dsimp only
          split
          · exact ps_rl k (i + 1) none ru ⟨h.1, h.2.1, fun d hd => by cases hd⟩
          · split
            · next q => exact ps_rl k (i + 1) _ ru ⟨h.1, h.2.1, fun d hd => by cases hd; exact ⟨by omega, q.2.2⟩⟩
            · exact ⟨h.1, h.2.1, fun d hd => by cases hd⟩
        | some d =>
          obtain ⟨h1, h2⟩ := h.2.2 d rfl
          dsimp only
          split
          · refine ps_rl k (i + 1) (some none) _ ⟨?_, fun e he => ?_, fun x hx => by cases hx⟩
            · rw [List.map_append]
              refine List.nodup_append.mpr ⟨h.1, List.nodup_cons.mpr ⟨List.not_mem_nil, List.nodup_nil⟩, fun a ha b hb => ?_⟩
              have hb : b ∈ [d] := hb
              rw [List.mem_singleton.mp hb]
              intro z
              rw [z] at ha
              exact h2 ha
            · rcases List.mem_append.mp he with z | z
              · exact h.2.1 e z
              · rw [List.mem_singleton.mp z]; exact h1
          · exact ⟨h.1, h.2.1, fun d hd => by cases hd⟩
/-- how the reference holds what it has read -/
def rl_M (s : dr_S) (ru : List (Nat × Bool)) : Prop := s.2 1240 = nI ru.length ∧ ∀ (i d : Nat) (g : Bool), ru[i]? = some (d, g) → s.1 60 i = nI d ∧ s.1 61 i = (if g then 1 else 0)
def rl_F (s s1 : dr_S) : Prop := (∀ a, a ≠ 60 → a ≠ 61 → s1.1 a = s.1 a) ∧ (∀ f, f ≠ 1240 → s1.2 f = s.2 f)
theorem rl_rf (s : dr_S) : rl_F s s := ⟨fun _ _ _ => rfl, fun _ _ => rfl⟩
theorem rl_tr {s s1 s2 : dr_S} (h1 : rl_F s s1) (h2 : rl_F s1 s2) : rl_F s s2 := ⟨fun a x y => (h2.1 a x y).trans (h1.1 a x y), fun f x => (h2.2 f x).trans (h1.2 f x)⟩
theorem qm_isRead_p {ln : Nat → Nat} {s : dr_S} {ru : List (Nat × Bool)} {d : Nat} (L : dq_ML ln) (hl : ru.length ≤ 4) (hd : d < 4) (hlt : ∀ e ∈ ru, e.1 < 4) (hr : rl_M s ru) : ∀ (k fu i : Nat), ru.length = i + k → k < fu → f_X12_isRead_p2 ln fu (nI d) (nI i) s = some (bI (decide (d ∈ (ru.drop i).map Prod.fst)), s)
  | k, 0, _, _, q => absurd q (Nat.not_lt_zero _)
  | 0, fu + 1, i, hk, hf => by
    rw [f_X12_isRead_p2, hr.1, if_pos (nI_le (by omega) (by omega)), List.drop_eq_nil_of_le (by omega)]
    rfl
  | k + 1, fu + 1, i, hk, hf => by
    have hi : i < ru.length := by omega
    have he : ru[i]? = some ru[i] := List.getElem?_eq_getElem hi
    have hd2 : ru.drop i = ru[i] :: ru.drop (i + 1) := List.drop_eq_getElem_cons hi
    generalize ru[i] = e at he hd2
    have h4 := hlt e (List.mem_of_getElem? he)
    rw [f_X12_isRead_p2, hr.1, if_neg (nI_ge (by omega) (by omega)), m_rdb L 60 4 rfl (by decide) (by decide) (by omega), (hr.2 i e.1 e.2 he).1, hd2, List.map_cons]
    by_cases q : e.1 = d
    · rw [if_pos (by rw [q]), decide_eq_true (show d ∈ e.1 :: _ by rw [q]; exact List.mem_cons_self)]
      rfl
    · rw [if_neg (nI_lit (by omega) (by omega) q), q_let, nI_1, qm_isRead_p L hl hd hlt hr k fu (i + 1) (by omega) (by omega)]
      congr 3
      rw [decide_eq_decide, List.mem_cons]
      constructor
      · exact fun z => Or.inr z
      · intro z
        rcases z with z | z
        · exact absurd z.symm q
        · exact z

/-! 97j: reading a rule's text, of the class -/
def wz (d : Nat) (g : Bool) : Int32 := if g then -nI (sg_wor d) else nI (sg_wor d)
/-- how the class holds what it has read -/
def rl_C (s : dr_S) (st : Option (Option Nat)) (ru : List (Nat × Bool)) : Prop := s.2 504 = nI (ru.length + (match st with | some (some _) => 1 | _ => 0)) ∧ (∀ (i d : Nat) (g : Bool), ru[i]? = some (d, g) → s.1 19 i = wz d g) ∧ (∀ d, st = some (some d) → s.1 19 ru.length = nI (sg_wor d))
def rc_F (s s1 : dr_S) : Prop := (∀ a, a ≠ 19 → s1.1 a = s.1 a) ∧ (∀ f, f ≠ 504 → s1.2 f = s.2 f)
theorem rc_rf (s : dr_S) : rc_F s s := ⟨fun _ _ => rfl, fun _ _ => rfl⟩
theorem rc_tr {s s1 s2 : dr_S} (h1 : rc_F s s1) (h2 : rc_F s1 s2) : rc_F s s2 := ⟨fun a x => (h2.1 a x).trans (h1.1 a x), fun f x => (h2.2 f x).trans (h1.2 f x)⟩
theorem wor_inj {d x : Nat} (hd : d < 4) (hx : x < 4) (h : sg_wor d = sg_wor x) : d = x := by
  unfold sg_wor at h
  have h1 : d = 0 ∨ d = 1 ∨ d = 2 ∨ d = 3 := by omega
  have h2 : x = 0 ∨ x = 1 ∨ x = 2 ∨ x = 3 := by omega
  rcases h1 with e | e | e | e <;> rcases h2 with f | f | f | f <;> subst e <;> subst f <;> simp at h ⊢
theorem abs_wz (d : Nat) (g : Bool) : dr_abs (wz d g) = nI (sg_wor d) := by
  have hp := sg_wor_pos d
  unfold dr_abs wz
  cases g with
  | false =>
    show (if 0 ≤ nI (sg_wor d) then nI (sg_wor d) else 0 - nI (sg_wor d)) = _
    rw [if_pos (nI_pos' (by omega))]
  | true =>
    obtain ⟨h1, h2⟩ := q_neg_le hp.1 (by omega)
    have n0 : ¬ (0 : Int32) ≤ -nI (sg_wor d) := by
      intro q
      have e : -nI (sg_wor d) = 0 := Int32.le_antisymm h1 q
      rw [e] at h2
      have h2 : (0 : Int32) = nI (sg_wor d) := h2
      exact nI_ne0 hp.1 (by omega) h2.symm
    show (if 0 ≤ -nI (sg_wor d) then -nI (sg_wor d) else 0 - -nI (sg_wor d)) = _
    rw [if_neg n0, Int32.zero_sub]
    exact h2
theorem q5_dup_p {ln : Nat → Nat} {s : dr_S} {ru : List (Nat × Bool)} {d : Nat} (h19 : ln 19 = 4) (hl : ru.length < 4) (hd : d < 4) (hlt : ∀ e ∈ ru, e.1 < 4) (hr : rl_C s (some none) ru) : ∀ (k fu i : Nat), ru.length = i + k → k < fu → (d ∈ (ru.drop i).map Prod.fst → f_X5_takesLetter_p28 ln fu (nI (sg_wor d)) (nI i) s = some (0, s)) ∧ (d ∉ (ru.drop i).map Prod.fst → f_X5_takesLetter_p28 ln fu (nI (sg_wor d)) (nI i) s = some (1, dr_pf (dr_put s 19 ru.length (nI (sg_wor d))) 504 (nI (ru.length + 1))))
  | k, 0, _, _, q => absurd q (Nat.not_lt_zero _)
  | 0, fu + 1, i, hk, hf => by
    have e504 : s.2 504 = nI ru.length := hr.1
    rw [f_X5_takesLetter_p28, e504, if_pos (nI_le (by omega) (by omega)), List.drop_eq_nil_of_le (by omega)]
    refine ⟨fun q => (by cases q), fun _ => ?_⟩
    rw [q_wr (by omega) (by omega), Option.bind_some, q_letS, show (dr_put s 19 ru.length (nI (sg_wor d))).2 504 = nI ru.length from e504, nI_1]
  | k + 1, fu + 1, i, hk, hf => by
    have e504 : s.2 504 = nI ru.length := hr.1
    have hi : i < ru.length := by omega
    have he : ru[i]? = some ru[i] := List.getElem?_eq_getElem hi
    have hd2 : ru.drop i = ru[i] :: ru.drop (i + 1) := List.drop_eq_getElem_cons hi
    generalize ru[i] = e at he hd2
    have h4 := hlt e (List.mem_of_getElem? he)
    have hp1 := sg_wor_pos e.1
    have hp2 := sg_wor_pos d
    obtain ⟨i1, i2⟩ := q5_dup_p h19 hl hd hlt hr k fu (i + 1) (by omega) (by omega)
    rw [f_X5_takesLetter_p28, e504, if_neg (nI_ge (by omega) (by omega)), q_rd (by omega) (by omega), Option.bind_some, hr.2.1 i e.1 e.2 he, abs_wz, hd2, List.map_cons]
    by_cases q : e.1 = d
    · rw [if_pos (by rw [q])]
      exact ⟨fun _ => rfl, fun z => absurd (by rw [q]; exact List.mem_cons_self) z⟩
    · rw [if_neg (nI_lit (by omega) (by omega) (fun z => q (wor_inj h4 hd z))), q_let, nI_1]
      refine ⟨fun z => i1 ?_, fun z => i2 (fun y => z (List.mem_cons_of_mem _ y))⟩
      rcases List.mem_cons.mp z with y | y
      · exact absurd y.symm q
      · exact y
theorem q5_worth {ln : Nat → Nat} {s : dr_S} {v : Nat} (hv : v < 256) : f_X5_worthOf ln (nI v) s = some (if 97 ≤ v ∧ v ≤ 100 then nI (sg_wor (v - 97)) else 0, s) := by
  unfold f_X5_worthOf
  by_cases e : 97 ≤ v ∧ v ≤ 100
  · rw [if_pos e]
    refine (q_sw (n := v) (lo := 97) (hi := 100) e.1 e.2 (by omega)).trans ?_
    have hvs : v = 97 ∨ v = 98 ∨ v = 99 ∨ v = 100 := by omega
    rcases hvs with h | h | h | h <;> subst h <;> rfl
  · rw [if_neg e]
    exact q_swO (n := v) (lo := 97) (hi := 100) (by omega) (by omega)
theorem q5_letter {ln : Nat → Nat} {s : dr_S} {ru : List (Nat × Bool)} {v : Nat} (h19 : ln 19 = 4) (hv : v < 256) (hp : ps_ok (some none) ru) (hr : rl_C s (some none) ru) : ((97 ≤ v ∧ v ≤ 100 ∧ v - 97 ∉ ru.map Prod.fst) → ∃ s1, f_X5_takesLetter ln (nI v) s = some (1, s1) ∧ rc_F s s1 ∧ rl_C s1 (some (some (v - 97))) ru) ∧ (¬ (97 ≤ v ∧ v ≤ 100 ∧ v - 97 ∉ ru.map Prod.fst) → f_X5_takesLetter ln (nI v) s = some (0, s)) := by
  have e504 : s.2 504 = nI ru.length := hr.1
  obtain ⟨hl, _⟩ := ps_len hp
  unfold f_X5_takesLetter
  rw [q5_worth hv, q_bi]
  by_cases e : 97 ≤ v ∧ v ≤ 100
  · have hw := sg_wor_pos (v - 97)
    rw [if_pos e, if_neg (nI_ne0 hw.1 (by omega)), e504, if_neg (nI_pos (by omega))]
    by_cases hl4 : ru.length < 4
    · rw [if_pos (show nI ru.length < 4 from nI_lt (b := 4) hl4 (by omega))]
      obtain ⟨d1, d2⟩ := q5_dup_p (d := v - 97) h19 hl4 (by omega) hp.2.1 hr ru.length dr_N 0 (by omega) (by unfold dr_N; omega)
      rw [List.drop_zero] at d1 d2
      refine ⟨fun q => ⟨_, d2 q.2.2, ⟨fun a ha => by rw [q_pf1, q_putO ha], fun f hf => by rw [q_pfO hf]; rfl⟩, ⟨?_, fun i d g hi => ?_, fun d hd => ?_⟩⟩, fun q => ?_⟩
      · rw [q_pf2]
      · have hlt := (List.getElem?_eq_some_iff.mp hi).1
        rw [q_pf1]
        show upd (s.1 19) ru.length _ i = _
        rw [q_updO (by omega)]
        exact hr.2.1 i d g hi
      · cases hd
        rw [q_pf1]
        exact q_updS _ _ _
      · refine d1 ?_
        by_cases z : v - 97 ∈ ru.map Prod.fst
        · exact z
        · exact absurd ⟨e.1, e.2, z⟩ q
    · rw [if_neg (show ¬ nI ru.length < 4 from nI_nlt (a := ru.length) (b := 4) (by omega) (by omega))]
      refine ⟨fun q => ?_, fun _ => rfl⟩
      exfalso
      have := (ps_len (st := some (some (v - 97))) (ru := ru) ⟨hp.1, hp.2.1, fun d hd => by cases hd; exact ⟨by omega, q.2.2⟩⟩).2 _ rfl
      omega
  · rw [if_neg e, if_pos rfl]
    exact ⟨fun q => absurd ⟨q.1, q.2.1⟩ e, fun _ => rfl⟩

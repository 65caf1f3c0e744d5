/-! 97k: reading a rule's text, of the class: the loop -/
def ps_c (st : Option (Option Nat)) : Int32 := match st with | none => 2 | some none => 0 | some (some _) => 1
theorem q5_dir {ln : Nat → Nat} {s : dr_S} {ru : List (Nat × Bool)} {v d : Nat} (h19 : ln 19 = 4) (hv : v < 256) (hp : ps_ok (some (some d)) ru) (hr : rl_C s (some (some d)) ru) : ((v = 43 ∨ v = 45) → ∃ s1, f_X5_takesDirection ln (nI v) s = some (1, s1) ∧ rc_F s s1 ∧ rl_C s1 (some none) (ru ++ [(d, decide (v = 45))])) ∧ (¬ (v = 43 ∨ v = 45) → f_X5_takesDirection ln (nI v) s = some (0, s)) := by
  have e504 : s.2 504 = nI (ru.length + 1) := hr.1
  have hl := (ps_len hp).2 d rfl
  have cmp : ∀ m, m < 2 ^ 31 → (nI v = nI m ↔ v = m) := fun m hm => nI_eq (by omega) hm
  have app : ∀ (s1 : dr_S) (g : Bool), s1.2 504 = nI (ru.length + 1) → (∀ (i x : Nat) (y : Bool), ru[i]? = some (x, y) → s1.1 19 i = wz x y) → s1.1 19 ru.length = wz d g → rl_C s1 (some none) (ru ++ [(d, g)]) := by
    intro s1 g h1 h2 h3
    refine ⟨by rw [List.length_append]; exact h1, fun i x y hi => ?_, fun x hx => by cases hx⟩
    by_cases e : i < ru.length
    · rw [List.getElem?_append_left e] at hi
      exact h2 i x y hi
    · have hlt2 := (List.getElem?_eq_some_iff.mp hi).1
      rw [List.length_append] at hlt2
      have hlt2 : i < ru.length + 1 := hlt2
      have ei : i = ru.length := by omega
      subst ei
      rw [List.getElem?_append_right (Nat.le_refl _), Nat.sub_self] at hi
      cases hi
      exact h3
  unfold f_X5_takesDirection f_X5_takesDirection_p44
  by_cases h45 : v = 45
  · rw [if_pos (show nI v = 45 from (cmp 45 (by omega)).mpr h45), e504, if_neg (show ¬ nI (ru.length + 1) ≤ 0 from nI_ge (a := 0) (by omega) (by omega)), if_neg (show ¬ (4 : Int32) < nI (ru.length + 1) from nI_nlt (b := ru.length + 1) (a := 4) (by omega) (by omega)), nI_pred, q_rd (by omega) (by omega), Option.bind_some, hr.2.2 d rfl, q_wr (by omega) (by omega), Option.bind_some, if_neg (show ¬ nI v = 43 from fun q => by have := (cmp 43 (by omega)).mp q; omega), if_pos (show nI v = 45 from (cmp 45 (by omega)).mpr h45)]
    refine ⟨fun _ => ⟨_, rfl, ⟨fun a ha => q_putO ha, fun f hf => rfl⟩, app _ _ e504 (fun i x y hi => ?_) ?_⟩, fun q => absurd (Or.inr h45) q⟩
    · have hlt := (List.getElem?_eq_some_iff.mp hi).1
      show upd (s.1 19) ru.length _ i = _
      rw [q_updO (by omega)]
      exact hr.2.1 i x y hi
    · show upd (s.1 19) ru.length (-nI (sg_wor d)) ru.length = _
      rw [q_updS, decide_eq_true h45]
      rfl
  · rw [if_neg (show ¬ nI v = 45 from fun q => h45 ((cmp 45 (by omega)).mp q)), if_neg (show ¬ nI v = 45 from fun q => h45 ((cmp 45 (by omega)).mp q))]
    by_cases h43 : v = 43
    · rw [if_pos (show nI v = 43 from (cmp 43 (by omega)).mpr h43)]
      refine ⟨fun _ => ⟨s, rfl, rc_rf s, app s _ e504 hr.2.1 ?_⟩, fun q => absurd (Or.inl h43) q⟩
      rw [hr.2.2 d rfl, decide_eq_false h45]
      rfl
    · rw [if_neg (show ¬ nI v = 43 from fun q => h43 ((cmp 43 (by omega)).mp q))]
      exact ⟨fun q => by rcases q with q | q; exact absurd q h43; exact absurd q h45, fun _ => rfl⟩
theorem q5_fault_p {ln : Nat → Nat} {n : Nat} {w : Nat → Int32} (h17 : ln 17 = 5) (h19 : ln 19 = 4) (hn : n ≤ 20) : ∀ (k fu i : Nat) (s : dr_S) (st : Option (Option Nat)) (ru : List (Nat × Bool)), n = i + k → k < fu → ps_ok st ru → rl_C s st ru → (∀ j, j < 5 → s.1 17 j = w j) → ∃ s1, rc_F s s1 ∧ f_X5_faultOf_p9 ln fu (nI n) (ps_c st) (nI i) s = some ((match (sg_ps (sg_by w) k i st ru).1 with | some p => nI p | none => -1), s1) ∧ ((sg_ps (sg_by w) k i st ru).1 = none → rl_C s1 none (sg_ps (sg_by w) k i st ru).2)
  | k, 0, _, _, _, _, _, q, _, _, _ => absurd q (Nat.not_lt_zero _)
  | 0, fu + 1, i, s, st, ru, hk, hf, hp, hr, hw => by
    refine ⟨s, rc_rf s, ?_⟩
    rw [f_X5_faultOf_p9, if_pos (nI_le (by omega) (by omega)), sg_ps]
    unfold f_X5_faultOf_p98
    cases st with
    | none => exact ⟨rfl, fun _ => hr⟩
    | some st =>
      have e2 : ¬ ps_c (some st) = (2 : Int32) := by
        cases st with
        | none => show ¬ (0 : Int32) = 2; decide
        | some x => show ¬ (1 : Int32) = 2; decide
      rw [if_neg e2, if_neg (by intro q; cases q), show n = i by omega]
      exact ⟨rfl, fun q => by cases q⟩
  | k + 1, fu + 1, i, s, st, ru, hk, hf, hp, hr, hw => by
    have hb := (by_in w (k := i) (by omega)).2
    rw [f_X5_faultOf_p9, if_neg (nI_ge (by omega) (by omega)), if_neg (show ¬ (20 : Int32) ≤ nI i from nI_ge (b := 20) (by omega) (by omega)), q5_byteAt h17 hw (by omega), q_bi, sg_ps_s]
    unfold f_X5_faultOf_p53 f_X5_faultOf_p71 f_X5_faultOf_p92
    generalize sg_by w i = v at *
    have cmp : ∀ m, m < 2 ^ 31 → (nI v = nI m ↔ v = m) := fun m hm => nI_eq (by omega) hm
    by_cases h32 : v = 32
    · rw [if_pos (show nI v = 32 from (cmp 32 (by omega)).mpr h32), if_pos h32, q_let, nI_1]
      exact q5_fault_p h17 h19 hn k fu (i + 1) s st ru (by omega) (by omega) hp hr hw
    · rw [if_neg (show ¬ nI v = 32 from fun q => h32 ((cmp 32 (by omega)).mp q)), if_neg h32]
      cases st with
      | none =>
        rw [if_neg (show ¬ ps_c none = (0 : Int32) by decide), if_neg (show ¬ ps_c none = (0 : Int32) by decide), if_neg (show ¬ ps_c none = (1 : Int32) by decide)]
        exact ⟨s, rc_rf s, rfl, fun q => by cases q⟩
      | some st =>
        cases st with
        | none =>
          rw [if_pos (show ps_c (some none) = (0 : Int32) from rfl), if_pos (show ps_c (some none) = (0 : Int32) from rfl)]
          simp only [if_neg (show ¬ ps_c (some none) = (1 : Int32) by decide)]
          by_cases h59 : v = 59
          · rw [if_pos (show nI v = 59 from (cmp 59 (by omega)).mpr h59), if_pos h59, q_let, nI_1]
            exact q5_fault_p h17 h19 hn k fu (i + 1) s none ru (by omega) (by omega) ⟨hp.1, hp.2.1, fun d hd => by cases hd⟩ ⟨hr.1, hr.2.1, fun d hd => by cases hd⟩ hw
          · rw [if_neg (show ¬ nI v = 59 from fun q => h59 ((cmp 59 (by omega)).mp q)), if_neg h59]
            obtain ⟨l1, l2⟩ := q5_letter h19 hb hp hr
            by_cases hlt : 97 ≤ v ∧ v ≤ 100 ∧ v - 97 ∉ ru.map Prod.fst
            · obtain ⟨s1, a1, F1, M1⟩ := l1 hlt
              rw [if_pos hlt, a1, q_bi, if_neg (by decide), q_let, nI_1]
              obtain ⟨s2, F2, b1, b2⟩ := q5_fault_p (w := w) h17 h19 hn k fu (i + 1) s1 (some (some (v - 97))) ru (by omega) (by omega) ⟨hp.1, hp.2.1, fun d hd => by cases hd; exact ⟨by omega, hlt.2.2⟩⟩ M1 (fun j hj => by rw [F1.1 17 (by decide)]; exact hw j hj)
              exact ⟨s2, rc_tr F1 F2, b1, b2⟩
            · rw [if_neg hlt, l2 hlt, q_bi, if_pos rfl]
              exact ⟨s, rc_rf s, rfl, fun q => by cases q⟩
        | some d =>
          rw [if_neg (show ¬ ps_c (some (some d)) = (0 : Int32) by show ¬ (1 : Int32) = 0; decide), if_neg (show ¬ ps_c (some (some d)) = (0 : Int32) by show ¬ (1 : Int32) = 0; decide), if_pos (show ps_c (some (some d)) = (1 : Int32) from rfl)]
          dsimp only
          obtain ⟨hx4, hxn⟩ := hp.2.2 d rfl
          obtain ⟨l1, l2⟩ := q5_dir h19 hb hp hr
          by_cases hsg : v = 43 ∨ v = 45
          · obtain ⟨s1, a1, F1, M1⟩ := l1 hsg
            rw [if_pos hsg, a1, q_bi, if_neg (by decide), q_let, nI_1]
            obtain ⟨s2, F2, b1, b2⟩ := q5_fault_p (w := w) h17 h19 hn k fu (i + 1) s1 (some none) (ru ++ [(d, decide (v = 45))]) (by omega) (by omega) (by
              refine ⟨?_, fun y hy => ?_, fun z hz => by cases hz⟩
              · rw [List.map_append]
                refine List.nodup_append.mpr ⟨hp.1, List.nodup_cons.mpr ⟨List.not_mem_nil, List.nodup_nil⟩, fun p hp1 q hq => ?_⟩
                have hq : q ∈ [d] := hq
                rw [List.mem_singleton.mp hq]
                intro z
                rw [z] at hp1
                exact hxn hp1
              · rcases List.mem_append.mp hy with z | z
                · exact hp.2.1 y z
                · rw [List.mem_singleton.mp z]; exact hx4) M1 (fun j hj => by rw [F1.1 17 (by decide)]; exact hw j hj)
            exact ⟨s2, rc_tr F1 F2, b1, b2⟩
          · rw [if_neg hsg, l2 hsg, q_bi, if_pos rfl]
            exact ⟨s, rc_rf s, rfl, fun q => by cases q⟩

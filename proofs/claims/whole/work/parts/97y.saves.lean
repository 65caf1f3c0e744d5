/-! 97y: the reference saves what a row of steps changes -/
theorem sv_56 {ln : Nat → Nat} (L : dq_ML ln) : ∀ (k fu i : Nat) (s : dr_S), 56 = i + k → k < fu → ∃ s1, f_X12_saves_p304 ln fu (nI i) s = f_X12_saves_p342 ln dr_N 0 s1 ∧ s1.2 = s.2 ∧ (∀ a, a ≠ 71 → a ≠ 72 → s1.1 a = s.1 a) ∧ (∀ d, i ≤ d → d < 56 → s1.1 71 (d) = s.1 46 (d) ∧ s1.1 72 (d) = s.1 47 (d)) ∧ (∀ d, d < i → s1.1 71 (d) = s.1 71 (d) ∧ s1.1 72 (d) = s.1 72 (d))
  | k, 0, _, _, _, q => absurd q (Nat.not_lt_zero _)
  | 0, fu + 1, i, s, hk, hf => by
    rw [f_X12_saves_p304, if_pos (show (56 : Int32) ≤ nI i from nI_le (a := 56) (by omega) (by omega))]
    exact ⟨s, rfl, rfl, fun _ _ _ => rfl, fun d h1 h2 => absurd h1 (by omega), fun d h => ⟨rfl, rfl⟩⟩
  | k + 1, fu + 1, i, s, hk, hf => by
    rw [f_X12_saves_p304, if_neg (show ¬ (56 : Int32) ≤ nI i from nI_ge (b := 56) (by omega) (by omega)), m_rdb L 46 56 rfl (by decide) (by decide) (by omega), m_wrb L 71 56 rfl (by decide) (by decide) (by omega), m_rdb L 47 56 rfl (by decide) (by decide) (by omega), m_wrb L 72 56 rfl (by decide) (by decide) (by omega), q_let, nI_1]
    obtain ⟨s1, a1, a2, a3, a4, a5⟩ := sv_56 L k fu (i + 1) (dr_put (dr_put s 71 (i) (s.1 46 (i))) 72 (i) (s.1 47 (i))) (by omega) (by omega)
    have c71 : (dr_put (dr_put s 71 (i) (s.1 46 (i))) 72 (i) (s.1 47 (i))).1 71 = upd (s.1 71) (i) (s.1 46 (i)) := rfl
    have c72 : (dr_put (dr_put s 71 (i) (s.1 46 (i))) 72 (i) (s.1 47 (i))).1 72 = upd (s.1 72) (i) (s.1 47 (i)) := rfl
    have ho : ∀ a, a ≠ 71 → a ≠ 72 → (dr_put (dr_put s 71 (i) (s.1 46 (i))) 72 (i) (s.1 47 (i))).1 a = s.1 a := fun a h71 h72 => by rw [q_putO h72, q_putO h71]
    refine ⟨s1, a1, a2, fun a h71 h72 => (a3 a h71 h72).trans (ho a h71 h72), fun d h1 h2 => ?_, fun d h => ?_⟩
    · by_cases e : d = i
      · subst e
        obtain ⟨x0, x1⟩ := a5 d (by omega)
        exact ⟨x0.trans (by rw [c71, q_updS]), x1.trans (by rw [c72, q_updS])⟩
      · have z := a4 d (by omega) h2
        rw [ho 46 (by decide) (by decide), ho 47 (by decide) (by decide)] at z
        exact z
    · obtain ⟨x0, x1⟩ := a5 d (by omega)
      exact ⟨x0.trans (by rw [c71, q_updO (by omega)]), x1.trans (by rw [c72, q_updO (by omega)])⟩
theorem sv_256 {ln : Nat → Nat} (L : dq_ML ln) : ∀ (k fu i : Nat) (s : dr_S), 256 = i + k → k < fu → ∃ s1, f_X12_saves_p277 ln fu (nI i) s = f_X12_saves_p304 ln dr_N 0 s1 ∧ s1.2 = s.2 ∧ (∀ a, a ≠ 70 → s1.1 a = s.1 a) ∧ (∀ d, i ≤ d → d < 256 → s1.1 70 (d) = s.1 44 (d)) ∧ (∀ d, d < i → s1.1 70 (d) = s.1 70 (d))
  | k, 0, _, _, _, q => absurd q (Nat.not_lt_zero _)
  | 0, fu + 1, i, s, hk, hf => by
    rw [f_X12_saves_p277, if_pos (show (256 : Int32) ≤ nI i from nI_le (a := 256) (by omega) (by omega))]
    exact ⟨s, rfl, rfl, fun _ _ => rfl, fun d h1 h2 => absurd h1 (by omega), fun d h => rfl⟩
  | k + 1, fu + 1, i, s, hk, hf => by
    rw [f_X12_saves_p277, if_neg (show ¬ (256 : Int32) ≤ nI i from nI_ge (b := 256) (by omega) (by omega)), m_rdb L 44 256 rfl (by decide) (by decide) (by omega), m_wrb L 70 256 rfl (by decide) (by decide) (by omega), q_let, nI_1]
    obtain ⟨s1, a1, a2, a3, a4, a5⟩ := sv_256 L k fu (i + 1) (dr_put s 70 (i) (s.1 44 (i))) (by omega) (by omega)
    have c70 : (dr_put s 70 (i) (s.1 44 (i))).1 70 = upd (s.1 70) (i) (s.1 44 (i)) := rfl
    have ho : ∀ a, a ≠ 70 → (dr_put s 70 (i) (s.1 44 (i))).1 a = s.1 a := fun a h70 => by rw [q_putO h70]
    refine ⟨s1, a1, a2, fun a h70 => (a3 a h70).trans (ho a h70), fun d h1 h2 => ?_, fun d h => ?_⟩
    · by_cases e : d = i
      · subst e
        obtain x0 := a5 d (by omega)
        exact x0.trans (by rw [c70, q_updS])
      · have z := a4 d (by omega) h2
        rw [ho 44 (by decide)] at z
        exact z
    · obtain x0 := a5 d (by omega)
      exact x0.trans (by rw [c70, q_updO (by omega)])
theorem sv_4 {ln : Nat → Nat} (L : dq_ML ln) : ∀ (k fu i : Nat) (s : dr_S), 4 = i + k → k < fu → ∃ s1, f_X12_saves_p146 ln fu (nI i) s = f_X12_saves_p277 ln dr_N 0 s1 ∧ s1.2 = s.2 ∧ (∀ a, a ≠ 69 → s1.1 a = s.1 a) ∧ (∀ d, i ≤ d → d < 4 → s1.1 69 (8 * d) = s.1 39 (d) ∧ s1.1 69 (8 * d + 1) = s.1 40 (d) ∧ s1.1 69 (8 * d + 2) = s.1 42 (d) ∧ s1.1 69 (8 * d + 3) = s.1 43 (d) ∧ s1.1 69 (8 * d + 4) = s.1 45 (d) ∧ s1.1 69 (8 * d + 5) = s.1 48 (d) ∧ s1.1 69 (8 * d + 6) = s.1 49 (d)) ∧ (∀ d, d < i → s1.1 69 (8 * d) = s.1 69 (8 * d) ∧ s1.1 69 (8 * d + 1) = s.1 69 (8 * d + 1) ∧ s1.1 69 (8 * d + 2) = s.1 69 (8 * d + 2) ∧ s1.1 69 (8 * d + 3) = s.1 69 (8 * d + 3) ∧ s1.1 69 (8 * d + 4) = s.1 69 (8 * d + 4) ∧ s1.1 69 (8 * d + 5) = s.1 69 (8 * d + 5) ∧ s1.1 69 (8 * d + 6) = s.1 69 (8 * d + 6))
  | k, 0, _, _, _, q => absurd q (Nat.not_lt_zero _)
  | 0, fu + 1, i, s, hk, hf => by
    rw [f_X12_saves_p146, if_pos (show (4 : Int32) ≤ nI i from nI_le (a := 4) (by omega) (by omega))]
    exact ⟨s, rfl, rfl, fun _ _ => rfl, fun d h1 h2 => absurd h1 (by omega), fun d h => ⟨rfl, rfl, rfl, rfl, rfl, rfl, rfl⟩⟩
  | k + 1, fu + 1, i, s, hk, hf => by
    have e8 : (8 : Int32) * nI i = nI (8 * i) := by rw [show (8 : Int32) = nI 8 from rfl, pk_mul]
    have e8_1 : nI (8 * i) + 1 = nI (8 * i + 1) := nI_add (8 * i) 1
    have e8_2 : nI (8 * i) + 2 = nI (8 * i + 2) := nI_add (8 * i) 2
    have e8_3 : nI (8 * i) + 3 = nI (8 * i + 3) := nI_add (8 * i) 3
    have e8_4 : nI (8 * i) + 4 = nI (8 * i + 4) := nI_add (8 * i) 4
    have e8_5 : nI (8 * i) + 5 = nI (8 * i + 5) := nI_add (8 * i) 5
    have e8_6 : nI (8 * i) + 6 = nI (8 * i + 6) := nI_add (8 * i) 6
    rw [f_X12_saves_p146, if_neg (show ¬ (4 : Int32) ≤ nI i from nI_ge (b := 4) (by omega) (by omega)), e8, e8_1, e8_2, e8_3, e8_4, e8_5, e8_6, m_rdb L 39 4 rfl (by decide) (by decide) (by omega), m_wrb L 69 32 rfl (by decide) (by decide) (by omega), m_rdb L 40 4 rfl (by decide) (by decide) (by omega), m_wrb L 69 32 rfl (by decide) (by decide) (by omega), m_rdb L 42 4 rfl (by decide) (by decide) (by omega), m_wrb L 69 32 rfl (by decide) (by decide) (by omega), m_rdb L 43 4 rfl (by decide) (by decide) (by omega), m_wrb L 69 32 rfl (by decide) (by decide) (by omega), m_rdb L 45 4 rfl (by decide) (by decide) (by omega), m_wrb L 69 32 rfl (by decide) (by decide) (by omega), m_rdb L 48 4 rfl (by decide) (by decide) (by omega), m_wrb L 69 32 rfl (by decide) (by decide) (by omega), m_rdb L 49 4 rfl (by decide) (by decide) (by omega), m_wrb L 69 32 rfl (by decide) (by decide) (by omega), q_let, nI_1]
    obtain ⟨s1, a1, a2, a3, a4, a5⟩ := sv_4 L k fu (i + 1) (dr_put (dr_put (dr_put (dr_put (dr_put (dr_put (dr_put s 69 (8 * i) (s.1 39 (i))) 69 (8 * i + 1) (s.1 40 (i))) 69 (8 * i + 2) (s.1 42 (i))) 69 (8 * i + 3) (s.1 43 (i))) 69 (8 * i + 4) (s.1 45 (i))) 69 (8 * i + 5) (s.1 48 (i))) 69 (8 * i + 6) (s.1 49 (i))) (by omega) (by omega)
    have c69 : (dr_put (dr_put (dr_put (dr_put (dr_put (dr_put (dr_put s 69 (8 * i) (s.1 39 (i))) 69 (8 * i + 1) (s.1 40 (i))) 69 (8 * i + 2) (s.1 42 (i))) 69 (8 * i + 3) (s.1 43 (i))) 69 (8 * i + 4) (s.1 45 (i))) 69 (8 * i + 5) (s.1 48 (i))) 69 (8 * i + 6) (s.1 49 (i))).1 69 = upd (upd (upd (upd (upd (upd (upd (s.1 69) (8 * i) (s.1 39 (i))) (8 * i + 1) (s.1 40 (i))) (8 * i + 2) (s.1 42 (i))) (8 * i + 3) (s.1 43 (i))) (8 * i + 4) (s.1 45 (i))) (8 * i + 5) (s.1 48 (i))) (8 * i + 6) (s.1 49 (i)) := rfl
    have ho : ∀ a, a ≠ 69 → (dr_put (dr_put (dr_put (dr_put (dr_put (dr_put (dr_put s 69 (8 * i) (s.1 39 (i))) 69 (8 * i + 1) (s.1 40 (i))) 69 (8 * i + 2) (s.1 42 (i))) 69 (8 * i + 3) (s.1 43 (i))) 69 (8 * i + 4) (s.1 45 (i))) 69 (8 * i + 5) (s.1 48 (i))) 69 (8 * i + 6) (s.1 49 (i))).1 a = s.1 a := fun a h69 => by rw [q_putO h69, q_putO h69, q_putO h69, q_putO h69, q_putO h69, q_putO h69, q_putO h69]
    refine ⟨s1, a1, a2, fun a h69 => (a3 a h69).trans (ho a h69), fun d h1 h2 => ?_, fun d h => ?_⟩
    · by_cases e : d = i
      · subst e
        obtain ⟨x0, x1, x2, x3, x4, x5, x6⟩ := a5 d (by omega)
        exact ⟨x0.trans (by rw [c69, q_updO (by omega), q_updO (by omega), q_updO (by omega), q_updO (by omega), q_updO (by omega), q_updO (by omega), q_updS]), x1.trans (by rw [c69, q_updO (by omega), q_updO (by omega), q_updO (by omega), q_updO (by omega), q_updO (by omega), q_updS]), x2.trans (by rw [c69, q_updO (by omega), q_updO (by omega), q_updO (by omega), q_updO (by omega), q_updS]), x3.trans (by rw [c69, q_updO (by omega), q_updO (by omega), q_updO (by omega), q_updS]), x4.trans (by rw [c69, q_updO (by omega), q_updO (by omega), q_updS]), x5.trans (by rw [c69, q_updO (by omega), q_updS]), x6.trans (by rw [c69, q_updS])⟩
      · have z := a4 d (by omega) h2
        rw [ho 39 (by decide), ho 40 (by decide), ho 42 (by decide), ho 43 (by decide), ho 45 (by decide), ho 48 (by decide), ho 49 (by decide)] at z
        exact z
    · obtain ⟨x0, x1, x2, x3, x4, x5, x6⟩ := a5 d (by omega)
      exact ⟨x0.trans (by rw [c69, q_updO (by omega), q_updO (by omega), q_updO (by omega), q_updO (by omega), q_updO (by omega), q_updO (by omega), q_updO (by omega)]), x1.trans (by rw [c69, q_updO (by omega), q_updO (by omega), q_updO (by omega), q_updO (by omega), q_updO (by omega), q_updO (by omega), q_updO (by omega)]), x2.trans (by rw [c69, q_updO (by omega), q_updO (by omega), q_updO (by omega), q_updO (by omega), q_updO (by omega), q_updO (by omega), q_updO (by omega)]), x3.trans (by rw [c69, q_updO (by omega), q_updO (by omega), q_updO (by omega), q_updO (by omega), q_updO (by omega), q_updO (by omega), q_updO (by omega)]), x4.trans (by rw [c69, q_updO (by omega), q_updO (by omega), q_updO (by omega), q_updO (by omega), q_updO (by omega), q_updO (by omega), q_updO (by omega)]), x5.trans (by rw [c69, q_updO (by omega), q_updO (by omega), q_updO (by omega), q_updO (by omega), q_updO (by omega), q_updO (by omega), q_updO (by omega)]), x6.trans (by rw [c69, q_updO (by omega), q_updO (by omega), q_updO (by omega), q_updO (by omega), q_updO (by omega), q_updO (by omega), q_updO (by omega)])⟩
theorem sv_3584 {ln : Nat → Nat} (L : dq_ML ln) : ∀ (k fu i : Nat) (s : dr_S), 3584 = i + k → k < fu → ∃ s1, f_X12_saves_p107 ln fu (nI i) s = f_X12_saves_p146 ln dr_N 0 s1 ∧ s1.2 = s.2 ∧ (∀ a, a ≠ 67 → a ≠ 68 → s1.1 a = s.1 a) ∧ (∀ d, i ≤ d → d < 3584 → s1.1 67 (d) = s.1 33 (d) ∧ s1.1 68 (d) = s.1 34 (d)) ∧ (∀ d, d < i → s1.1 67 (d) = s.1 67 (d) ∧ s1.1 68 (d) = s.1 68 (d))
  | k, 0, _, _, _, q => absurd q (Nat.not_lt_zero _)
  | 0, fu + 1, i, s, hk, hf => by
    rw [f_X12_saves_p107, if_pos (show (3584 : Int32) ≤ nI i from nI_le (a := 3584) (by omega) (by omega))]
    exact ⟨s, rfl, rfl, fun _ _ _ => rfl, fun d h1 h2 => absurd h1 (by omega), fun d h => ⟨rfl, rfl⟩⟩
  | k + 1, fu + 1, i, s, hk, hf => by
    rw [f_X12_saves_p107, if_neg (show ¬ (3584 : Int32) ≤ nI i from nI_ge (b := 3584) (by omega) (by omega)), m_rdb L 33 3584 rfl (by decide) (by decide) (by omega), m_wrb L 67 3584 rfl (by decide) (by decide) (by omega), m_rdb L 34 3584 rfl (by decide) (by decide) (by omega), m_wrb L 68 3584 rfl (by decide) (by decide) (by omega), q_let, nI_1]
    obtain ⟨s1, a1, a2, a3, a4, a5⟩ := sv_3584 L k fu (i + 1) (dr_put (dr_put s 67 (i) (s.1 33 (i))) 68 (i) (s.1 34 (i))) (by omega) (by omega)
    have c67 : (dr_put (dr_put s 67 (i) (s.1 33 (i))) 68 (i) (s.1 34 (i))).1 67 = upd (s.1 67) (i) (s.1 33 (i)) := rfl
    have c68 : (dr_put (dr_put s 67 (i) (s.1 33 (i))) 68 (i) (s.1 34 (i))).1 68 = upd (s.1 68) (i) (s.1 34 (i)) := rfl
    have ho : ∀ a, a ≠ 67 → a ≠ 68 → (dr_put (dr_put s 67 (i) (s.1 33 (i))) 68 (i) (s.1 34 (i))).1 a = s.1 a := fun a h67 h68 => by rw [q_putO h68, q_putO h67]
    refine ⟨s1, a1, a2, fun a h67 h68 => (a3 a h67 h68).trans (ho a h67 h68), fun d h1 h2 => ?_, fun d h => ?_⟩
    · by_cases e : d = i
      · subst e
        obtain ⟨x0, x1⟩ := a5 d (by omega)
        exact ⟨x0.trans (by rw [c67, q_updS]), x1.trans (by rw [c68, q_updS])⟩
      · have z := a4 d (by omega) h2
        rw [ho 33 (by decide) (by decide), ho 34 (by decide) (by decide)] at z
        exact z
    · obtain ⟨x0, x1⟩ := a5 d (by omega)
      exact ⟨x0.trans (by rw [c67, q_updO (by omega)]), x1.trans (by rw [c68, q_updO (by omega)])⟩
theorem sv_d {ln : Nat → Nat} (L : dq_ML ln) : ∀ (k fu i : Nat) (s : dr_S), 256 = i + k → k < fu → ∃ s1, f_X12_saves_p2 ln fu (nI i) s = f_X12_saves_p107 ln dr_N 0 s1 ∧ s1.2 = s.2 ∧ (∀ a, a ≠ 65 → a ≠ 66 → s1.1 a = s.1 a) ∧ (∀ d, i ≤ d → d < 256 → s1.1 65 (d) = vp_nar .boolean (s.1 30 (d)) ∧ s1.1 66 (5 * d) = s.1 31 (d) ∧ s1.1 66 (5 * d + 1) = s.1 32 (d) ∧ s1.1 66 (5 * d + 2) = s.1 35 (d) ∧ s1.1 66 (5 * d + 3) = s.1 36 (d) ∧ s1.1 66 (5 * d + 4) = s.1 37 (d)) ∧ (∀ d, d < i → s1.1 65 (d) = s.1 65 (d) ∧ s1.1 66 (5 * d) = s.1 66 (5 * d) ∧ s1.1 66 (5 * d + 1) = s.1 66 (5 * d + 1) ∧ s1.1 66 (5 * d + 2) = s.1 66 (5 * d + 2) ∧ s1.1 66 (5 * d + 3) = s.1 66 (5 * d + 3) ∧ s1.1 66 (5 * d + 4) = s.1 66 (5 * d + 4))
  | k, 0, _, _, _, q => absurd q (Nat.not_lt_zero _)
  | 0, fu + 1, i, s, hk, hf => by
    rw [f_X12_saves_p2, if_pos (show (256 : Int32) ≤ nI i from nI_le (a := 256) (by omega) (by omega))]
    exact ⟨s, rfl, rfl, fun _ _ _ => rfl, fun d h1 h2 => absurd h1 (by omega), fun d h => ⟨rfl, rfl, rfl, rfl, rfl, rfl⟩⟩
  | k + 1, fu + 1, i, s, hk, hf => by
    have e5 : (5 : Int32) * nI i = nI (5 * i) := by rw [show (5 : Int32) = nI 5 from rfl, pk_mul]
    have e5_1 : nI (5 * i) + 1 = nI (5 * i + 1) := nI_add (5 * i) 1
    have e5_2 : nI (5 * i) + 2 = nI (5 * i + 2) := nI_add (5 * i) 2
    have e5_3 : nI (5 * i) + 3 = nI (5 * i + 3) := nI_add (5 * i) 3
    have e5_4 : nI (5 * i) + 4 = nI (5 * i + 4) := nI_add (5 * i) 4
    rw [f_X12_saves_p2, if_neg (show ¬ (256 : Int32) ≤ nI i from nI_ge (b := 256) (by omega) (by omega)), e5, e5_1, e5_2, e5_3, e5_4, m_rdb L 30 256 rfl (by decide) (by decide) (by omega), m_wzb L 65 256 rfl (by decide) (by decide) (by omega), m_rdb L 31 256 rfl (by decide) (by decide) (by omega), m_wrb L 66 1280 rfl (by decide) (by decide) (by omega), m_rdb L 32 256 rfl (by decide) (by decide) (by omega), m_wrb L 66 1280 rfl (by decide) (by decide) (by omega), m_rdb L 35 256 rfl (by decide) (by decide) (by omega), m_wrb L 66 1280 rfl (by decide) (by decide) (by omega), m_rdb L 36 256 rfl (by decide) (by decide) (by omega), m_wrb L 66 1280 rfl (by decide) (by decide) (by omega), m_rdb L 37 256 rfl (by decide) (by decide) (by omega), m_wrb L 66 1280 rfl (by decide) (by decide) (by omega), q_let, nI_1]
    obtain ⟨s1, a1, a2, a3, a4, a5⟩ := sv_d L k fu (i + 1) (dr_put (dr_put (dr_put (dr_put (dr_put (dr_put s 65 (i) (vp_nar .boolean (s.1 30 (i)))) 66 (5 * i) (s.1 31 (i))) 66 (5 * i + 1) (s.1 32 (i))) 66 (5 * i + 2) (s.1 35 (i))) 66 (5 * i + 3) (s.1 36 (i))) 66 (5 * i + 4) (s.1 37 (i))) (by omega) (by omega)
    have c65 : (dr_put (dr_put (dr_put (dr_put (dr_put (dr_put s 65 (i) (vp_nar .boolean (s.1 30 (i)))) 66 (5 * i) (s.1 31 (i))) 66 (5 * i + 1) (s.1 32 (i))) 66 (5 * i + 2) (s.1 35 (i))) 66 (5 * i + 3) (s.1 36 (i))) 66 (5 * i + 4) (s.1 37 (i))).1 65 = upd (s.1 65) (i) (vp_nar .boolean (s.1 30 (i))) := rfl
    have c66 : (dr_put (dr_put (dr_put (dr_put (dr_put (dr_put s 65 (i) (vp_nar .boolean (s.1 30 (i)))) 66 (5 * i) (s.1 31 (i))) 66 (5 * i + 1) (s.1 32 (i))) 66 (5 * i + 2) (s.1 35 (i))) 66 (5 * i + 3) (s.1 36 (i))) 66 (5 * i + 4) (s.1 37 (i))).1 66 = upd (upd (upd (upd (upd (s.1 66) (5 * i) (s.1 31 (i))) (5 * i + 1) (s.1 32 (i))) (5 * i + 2) (s.1 35 (i))) (5 * i + 3) (s.1 36 (i))) (5 * i + 4) (s.1 37 (i)) := rfl
    have ho : ∀ a, a ≠ 65 → a ≠ 66 → (dr_put (dr_put (dr_put (dr_put (dr_put (dr_put s 65 (i) (vp_nar .boolean (s.1 30 (i)))) 66 (5 * i) (s.1 31 (i))) 66 (5 * i + 1) (s.1 32 (i))) 66 (5 * i + 2) (s.1 35 (i))) 66 (5 * i + 3) (s.1 36 (i))) 66 (5 * i + 4) (s.1 37 (i))).1 a = s.1 a := fun a h65 h66 => by rw [q_putO h66, q_putO h66, q_putO h66, q_putO h66, q_putO h66, q_putO h65]
    refine ⟨s1, a1, a2, fun a h65 h66 => (a3 a h65 h66).trans (ho a h65 h66), fun d h1 h2 => ?_, fun d h => ?_⟩
    · by_cases e : d = i
      · subst e
        obtain ⟨x0, x1, x2, x3, x4, x5⟩ := a5 d (by omega)
        exact ⟨x0.trans (by rw [c65, q_updS]), x1.trans (by rw [c66, q_updO (by omega), q_updO (by omega), q_updO (by omega), q_updO (by omega), q_updS]), x2.trans (by rw [c66, q_updO (by omega), q_updO (by omega), q_updO (by omega), q_updS]), x3.trans (by rw [c66, q_updO (by omega), q_updO (by omega), q_updS]), x4.trans (by rw [c66, q_updO (by omega), q_updS]), x5.trans (by rw [c66, q_updS])⟩
      · have z := a4 d (by omega) h2
        rw [ho 30 (by decide) (by decide), ho 31 (by decide) (by decide), ho 32 (by decide) (by decide), ho 35 (by decide) (by decide), ho 36 (by decide) (by decide), ho 37 (by decide) (by decide)] at z
        exact z
    · obtain ⟨x0, x1, x2, x3, x4, x5⟩ := a5 d (by omega)
      exact ⟨x0.trans (by rw [c65, q_updO (by omega)]), x1.trans (by rw [c66, q_updO (by omega), q_updO (by omega), q_updO (by omega), q_updO (by omega), q_updO (by omega)]), x2.trans (by rw [c66, q_updO (by omega), q_updO (by omega), q_updO (by omega), q_updO (by omega), q_updO (by omega)]), x3.trans (by rw [c66, q_updO (by omega), q_updO (by omega), q_updO (by omega), q_updO (by omega), q_updO (by omega)]), x4.trans (by rw [c66, q_updO (by omega), q_updO (by omega), q_updO (by omega), q_updO (by omega), q_updO (by omega)]), x5.trans (by rw [c66, q_updO (by omega), q_updO (by omega), q_updO (by omega), q_updO (by omega), q_updO (by omega)])⟩
theorem pb_56 {ln : Nat → Nat} (L : dq_ML ln) : ∀ (k fu i : Nat) (s : dr_S), 56 = i + k → k < fu → ∃ s1, f_X12_putsBack_p304 ln fu (nI i) s = f_X12_putsBack_p342 ln dr_N 0 s1 ∧ s1.2 = s.2 ∧ (∀ a, a ≠ 46 → a ≠ 47 → s1.1 a = s.1 a) ∧ (∀ d, i ≤ d → d < 56 → s1.1 46 (d) = s.1 71 (d) ∧ s1.1 47 (d) = s.1 72 (d)) ∧ (∀ d, d < i → s1.1 46 (d) = s.1 46 (d) ∧ s1.1 47 (d) = s.1 47 (d))
  | k, 0, _, _, _, q => absurd q (Nat.not_lt_zero _)
  | 0, fu + 1, i, s, hk, hf => by
    rw [f_X12_putsBack_p304, if_pos (show (56 : Int32) ≤ nI i from nI_le (a := 56) (by omega) (by omega))]
    exact ⟨s, rfl, rfl, fun _ _ _ => rfl, fun d h1 h2 => absurd h1 (by omega), fun d h => ⟨rfl, rfl⟩⟩
  | k + 1, fu + 1, i, s, hk, hf => by
    rw [f_X12_putsBack_p304, if_neg (show ¬ (56 : Int32) ≤ nI i from nI_ge (b := 56) (by omega) (by omega)), m_rdb L 71 56 rfl (by decide) (by decide) (by omega), m_wrb L 46 56 rfl (by decide) (by decide) (by omega), m_rdb L 72 56 rfl (by decide) (by decide) (by omega), m_wrb L 47 56 rfl (by decide) (by decide) (by omega), q_let, nI_1]
    obtain ⟨s1, a1, a2, a3, a4, a5⟩ := pb_56 L k fu (i + 1) (dr_put (dr_put s 46 (i) (s.1 71 (i))) 47 (i) (s.1 72 (i))) (by omega) (by omega)
    have c46 : (dr_put (dr_put s 46 (i) (s.1 71 (i))) 47 (i) (s.1 72 (i))).1 46 = upd (s.1 46) (i) (s.1 71 (i)) := rfl
    have c47 : (dr_put (dr_put s 46 (i) (s.1 71 (i))) 47 (i) (s.1 72 (i))).1 47 = upd (s.1 47) (i) (s.1 72 (i)) := rfl
    have ho : ∀ a, a ≠ 46 → a ≠ 47 → (dr_put (dr_put s 46 (i) (s.1 71 (i))) 47 (i) (s.1 72 (i))).1 a = s.1 a := fun a h46 h47 => by rw [q_putO h47, q_putO h46]
    refine ⟨s1, a1, a2, fun a h46 h47 => (a3 a h46 h47).trans (ho a h46 h47), fun d h1 h2 => ?_, fun d h => ?_⟩
    · by_cases e : d = i
      · subst e
        obtain ⟨x0, x1⟩ := a5 d (by omega)
        exact ⟨x0.trans (by rw [c46, q_updS]), x1.trans (by rw [c47, q_updS])⟩
      · have z := a4 d (by omega) h2
        rw [ho 71 (by decide) (by decide), ho 72 (by decide) (by decide)] at z
        exact z
    · obtain ⟨x0, x1⟩ := a5 d (by omega)
      exact ⟨x0.trans (by rw [c46, q_updO (by omega)]), x1.trans (by rw [c47, q_updO (by omega)])⟩
theorem pb_256 {ln : Nat → Nat} (L : dq_ML ln) : ∀ (k fu i : Nat) (s : dr_S), 256 = i + k → k < fu → ∃ s1, f_X12_putsBack_p277 ln fu (nI i) s = f_X12_putsBack_p304 ln dr_N 0 s1 ∧ s1.2 = s.2 ∧ (∀ a, a ≠ 44 → s1.1 a = s.1 a) ∧ (∀ d, i ≤ d → d < 256 → s1.1 44 (d) = s.1 70 (d)) ∧ (∀ d, d < i → s1.1 44 (d) = s.1 44 (d))
  | k, 0, _, _, _, q => absurd q (Nat.not_lt_zero _)
  | 0, fu + 1, i, s, hk, hf => by
    rw [f_X12_putsBack_p277, if_pos (show (256 : Int32) ≤ nI i from nI_le (a := 256) (by omega) (by omega))]
    exact ⟨s, rfl, rfl, fun _ _ => rfl, fun d h1 h2 => absurd h1 (by omega), fun d h => rfl⟩
  | k + 1, fu + 1, i, s, hk, hf => by
    rw [f_X12_putsBack_p277, if_neg (show ¬ (256 : Int32) ≤ nI i from nI_ge (b := 256) (by omega) (by omega)), m_rdb L 70 256 rfl (by decide) (by decide) (by omega), m_wrb L 44 256 rfl (by decide) (by decide) (by omega), q_let, nI_1]
    obtain ⟨s1, a1, a2, a3, a4, a5⟩ := pb_256 L k fu (i + 1) (dr_put s 44 (i) (s.1 70 (i))) (by omega) (by omega)
    have c44 : (dr_put s 44 (i) (s.1 70 (i))).1 44 = upd (s.1 44) (i) (s.1 70 (i)) := rfl
    have ho : ∀ a, a ≠ 44 → (dr_put s 44 (i) (s.1 70 (i))).1 a = s.1 a := fun a h44 => by rw [q_putO h44]
    refine ⟨s1, a1, a2, fun a h44 => (a3 a h44).trans (ho a h44), fun d h1 h2 => ?_, fun d h => ?_⟩
    · by_cases e : d = i
      · subst e
        obtain x0 := a5 d (by omega)
        exact x0.trans (by rw [c44, q_updS])
      · have z := a4 d (by omega) h2
        rw [ho 70 (by decide)] at z
        exact z
    · obtain x0 := a5 d (by omega)
      exact x0.trans (by rw [c44, q_updO (by omega)])
theorem pb_4 {ln : Nat → Nat} (L : dq_ML ln) : ∀ (k fu i : Nat) (s : dr_S), 4 = i + k → k < fu → ∃ s1, f_X12_putsBack_p146 ln fu (nI i) s = f_X12_putsBack_p277 ln dr_N 0 s1 ∧ s1.2 = s.2 ∧ (∀ a, a ≠ 39 → a ≠ 40 → a ≠ 42 → a ≠ 43 → a ≠ 45 → a ≠ 48 → a ≠ 49 → s1.1 a = s.1 a) ∧ (∀ d, i ≤ d → d < 4 → s1.1 39 (d) = s.1 69 (8 * d) ∧ s1.1 40 (d) = s.1 69 (8 * d + 1) ∧ s1.1 42 (d) = s.1 69 (8 * d + 2) ∧ s1.1 43 (d) = s.1 69 (8 * d + 3) ∧ s1.1 45 (d) = s.1 69 (8 * d + 4) ∧ s1.1 48 (d) = s.1 69 (8 * d + 5) ∧ s1.1 49 (d) = s.1 69 (8 * d + 6)) ∧ (∀ d, d < i → s1.1 39 (d) = s.1 39 (d) ∧ s1.1 40 (d) = s.1 40 (d) ∧ s1.1 42 (d) = s.1 42 (d) ∧ s1.1 43 (d) = s.1 43 (d) ∧ s1.1 45 (d) = s.1 45 (d) ∧ s1.1 48 (d) = s.1 48 (d) ∧ s1.1 49 (d) = s.1 49 (d))
  | k, 0, _, _, _, q => absurd q (Nat.not_lt_zero _)
  | 0, fu + 1, i, s, hk, hf => by
    rw [f_X12_putsBack_p146, if_pos (show (4 : Int32) ≤ nI i from nI_le (a := 4) (by omega) (by omega))]
    exact ⟨s, rfl, rfl, fun _ _ _ _ _ _ _ _ => rfl, fun d h1 h2 => absurd h1 (by omega), fun d h => ⟨rfl, rfl, rfl, rfl, rfl, rfl, rfl⟩⟩
  | k + 1, fu + 1, i, s, hk, hf => by
    have e8 : (8 : Int32) * nI i = nI (8 * i) := by rw [show (8 : Int32) = nI 8 from rfl, pk_mul]
    have e8_1 : nI (8 * i) + 1 = nI (8 * i + 1) := nI_add (8 * i) 1
    have e8_2 : nI (8 * i) + 2 = nI (8 * i + 2) := nI_add (8 * i) 2
    have e8_3 : nI (8 * i) + 3 = nI (8 * i + 3) := nI_add (8 * i) 3
    have e8_4 : nI (8 * i) + 4 = nI (8 * i + 4) := nI_add (8 * i) 4
    have e8_5 : nI (8 * i) + 5 = nI (8 * i + 5) := nI_add (8 * i) 5
    have e8_6 : nI (8 * i) + 6 = nI (8 * i + 6) := nI_add (8 * i) 6
    rw [f_X12_putsBack_p146, if_neg (show ¬ (4 : Int32) ≤ nI i from nI_ge (b := 4) (by omega) (by omega)), e8, e8_1, e8_2, e8_3, e8_4, e8_5, e8_6, m_rdb L 69 32 rfl (by decide) (by decide) (by omega), m_wrb L 39 4 rfl (by decide) (by decide) (by omega), m_rdb L 69 32 rfl (by decide) (by decide) (by omega), m_wrb L 40 4 rfl (by decide) (by decide) (by omega), m_rdb L 69 32 rfl (by decide) (by decide) (by omega), m_wrb L 42 4 rfl (by decide) (by decide) (by omega), m_rdb L 69 32 rfl (by decide) (by decide) (by omega), m_wrb L 43 4 rfl (by decide) (by decide) (by omega), m_rdb L 69 32 rfl (by decide) (by decide) (by omega), m_wrb L 45 4 rfl (by decide) (by decide) (by omega), m_rdb L 69 32 rfl (by decide) (by decide) (by omega), m_wrb L 48 4 rfl (by decide) (by decide) (by omega), m_rdb L 69 32 rfl (by decide) (by decide) (by omega), m_wrb L 49 4 rfl (by decide) (by decide) (by omega), q_let, nI_1]
    obtain ⟨s1, a1, a2, a3, a4, a5⟩ := pb_4 L k fu (i + 1) (dr_put (dr_put (dr_put (dr_put (dr_put (dr_put (dr_put s 39 (i) (s.1 69 (8 * i))) 40 (i) (s.1 69 (8 * i + 1))) 42 (i) (s.1 69 (8 * i + 2))) 43 (i) (s.1 69 (8 * i + 3))) 45 (i) (s.1 69 (8 * i + 4))) 48 (i) (s.1 69 (8 * i + 5))) 49 (i) (s.1 69 (8 * i + 6))) (by omega) (by omega)
    have c39 : (dr_put (dr_put (dr_put (dr_put (dr_put (dr_put (dr_put s 39 (i) (s.1 69 (8 * i))) 40 (i) (s.1 69 (8 * i + 1))) 42 (i) (s.1 69 (8 * i + 2))) 43 (i) (s.1 69 (8 * i + 3))) 45 (i) (s.1 69 (8 * i + 4))) 48 (i) (s.1 69 (8 * i + 5))) 49 (i) (s.1 69 (8 * i + 6))).1 39 = upd (s.1 39) (i) (s.1 69 (8 * i)) := rfl
    have c40 : (dr_put (dr_put (dr_put (dr_put (dr_put (dr_put (dr_put s 39 (i) (s.1 69 (8 * i))) 40 (i) (s.1 69 (8 * i + 1))) 42 (i) (s.1 69 (8 * i + 2))) 43 (i) (s.1 69 (8 * i + 3))) 45 (i) (s.1 69 (8 * i + 4))) 48 (i) (s.1 69 (8 * i + 5))) 49 (i) (s.1 69 (8 * i + 6))).1 40 = upd (s.1 40) (i) (s.1 69 (8 * i + 1)) := rfl
    have c42 : (dr_put (dr_put (dr_put (dr_put (dr_put (dr_put (dr_put s 39 (i) (s.1 69 (8 * i))) 40 (i) (s.1 69 (8 * i + 1))) 42 (i) (s.1 69 (8 * i + 2))) 43 (i) (s.1 69 (8 * i + 3))) 45 (i) (s.1 69 (8 * i + 4))) 48 (i) (s.1 69 (8 * i + 5))) 49 (i) (s.1 69 (8 * i + 6))).1 42 = upd (s.1 42) (i) (s.1 69 (8 * i + 2)) := rfl
    have c43 : (dr_put (dr_put (dr_put (dr_put (dr_put (dr_put (dr_put s 39 (i) (s.1 69 (8 * i))) 40 (i) (s.1 69 (8 * i + 1))) 42 (i) (s.1 69 (8 * i + 2))) 43 (i) (s.1 69 (8 * i + 3))) 45 (i) (s.1 69 (8 * i + 4))) 48 (i) (s.1 69 (8 * i + 5))) 49 (i) (s.1 69 (8 * i + 6))).1 43 = upd (s.1 43) (i) (s.1 69 (8 * i + 3)) := rfl
    have c45 : (dr_put (dr_put (dr_put (dr_put (dr_put (dr_put (dr_put s 39 (i) (s.1 69 (8 * i))) 40 (i) (s.1 69 (8 * i + 1))) 42 (i) (s.1 69 (8 * i + 2))) 43 (i) (s.1 69 (8 * i + 3))) 45 (i) (s.1 69 (8 * i + 4))) 48 (i) (s.1 69 (8 * i + 5))) 49 (i) (s.1 69 (8 * i + 6))).1 45 = upd (s.1 45) (i) (s.1 69 (8 * i + 4)) := rfl
    have c48 : (dr_put (dr_put (dr_put (dr_put (dr_put (dr_put (dr_put s 39 (i) (s.1 69 (8 * i))) 40 (i) (s.1 69 (8 * i + 1))) 42 (i) (s.1 69 (8 * i + 2))) 43 (i) (s.1 69 (8 * i + 3))) 45 (i) (s.1 69 (8 * i + 4))) 48 (i) (s.1 69 (8 * i + 5))) 49 (i) (s.1 69 (8 * i + 6))).1 48 = upd (s.1 48) (i) (s.1 69 (8 * i + 5)) := rfl
    have c49 : (dr_put (dr_put (dr_put (dr_put (dr_put (dr_put (dr_put s 39 (i) (s.1 69 (8 * i))) 40 (i) (s.1 69 (8 * i + 1))) 42 (i) (s.1 69 (8 * i + 2))) 43 (i) (s.1 69 (8 * i + 3))) 45 (i) (s.1 69 (8 * i + 4))) 48 (i) (s.1 69 (8 * i + 5))) 49 (i) (s.1 69 (8 * i + 6))).1 49 = upd (s.1 49) (i) (s.1 69 (8 * i + 6)) := rfl
    have ho : ∀ a, a ≠ 39 → a ≠ 40 → a ≠ 42 → a ≠ 43 → a ≠ 45 → a ≠ 48 → a ≠ 49 → (dr_put (dr_put (dr_put (dr_put (dr_put (dr_put (dr_put s 39 (i) (s.1 69 (8 * i))) 40 (i) (s.1 69 (8 * i + 1))) 42 (i) (s.1 69 (8 * i + 2))) 43 (i) (s.1 69 (8 * i + 3))) 45 (i) (s.1 69 (8 * i + 4))) 48 (i) (s.1 69 (8 * i + 5))) 49 (i) (s.1 69 (8 * i + 6))).1 a = s.1 a := fun a h39 h40 h42 h43 h45 h48 h49 => by rw [q_putO h49, q_putO h48, q_putO h45, q_putO h43, q_putO h42, q_putO h40, q_putO h39]
    refine ⟨s1, a1, a2, fun a h39 h40 h42 h43 h45 h48 h49 => (a3 a h39 h40 h42 h43 h45 h48 h49).trans (ho a h39 h40 h42 h43 h45 h48 h49), fun d h1 h2 => ?_, fun d h => ?_⟩
    · by_cases e : d = i
      · subst e
        obtain ⟨x0, x1, x2, x3, x4, x5, x6⟩ := a5 d (by omega)
        exact ⟨x0.trans (by rw [c39, q_updS]), x1.trans (by rw [c40, q_updS]), x2.trans (by rw [c42, q_updS]), x3.trans (by rw [c43, q_updS]), x4.trans (by rw [c45, q_updS]), x5.trans (by rw [c48, q_updS]), x6.trans (by rw [c49, q_updS])⟩
      · have z := a4 d (by omega) h2
        rw [ho 69 (by decide) (by decide) (by decide) (by decide) (by decide) (by decide) (by decide)] at z
        exact z
    · obtain ⟨x0, x1, x2, x3, x4, x5, x6⟩ := a5 d (by omega)
      exact ⟨x0.trans (by rw [c39, q_updO (by omega)]), x1.trans (by rw [c40, q_updO (by omega)]), x2.trans (by rw [c42, q_updO (by omega)]), x3.trans (by rw [c43, q_updO (by omega)]), x4.trans (by rw [c45, q_updO (by omega)]), x5.trans (by rw [c48, q_updO (by omega)]), x6.trans (by rw [c49, q_updO (by omega)])⟩
theorem pb_3584 {ln : Nat → Nat} (L : dq_ML ln) : ∀ (k fu i : Nat) (s : dr_S), 3584 = i + k → k < fu → ∃ s1, f_X12_putsBack_p107 ln fu (nI i) s = f_X12_putsBack_p146 ln dr_N 0 s1 ∧ s1.2 = s.2 ∧ (∀ a, a ≠ 33 → a ≠ 34 → s1.1 a = s.1 a) ∧ (∀ d, i ≤ d → d < 3584 → s1.1 33 (d) = s.1 67 (d) ∧ s1.1 34 (d) = s.1 68 (d)) ∧ (∀ d, d < i → s1.1 33 (d) = s.1 33 (d) ∧ s1.1 34 (d) = s.1 34 (d))
  | k, 0, _, _, _, q => absurd q (Nat.not_lt_zero _)
  | 0, fu + 1, i, s, hk, hf => by
    rw [f_X12_putsBack_p107, if_pos (show (3584 : Int32) ≤ nI i from nI_le (a := 3584) (by omega) (by omega))]
    exact ⟨s, rfl, rfl, fun _ _ _ => rfl, fun d h1 h2 => absurd h1 (by omega), fun d h => ⟨rfl, rfl⟩⟩
  | k + 1, fu + 1, i, s, hk, hf => by
    rw [f_X12_putsBack_p107, if_neg (show ¬ (3584 : Int32) ≤ nI i from nI_ge (b := 3584) (by omega) (by omega)), m_rdb L 67 3584 rfl (by decide) (by decide) (by omega), m_wrb L 33 3584 rfl (by decide) (by decide) (by omega), m_rdb L 68 3584 rfl (by decide) (by decide) (by omega), m_wrb L 34 3584 rfl (by decide) (by decide) (by omega), q_let, nI_1]
    obtain ⟨s1, a1, a2, a3, a4, a5⟩ := pb_3584 L k fu (i + 1) (dr_put (dr_put s 33 (i) (s.1 67 (i))) 34 (i) (s.1 68 (i))) (by omega) (by omega)
    have c33 : (dr_put (dr_put s 33 (i) (s.1 67 (i))) 34 (i) (s.1 68 (i))).1 33 = upd (s.1 33) (i) (s.1 67 (i)) := rfl
    have c34 : (dr_put (dr_put s 33 (i) (s.1 67 (i))) 34 (i) (s.1 68 (i))).1 34 = upd (s.1 34) (i) (s.1 68 (i)) := rfl
    have ho : ∀ a, a ≠ 33 → a ≠ 34 → (dr_put (dr_put s 33 (i) (s.1 67 (i))) 34 (i) (s.1 68 (i))).1 a = s.1 a := fun a h33 h34 => by rw [q_putO h34, q_putO h33]
    refine ⟨s1, a1, a2, fun a h33 h34 => (a3 a h33 h34).trans (ho a h33 h34), fun d h1 h2 => ?_, fun d h => ?_⟩
    · by_cases e : d = i
      · subst e
        obtain ⟨x0, x1⟩ := a5 d (by omega)
        exact ⟨x0.trans (by rw [c33, q_updS]), x1.trans (by rw [c34, q_updS])⟩
      · have z := a4 d (by omega) h2
        rw [ho 67 (by decide) (by decide), ho 68 (by decide) (by decide)] at z
        exact z
    · obtain ⟨x0, x1⟩ := a5 d (by omega)
      exact ⟨x0.trans (by rw [c33, q_updO (by omega)]), x1.trans (by rw [c34, q_updO (by omega)])⟩
theorem pb_d {ln : Nat → Nat} (L : dq_ML ln) : ∀ (k fu i : Nat) (s : dr_S), 256 = i + k → k < fu → ∃ s1, f_X12_putsBack_p2 ln fu (nI i) s = f_X12_putsBack_p107 ln dr_N 0 s1 ∧ s1.2 = s.2 ∧ (∀ a, a ≠ 30 → a ≠ 31 → a ≠ 32 → a ≠ 35 → a ≠ 36 → a ≠ 37 → s1.1 a = s.1 a) ∧ (∀ d, i ≤ d → d < 256 → s1.1 30 (d) = vp_nar .boolean (s.1 65 (d)) ∧ s1.1 31 (d) = s.1 66 (5 * d) ∧ s1.1 32 (d) = s.1 66 (5 * d + 1) ∧ s1.1 35 (d) = s.1 66 (5 * d + 2) ∧ s1.1 36 (d) = s.1 66 (5 * d + 3) ∧ s1.1 37 (d) = s.1 66 (5 * d + 4)) ∧ (∀ d, d < i → s1.1 30 (d) = s.1 30 (d) ∧ s1.1 31 (d) = s.1 31 (d) ∧ s1.1 32 (d) = s.1 32 (d) ∧ s1.1 35 (d) = s.1 35 (d) ∧ s1.1 36 (d) = s.1 36 (d) ∧ s1.1 37 (d) = s.1 37 (d))
  | k, 0, _, _, _, q => absurd q (Nat.not_lt_zero _)
  | 0, fu + 1, i, s, hk, hf => by
    rw [f_X12_putsBack_p2, if_pos (show (256 : Int32) ≤ nI i from nI_le (a := 256) (by omega) (by omega))]
    exact ⟨s, rfl, rfl, fun _ _ _ _ _ _ _ => rfl, fun d h1 h2 => absurd h1 (by omega), fun d h => ⟨rfl, rfl, rfl, rfl, rfl, rfl⟩⟩
  | k + 1, fu + 1, i, s, hk, hf => by
    have e5 : (5 : Int32) * nI i = nI (5 * i) := by rw [show (5 : Int32) = nI 5 from rfl, pk_mul]
    have e5_1 : nI (5 * i) + 1 = nI (5 * i + 1) := nI_add (5 * i) 1
    have e5_2 : nI (5 * i) + 2 = nI (5 * i + 2) := nI_add (5 * i) 2
    have e5_3 : nI (5 * i) + 3 = nI (5 * i + 3) := nI_add (5 * i) 3
    have e5_4 : nI (5 * i) + 4 = nI (5 * i + 4) := nI_add (5 * i) 4
    rw [f_X12_putsBack_p2, if_neg (show ¬ (256 : Int32) ≤ nI i from nI_ge (b := 256) (by omega) (by omega)), e5, e5_1, e5_2, e5_3, e5_4, m_rdb L 65 256 rfl (by decide) (by decide) (by omega), m_wzb L 30 256 rfl (by decide) (by decide) (by omega), m_rdb L 66 1280 rfl (by decide) (by decide) (by omega), m_wrb L 31 256 rfl (by decide) (by decide) (by omega), m_rdb L 66 1280 rfl (by decide) (by decide) (by omega), m_wrb L 32 256 rfl (by decide) (by decide) (by omega), m_rdb L 66 1280 rfl (by decide) (by decide) (by omega), m_wrb L 35 256 rfl (by decide) (by decide) (by omega), m_rdb L 66 1280 rfl (by decide) (by decide) (by omega), m_wrb L 36 256 rfl (by decide) (by decide) (by omega), m_rdb L 66 1280 rfl (by decide) (by decide) (by omega), m_wrb L 37 256 rfl (by decide) (by decide) (by omega), q_let, nI_1]
    obtain ⟨s1, a1, a2, a3, a4, a5⟩ := pb_d L k fu (i + 1) (dr_put (dr_put (dr_put (dr_put (dr_put (dr_put s 30 (i) (vp_nar .boolean (s.1 65 (i)))) 31 (i) (s.1 66 (5 * i))) 32 (i) (s.1 66 (5 * i + 1))) 35 (i) (s.1 66 (5 * i + 2))) 36 (i) (s.1 66 (5 * i + 3))) 37 (i) (s.1 66 (5 * i + 4))) (by omega) (by omega)
    have c30 : (dr_put (dr_put (dr_put (dr_put (dr_put (dr_put s 30 (i) (vp_nar .boolean (s.1 65 (i)))) 31 (i) (s.1 66 (5 * i))) 32 (i) (s.1 66 (5 * i + 1))) 35 (i) (s.1 66 (5 * i + 2))) 36 (i) (s.1 66 (5 * i + 3))) 37 (i) (s.1 66 (5 * i + 4))).1 30 = upd (s.1 30) (i) (vp_nar .boolean (s.1 65 (i))) := rfl
    have c31 : (dr_put (dr_put (dr_put (dr_put (dr_put (dr_put s 30 (i) (vp_nar .boolean (s.1 65 (i)))) 31 (i) (s.1 66 (5 * i))) 32 (i) (s.1 66 (5 * i + 1))) 35 (i) (s.1 66 (5 * i + 2))) 36 (i) (s.1 66 (5 * i + 3))) 37 (i) (s.1 66 (5 * i + 4))).1 31 = upd (s.1 31) (i) (s.1 66 (5 * i)) := rfl
    have c32 : (dr_put (dr_put (dr_put (dr_put (dr_put (dr_put s 30 (i) (vp_nar .boolean (s.1 65 (i)))) 31 (i) (s.1 66 (5 * i))) 32 (i) (s.1 66 (5 * i + 1))) 35 (i) (s.1 66 (5 * i + 2))) 36 (i) (s.1 66 (5 * i + 3))) 37 (i) (s.1 66 (5 * i + 4))).1 32 = upd (s.1 32) (i) (s.1 66 (5 * i + 1)) := rfl
    have c35 : (dr_put (dr_put (dr_put (dr_put (dr_put (dr_put s 30 (i) (vp_nar .boolean (s.1 65 (i)))) 31 (i) (s.1 66 (5 * i))) 32 (i) (s.1 66 (5 * i + 1))) 35 (i) (s.1 66 (5 * i + 2))) 36 (i) (s.1 66 (5 * i + 3))) 37 (i) (s.1 66 (5 * i + 4))).1 35 = upd (s.1 35) (i) (s.1 66 (5 * i + 2)) := rfl
    have c36 : (dr_put (dr_put (dr_put (dr_put (dr_put (dr_put s 30 (i) (vp_nar .boolean (s.1 65 (i)))) 31 (i) (s.1 66 (5 * i))) 32 (i) (s.1 66 (5 * i + 1))) 35 (i) (s.1 66 (5 * i + 2))) 36 (i) (s.1 66 (5 * i + 3))) 37 (i) (s.1 66 (5 * i + 4))).1 36 = upd (s.1 36) (i) (s.1 66 (5 * i + 3)) := rfl
    have c37 : (dr_put (dr_put (dr_put (dr_put (dr_put (dr_put s 30 (i) (vp_nar .boolean (s.1 65 (i)))) 31 (i) (s.1 66 (5 * i))) 32 (i) (s.1 66 (5 * i + 1))) 35 (i) (s.1 66 (5 * i + 2))) 36 (i) (s.1 66 (5 * i + 3))) 37 (i) (s.1 66 (5 * i + 4))).1 37 = upd (s.1 37) (i) (s.1 66 (5 * i + 4)) := rfl
    have ho : ∀ a, a ≠ 30 → a ≠ 31 → a ≠ 32 → a ≠ 35 → a ≠ 36 → a ≠ 37 → (dr_put (dr_put (dr_put (dr_put (dr_put (dr_put s 30 (i) (vp_nar .boolean (s.1 65 (i)))) 31 (i) (s.1 66 (5 * i))) 32 (i) (s.1 66 (5 * i + 1))) 35 (i) (s.1 66 (5 * i + 2))) 36 (i) (s.1 66 (5 * i + 3))) 37 (i) (s.1 66 (5 * i + 4))).1 a = s.1 a := fun a h30 h31 h32 h35 h36 h37 => by rw [q_putO h37, q_putO h36, q_putO h35, q_putO h32, q_putO h31, q_putO h30]
    refine ⟨s1, a1, a2, fun a h30 h31 h32 h35 h36 h37 => (a3 a h30 h31 h32 h35 h36 h37).trans (ho a h30 h31 h32 h35 h36 h37), fun d h1 h2 => ?_, fun d h => ?_⟩
    · by_cases e : d = i
      · subst e
        obtain ⟨x0, x1, x2, x3, x4, x5⟩ := a5 d (by omega)
        exact ⟨x0.trans (by rw [c30, q_updS]), x1.trans (by rw [c31, q_updS]), x2.trans (by rw [c32, q_updS]), x3.trans (by rw [c35, q_updS]), x4.trans (by rw [c36, q_updS]), x5.trans (by rw [c37, q_updS])⟩
      · have z := a4 d (by omega) h2
        rw [ho 65 (by decide) (by decide) (by decide) (by decide) (by decide) (by decide), ho 66 (by decide) (by decide) (by decide) (by decide) (by decide) (by decide)] at z
        exact z
    · obtain ⟨x0, x1, x2, x3, x4, x5⟩ := a5 d (by omega)
      exact ⟨x0.trans (by rw [c30, q_updO (by omega)]), x1.trans (by rw [c31, q_updO (by omega)]), x2.trans (by rw [c32, q_updO (by omega)]), x3.trans (by rw [c35, q_updO (by omega)]), x4.trans (by rw [c36, q_updO (by omega)]), x5.trans (by rw [c37, q_updO (by omega)])⟩
theorem sv_j {ln : Nat → Nat} {nj : Nat} (L : dq_ML ln) (hn : nj ≤ 120) : ∀ (k fu i : Nat) (s : dr_S), nj = i + k → k < fu → s.2 1226 = nI nj → ∃ s1, f_X12_saves_p342 ln fu (nI i) s = some (0, s1) ∧ (∀ f, f ≠ 1255 → f ≠ 1256 → f ≠ 1257 → s1.2 f = s.2 f) ∧ (s1.2 1255 = s.2 1204 ∧ s1.2 1256 = s.2 1205 ∧ s1.2 1257 = s.2 1234) ∧ (∀ a, a ≠ 73 → s1.1 a = s.1 a) ∧ (∀ d, i ≤ d → d < nj → s1.1 73 (3 * d) = s.1 52 (d) ∧ s1.1 73 (3 * d + 1) = s.1 54 (d) ∧ s1.1 73 (3 * d + 2) = s.1 55 (d)) ∧ (∀ d, (d < i) → s1.1 73 (3 * d) = s.1 73 (3 * d) ∧ s1.1 73 (3 * d + 1) = s.1 73 (3 * d + 1) ∧ s1.1 73 (3 * d + 2) = s.1 73 (3 * d + 2))
  | k, 0, _, _, _, q, _ => absurd q (Nat.not_lt_zero _)
  | 0, fu + 1, i, s, hk, hf, h6 => by
    rw [f_X12_saves_p342, h6, if_pos (nI_le (by omega) (by omega)), q_letS, q_letS, q_letS]
    exact ⟨_, rfl, fun f h1 h2 h3 => by rw [q_pfO h3, q_pfO h2, q_pfO h1], ⟨rfl, rfl, rfl⟩, fun _ _ => rfl, fun d h1 h2 => absurd h1 (by omega), fun d h => ⟨rfl, rfl, rfl⟩⟩
  | k + 1, fu + 1, i, s, hk, hf, h6 => by
    have e3 : (3 : Int32) * nI i = nI (3 * i) := by rw [show (3 : Int32) = nI 3 from rfl, pk_mul]
    have e3_1 : nI (3 * i) + 1 = nI (3 * i + 1) := nI_add (3 * i) 1
    have e3_2 : nI (3 * i) + 2 = nI (3 * i + 2) := nI_add (3 * i) 2
    rw [f_X12_saves_p342, h6, if_neg (nI_ge (by omega) (by omega)), e3, e3_1, e3_2, m_rdb L 52 120 rfl (by decide) (by decide) (by omega), m_wrb L 73 360 rfl (by decide) (by decide) (by omega), m_rdb L 54 120 rfl (by decide) (by decide) (by omega), m_wrb L 73 360 rfl (by decide) (by decide) (by omega), m_rdb L 55 120 rfl (by decide) (by decide) (by omega), m_wrb L 73 360 rfl (by decide) (by decide) (by omega), q_let, nI_1]
    obtain ⟨s1, a1, a2, a6, a3, a4, a5⟩ := sv_j L hn k fu (i + 1) (dr_put (dr_put (dr_put s 73 (3 * i) (s.1 52 (i))) 73 (3 * i + 1) (s.1 54 (i))) 73 (3 * i + 2) (s.1 55 (i))) (by omega) (by omega) h6
    have c73 : (dr_put (dr_put (dr_put s 73 (3 * i) (s.1 52 (i))) 73 (3 * i + 1) (s.1 54 (i))) 73 (3 * i + 2) (s.1 55 (i))).1 73 = upd (upd (upd (s.1 73) (3 * i) (s.1 52 (i))) (3 * i + 1) (s.1 54 (i))) (3 * i + 2) (s.1 55 (i)) := rfl
    have ho : ∀ a, a ≠ 73 → (dr_put (dr_put (dr_put s 73 (3 * i) (s.1 52 (i))) 73 (3 * i + 1) (s.1 54 (i))) 73 (3 * i + 2) (s.1 55 (i))).1 a = s.1 a := fun a h73 => by rw [q_putO h73, q_putO h73, q_putO h73]
    refine ⟨s1, a1, a2, a6, fun a h73 => (a3 a h73).trans (ho a h73), fun d h1 h2 => ?_, fun d h => ?_⟩
    · by_cases e : d = i
      · subst e
        obtain ⟨x0, x1, x2⟩ := a5 d (by omega)
        exact ⟨x0.trans (by rw [c73, q_updO (by omega), q_updO (by omega), q_updS]), x1.trans (by rw [c73, q_updO (by omega), q_updS]), x2.trans (by rw [c73, q_updS])⟩
      · have z := a4 d (by omega) h2
        rw [ho 52 (by decide), ho 54 (by decide), ho 55 (by decide)] at z
        exact z
    · obtain ⟨x0, x1, x2⟩ := a5 d (by omega)
      exact ⟨x0.trans (by rw [c73, q_updO (by omega), q_updO (by omega), q_updO (by omega)]), x1.trans (by rw [c73, q_updO (by omega), q_updO (by omega), q_updO (by omega)]), x2.trans (by rw [c73, q_updO (by omega), q_updO (by omega), q_updO (by omega)])⟩
theorem pb_j {ln : Nat → Nat} {nj : Nat} (L : dq_ML ln) (hn : nj ≤ 120) : ∀ (k fu i : Nat) (s : dr_S), nj = i + k → k < fu → s.2 1226 = nI nj → ∃ s1, f_X12_putsBack_p342 ln fu (nI i) s = some (0, s1) ∧ (∀ f, f ≠ 1204 → f ≠ 1205 → f ≠ 1234 → s1.2 f = s.2 f) ∧ (s1.2 1204 = s.2 1255 ∧ s1.2 1205 = s.2 1256 ∧ s1.2 1234 = s.2 1257) ∧ (∀ a, a ≠ 52 → a ≠ 54 → a ≠ 55 → s1.1 a = s.1 a) ∧ (∀ d, i ≤ d → d < nj → s1.1 52 (d) = s.1 73 (3 * d) ∧ s1.1 54 (d) = s.1 73 (3 * d + 1) ∧ s1.1 55 (d) = s.1 73 (3 * d + 2)) ∧ (∀ d, (d < i ∨ nj ≤ d) → s1.1 52 (d) = s.1 52 (d) ∧ s1.1 54 (d) = s.1 54 (d) ∧ s1.1 55 (d) = s.1 55 (d))
  | k, 0, _, _, _, q, _ => absurd q (Nat.not_lt_zero _)
  | 0, fu + 1, i, s, hk, hf, h6 => by
    rw [f_X12_putsBack_p342, h6, if_pos (nI_le (by omega) (by omega)), q_letS, q_letS, q_letS]
    exact ⟨_, rfl, fun f h1 h2 h3 => by rw [q_pfO h3, q_pfO h2, q_pfO h1], ⟨rfl, rfl, rfl⟩, fun _ _ _ _ => rfl, fun d h1 h2 => absurd h1 (by omega), fun d h => ⟨rfl, rfl, rfl⟩⟩
  | k + 1, fu + 1, i, s, hk, hf, h6 => by
    have e3 : (3 : Int32) * nI i = nI (3 * i) := by rw [show (3 : Int32) = nI 3 from rfl, pk_mul]
    have e3_1 : nI (3 * i) + 1 = nI (3 * i + 1) := nI_add (3 * i) 1
    have e3_2 : nI (3 * i) + 2 = nI (3 * i + 2) := nI_add (3 * i) 2
    rw [f_X12_putsBack_p342, h6, if_neg (nI_ge (by omega) (by omega)), e3, e3_1, e3_2, m_rdb L 73 360 rfl (by decide) (by decide) (by omega), m_wrb L 52 120 rfl (by decide) (by decide) (by omega), m_rdb L 73 360 rfl (by decide) (by decide) (by omega), m_wrb L 54 120 rfl (by decide) (by decide) (by omega), m_rdb L 73 360 rfl (by decide) (by decide) (by omega), m_wrb L 55 120 rfl (by decide) (by decide) (by omega), q_let, nI_1]
    obtain ⟨s1, a1, a2, a6, a3, a4, a5⟩ := pb_j L hn k fu (i + 1) (dr_put (dr_put (dr_put s 52 (i) (s.1 73 (3 * i))) 54 (i) (s.1 73 (3 * i + 1))) 55 (i) (s.1 73 (3 * i + 2))) (by omega) (by omega) h6
    have c52 : (dr_put (dr_put (dr_put s 52 (i) (s.1 73 (3 * i))) 54 (i) (s.1 73 (3 * i + 1))) 55 (i) (s.1 73 (3 * i + 2))).1 52 = upd (s.1 52) (i) (s.1 73 (3 * i)) := rfl
    have c54 : (dr_put (dr_put (dr_put s 52 (i) (s.1 73 (3 * i))) 54 (i) (s.1 73 (3 * i + 1))) 55 (i) (s.1 73 (3 * i + 2))).1 54 = upd (s.1 54) (i) (s.1 73 (3 * i + 1)) := rfl
    have c55 : (dr_put (dr_put (dr_put s 52 (i) (s.1 73 (3 * i))) 54 (i) (s.1 73 (3 * i + 1))) 55 (i) (s.1 73 (3 * i + 2))).1 55 = upd (s.1 55) (i) (s.1 73 (3 * i + 2)) := rfl
    have ho : ∀ a, a ≠ 52 → a ≠ 54 → a ≠ 55 → (dr_put (dr_put (dr_put s 52 (i) (s.1 73 (3 * i))) 54 (i) (s.1 73 (3 * i + 1))) 55 (i) (s.1 73 (3 * i + 2))).1 a = s.1 a := fun a h52 h54 h55 => by rw [q_putO h55, q_putO h54, q_putO h52]
    refine ⟨s1, a1, a2, a6, fun a h52 h54 h55 => (a3 a h52 h54 h55).trans (ho a h52 h54 h55), fun d h1 h2 => ?_, fun d h => ?_⟩
    · by_cases e : d = i
      · subst e
        obtain ⟨x0, x1, x2⟩ := a5 d (by omega)
        exact ⟨x0.trans (by rw [c52, q_updS]), x1.trans (by rw [c54, q_updS]), x2.trans (by rw [c55, q_updS])⟩
      · have z := a4 d (by omega) h2
        rw [ho 73 (by decide) (by decide) (by decide)] at z
        exact z
    · obtain ⟨x0, x1, x2⟩ := a5 d (by omega)
      exact ⟨x0.trans (by rw [c52, q_updO (by omega)]), x1.trans (by rw [c54, q_updO (by omega)]), x2.trans (by rw [c55, q_updO (by omega)])⟩

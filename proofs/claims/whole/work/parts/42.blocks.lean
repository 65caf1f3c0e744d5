/-! 42: filling, copying, a new drawer, headings and children -/
theorem q_bi (r : Int32) (s : dr_S) (Kx : Int32 → dr_S → Option (Int32 × dr_S)) : dr_bnd (some (r, s)) Kx = Kx r s := rfl
theorem q_bv (r : Int32) (s : dr_S) (Kx : dr_S → Option (Int32 × dr_S)) : dr_bndv (some (r, s)) Kx = Kx s := rfl
def dq_fill (m : Nat → Int32) (p : Nat) (v : Int32) : Nat → Nat → (Nat → Int32)
  | _, 0 => m
  | i, k + 1 => dq_fill (upd m (p + i) v) p v (i + 1) k
theorem dq_fill_at {p : Nat} {v : Int32} : ∀ (k i : Nat) (m : Nat → Int32) (j : Nat), dq_fill m p v i k j = if p + i ≤ j ∧ j < p + i + k then v else m j
  | 0, i, m, j => by
    rw [dq_fill, if_neg (by omega)]
  | k + 1, i, m, j => by
    rw [dq_fill, dq_fill_at k (i + 1) _ j]
    by_cases h : p + (i + 1) ≤ j ∧ j < p + (i + 1) + k
    · rw [if_pos h, if_pos (by omega)]
    · rw [if_neg h]
      by_cases hj : j = p + i
      · subst hj
        rw [q_updS, if_pos (by omega)]
      · rw [q_updO hj, if_neg (by omega)]
theorem q2_fill_p {b : Nat} {ln : Nat → Nat} {p n : Nat} {v : Int32} : ∀ (fu i : Nat) (s : dr_S), dq_G b ln s → p + n ≤ ln 14 → i ≤ n → n - i < fu → dq_B s (n - i) → ∃ s', f_X2_fill_p3 ln fu (nI p) (nI n) v (nI i) s = some (0, s') ∧ dq_C s s' (dq_fill (s.1 14) p v i (n - i)) (n - i)
  | 0, _, _, _, _, _, h, _ => absurd h (Nat.not_lt_zero _)
  | fu + 1, i, s, hG, hN, hi, hf, hB => by
    have hL := (q_GL hG).1
    rw [f_X2_fill_p3]
    by_cases h : i = n
    · subst h
      rw [if_pos (nI_le (Nat.le_refl _) (by omega)), Nat.sub_self]
      exact ⟨s, rfl, q_Crf s⟩
    · rw [if_neg (nI_ge (a := i) (b := n) (by omega) (by omega)), nI_add, q_put (q_GL hG) (p := p + i) (by omega), q_bv]
      have C1 := q_Cput (s := s) (p := p + i) (v := v) (by omega) (q_Bmono hB (by omega))
      obtain ⟨s', e', C'⟩ := q2_fill_p fu (i + 1) (dq_put s (p + i) v) (q_GC hG C1) hN (by omega) (by omega) (C1.2.2.2.1 _ (q_Bmono hB (by omega)))
      refine ⟨s', ?_, ?_⟩
      · show f_X2_fill_p3 ln fu (nI p) (nI n) v (nI i + 1) (dq_put s (p + i) v) = _
        rw [nI_1]
        exact e'
      · have hk : n - i = (n - (i + 1)) + 1 := by omega
        rw [hk, dq_fill]
        have hT := q_Ctr C1 C'
        rw [C1.1] at hT
        exact q_Cw hT (by omega)
theorem q2_fill {b : Nat} {ln : Nat → Nat} {p n : Nat} {v : Int32} {s : dr_S} (hG : dq_G b ln s) (hN : p + n ≤ ln 14) (hB : dq_B s n) : ∃ s', f_X2_fill ln (nI p) (nI n) v s = some (0, s') ∧ dq_C s s' (dq_fill (s.1 14) p v 0 n) n := by
  have hL := (q_GL hG).1
  have hl := hG.2.1.1
  have hb := hG.1
  exact q2_fill_p (b := b) dr_N 0 s hG hN (Nat.zero_le _) (by unfold dr_N; omega) hB
def dq_cp (m : Nat → Int32) (f t : Nat) : Nat → Nat → (Nat → Int32)
  | _, 0 => m
  | i, k + 1 => dq_cp (upd m (t + i) (m (f + i))) f t (i + 1) k
theorem dq_cp_at {f t : Nat} : ∀ (k i : Nat) (m : Nat → Int32) (j : Nat), (t ≤ f ∨ f + i + k ≤ t + i) → dq_cp m f t i k j = if t + i ≤ j ∧ j < t + i + k then m (f + (j - t)) else m j
  | 0, i, m, j, _ => by
    rw [dq_cp, if_neg (by omega)]
  | k + 1, i, m, j, h => by
    rw [dq_cp, dq_cp_at k (i + 1) _ j (by omega)]
    by_cases hj : j = t + i
    · subst hj
      rw [if_neg (by omega), if_pos (by omega), q_updS, show f + (t + i - t) = f + i by omega]
    · by_cases h2 : t + (i + 1) ≤ j ∧ j < t + (i + 1) + k
      · rw [if_pos h2, if_pos (by omega)]
        by_cases hs : t = f
        · subst hs
          rw [show t + (j - t) = j by omega, q_updO hj]
        · rw [q_updO (by omega)]
      · rw [if_neg h2, q_updO hj, if_neg (by omega)]
theorem q2_copy_p {b : Nat} {ln : Nat → Nat} {f t n : Nat} : ∀ (fu i : Nat) (s : dr_S), dq_G b ln s → f + n ≤ ln 14 → t + n ≤ ln 14 → i ≤ n → n - i < fu → dq_B s (n - i) → ∃ s', f_X2_copy_p3 ln fu (nI f) (nI t) (nI n) (nI i) s = some (0, s') ∧ dq_C s s' (dq_cp (s.1 14) f t i (n - i)) (n - i)
  | 0, _, _, _, _, _, _, h, _ => absurd h (Nat.not_lt_zero _)
  | fu + 1, i, s, hG, hN, hM, hi, hf, hB => by
    have hL := (q_GL hG).1
    rw [f_X2_copy_p3]
    by_cases h : i = n
    · subst h
      rw [if_pos (nI_le (Nat.le_refl _) (by omega)), Nat.sub_self]
      exact ⟨s, rfl, q_Crf s⟩
    · rw [if_neg (nI_ge (a := i) (b := n) (by omega) (by omega)), nI_add, nI_add, q_get (q_GL hG) (p := f + i) (by omega), q_bi, q_put (q_GL hG) (p := t + i) (by omega), q_bv]
      have C1 := q_Cput (s := s) (p := t + i) (v := s.1 14 (f + i)) (by omega) (q_Bmono hB (by omega))
      obtain ⟨s', e', C'⟩ := q2_copy_p fu (i + 1) (dq_put s (t + i) (s.1 14 (f + i))) (q_GC hG C1) hN hM (by omega) (by omega) (C1.2.2.2.1 _ (q_Bmono hB (by omega)))
      refine ⟨s', ?_, ?_⟩
      · show f_X2_copy_p3 ln fu (nI f) (nI t) (nI n) (nI i + 1) (dq_put s (t + i) (s.1 14 (f + i))) = _
        rw [nI_1]
        exact e'
      · have hk : n - i = (n - (i + 1)) + 1 := by omega
        rw [hk, dq_cp]
        have hT := q_Ctr C1 C'
        rw [C1.1] at hT
        exact q_Cw hT (by omega)
theorem q2_copy {b : Nat} {ln : Nat → Nat} {f t n : Nat} {s : dr_S} (hG : dq_G b ln s) (hN : f + n ≤ ln 14) (hM : t + n ≤ ln 14) (hB : dq_B s n) : ∃ s', f_X2_copy ln (nI f) (nI t) (nI n) s = some (0, s') ∧ dq_C s s' (dq_cp (s.1 14) f t 0 n) n := by
  have hL := (q_GL hG).1
  have hl := hG.2.1.1
  have hb := hG.1
  exact q2_copy_p (b := b) dr_N 0 s hG hN hM (Nat.zero_le _) (by unfold dr_N; omega) hB
/-- the row with a new drawer u in use, without anything in it -/
def dq_open (b : Nat) (m : Nat → Int32) (u : Nat) (lev : Int32) : Nat → Int32 :=
  upd (upd (upd (upd (upd (upd m (260 * (4 * b + 8) + 1) (nI (u + 1))) (dp b u 0) lev) (dp b u 1) 0) (dp b u 2) (-1)) (dp b u 3) (-1)) (dp b u 4) (-1)
theorem q4_open {b : Nat} {ln : Nat → Nat} {s : dr_S} {u : Nat} {lev : Int32} (hG : dq_G b ln s) (hu : s.1 14 (260 * (4 * b + 8) + 1) = nI u) (hlt : u < 256) (hB : dq_B s 6) : ∃ s', f_X4_open ln lev s = some (nI u, s') ∧ dq_C s s' (dq_open b (s.1 14) u lev) 6 := by
  have hb := hG.1
  have hl := hG.2.1.1
  unfold f_X4_open
  rw [q4_inUse hG, q_bi, hu, if_pos (show nI u < 256 from (nI_ltI (a := u) (b := 256) (by omega) (by omega)).mpr hlt), hG.2.2.2.2.2.2.1, nI_1, q_put (q_GL hG) (by omega), q_bv]
  have C1 := q_Cput (s := s) (p := 260 * (4 * b + 8) + 1) (v := nI (u + 1)) (by omega) (q_Bmono hB (by omega))
  have G1 := q_GC hG C1
  obtain ⟨s2, e2, C2⟩ := q4_set (d := u) (k := 0) (v := lev) G1 (by omega) (by omega) (C1.2.2.2.1 _ (q_Bmono hB (by omega)))
  have T2 := q_Ctr C1 C2
  have G2 := q_GC hG T2
  obtain ⟨s3, e3, C3⟩ := q4_set (d := u) (k := 1) (v := 0) G2 (by omega) (by omega) (T2.2.2.2.1 _ (q_Bmono hB (by omega)))
  have T3 := q_Ctr T2 C3
  have G3 := q_GC hG T3
  obtain ⟨s4, e4, C4⟩ := q4_set (d := u) (k := 2) (v := -1) G3 (by omega) (by omega) (T3.2.2.2.1 _ (q_Bmono hB (by omega)))
  have T4 := q_Ctr T3 C4
  have G4 := q_GC hG T4
  obtain ⟨s5, e5, C5⟩ := q4_set (d := u) (k := 3) (v := -1) G4 (by omega) (by omega) (T4.2.2.2.1 _ (q_Bmono hB (by omega)))
  have T5 := q_Ctr T4 C5
  have G5 := q_GC hG T5
  obtain ⟨s6, e6, C6⟩ := q4_set (d := u) (k := 4) (v := -1) G5 (by omega) (by omega) (T5.2.2.2.1 _ (q_Bmono hB (by omega)))
  have T6 := q_Ctr T5 C6
  refine ⟨s6, ?_, ?_⟩
  · rw [show (0 : Int32) = nI 0 from rfl] at e3 ⊢
    rw [show (1 : Int32) = nI 1 from rfl] at *
    rw [e2, q_bv, e3, q_bv]
    rw [show (2 : Int32) = nI 2 from rfl, e4, q_bv, show (3 : Int32) = nI 3 from rfl, e5, q_bv, show (4 : Int32) = nI 4 from rfl, e6, q_bv]
  · rw [C5.1, C4.1, C3.1, C2.1, C1.1] at T6
    exact T6

/-! 54: shifting to the right; a list with one more -/
def dq_shr (m : Nat → Int32) (f p : Nat) : Nat → (Nat → Int32)
  | 0 => m
  | k + 1 => dq_shr (upd m (f + p + k + 1) (m (f + p + k))) f p k
theorem dq_shr_at {f p : Nat} : ∀ (k : Nat) (m : Nat → Int32) (j : Nat), dq_shr m f p k j = if f + p < j ∧ j ≤ f + p + k then m (j - 1) else m j
  | 0, m, j => by
    rw [dq_shr, if_neg (by omega)]
  | k + 1, m, j => by
    rw [dq_shr, dq_shr_at k _ j]
    by_cases h : f + p < j ∧ j ≤ f + p + k
    · rw [if_pos h, if_pos (by omega), q_updO (by omega)]
    · rw [if_neg h]
      by_cases hj : j = f + p + k + 1
      · subst hj
        rw [q_updS, if_pos (by omega), show f + p + k + 1 - 1 = f + p + k by omega]
      · rw [q_updO hj, if_neg (by omega)]
theorem sg_ins_len {l : List Nat} {k v : Nat} (h : k ≤ l.length) : (sg_ins l k v).length = l.length + 1 := by
  unfold sg_ins
  rw [List.length_append, List.length_take, List.length_cons, List.length_drop]
  omega
theorem sg_ins_at {l : List Nat} {k v : Nat} (h : k ≤ l.length) (i : Nat) : (sg_ins l k v)[i]? = if i < k then l[i]? else if i = k then some v else l[i - 1]? := by
  unfold sg_ins
  have hl : (l.take k).length = k := by rw [List.length_take]; omega
  by_cases h1 : i < k
  · rw [if_pos h1, List.getElem?_append_left (by omega), List.getElem?_take, if_pos h1]
  · rw [if_neg h1, List.getElem?_append_right (by omega), hl]
    by_cases h2 : i = k
    · rw [if_pos h2, h2, Nat.sub_self]
      rfl
    · rw [if_neg h2]
      obtain ⟨n, hn⟩ : ∃ n, i - k = n + 1 := ⟨i - k - 1, by omega⟩
      rw [hn, List.getElem?_cons_succ, List.getElem?_drop, show k + n = i - 1 by omega]
/-- the headings' loop of insert: what is behind the place goes one to the right -/
theorem q4_ins_p {b : Nat} {ln : Nat → Nat} {fw k : Nat} {x1 x3 x4 x5 : Int32} : ∀ (fu i : Nat) (s : dr_S), dq_G b ln s → fw + i < ln 14 → k ≤ i → i - k < fu → dq_B s (i - k) → ∃ s', f_X4_insert_p44 ln fu x1 (nI k) x3 x4 x5 (nI fw) (nI i) s = f_X4_insert_p44 ln 1 x1 (nI k) x3 x4 x5 (nI fw) (nI k) s' ∧ dq_C s s' (dq_shr (s.1 14) fw k (i - k)) (i - k)
  | 0, _, _, _, _, _, h, _ => absurd h (Nat.not_lt_zero _)
  | fu + 1, i, s, hG, hN, hi, hf, hB => by
    have hL := (q_GL hG).1
    by_cases h : i = k
    · subst h
      rw [Nat.sub_self]
      refine ⟨s, ?_, q_Crf s⟩
      rw [f_X4_insert_p44, f_X4_insert_p44, if_pos (nI_le (Nat.le_refl _) (by omega)), if_pos (nI_le (Nat.le_refl _) (by omega))]
    · rw [f_X4_insert_p44, if_neg (nI_ge (a := k) (b := i) (by omega) (by omega)), nI_add, show (1 : Int32) = nI 1 from rfl, pk_sub (by omega), q_get (q_GL hG) (p := fw + i - 1) (by omega), q_bi, q_put (q_GL hG) (p := fw + i) (by omega), q_bv]
      have C1 := q_Cput (s := s) (p := fw + i) (v := s.1 14 (fw + i - 1)) (by omega) (q_Bmono hB (by omega))
      obtain ⟨s', e', C'⟩ := q4_ins_p (fw := fw) (k := k) (x1 := x1) (x3 := x3) (x4 := x4) (x5 := x5) fu (i - 1) (dq_put s (fw + i) (s.1 14 (fw + i - 1))) (q_GC hG C1) (by omega) (by omega) (by omega) (C1.2.2.2.1 _ (q_Bmono hB (by omega)))
      refine ⟨s', ?_, ?_⟩
      · rw [q_let, show nI i + -nI 1 = nI (i - 1) by rw [show -nI 1 = (-1 : Int32) from rfl, sb_m1 (by omega)]]
        exact e'
      · have hk : i - k = (i - 1 - k) + 1 := by omega
        rw [hk, dq_shr, show fw + k + (i - 1 - k) + 1 = fw + i by omega, show fw + k + (i - 1 - k) = fw + i - 1 by omega]
        have hT := q_Ctr C1 C'
        rw [C1.1] at hT
        exact q_Cw hT (by omega)

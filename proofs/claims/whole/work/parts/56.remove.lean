/-! 56: a heading goes; a child is set; of the class -/
theorem q4_remove {b : Nat} {ln : Nat → Nat} {s : dr_S} {d k : Nat} {x : sg_D} (hG : dq_G b ln s) (hd : d < 260) (hx : rp_row (s.1 14) b d x) (ho : rw_ok b x) (hk : k < (dv_hs x).length) (hl0 : dv_lev x = 0) (cs' : List Nat) (la : Option Nat) (hB : dq_B s 12) : ∃ s' g, f_X4_remove ln (nI d) (nI k) s = some (0, s') ∧ dq_C s s' g 12 ∧ rp_row g b d (dv_lev x, (dv_hs x).eraseIdx k, cs', dv_hi x, dv_th x, la) ∧ (∀ p, (∀ k, k < 4 * b + 8 → k ≠ 4 → p ≠ dp b d k) → g p = s.1 14 p) := by
  have hb := hG.1
  have hl := hG.2.1.1
  have o1 := ho.1
  have hdw : d * (4 * b + 8) + (4 * b + 8) ≤ 260 * (4 * b + 8) := by
    have q : (d + 1) * (4 * b + 8) ≤ 260 * (4 * b + 8) := Nat.mul_le_mul_right _ (by omega)
    rw [Nat.add_mul d 1, Nat.one_mul] at q
    exact q
  generalize hD : d * (4 * b + 8) = dw at *
  have dpd : ∀ k, dp b d k = dw + k := fun k => by unfold dp; rw [hD]
  have g1 := q4_get (d := d) (k := 1) hG hd (by omega)
  rw [hx.2.1] at g1
  generalize hzn : (dv_hs x).length = z at *
  obtain ⟨s1, e1, C1⟩ := q2_copy (f := dw + 5 + k + 1) (t := dw + 5 + k) (n := z - k - 1) hG (by omega) (by omega) (q_Bmono hB (by omega))
  have G1 := q_GC hG C1
  obtain ⟨s2, e2, C2⟩ := q4_set (d := d) (k := 1) (v := nI (z - 1)) G1 hd (by omega) (C1.2.2.2.1 _ (q_Bmono hB (by omega)))
  have at2 : ∀ p, s2.1 14 p = if p = dw + 1 then nI (z - 1) else if dw + 5 + k ≤ p ∧ p < dw + 5 + z - 1 then s.1 14 (p + 1) else s.1 14 p := by
    intro p
    rw [C2.1, C1.1, dpd]
    by_cases h1 : p = dw + 1
    · rw [if_pos h1, h1, q_updS]
    · rw [if_neg h1, q_updO h1, dq_cp_at _ _ _ _ (by omega)]
      by_cases h2 : dw + 5 + k ≤ p ∧ p < dw + 5 + z - 1
      · rw [if_pos h2, if_pos (by omega), show dw + 5 + k + 1 + (p - (dw + 5 + k)) = p + 1 by omega]
      · rw [if_neg h2, if_neg (by omega)]
  refine ⟨s2, s2.1 14, ?_, q_Cw (by rw [C2.1]; exact q_Ctr C1 C2) (by omega), ⟨?_, ?_, ?_, ?_, fun i u hu => ?_, fun q => absurd (show 0 < dv_lev x from q) (by omega)⟩, fun p hp => ?_⟩
  · unfold f_X4_remove
    rw [show f_X4_get ln (nI d) 1 s = _ from g1, q_bi, if_neg (nI_pos (by omega)), if_pos ((nI_ltI (by omega) (by omega)).mpr hk), hG.2.2.2.1, pk_mul, hD, show (5 : Int32) = nI 5 from rfl, nI_add, q_let, nI_add, nI_1, pk_sub (by omega), show nI (z - k) - 1 = nI (z - k - 1) from pk_sub (a := z - k) (b := 1) (by omega), e1, q_bv, show nI z - 1 = nI (z - 1) from pk_sub (a := z) (b := 1) (by omega), show f_X4_set ln (nI d) 1 (nI (z - 1)) s1 = _ from e2, q_bv]
  · rw [at2, dpd, if_neg (by omega), if_neg (by omega), ← dpd]; exact hx.1
  · rw [at2, dpd, if_pos rfl]
    show nI (z - 1) = nI ((dv_hs x).eraseIdx k).length
    rw [List.length_eraseIdx, if_pos (by omega), hzn]
  · rw [at2, dpd, if_neg (by omega), if_neg (by omega), ← dpd]; exact hx.2.2.1
  · rw [at2, dpd, if_neg (by omega), if_neg (by omega), ← dpd]; exact hx.2.2.2.1
  · have hu2 : ((dv_hs x).eraseIdx k)[i]? = some u := hu
    have hlt : i < ((dv_hs x).eraseIdx k).length := (List.getElem?_eq_some_iff.mp hu2).1
    rw [List.length_eraseIdx, if_pos (by omega), hzn] at hlt
    rw [List.getElem?_eraseIdx] at hu2
    rw [at2, dpd, if_neg (by omega)]
    by_cases h1 : i < k
    · rw [if_pos h1] at hu2
      rw [if_neg (by omega), ← dpd]
      exact hx.2.2.2.2.1 i u hu2
    · rw [if_neg h1] at hu2
      rw [if_pos (by omega), show dw + (5 + i) + 1 = dp b d (5 + (i + 1)) by rw [dpd]; omega]
      exact hx.2.2.2.2.1 (i + 1) u hu2
  · have out : ∀ k, k < 4 * b + 8 → k ≠ 4 → p ≠ dw + k := fun k h1 h2 => by rw [← dpd]; exact hp k h1 h2
    rw [at2, if_neg (fun q => out (p - dw) (by omega) (by omega) (by omega)), if_neg (fun q => out (p - dw) (by omega) (by omega) (by omega))]
theorem q4_setChild {b : Nat} {ln : Nat → Nat} {s : dr_S} {d k : Nat} {v : Int32} (hG : dq_G b ln s) (hd : d < 260) (hk : k ≤ 2 * b + 1) (hB : dq_B s 1) : ∃ s', f_X4_setChild ln (nI d) (nI k) v s = some (0, s') ∧ dq_C s s' (upd (s.1 14) (dp b d (2 * b + 6 + k)) v) 1 := by
  have hb := hG.1
  have hl := dp_lt (k := 2 * b + 6 + k) hG.1 hd (by omega)
  refine ⟨dq_put s (dp b d (2 * b + 6 + k)) v, ?_, q_Cput (by omega) hB⟩
  unfold f_X4_setChild
  unfold dp at hl ⊢
  rw [if_neg (nI_pos (by omega)), hG.2.2.1, show (2 : Int32) = nI 2 from rfl, pk_mul, nI_1, if_neg (nI_nlt (a := 2 * b + 1) (b := k) hk (by omega)), hG.2.2.2.1, hG.2.2.2.2.1, pk_mul, nI_add, nI_add, q_put (q_GL hG) (p := d * (4 * b + 8) + (2 * b + 6) + k) (by rw [hG.2.1.1]; omega), q_bv, show d * (4 * b + 8) + (2 * b + 6) + k = d * (4 * b + 8) + (2 * b + 6 + k) by omega]

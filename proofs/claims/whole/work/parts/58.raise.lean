/-! 58: a heading is added behind the others; a new top; of the class -/
theorem q4_addHeading {b : Nat} {ln : Nat → Nat} {s : dr_S} {d z : Nat} {v : Int32} (hG : dq_G b ln s) (hd : d < 260) (hz : s.1 14 (dp b d 1) = nI z) (hzb : z ≤ 2 * b) (hB : dq_B s 2) : ∃ s', f_X4_addHeading ln (nI d) v s = some (0, s') ∧ dq_C s s' (upd (upd (s.1 14) (dp b d (5 + z)) v) (dp b d 1) (nI (z + 1))) 2 := by
  have hb := hG.1
  have hl := dp_lt (k := 5 + z) hG.1 hd (by omega)
  have g1 := q4_get (d := d) (k := 1) hG hd (by omega)
  rw [hz] at g1
  have C1 := q_Cput (s := s) (p := dp b d (5 + z)) (v := v) (by omega) (q_Bmono hB (by omega))
  obtain ⟨s2, e2, C2⟩ := q4_set (d := d) (k := 1) (v := nI (z + 1)) (q_GC hG C1) hd (by omega) (C1.2.2.2.1 _ (q_Bmono hB (by omega)))
  refine ⟨s2, ?_, ?_⟩
  · have hp : nI d * s.2 403 + 5 + nI z = nI (dp b d (5 + z)) := by
      rw [hG.2.2.2.1, show (5 : Int32) = nI 5 from rfl, pk_mul, nI_add, nI_add]
      unfold dp
      rw [show d * (4 * b + 8) + 5 + z = d * (4 * b + 8) + (5 + z) by omega]
    unfold f_X4_addHeading
    rw [show f_X4_get ln (nI d) 1 s = _ from g1, q_bi, if_neg (nI_pos (by omega)), hp, hG.2.2.1, show (2 : Int32) = nI 2 from rfl, pk_mul, if_neg (nI_nlt (a := 2 * b) (b := z) hzb (by omega)), q_put (q_GL hG) (by rw [hG.2.1.1]; omega), q_bv, nI_1, show f_X4_set ln (nI d) 1 (nI (z + 1)) _ = _ from e2, q_bv]
  · have T := q_Ctr C1 C2
    rw [C1.1] at T
    exact T

/-! 58: a heading is added behind the others; a new top; of the class -/
theorem q4_addHeading {b : Nat} {ln : Nat → Nat} {s : dr_S} {d z : Nat} {v : Int32} (hG : dq_G b ln s) (hd : d < 260) (hz : s.1 14 (dp b d 1) = nI z) (hzb : z ≤ 2 * b) (hB : dq_B s 2) : ∃ s', f_X4_addHeading ln (nI d) v s = some (0, s') ∧ dq_C s s' (upd (upd (s.1 14) (dp b d (5 + z)) v) (dp b d 1) (nI (z + 1))) 2 := by
  have hb := hG.1
  have hl := dp_lt (k := 5 + z) hG.1 hd (by omega)
  have g1 := q4_get (d := d) (k := 1) hG hd (by omega)
  rw [hz] at g1
  have C1 := q_Cput (s := s) (p := dp b d (5 + z)) (v := v) (by omega) (q_Bmono hB (by omega))
  obtain ⟨s2, e2, C2⟩ := q4_set (d := d) (k := 1) (v := nI (z + 1)) (q_GC hG C1) hd (by omega) (C1.2.2.2.1 _ (q_Bmono hB (by omega)))
  refine ⟨s2, ?_, ?_⟩
  · have hp : nI d * s.2 403 + 5 + nI z = nI (dp b d (5 + z)) := by
      rw [hG.2.2.2.1, show (5 : Int32) = nI 5 from rfl, pk_mul, nI_add, nI_add]
      unfold dp
      rw [show d * (4 * b + 8) + 5 + z = d * (4 * b + 8) + (5 + z) by omega]
    unfold f_X4_addHeading
    rw [show f_X4_get ln (nI d) 1 s = _ from g1, q_bi, if_neg (nI_pos (by omega)), hp, hG.2.2.1, show (2 : Int32) = nI 2 from rfl, pk_mul, if_neg (nI_nlt (a := 2 * b) (b := z) hzb (by omega)), q_put (q_GL hG) (by rw [hG.2.1.1]; omega), q_bv, nI_1, show f_X4_set ln (nI d) 1 (nI (z + 1)) _ = _ from e2, q_bv]
  · have T := q_Ctr C1 C2
    rw [C1.1] at T
    exact T
/-- a new top above a drawer and the one that was parted from it -/
theorem q4_raise {b : Nat} {ln : Nat → Nat} {s : dr_S} {d u c h lev : Nat} (hG : dq_G b ln s) (hd : d < 256) (hu : s.1 14 (260 * (4 * b + 8) + 1) = nI u) (hu2 : u < 256) (hl : s.1 14 (dp b d 0) = nI lev) (hB : dq_B s 11) : ∃ s', f_X4_raise ln (nI d) (nI h) (nI c) s = some (0, s') ∧ dq_C s s' (upd (upd (upd (upd (upd (dq_open b (s.1 14) u (nI (lev + 1))) (dp b u 5) (nI h)) (dp b u 1) (nI 1)) (dp b u (2 * b + 6)) (nI d)) (dp b u (2 * b + 6 + 1)) (nI c)) (260 * (4 * b + 8)) (nI u)) 11 := by
  have hb := hG.1
  have g0 := q4_get (d := d) (k := 0) hG (by omega) (by omega)
  rw [hl] at g0
  obtain ⟨s1, e1, C1⟩ := q4_open (lev := nI (lev + 1)) hG hu hu2 (q_Bmono hB (by omega))
  have hz : s1.1 14 (dp b u 1) = nI 0 := by
    rw [C1.1]
    unfold dq_open
    rw [q_updO (by unfold dp; omega), q_updO (by unfold dp; omega), q_updO (by unfold dp; omega), q_updS]
    rfl
  obtain ⟨s2, e2, C2⟩ := q4_addHeading (d := u) (z := 0) (v := nI h) (q_GC hG C1) (by omega) hz (by omega) (C1.2.2.2.1 _ (q_Bmono hB (by omega)))
  have T2 := q_Ctr C1 C2
  obtain ⟨s3, e3, C3⟩ := q4_setChild (d := u) (k := 0) (v := nI d) (q_GC hG T2) (by omega) (by omega) (T2.2.2.2.1 _ (q_Bmono hB (by omega)))
  have T3 := q_Ctr T2 C3
  obtain ⟨s4, e4, C4⟩ := q4_setChild (d := u) (k := 1) (v := nI c) (q_GC hG T3) (by omega) (by omega) (T3.2.2.2.1 _ (q_Bmono hB (by omega)))
  have T4 := q_Ctr T3 C4
  obtain ⟨s5, e5, C5⟩ := q4_setTop (v := nI u) (q_GC hG T4) (T4.2.2.2.1 _ (q_Bmono hB (by omega)))
  have T5 := q_Ctr T4 C5
  refine ⟨s5, ?_, ?_⟩
  · unfold f_X4_raise
    rw [show f_X4_get ln (nI d) 0 s = _ from g0, q_bi, nI_1, e1, q_bi, if_neg (fun q => nI_pos (n := u) (by omega) (by rw [q]; decide)), e2, q_bv, show f_X4_setChild ln (nI u) 0 (nI d) s2 = _ from e3, q_bv, show f_X4_setChild ln (nI u) 1 (nI c) s3 = _ from e4, q_bv, e5, q_bv]
  · rw [C4.1, C3.1, C2.1, C1.1] at T5
    exact T5

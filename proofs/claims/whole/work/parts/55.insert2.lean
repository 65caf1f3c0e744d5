/-! 55: a heading and a child come into a row; of the class -/
theorem q4_insc_p {b : Nat} {ln : Nat → Nat} {kw k : Nat} {v : Int32} : ∀ (fu i : Nat) (s : dr_S), dq_G b ln s → kw + i < ln 14 → k + 1 ≤ i → i - (k + 1) < fu → dq_B s (i - (k + 1) + 1) → ∃ s', f_X4_insert_p132 ln fu (nI k) v (nI kw) (nI i) s = some (0, s') ∧ dq_C s s' (upd (dq_shr (s.1 14) kw (k + 1) (i - (k + 1))) (kw + k + 1) v) (i - (k + 1) + 1)
  | 0, _, _, _, _, _, h, _ => absurd h (Nat.not_lt_zero _)
  | fu + 1, i, s, hG, hN, hi, hf, hB => by
    have hL := (q_GL hG).1
    by_cases h : i = k + 1
    · subst h
      rw [Nat.sub_self, dq_shr]
      have C1 := q_Cput (s := s) (p := kw + k + 1) (v := v) (by omega) (q_Bmono hB (by omega))
      refine ⟨dq_put s (kw + k + 1) v, ?_, q_Cw C1 (by omega)⟩
      rw [f_X4_insert_p132, nI_1, if_pos (nI_le (Nat.le_refl _) (by omega)), nI_add, nI_1, q_put (q_GL hG) (by omega), q_bv]
    · rw [f_X4_insert_p132, nI_1, if_neg (nI_ge (a := k + 1) (b := i) (by omega) (by omega)), nI_add, show nI (kw + i) - 1 = nI (kw + i - 1) from pk_sub (a := kw + i) (b := 1) (by omega), q_get (q_GL hG) (p := kw + i - 1) (by omega), q_bi, q_put (q_GL hG) (p := kw + i) (by omega), q_bv]
      have C1 := q_Cput (s := s) (p := kw + i) (v := s.1 14 (kw + i - 1)) (by omega) (q_Bmono hB (by omega))
      obtain ⟨s', e', C'⟩ := q4_insc_p (kw := kw) (k := k) (v := v) fu (i - 1) (dq_put s (kw + i) (s.1 14 (kw + i - 1))) (q_GC hG C1) (by omega) (by omega) (by omega) (C1.2.2.2.1 _ (q_Bmono hB (by omega)))
      refine ⟨s', ?_, ?_⟩
      · rw [q_let, sb_m1 (by omega)]
        exact e'
      · have hk : i - (k + 1) = (i - 1 - (k + 1)) + 1 := by omega
        rw [hk, dq_shr, show kw + (k + 1) + (i - 1 - (k + 1)) + 1 = kw + i by omega, show kw + (k + 1) + (i - 1 - (k + 1)) = kw + i - 1 by omega]
        have hT := q_Ctr C1 C'
        rw [C1.1] at hT
        exact q_Cw hT (by omega)
theorem q4_insert {b : Nat} {ln : Nat → Nat} {s : dr_S} {d k h : Nat} {x : sg_D} {v : Int32} (hG : dq_G b ln s) (hd : d < 260) (hx : rp_row (s.1 14) b d x) (ho : rw_ok b x) (hz : (dv_hs x).length ≤ 2 * b) (hk : k ≤ (dv_hs x).length) (hlv : dv_lev x < 64) (hcl : 0 < dv_lev x → (dv_cs x).length = (dv_hs x).length + 1) (cs' : List Nat) (hcs : 0 < dv_lev x → ∃ c, v = nI c ∧ cs' = sg_ins (dv_cs x) (k + 1) c) (la : Option Nat) (hB : dq_B s 26) : ∃ s' g, f_X4_insert ln (nI d) (nI k) (nI h) v s = some (0, s') ∧ dq_C s s' g 26 ∧ rp_row g b d (dv_lev x, sg_ins (dv_hs x) k h, cs', dv_hi x, dv_th x, la) ∧ (∀ p, (∀ k, k < 4 * b + 8 → k ≠ 4 → p ≠ dp b d k) → g p = s.1 14 p) := by
  have hb := hG.1
  have hl := hG.2.1.1
  have hdw : d * (4 * b + 8) + (4 * b + 8) ≤ 260 * (4 * b + 8) := by
    have q : (d + 1) * (4 * b + 8) ≤ 260 * (4 * b + 8) := Nat.mul_le_mul_right _ (by omega)
    rw [Nat.add_mul d 1, Nat.one_mul] at q
    exact q
  generalize hD : d * (4 * b + 8) = dw at *
  have dpd : ∀ k, dp b d k = dw + k := fun k => by unfold dp; rw [hD]
  have g1 := q4_get (d := d) (k := 1) hG hd (by omega)
  rw [hx.2.1] at g1
  generalize hzn : (dv_hs x).length = z at *
  obtain ⟨s1, e1, C1⟩ := q4_ins_p (b := b) (fw := dw + 5) (k := k) (x1 := nI d) (x3 := nI h) (x4 := v) (x5 := nI z) dr_N z s hG (by omega) hk (by unfold dr_N; omega) (q_Bmono hB (by omega))
  have G1 := q_GC hG C1
  have B1 := C1.2.2.2.1 _ (q_Bmono hB (show 26 - (z - k) + (z - k) ≤ 26 by omega))
  have C2 := q_Cput (s := s1) (p := dw + 5 + k) (v := nI h) (by omega) (q_Bmono B1 (by omega))
  have T2 := q_Ctr C1 C2
  have G2 := q_GC hG T2
  obtain ⟨s3, e3, C3⟩ := q4_set (d := d) (k := 1) (v := nI (z + 1)) G2 hd (by omega) (T2.2.2.2.1 _ (q_Bmono hB (by omega)))
  have T3 := q_Ctr T2 C3
  have G3 := q_GC hG T3
  have at3 : ∀ p, s3.1 14 p = if p = dw + 1 then nI (z + 1) else if p = dw + 5 + k then nI h else if dw + 5 + k < p ∧ p ≤ dw + 5 + z then s.1 14 (p - 1) else s.1 14 p := by
    intro p
    rw [C3.1, C2.1, C1.1, dpd]
    by_cases h1 : p = dw + 1
    · rw [if_pos h1, h1, q_updS]
    · rw [if_neg h1, q_updO h1]
      by_cases h2 : p = dw + 5 + k
      · rw [if_pos h2, h2, q_updS]
      · rw [if_neg h2, q_updO h2, dq_shr_at]
        by_cases h3 : dw + 5 + k < p ∧ p ≤ dw + 5 + z
        · rw [if_pos h3, if_pos (by omega)]
        · rw [if_neg h3, if_neg (by omega)]
  have v0 : s3.1 14 (dp b d 0) = nI (dv_lev x) := by
    rw [at3, dpd, if_neg (by omega), if_neg (by omega), if_neg (by omega), ← dpd]
    exact hx.1
  have g0 := q4_get (d := d) (k := 0) G3 hd (by omega)
  rw [v0] at g0
  have start : f_X4_insert ln (nI d) (nI k) (nI h) v s = (if nI (dv_lev x) ≤ 0 then some (0, s3) else dr_let ((nI d * (s3.2 403)) + (s3.2 404)) (fun y8 => dr_let (nI z + 1) (fun y9 => (f_X4_insert_p132 ln dr_N (nI k) v y8 y9 s3)))) := by
    unfold f_X4_insert
    rw [show f_X4_get ln (nI d) 1 s = _ from g1, q_bi, if_neg (nI_pos (by omega)), if_neg (nI_nlt hk (by omega)), hG.2.2.1, show (2 : Int32) = nI 2 from rfl, pk_mul, if_pos (nI_le hz (by omega)), hG.2.2.2.1, pk_mul, hD, show (5 : Int32) = nI 5 from rfl, nI_add, q_let, e1, f_X4_insert_p44, if_pos (nI_le (Nat.le_refl _) (by omega)), nI_add, q_put (q_GL G1) (p := dw + 5 + k) (by omega), q_bv, nI_1, show f_X4_set ln (nI d) 1 (nI (z + 1)) _ = _ from e3, q_bv, show f_X4_get ln (nI d) 0 s3 = _ from g0, q_bi]
  rw [start]
  have hd0 : ∀ (g : Nat → Int32), (∀ p, p < dw + (2 * b + 6) → g p = s3.1 14 p) → g (dp b d 0) = nI (dv_lev x) ∧ g (dp b d 1) = nI (sg_ins (dv_hs x) k h).length ∧ g (dp b d 2) = nO (dv_hi x) ∧ g (dp b d 3) = nO (dv_th x) ∧ ∀ (i u : Nat), (sg_ins (dv_hs x) k h)[i]? = some u → g (dp b d (5 + i)) = nI u := by
    intro g hg
    refine ⟨?_, ?_, ?_, ?_, fun i u hu => ?_⟩
    · rw [hg _ (by rw [dpd]; omega)]; exact v0
    · rw [hg _ (by rw [dpd]; omega), at3, dpd, if_pos rfl, sg_ins_len (by omega), hzn]
    · rw [hg _ (by rw [dpd]; omega), at3, dpd, if_neg (by omega), if_neg (by omega), if_neg (by omega), ← dpd]; exact hx.2.2.1
    · rw [hg _ (by rw [dpd]; omega), at3, dpd, if_neg (by omega), if_neg (by omega), if_neg (by omega), ← dpd]; exact hx.2.2.2.1
    · have hlt : i < (sg_ins (dv_hs x) k h).length := (List.getElem?_eq_some_iff.mp hu).1
      rw [sg_ins_len (by omega), hzn] at hlt
      rw [sg_ins_at (by omega)] at hu
      rw [hg _ (by rw [dpd]; omega), at3, dpd, if_neg (by omega)]
      by_cases h1 : i < k
      · rw [if_pos h1] at hu
        rw [if_neg (by omega), if_neg (by omega), ← dpd]
        exact hx.2.2.2.2.1 i u hu
      · rw [if_neg h1] at hu
        by_cases h2 : i = k
        · rw [if_pos h2] at hu
          cases hu
          rw [if_pos (by omega)]
        · rw [if_neg h2] at hu
          rw [if_neg (by omega), if_pos (by omega), show dw + (5 + i) - 1 = dp b d (5 + (i - 1)) by rw [dpd]; omega]
          exact hx.2.2.2.2.1 (i - 1) u hu
  by_cases hl0 : 0 < dv_lev x
  · have hcl2 := hcl hl0
    obtain ⟨c, rfl, hc2⟩ := hcs hl0
    rw [if_neg (nI_nle hl0 (by omega)), q_let, q_let, G3.2.2.2.1, G3.2.2.2.2.1, pk_mul, hD, nI_add, nI_1]
    obtain ⟨s4, e4, C4⟩ := q4_insc_p (b := b) (kw := dw + (2 * b + 6)) (k := k) (v := nI c) dr_N (z + 1) s3 G3 (by omega) (by omega) (by unfold dr_N; omega) (T3.2.2.2.1 _ (q_Bmono hB (by omega)))
    have at4 : ∀ p, s4.1 14 p = if p = dw + (2 * b + 6) + k + 1 then nI c else if dw + (2 * b + 6) + (k + 1) < p ∧ p ≤ dw + (2 * b + 6) + (z + 1) then s3.1 14 (p - 1) else s3.1 14 p := by
      intro p
      rw [C4.1]
      by_cases h1 : p = dw + (2 * b + 6) + k + 1
      · rw [if_pos h1, h1, q_updS]
      · rw [if_neg h1, q_updO h1, dq_shr_at]
        by_cases h3 : dw + (2 * b + 6) + (k + 1) < p ∧ p ≤ dw + (2 * b + 6) + (z + 1)
        · rw [if_pos h3, if_pos (by omega)]
        · rw [if_neg h3, if_neg (by omega)]
    obtain ⟨r0, r1, r2, r3, r4⟩ := hd0 (s4.1 14) (fun p hp => by rw [at4, if_neg (by omega), if_neg (by omega)])
    refine ⟨s4, s4.1 14, e4, q_Cw (by rw [C4.1]; exact q_Ctr T3 C4) (by omega), ⟨r0, r1, r2, r3, r4, fun _ i u hu => ?_⟩, fun p hp => ?_⟩
    · have hu2 : cs'[i]? = some u := hu
      rw [hc2] at hu2
      have hlt : i < (sg_ins (dv_cs x) (k + 1) c).length := (List.getElem?_eq_some_iff.mp hu2).1
      rw [sg_ins_len (by omega), hcl2] at hlt
      rw [sg_ins_at (by omega)] at hu2
      rw [at4, dpd]
      by_cases h1 : i < k + 1
      · rw [if_pos h1] at hu2
        rw [if_neg (by omega), if_neg (by omega), at3, if_neg (by omega), if_neg (by omega), if_neg (by omega), ← dpd]
        exact hx.2.2.2.2.2 hl0 i u hu2
      · rw [if_neg h1] at hu2
        by_cases h2 : i = k + 1
        · rw [if_pos h2] at hu2
          cases hu2
          rw [if_pos (by omega)]
        · rw [if_neg h2] at hu2
          rw [if_neg (by omega), if_pos (by omega), at3, if_neg (by omega), if_neg (by omega), if_neg (by omega), show dw + (2 * b + 6 + i) - 1 = dp b d (2 * b + 6 + (i - 1)) by rw [dpd]; omega]
          exact hx.2.2.2.2.2 hl0 (i - 1) u hu2
    · have out : ∀ k, k < 4 * b + 8 → k ≠ 4 → p ≠ dw + k := fun k h1 h2 => by rw [← dpd]; exact hp k h1 h2
      rw [at4, if_neg (fun q => out (p - dw) (by omega) (by omega) (by omega)), if_neg (fun q => out (p - dw) (by omega) (by omega) (by omega)), at3, if_neg (fun q => out (p - dw) (by omega) (by omega) (by omega)), if_neg (fun q => out (p - dw) (by omega) (by omega) (by omega)), if_neg (fun q => out (p - dw) (by omega) (by omega) (by omega))]
  · have hlz : dv_lev x = 0 := by omega
    rw [if_pos (by rw [hlz]; decide)]
    obtain ⟨r0, r1, r2, r3, r4⟩ := hd0 (s3.1 14) (fun p hp => rfl)
    refine ⟨s3, s3.1 14, rfl, q_Cw (by rw [C3.1]; exact T3) (by omega), ⟨r0, r1, r2, r3, r4, fun q => absurd q hl0⟩, fun p hp => ?_⟩
    have out : ∀ k, k < 4 * b + 8 → k ≠ 4 → p ≠ dw + k := fun k h1 h2 => by rw [← dpd]; exact hp k h1 h2
    rw [at3, if_neg (fun q => out (p - dw) (by omega) (by omega) (by omega)), if_neg (fun q => out (p - dw) (by omega) (by omega) (by omega)), if_neg (fun q => out (p - dw) (by omega) (by omega) (by omega))]

/-! 57: a drawer is parted, of the class: the row of numbers behind it -/
theorem q4_part {b : Nat} {ln : Nat → Nat} {s : dr_S} {d u : Nat} {x : sg_D} (hG : dq_G b ln s) (hd : d < 256) (hu : s.1 14 (260 * (4 * b + 8) + 1) = nI u) (hu2 : u < 256) (hdu : d < u) (hx : rp_row (s.1 14) b d x) (hz : (dv_hs x).length = 2 * b + 1) (hlv : dv_lev x < 64) (hcl : 0 < dv_lev x → (dv_cs x).length = 2 * b + 2) (hB : dq_B s 40) : ∃ s' g, f_X4_part ln (nI d) s = some (nI u, s') ∧ dq_C s s' g 40 ∧
    rp_row g b u (dv_lev x, (dv_hs x).drop (b + 1), (dv_cs x).drop (b + 1), dv_hi x, dv_th x, none) ∧ g (dp b u 4) = -1 ∧ rp_row g b d (dv_lev x, (dv_hs x).take (if 0 < dv_lev x then b else b + 1), (dv_cs x).take (b + 1), some ((dv_hs x).getD b 0), some u, dv_la x) ∧ g (260 * (4 * b + 8) + 1) = nI (u + 1) ∧ (∀ p, (∀ k, k < 4 * b + 8 → k ≠ 4 → p ≠ dp b d k) → (∀ k, k < 4 * b + 8 → p ≠ dp b u k) → p ≠ 260 * (4 * b + 8) + 1 → g p = s.1 14 p) := by
  have hb := hG.1
  have hl := hG.2.1.1
  have wd : ∀ e, e < 260 → e * (4 * b + 8) + (4 * b + 8) ≤ 260 * (4 * b + 8) := fun e he => by
    have q : (e + 1) * (4 * b + 8) ≤ 260 * (4 * b + 8) := Nat.mul_le_mul_right _ (by omega)
    rw [Nat.add_mul e 1, Nat.one_mul] at q
    exact q
  have hdw := wd d (by omega)
  have huw := wd u (by omega)
  have apart : d * (4 * b + 8) + (4 * b + 8) ≤ u * (4 * b + 8) := by
    have h := dp_out (b := b) hdu
    rw [Nat.add_mul d 1, Nat.one_mul] at h
    exact h
  have o0 := hx.1
  obtain ⟨s1, e1, C1⟩ := q4_open (lev := nI (dv_lev x)) hG hu hu2 (q_Bmono hB (by omega))
  generalize hD : d * (4 * b + 8) = dw at *
  generalize hU : u * (4 * b + 8) = uw at *
  have dpd : ∀ k, dp b d k = dw + k := fun k => by unfold dp; rw [hD]
  have dpu : ∀ k, dp b u k = uw + k := fun k => by unfold dp; rw [hU]
  have g0 := q4_get (d := d) (k := 0) hG (by omega) (by omega)
  have g1 := q4_get (d := d) (k := 1) hG (by omega) (by omega)
  rw [hx.1] at g0
  rw [hx.2.1, hz] at g1
  have G1 := q_GC hG C1
  obtain ⟨s2, e2, C2⟩ := q2_copy (f := dw + 2) (t := uw + 2) (n := 2) G1 (by omega) (by omega) (C1.2.2.2.1 _ (q_Bmono hB (by omega)))
  have T2 := q_Ctr C1 C2
  obtain ⟨s3, e3, C3⟩ := q2_copy (f := dw + 5 + (b + 1)) (t := uw + 5) (n := 2 * b + 1 - (b + 1)) (q_GC hG T2) (by omega) (by omega) (T2.2.2.2.1 _ (q_Bmono hB (by omega)))
  have T3 := q_Ctr T2 C3
  have G3 := q_GC hG T3
  have at3 : ∀ p, s3.1 14 p = if uw + 5 ≤ p ∧ p < uw + 5 + b then s.1 14 (dw + 5 + (b + 1) + (p - (uw + 5))) else if p = uw + 2 then s.1 14 (dw + 2) else if p = uw + 3 then s.1 14 (dw + 3) else if p = uw then nI (dv_lev x) else if p = uw + 1 then 0 else if p = uw + 4 then -1 else if p = 260 * (4 * b + 8) + 1 then nI (u + 1) else s.1 14 p := by
    have op : ∀ p, s1.1 14 p = if p = uw + 4 then -1 else if p = uw + 3 then -1 else if p = uw + 2 then -1 else if p = uw + 1 then 0 else if p = uw then nI (dv_lev x) else if p = 260 * (4 * b + 8) + 1 then nI (u + 1) else s.1 14 p := by
      intro p
      rw [C1.1]
      unfold dq_open
      rw [dpu, dpu, dpu, dpu, dpu, Nat.add_zero]
      simp only [upd, Nat.add_zero]
    intro p
    rw [C3.1, C2.1, dq_cp_at _ _ _ _ (by omega), dq_cp_at _ _ _ _ (by omega), dq_cp_at _ _ _ _ (by omega)]
    by_cases h1 : uw + 5 ≤ p ∧ p < uw + 5 + b
    · rw [if_pos (by omega), if_neg (by omega), op, if_neg (by omega), if_neg (by omega), if_neg (by omega), if_neg (by omega), if_neg (by omega), if_neg (by omega), if_pos h1]
    · rw [if_neg (by omega), if_neg h1]
      by_cases h2 : p = uw + 2
      · rw [if_pos (by omega), if_pos h2, op, if_neg (by omega), if_neg (by omega), if_neg (by omega), if_neg (by omega), if_neg (by omega), if_neg (by omega), h2, show dw + 2 + (uw + 2 - (uw + 2)) = dw + 2 by omega]
      · rw [if_neg h2]
        by_cases h3 : p = uw + 3
        · rw [if_pos (by omega), if_pos h3, op, if_neg (by omega), if_neg (by omega), if_neg (by omega), if_neg (by omega), if_neg (by omega), if_neg (by omega), h3, show dw + 2 + (uw + 3 - (uw + 2)) = dw + 3 by omega]
        · rw [if_neg (by omega), if_neg h3, op]
          by_cases h4 : p = uw + 4
          · rw [if_pos h4, if_neg (by omega), if_neg (by omega), if_pos h4]
          · rw [if_neg h4, if_neg h3, if_neg h2]
            by_cases h5 : p = uw + 1
            · rw [if_pos h5, if_neg (by omega), if_pos h5]
            · rw [if_neg h5, if_neg h5, if_neg h4]
  have hbl : b < (dv_hs x).length := by omega
  obtain ⟨hbv, hbe⟩ : ∃ q, (dv_hs x)[b]? = some q := ⟨_, List.getElem?_eq_getElem hbl⟩
  have hgd : (dv_hs x).getD b 0 = hbv := by rw [List.getD_eq_getElem?_getD, hbe]; rfl
  -- the last four cells
  have fin : ∀ s4 : dr_S, dq_G b ln s4 → dq_B s4 4 → s4.1 14 (dw + 5 + b) = nI hbv → ∃ s', f_X4_part_p126 ln (nI d) (nI (dv_lev x)) (nI (2 * b + 1)) (nI u) (nI dw) (nI (b + 1)) s4 = some (nI u, s') ∧ dq_C s4 s' (upd (upd (upd (upd (s4.1 14) (uw + 1) (nI b)) (dw + 2) (nI hbv)) (dw + 1) (nI (if 0 < dv_lev x then b else b + 1))) (dw + 3) (nI u)) 4 := by
    intro s4 G4 B4 hv4
    obtain ⟨t1, a1, D1⟩ := q4_set (d := u) (k := 1) (v := nI b) G4 (by omega) (by omega) (q_Bmono B4 (by omega))
    have H1 := q_GC G4 D1
    have hv1 : t1.1 14 (dw + 5 + b) = nI hbv := by rw [D1.1, dpu, q_updO (by omega)]; exact hv4
    obtain ⟨t2, a2, D2⟩ := q4_set (d := d) (k := 2) (v := nI hbv) H1 (by omega) (by omega) (D1.2.2.2.1 _ (q_Bmono B4 (by omega)))
    have U2 := q_Ctr D1 D2
    obtain ⟨t3, a3, D3⟩ := q4_set (d := d) (k := 1) (v := nI (if 0 < dv_lev x then b else b + 1)) (q_GC G4 U2) (by omega) (by omega) (U2.2.2.2.1 _ (q_Bmono B4 (by omega)))
    have U3 := q_Ctr U2 D3
    obtain ⟨t4, a4, D4⟩ := q4_set (d := d) (k := 3) (v := nI u) (q_GC G4 U3) (by omega) (by omega) (U3.2.2.2.1 _ (q_Bmono B4 (by omega)))
    have U4 := q_Ctr U3 D4
    refine ⟨t4, ?_, ?_⟩
    · have last : f_X4_part_p175 ln (nI d) (nI u) (nI (if 0 < dv_lev x then b else b + 1)) 1 (nI d) t2 = some (nI u, t4) := by
        unfold f_X4_part_p175
        rw [show f_X4_set ln (nI d) 1 (nI (if 0 < dv_lev x then b else b + 1)) t2 = _ from a3, q_bv, show f_X4_set ln (nI d) 3 (nI u) t3 = _ from a4, q_bv]
      unfold f_X4_part_p126
      rw [pk_sub (by omega), show 2 * b + 1 - (b + 1) = b by omega, show f_X4_set ln (nI u) 1 (nI b) s4 = _ from a1, q_bv, H1.2.2.1, show (5 : Int32) = nI 5 from rfl, nI_add, nI_add, q_get (q_GL H1) (p := dw + 5 + b) (by omega), q_bi, hv1, show f_X4_set ln (nI d) 2 (nI hbv) t1 = _ from a2, q_bv]
      by_cases h : 0 < dv_lev x
      · rw [if_neg (nI_nle h (by omega)), (q_GC G4 U2).2.2.1]
        rw [if_pos h] at last
        exact last
      · rw [if_pos (by rw [show dv_lev x = 0 by omega]; decide)]
        rw [if_neg h] at last
        exact last
    · rw [D3.1, D2.1, D1.1, dpu, dpd, dpd, dpd] at U4
      exact U4
  have start : ∀ s4 s', (0 < dv_lev x → f_X2_copy ln (nI (dw + (2 * b + 6) + (b + 1))) (nI (uw + (2 * b + 6))) (nI (2 * b + 2 - (b + 1))) s3 = some (0, s4)) → (¬ 0 < dv_lev x → s4 = s3) → f_X4_part_p126 ln (nI d) (nI (dv_lev x)) (nI (2 * b + 1)) (nI u) (nI dw) (nI (b + 1)) s4 = some (nI u, s') → f_X4_part ln (nI d) s = some (nI u, s') := by
    intro s4 s' h4 h4n hp
    unfold f_X4_part
    rw [show f_X4_get ln (nI d) 0 s = _ from g0, q_bi, show f_X4_get ln (nI d) 1 s = _ from g1, q_bi, e1, q_bi, if_neg (fun q => nI_pos (n := u) (by omega) (by rw [q]; decide)), q_let, q_let, q_let, G1.2.2.2.1, G1.2.2.1, pk_mul, pk_mul, hD, hU, nI_1, show (2 : Int32) = nI 2 from rfl, nI_add, nI_add, e2, q_bv, show (5 : Int32) = nI 5 from rfl, nI_add, nI_add, nI_add, pk_sub (by omega), e3, q_bv]
    by_cases h : 0 < dv_lev x
    · rw [if_neg (nI_nle h (by omega)), G3.2.2.2.2.1, nI_add, nI_add, nI_add, nI_1, pk_sub (by omega), h4 h, q_bv]
      exact hp
    · rw [if_pos (by rw [show dv_lev x = 0 by omega]; decide), ← h4n h]
      exact hp
  have fin2 : ∀ (m4 g : Nat → Int32), (∀ p, ¬ (uw + (2 * b + 6) ≤ p ∧ p < uw + (4 * b + 8)) → m4 p = s3.1 14 p) → (0 < dv_lev x → ∀ i, i < b + 1 → m4 (uw + (2 * b + 6) + i) = s.1 14 (dw + (2 * b + 6) + (b + 1) + i)) → g = upd (upd (upd (upd m4 (uw + 1) (nI b)) (dw + 2) (nI hbv)) (dw + 1) (nI (if 0 < dv_lev x then b else b + 1))) (dw + 3) (nI u) →
      rp_row g b u (dv_lev x, (dv_hs x).drop (b + 1), (dv_cs x).drop (b + 1), dv_hi x, dv_th x, none) ∧ g (dp b u 4) = -1 ∧ rp_row g b d (dv_lev x, (dv_hs x).take (if 0 < dv_lev x then b else b + 1), (dv_cs x).take (b + 1), some ((dv_hs x).getD b 0), some u, dv_la x) ∧ g (260 * (4 * b + 8) + 1) = nI (u + 1) ∧ (∀ p, (∀ k, k < 4 * b + 8 → k ≠ 4 → p ≠ dp b d k) → (∀ k, k < 4 * b + 8 → p ≠ dp b u k) → p ≠ 260 * (4 * b + 8) + 1 → g p = s.1 14 p) := by
    intro m4 g hA hC hg
    have ag : ∀ p, g p = if p = dw + 3 then nI u else if p = dw + 1 then nI (if 0 < dv_lev x then b else b + 1) else if p = dw + 2 then nI hbv else if p = uw + 1 then nI b else m4 p := by
      intro p
      rw [hg]
      simp only [upd]
    have hn : (if 0 < dv_lev x then b else b + 1) ≤ b + 1 := by split <;> omega
    refine ⟨⟨?_, ?_, ?_, ?_, fun k q hk => ?_, fun hl0 k q hk => ?_⟩, ?_, ⟨?_, ?_, ?_, ?_, fun k q hk => ?_, fun hl0 k q hk => ?_⟩, ?_, fun p h1 h2 h3 => ?_⟩
    · rw [dpu, ag, if_neg (by omega), if_neg (by omega), if_neg (by omega), if_neg (by omega), hA _ (by omega), at3, if_neg (by omega), if_neg (by omega), if_neg (by omega), if_pos (by omega)]; rfl
    · rw [dpu, ag, if_neg (by omega), if_neg (by omega), if_neg (by omega), if_pos rfl]
      show nI b = nI ((dv_hs x).drop (b + 1)).length
      rw [List.length_drop, hz, show 2 * b + 1 - (b + 1) = b by omega]
    · rw [dpu, ag, if_neg (by omega), if_neg (by omega), if_neg (by omega), if_neg (by omega), hA _ (by omega), at3, if_neg (by omega), if_pos rfl, ← dpd]; exact hx.2.2.1
    · rw [dpu, ag, if_neg (by omega), if_neg (by omega), if_neg (by omega), if_neg (by omega), hA _ (by omega), at3, if_neg (by omega), if_neg (by omega), if_pos rfl, ← dpd]; exact hx.2.2.2.1
    · have hk2 : ((dv_hs x).drop (b + 1))[k]? = some q := hk
      have hlt : k < ((dv_hs x).drop (b + 1)).length := (List.getElem?_eq_some_iff.mp hk2).1
      rw [List.length_drop, hz] at hlt
      rw [List.getElem?_drop] at hk2
      rw [dpu, ag, if_neg (by omega), if_neg (by omega), if_neg (by omega), if_neg (by omega), hA _ (by omega), at3, if_pos (by omega), show dw + 5 + (b + 1) + (uw + (5 + k) - (uw + 5)) = dp b d (5 + (b + 1 + k)) by rw [dpd]; omega]
      exact hx.2.2.2.2.1 _ q hk2
    · have hk2 : ((dv_cs x).drop (b + 1))[k]? = some q := hk
      have hl1 : 0 < dv_lev x := hl0
      have hlt : k < ((dv_cs x).drop (b + 1)).length := (List.getElem?_eq_some_iff.mp hk2).1
      rw [List.length_drop, hcl hl1] at hlt
      rw [List.getElem?_drop] at hk2
      rw [dpu, ag, if_neg (by omega), if_neg (by omega), if_neg (by omega), if_neg (by omega), show uw + (2 * b + 6 + k) = uw + (2 * b + 6) + k by omega, hC hl1 k (by omega), show dw + (2 * b + 6) + (b + 1) + k = dp b d (2 * b + 6 + (b + 1 + k)) by rw [dpd]; omega]
      exact hx.2.2.2.2.2 hl1 _ q hk2
    · rw [dpu, ag, if_neg (by omega), if_neg (by omega), if_neg (by omega), if_neg (by omega), hA _ (by omega), at3, if_neg (by omega), if_neg (by omega), if_neg (by omega), if_neg (by omega), if_neg (by omega), if_pos rfl]
    · rw [dpd, ag, if_neg (by omega), if_neg (by omega), if_neg (by omega), if_neg (by omega), hA _ (by omega), at3, if_neg (by omega), if_neg (by omega), if_neg (by omega), if_neg (by omega), if_neg (by omega), if_neg (by omega), if_neg (by omega), ← dpd]; exact hx.1
    · rw [dpd, ag, if_neg (by omega), if_pos rfl]
      show nI (if 0 < dv_lev x then b else b + 1) = nI ((dv_hs x).take (if 0 < dv_lev x then b else b + 1)).length
      rw [List.length_take, hz, Nat.min_eq_left (by omega)]
    · rw [dpd, ag, if_neg (by omega), if_neg (by omega), if_pos rfl]
      show nI hbv = nO (some ((dv_hs x).getD b 0))
      rw [hgd]
      rfl
    · rw [dpd, ag, if_pos rfl]; rfl
    · have hk2 : ((dv_hs x).take (if 0 < dv_lev x then b else b + 1))[k]? = some q := hk
      rw [List.getElem?_take] at hk2
      by_cases hkn : k < (if 0 < dv_lev x then b else b + 1)
      · rw [if_pos hkn] at hk2
        rw [dpd, ag, if_neg (by omega), if_neg (by omega), if_neg (by omega), if_neg (by omega), hA _ (by omega), at3, if_neg (by omega), if_neg (by omega), if_neg (by omega), if_neg (by omega), if_neg (by omega), if_neg (by omega), if_neg (by omega), ← dpd]; exact hx.2.2.2.2.1 k q hk2
      · rw [if_neg hkn] at hk2
        cases hk2
    · have hk2 : ((dv_cs x).take (b + 1))[k]? = some q := hk
      rw [List.getElem?_take] at hk2
      split at hk2
      · next hkn => rw [dpd, ag, if_neg (by omega), if_neg (by omega), if_neg (by omega), if_neg (by omega), hA _ (by omega), at3, if_neg (by omega), if_neg (by omega), if_neg (by omega), if_neg (by omega), if_neg (by omega), if_neg (by omega), if_neg (by omega), ← dpd]; exact hx.2.2.2.2.2 hl0 k q hk2
      · cases hk2
    · rw [ag, if_neg (by omega), if_neg (by omega), if_neg (by omega), if_neg (by omega), hA _ (by omega), at3, if_neg (by omega), if_neg (by omega), if_neg (by omega), if_neg (by omega), if_neg (by omega), if_neg (by omega), if_pos rfl]
    · have oD : ∀ k, k < 4 * b + 8 → k ≠ 4 → p ≠ dw + k := fun k a1 a2 => by rw [← dpd]; exact h1 k a1 a2
      have oU : ∀ k, k < 4 * b + 8 → p ≠ uw + k := fun k a1 => by rw [← dpu]; exact h2 k a1
      rw [ag, if_neg (oD 3 (by omega) (by omega)), if_neg (oD 1 (by omega) (by omega)), if_neg (oD 2 (by omega) (by omega)), if_neg (oU 1 (by omega)), hA _ (fun q => oU (p - uw) (by omega) (by omega)), at3, if_neg (fun q => oU (p - uw) (by omega) (by omega)), if_neg (oU 2 (by omega)), if_neg (oU 3 (by omega)), if_neg (show ¬ p = uw from oU 0 (by omega)), if_neg (oU 1 (by omega)), if_neg (oU 4 (by omega)), if_neg h3]
  have hv3 : s3.1 14 (dw + 5 + b) = nI hbv := by
    rw [at3, if_neg (by omega), if_neg (by omega), if_neg (by omega), if_neg (by omega), if_neg (by omega), if_neg (by omega), if_neg (by omega), show dw + 5 + b = dp b d (5 + b) by rw [dpd]; omega]
    exact hx.2.2.2.2.1 b hbv hbe
  by_cases hl0 : 0 < dv_lev x
  · obtain ⟨s4, e4, C4⟩ := q2_copy (f := dw + (2 * b + 6) + (b + 1)) (t := uw + (2 * b + 6)) (n := 2 * b + 2 - (b + 1)) G3 (by omega) (by omega) (T3.2.2.2.1 _ (q_Bmono hB (by omega)))
    have T4 := q_Ctr T3 C4
    have at4 : ∀ p, s4.1 14 p = if uw + (2 * b + 6) ≤ p ∧ p < uw + (2 * b + 6) + (b + 1) then s3.1 14 (dw + (2 * b + 6) + (b + 1) + (p - (uw + (2 * b + 6)))) else s3.1 14 p := by
      intro p
      rw [C4.1, dq_cp_at _ _ _ _ (by omega)]
      by_cases h1 : uw + (2 * b + 6) ≤ p ∧ p < uw + (2 * b + 6) + (b + 1)
      · rw [if_pos (by omega), if_pos h1]
      · rw [if_neg (by omega), if_neg h1]
    obtain ⟨s9, e9, C9⟩ := fin s4 (q_GC hG T4) (T4.2.2.2.1 _ (q_Bmono hB (by omega))) (by rw [at4, if_neg (by omega)]; exact hv3)
    refine ⟨s9, s9.1 14, start s4 s9 (fun _ => e4) (fun q => absurd hl0 q) e9, q_Cw (by rw [C9.1]; exact q_Ctr T4 C9) (by omega), fin2 (s4.1 14) (s9.1 14) (fun p hp => by rw [at4, if_neg (by omega)]) (fun _ i hi => ?_) C9.1⟩
    rw [at4, if_pos (by omega), show dw + (2 * b + 6) + (b + 1) + (uw + (2 * b + 6) + i - (uw + (2 * b + 6))) = dw + (2 * b + 6) + (b + 1) + i by omega, at3, if_neg (by omega), if_neg (by omega), if_neg (by omega), if_neg (by omega), if_neg (by omega), if_neg (by omega), if_neg (by omega)]
  · obtain ⟨s9, e9, C9⟩ := fin s3 G3 (T3.2.2.2.1 _ (q_Bmono hB (by omega))) hv3
    exact ⟨s9, s9.1 14, start s3 s9 (fun q => absurd q hl0) (fun _ => rfl) e9, q_Cw (by rw [C9.1]; exact q_Ctr T3 C9) (by omega), fin2 (s3.1 14) (s9.1 14) (fun p _ => rfl) (fun q => absurd q hl0) C9.1⟩

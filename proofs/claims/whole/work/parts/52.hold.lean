/-! 52: moving to another drawer; copying a row; of the class -/
theorem q_let (x : Int32) (Kx : Int32 → Option (Int32 × dr_S)) : dr_let x Kx = Kx x := rfl
theorem q10_moveTo {ln : Nat → Nat} {s : dr_S} {r : sg_R} {c : Nat} {t : Option Nat} (hr : rp_C ln s r) (hs : wf_step r c) (hat : ck_at (rm_ck r c) ≠ 0) (ht : ∀ q, t = some q → q < rm_us r) (hB : dq_B s 4) : ∃ s' g, f_X10_moveTo ln (nI c) (nO t) s = some (0, s') ∧ dq_C s s' g 4 ∧ rp_mem g (sg_move r c t) := by
  obtain ⟨hw, hok, hck, hdr, hc⟩ := hs
  have hus := hw.2.1
  obtain ⟨hf, -, hat2⟩ := hck c hc
  obtain ⟨hpl, hso, -⟩ := hat2 hat
  unfold f_X10_moveTo
  cases t with
  | none =>
    rw [if_pos (show nO none = (-1 : Int32) from rfl)]
    exact ⟨s, s.1 14, rfl, q_Cw (q_Crf s) (by omega), hr.2.2.2⟩
  | some q =>
    have hq := ht q rfl
    have hsg : sg_move r c (some q) = (if sg_free r c q then sg_sK (sg_la (sg_la r c (ck_pl (rm_ck r c)) none) c q (some c)) c (ck_put (rm_ck r c) 2 q (ck_so (rm_ck r c)) (ck_ri (rm_ck r c))) else r) := rfl
    rw [hsg, if_neg (show ¬ nO (some q) = (-1 : Int32) from fun z => nI_pos (n := q) (by omega) (by rw [show nI q = -1 from z]; decide)), show nO (some q) = nI q from rfl, q10_isFree hr hw hc hf hq (hdr q hq).1.2.2.1, q_bi]
    cases sg_free r c q with
    | false =>
      rw [if_pos (show bI false = 0 by decide), if_neg (by decide : ¬ false = true)]
      exact ⟨s, s.1 14, rfl, q_Cw (q_Crf s) (by omega), hr.2.2.2⟩
    | true =>
      rw [if_neg (show ¬ bI true = 0 by decide), if_pos rfl, (q10_place hr hc hat).1, q_bi]
      obtain ⟨s1, g1, a1, C1, m1⟩ := q10_letGo (d := ck_pl (rm_ck r c)) hr hw hc hf hpl (q_Bmono hB (by omega))
      have K := ck_la r c (ck_pl (rm_ck r c)) none
      have hr1 := rp_C_of hr C1 K.2.1 K.2.2.2.1 m1
      obtain ⟨s2, g2, a2, C2, m2⟩ := q10_latch (c := c) (d := q) hr1 (wf_la hw hpl) hc (by rw [K.1]; exact hf) (by rw [K.1]; exact hat) (by rw [K.2.2.1]; exact hq) (C1.2.2.2.1 _ (q_Bmono hB (by omega)))
      refine ⟨s2, g2, ?_, q_Ctr C1 C2, ?_⟩
      · rw [a1, q_bv, a2, q_bv]
      · rw [K.1] at m2
        exact m2
/-- a row is brought to another row: all but the latch -/
theorem q4_bring {b : Nat} {ln : Nat → Nat} {s : dr_S} {f t : Nat} {x : sg_D} (hG : dq_G b ln s) (hf : f < 260) (ht : t < 260) (hft : f ≠ t) (hx : rp_row (s.1 14) b f x) (ho : rw_ok b x) (hlv : dv_lev x < 64) (hcl : 0 < dv_lev x → (dv_cs x).length = (dv_hs x).length + 1) (hB : dq_B s 28) : ∃ s' g, f_X4_bring ln (nI f) (nI t) s = some (0, s') ∧ dq_C s s' g 28 ∧ rp_row g b t x ∧ (∀ p, (∀ k, k < 4 * b + 8 → k ≠ 4 → p ≠ dp b t k) → g p = s.1 14 p) := by
  have hb := hG.1
  have hl := hG.2.1.1
  have o1 := ho.1
  have o2 := ho.2
  have hfw : f * (4 * b + 8) + (4 * b + 8) ≤ 260 * (4 * b + 8) := by
    have h : (f + 1) * (4 * b + 8) ≤ 260 * (4 * b + 8) := Nat.mul_le_mul_right _ (by omega)
    rw [Nat.add_mul f 1, Nat.one_mul] at h
    exact h
  have htw : t * (4 * b + 8) + (4 * b + 8) ≤ 260 * (4 * b + 8) := by
    have h : (t + 1) * (4 * b + 8) ≤ 260 * (4 * b + 8) := Nat.mul_le_mul_right _ (by omega)
    rw [Nat.add_mul t 1, Nat.one_mul] at h
    exact h
  have apart : f * (4 * b + 8) + (4 * b + 8) ≤ t * (4 * b + 8) ∨ t * (4 * b + 8) + (4 * b + 8) ≤ f * (4 * b + 8) := by
    rcases Nat.lt_or_gt_of_ne hft with q | q
    · have h := dp_out (b := b) q
      rw [Nat.add_mul f 1, Nat.one_mul] at h
      exact Or.inl h
    · have h := dp_out (b := b) q
      rw [Nat.add_mul t 1, Nat.one_mul] at h
      exact Or.inr h
  generalize hF : f * (4 * b + 8) = fw at *
  generalize hT : t * (4 * b + 8) = tw at *
  have dpf : ∀ k, dp b f k = fw + k := fun k => by unfold dp; rw [hF]
  have dpt : ∀ k, dp b t k = tw + k := fun k => by unfold dp; rw [hT]
  have g1 := q4_get (d := f) (k := 1) hG hf (by omega)
  rw [hx.2.1] at g1
  obtain ⟨s1, e1, C1⟩ := q2_copy (f := fw + 0) (t := tw + 0) (n := 4) hG (by omega) (by omega) (q_Bmono hB (by omega))
  have G1 := q_GC hG C1
  obtain ⟨s2, e2, C2⟩ := q2_copy (f := fw + 5) (t := tw + 5) (n := (dv_hs x).length) G1 (by omega) (by omega) (C1.2.2.2.1 _ (q_Bmono hB (by omega)))
  have T2 := q_Ctr C1 C2
  have G2 := q_GC hG T2
  have at2 : ∀ p, s2.1 14 p = if tw + 5 ≤ p ∧ p < tw + 5 + (dv_hs x).length then s.1 14 (fw + (p - tw)) else if tw ≤ p ∧ p < tw + 4 then s.1 14 (fw + (p - tw)) else s.1 14 p := by
    intro p
    rw [C2.1, C1.1, dq_cp_at _ _ _ _ (by omega), dq_cp_at _ _ _ _ (by omega), dq_cp_at _ _ _ _ (by omega)]
    by_cases h1 : tw + 5 + 0 ≤ p ∧ p < tw + 5 + 0 + (dv_hs x).length
    · rw [if_pos h1, if_neg (by omega), if_pos (by omega), show fw + 5 + (p - (tw + 5)) = fw + (p - tw) by omega]
    · rw [if_neg h1, if_neg (show ¬ (tw + 5 ≤ p ∧ p < tw + 5 + (dv_hs x).length) by omega)]
      by_cases h2 : tw + 0 + 0 ≤ p ∧ p < tw + 0 + 0 + 4
      · rw [if_pos h2, if_pos (by omega), show fw + 0 + (p - (tw + 0)) = fw + (p - tw) by omega]
      · rw [if_neg h2, if_neg (by omega)]
  have v0 : s2.1 14 (dp b f 0) = nI (dv_lev x) := by
    rw [at2, dpf, if_neg (by omega), if_neg (by omega), ← dpf]
    exact hx.1
  have g0 := q4_get (d := f) (k := 0) G2 hf (by omega)
  rw [v0] at g0
  have start : f_X4_bring ln (nI f) (nI t) s = (if nI (dv_lev x) ≤ 0 then some (0, s2) else dr_bndv (f_X2_copy ln (nI fw + (s2.2 404)) (nI tw + (s2.2 404)) (nI (dv_hs x).length + 1) s2) (fun s9 => some (0, s9))) := by
    unfold f_X4_bring
    rw [q_let, q_let, show f_X4_get ln (nI f) 1 s = _ from g1, q_bi, hG.2.2.2.1, pk_mul, pk_mul, hF, hT, show (0 : Int32) = nI 0 from rfl, show (4 : Int32) = nI 4 from rfl, nI_add, nI_add, e1, q_bv, show (5 : Int32) = nI 5 from rfl, nI_add, nI_add, e2, q_bv, g0, q_bi]
  rw [start]
  by_cases hl0 : 0 < dv_lev x
  · have hcl2 := hcl hl0
    rw [if_neg (nI_nle hl0 (by omega)), G2.2.2.2.2.1, nI_add, nI_add, nI_1]
    obtain ⟨s3, e3, C3⟩ := q2_copy (f := fw + (2 * b + 6)) (t := tw + (2 * b + 6)) (n := (dv_hs x).length + 1) G2 (by omega) (by omega) (T2.2.2.2.1 _ (q_Bmono hB (by omega)))
    have at3 : ∀ p, s3.1 14 p = if tw + (2 * b + 6) ≤ p ∧ p < tw + (2 * b + 6) + ((dv_hs x).length + 1) then s2.1 14 (fw + (p - tw)) else s2.1 14 p := by
      intro p
      rw [C3.1, dq_cp_at _ _ _ _ (by omega)]
      by_cases h1 : tw + (2 * b + 6) + 0 ≤ p ∧ p < tw + (2 * b + 6) + 0 + ((dv_hs x).length + 1)
      · rw [if_pos h1, if_pos (by omega), show fw + (2 * b + 6) + (p - (tw + (2 * b + 6))) = fw + (p - tw) by omega]
      · rw [if_neg h1, if_neg (by omega)]
    refine ⟨s3, s3.1 14, ?_, q_Cw (by rw [C3.1]; exact q_Ctr T2 C3) (by omega), ⟨?_, ?_, ?_, ?_, fun k h hk => ?_, fun _ k h hk => ?_⟩, fun p hp => ?_⟩
    · rw [e3, q_bv]
    · rw [dpt, at3, if_neg (by omega), at2, if_neg (by omega), if_pos (by omega), show fw + (tw + 0 - tw) = fw + 0 by omega, ← dpf]; exact hx.1
    · rw [dpt, at3, if_neg (by omega), at2, if_neg (by omega), if_pos (by omega), show fw + (tw + 1 - tw) = fw + 1 by omega, ← dpf]; exact hx.2.1
    · rw [dpt, at3, if_neg (by omega), at2, if_neg (by omega), if_pos (by omega), show fw + (tw + 2 - tw) = fw + 2 by omega, ← dpf]; exact hx.2.2.1
    · rw [dpt, at3, if_neg (by omega), at2, if_neg (by omega), if_pos (by omega), show fw + (tw + 3 - tw) = fw + 3 by omega, ← dpf]; exact hx.2.2.2.1
    · have hlt : k < (dv_hs x).length := (List.getElem?_eq_some_iff.mp hk).1
      rw [dpt, at3, if_neg (by omega), at2, if_pos (by omega), show fw + (tw + (5 + k) - tw) = fw + (5 + k) by omega, ← dpf]; exact hx.2.2.2.2.1 k h hk
    · have hlt : k < (dv_cs x).length := (List.getElem?_eq_some_iff.mp hk).1
      rw [dpt, at3, if_pos (by omega), at2, if_neg (by omega), if_neg (by omega), show fw + (tw + (2 * b + 6 + k) - tw) = fw + (2 * b + 6 + k) by omega, ← dpf]; exact hx.2.2.2.2.2 hl0 k h hk
    · have out : ∀ k, k < 4 * b + 8 → k ≠ 4 → p ≠ tw + k := fun k h1 h2 => by rw [← dpt]; exact hp k h1 h2
      rw [at3, if_neg (fun q => out (p - tw) (by omega) (by omega) (by omega)), at2, if_neg (fun q => out (p - tw) (by omega) (by omega) (by omega)), if_neg (fun q => out (p - tw) (by omega) (by omega) (by omega))]
  · have hlz : dv_lev x = 0 := by omega
    rw [if_pos (by rw [hlz]; decide)]
    refine ⟨s2, s2.1 14, rfl, q_Cw (by rw [C2.1]; exact T2) (by omega), ⟨?_, ?_, ?_, ?_, fun k h hk => ?_, fun q => absurd q hl0⟩, fun p hp => ?_⟩
    · rw [dpt, at2, if_neg (by omega), if_pos (by omega), show fw + (tw + 0 - tw) = fw + 0 by omega, ← dpf]; exact hx.1
    · rw [dpt, at2, if_neg (by omega), if_pos (by omega), show fw + (tw + 1 - tw) = fw + 1 by omega, ← dpf]; exact hx.2.1
    · rw [dpt, at2, if_neg (by omega), if_pos (by omega), show fw + (tw + 2 - tw) = fw + 2 by omega, ← dpf]; exact hx.2.2.1
    · rw [dpt, at2, if_neg (by omega), if_pos (by omega), show fw + (tw + 3 - tw) = fw + 3 by omega, ← dpf]; exact hx.2.2.2.1
    · have hlt : k < (dv_hs x).length := (List.getElem?_eq_some_iff.mp hk).1
      rw [dpt, at2, if_pos (by omega), show fw + (tw + (5 + k) - tw) = fw + (5 + k) by omega, ← dpf]; exact hx.2.2.2.2.1 k h hk
    · have out : ∀ k, k < 4 * b + 8 → k ≠ 4 → p ≠ tw + k := fun k h1 h2 => by rw [← dpt]; exact hp k h1 h2
      rw [at2, if_neg (fun q => out (p - tw) (by omega) (by omega) (by omega)), if_neg (fun q => out (p - tw) (by omega) (by omega) (by omega))]

/-! 97g: the filing rule's text -/
theorem by_eq (x : Int32) (k : Nat) (hk : k ≤ 24) (s1 s2 : Int32) (h1 : (s2.toBitVec.smod 32).toNat = k) (h2 : ((s1.toUInt32 &&& Int32.toUInt32 31).toBitVec % 32).toNat = k) : ((x.toUInt32 >>> (s1.toUInt32 &&& Int32.toUInt32 31)).toInt32) &&& 255 = (x >>> s2) &&& 255 := by
  apply Int32.toBitVec_inj.mp
  apply BitVec.eq_of_getLsbD_eq
  intro i hi
  have e255 : (255 : Int32).toBitVec = 255#32 := rfl
  have eA : ((x.toUInt32 >>> (s1.toUInt32 &&& Int32.toUInt32 31)).toInt32).toBitVec = x.toBitVec >>> k := by
    show x.toBitVec >>> ((s1.toUInt32 &&& Int32.toUInt32 31).toBitVec % 32) = _
    rw [BitVec.ushiftRight_eq', h2]
  have eB : (x >>> s2).toBitVec = x.toBitVec.sshiftRight k := by
    show x.toBitVec.sshiftRight' (s2.toBitVec.smod 32) = _
    rw [BitVec.sshiftRight', h1]
  rw [Int32.toBitVec_and, Int32.toBitVec_and, BitVec.getLsbD_and, BitVec.getLsbD_and, eA, eB, e255]
  by_cases h8 : i < 8
  · rw [BitVec.getLsbD_ushiftRight, BitVec.getLsbD_sshiftRight]
    have : k + i < 32 := by omega
    simp [this, hi]
    rw [decide_eq_false (show ¬ 32 ≤ i by omega), Bool.not_false, Bool.true_and]
  · have : (255#32).getLsbD i = false := by
      have hcs : i = 8 ∨ i = 9 ∨ i = 10 ∨ i = 11 ∨ i = 12 ∨ i = 13 ∨ i = 14 ∨ i = 15 ∨ i = 16 ∨ i = 17 ∨ i = 18 ∨ i = 19 ∨ i = 20 ∨ i = 21 ∨ i = 22 ∨ i = 23 ∨ i = 24 ∨ i = 25 ∨ i = 26 ∨ i = 27 ∨ i = 28 ∨ i = 29 ∨ i = 30 ∨ i = 31 := by omega
      rcases hcs with h | h | h | h | h | h | h | h | h | h | h | h | h | h | h | h | h | h | h | h | h | h | h | h <;> subst h <;> decide
    rw [this, Bool.and_false, Bool.and_false]
/-- the text as bytes -/
def sg_by (w : Nat → Int32) (k : Nat) : Nat := ((w (k / 4) >>> ((24 - nI (8 * (k % 4))) : Int32)) &&& 255).toNatClampNeg
theorem by_in (w : Nat → Int32) {k : Nat} (hk : k < 20) : (w (k / 4) >>> ((24 - nI (8 * (k % 4))) : Int32)) &&& 255 = nI (sg_by w k) ∧ sg_by w k < 256 := by
  obtain ⟨j, hj, ej⟩ := pk_andE (w (k / 4) >>> ((24 - nI (8 * (k % 4))) : Int32)) (m := 255) 8 rfl
  have hj : j < 256 := hj
  unfold sg_by
  rw [ej, nI_clamp (by omega)]
  exact ⟨rfl, hj⟩
theorem q5_byteAt {ln : Nat → Nat} {s : dr_S} {w : Nat → Int32} {k : Nat} (h17 : ln 17 = 5) (hw : ∀ i, i < 5 → s.1 17 i = w i) (hk : k < 20) : f_X5_byteAt ln (nI k) s = some (nI (sg_by w k), s) := by
  unfold f_X5_byteAt
  have e4 : nI k / 4 = nI (k / 4) := by rw [show (4 : Int32) = nI 4 from rfl, pk_div (by omega) (by omega) (by omega)]
  have er : nI k - nI k / 4 * 4 = nI (k % 4) := by rw [show (4 : Int32) = nI 4 from rfl, pk_rem (by omega) (by omega) (by omega)]
  have e8 : (8 : Int32) * nI (k % 4) = nI (8 * (k % 4)) := by rw [show (8 : Int32) = nI 8 from rfl, pk_mul]
  rw [q_let, er, e8, e4, if_neg (nI_pos (by omega)), h17, if_pos (show nI (k / 4) < Int32.ofNat 5 from nI_lt (b := 5) (by omega) (by omega)), q_rd (by omega) (by omega), Option.bind_some, hw _ (by omega)]
  rw [← (by_in w hk).1]
  have hks : k % 4 = 0 ∨ k % 4 = 1 ∨ k % 4 = 2 ∨ k % 4 = 3 := by omega
  rcases hks with e | e | e | e <;> rw [e]
  · rw [by_eq (w (k / 4)) 24 (by omega) (24 - nI (8 * 0)) (24 - nI (8 * 0)) rfl rfl]
  · rw [by_eq (w (k / 4)) 16 (by omega) (24 - nI (8 * 1)) (24 - nI (8 * 1)) rfl rfl]
  · rw [by_eq (w (k / 4)) 8 (by omega) (24 - nI (8 * 2)) (24 - nI (8 * 2)) rfl rfl]
  · rw [by_eq (w (k / 4)) 0 (by omega) (24 - nI (8 * 3)) (24 - nI (8 * 3)) rfl rfl]
def sg_w5 (a b c d e : Int32) (i : Nat) : Int32 := if i = 0 then a else if i = 1 then b else if i = 2 then c else if i = 3 then d else e
theorem qm_byteOf {ln : Nat → Nat} {s : dr_S} {a b c d e : Int32} {k : Nat} (hk : k < 20) : f_X12_byteOf ln (nI k) a b c d e s = some (nI (sg_by (sg_w5 a b c d e) k), s) := by
  have er : nI k - nI k / 4 * 4 = nI (k % 4) := by rw [show (4 : Int32) = nI 4 from rfl, pk_rem (by omega) (by omega) (by omega)]
  have e8 : (8 : Int32) * nI (k % 4) = nI (8 * (k % 4)) := by rw [show (8 : Int32) = nI 8 from rfl, pk_mul]
  have p42 : ∀ z, f_X12_byteOf_p42 ln (nI k) z s = some ((z >>> ((24 - nI (8 * (k % 4))) : Int32)) &&& 255, s) := by
    intro z
    unfold f_X12_byteOf_p42
    rw [er, e8]
    have hks : k % 4 = 0 ∨ k % 4 = 1 ∨ k % 4 = 2 ∨ k % 4 = 3 := by omega
    rcases hks with e | e | e | e <;> rw [e] <;> rfl
  have ge : ∀ n, n < 2 ^ 31 → n ≤ k → nI n ≤ nI k := fun n _ h => nI_le h (by omega)
  have lt : ∀ n, n < 2 ^ 31 → k < n → ¬ nI n ≤ nI k := fun n hn h => nI_ge h hn
  rw [← (by_in (sg_w5 a b c d e) hk).1]
  unfold f_X12_byteOf
  by_cases h4 : 4 ≤ k
  · rw [if_pos (show (4 : Int32) ≤ nI k from ge 4 (by omega) h4)]
    by_cases h8 : 8 ≤ k
    · rw [if_pos (show (8 : Int32) ≤ nI k from ge 8 (by omega) h8)]
      by_cases h12 : 12 ≤ k
      · rw [if_pos (show (12 : Int32) ≤ nI k from ge 12 (by omega) h12)]
        by_cases h16 : 16 ≤ k
        · rw [if_pos (show (16 : Int32) ≤ nI k from ge 16 (by omega) h16), p42, show k / 4 = 4 by omega]
          rfl
        · rw [if_neg (show ¬ (16 : Int32) ≤ nI k from lt 16 (by omega) (by omega)), p42, show k / 4 = 3 by omega]
          rfl
      · rw [if_neg (show ¬ (12 : Int32) ≤ nI k from lt 12 (by omega) (by omega)), p42, show k / 4 = 2 by omega]
        rfl
    · rw [if_neg (show ¬ (8 : Int32) ≤ nI k from lt 8 (by omega) (by omega)), p42, show k / 4 = 1 by omega]
      rfl
  · rw [if_neg (show ¬ (4 : Int32) ≤ nI k from lt 4 (by omega) (by omega)), p42, show k / 4 = 0 by omega]
    rfl

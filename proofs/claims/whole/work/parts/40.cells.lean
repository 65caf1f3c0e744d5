/-! THE PURE PART. 40: reading and writing cells -/
theorem q_rd {ln : Nat → Nat} {s : dr_S} {a i : Nat} (h : i < ln a) (hl : ln a < 2 ^ 31) : dr_rd ln s a (nI i) = some (s.1 a i) := by
  have hi : i < 2 ^ 31 := Nat.lt_trans h hl
  unfold dr_rd
  rw [nI_clamp hi, if_neg]
  intro q
  rcases q with q | q
  · exact nI_pos hi q
  · omega
theorem q_wr {ln : Nat → Nat} {s : dr_S} {a i : Nat} {x : Int32} (h : i < ln a) (hl : ln a < 2 ^ 31) : dr_wr ln s a (nI i) x = some (dr_put s a i x) := by
  have hi : i < 2 ^ 31 := Nat.lt_trans h hl
  unfold dr_wr
  rw [nI_clamp hi, if_neg]
  intro q
  rcases q with q | q
  · exact nI_pos hi q
  · omega
theorem q_wz {ln : Nat → Nat} {s : dr_S} {a i : Nat} {x : Int32} (h : i < ln a) (hl : ln a < 2 ^ 31) : dr_wz ln s a (nI i) x = some (dr_put s a i (vp_nar .boolean x)) := by
  have hi : i < 2 ^ 31 := Nat.lt_trans h hl
  unfold dr_wz
  rw [nI_clamp hi, if_neg]
  intro q
  rcases q with q | q
  · exact nI_pos hi q
  · omega
theorem q_put1 (s : dr_S) (a i : Nat) (x : Int32) : (dr_put s a i x).1 a = upd (s.1 a) i x := by
  simp only [dr_put, if_true]
theorem q_putO {s : dr_S} {a b i : Nat} {x : Int32} (h : b ≠ a) : (dr_put s a i x).1 b = s.1 b := by
  simp only [dr_put, if_neg h]
theorem q_put2 (s : dr_S) (a i : Nat) (x : Int32) : (dr_put s a i x).2 = s.2 := rfl
theorem q_pf1 (s : dr_S) (f : Nat) (x : Int32) : (dr_pf s f x).1 = s.1 := rfl
theorem q_pf2 (s : dr_S) (f : Nat) (x : Int32) : (dr_pf s f x).2 f = x := by
  simp only [dr_pf, if_true]
theorem q_pfO {s : dr_S} {f g : Nat} {x : Int32} (h : g ≠ f) : (dr_pf s f x).2 g = s.2 g := by
  simp only [dr_pf, if_neg h]
theorem q_updS (f : Nat → Int32) (i : Nat) (x : Int32) : upd f i x i = x := by
  simp only [upd, if_true]
theorem q_updO {f : Nat → Int32} {i j : Nat} {x : Int32} (h : j ≠ i) : upd f i x j = f j := by
  simp only [upd, if_neg h]
theorem q_upd_id {f : Nat → Int32} {i : Nat} {x : Int32} (h : f i = x) : upd f i x = f := by
  funext j
  by_cases hj : j = i
  · subst hj
    rw [q_updS, h]
  · rw [q_updO hj]
/-- the class's row of numbers has length N, its log 1024 -/
def dq_L (ln : Nat → Nat) : Prop := ln 14 < 2 ^ 30 ∧ ln 15 = 1024 ∧ ln 16 = 1024
theorem q_get {ln : Nat → Nat} {s : dr_S} {p : Nat} (hL : dq_L ln) (hp : p < ln 14) : f_X2_get ln (nI p) s = some (s.1 14 p, s) := by
  have h31 : ln 14 < 2 ^ 31 := by have := hL.1; omega
  have hi : p < 2 ^ 31 := by omega
  unfold f_X2_get
  rw [if_neg (nI_pos hi), if_neg (show ¬ Int32.ofNat (ln 14) ≤ nI p from nI_ge hp h31), q_rd hp h31]
  rfl
theorem q_getOut {ln : Nat → Nat} {s : dr_S} {x : Int32} (h : x < 0) : f_X2_get ln x s = some (-1, s) := by
  unfold f_X2_get
  rw [if_pos h]
/-- what a put does -/
def dq_put (s : dr_S) (p : Nat) (v : Int32) : dr_S :=
  if s.1 14 p = v then s else if s.2 204 = 0 then dr_put s 14 p v else if s.2 203 < 0 then s else if s.2 203 < 1024 then dr_put (dr_pf (dr_put (dr_put s 15 (s.2 203).toNatClampNeg (nI p)) 16 (s.2 203).toNatClampNeg (s.1 14 p)) 203 (s.2 203 + 1)) 14 p v else s
theorem q_put {ln : Nat → Nat} {s : dr_S} {p : Nat} {v : Int32} (hL : dq_L ln) (hp : p < ln 14) : f_X2_put ln (nI p) v s = some (0, dq_put s p v) := by
  have h31 : ln 14 < 2 ^ 31 := by have := hL.1; omega
  have hi : p < 2 ^ 31 := by omega
  have h15 : ln 15 < 2 ^ 31 := by rw [hL.2.1]; decide
  have h16 : ln 16 < 2 ^ 31 := by rw [hL.2.2]; decide
  unfold f_X2_put f_X2_put_p84 dq_put
  rw [if_neg (nI_pos hi), if_neg (show ¬ Int32.ofNat (ln 14) ≤ nI p from nI_ge hp h31), q_rd hp h31]
  show (if s.1 14 p = v then some (0, s) else _) = _
  by_cases h1 : s.1 14 p = v
  · rw [if_pos h1, if_pos h1]
  · rw [if_neg h1, if_neg h1]
    by_cases h2 : s.2 204 = 0
    · rw [if_pos h2, if_pos h2, q_wr hp h31]
      rfl
    · rw [if_neg h2, if_neg h2]
      by_cases h3 : s.2 203 < 0
      · rw [if_pos h3, if_pos h3]
      · rw [if_neg h3, if_neg h3]
        by_cases h4 : s.2 203 < 1024
        · rw [if_pos h4, if_pos h4]
          obtain ⟨k, hk, ek⟩ := nI_of h3
          have hk2 : k < 1024 := by
            rw [ek] at h4
            exact (nI_ltI (a := k) (b := 1024) hk (by omega)).mp h4
          rw [ek, nI_clamp hk, q_wr (by rw [hL.2.1]; exact hk2) h15]
          show ((dr_rd ln (dr_put s 15 k (nI p)) 14 (nI p)).bind _) = _
          rw [q_rd hp h31]
          show ((dr_wr ln (dr_put s 15 k (nI p)) 16 ((dr_put s 15 k (nI p)).2 203) _).bind _) = _
          rw [q_put2, ek, q_wr (by rw [hL.2.2]; exact hk2) h16, q_putO (by decide)]
          show ((dr_wr ln (dr_pf _ 203 _) 14 (nI p) v).bind _) = _
          rw [q_wr hp h31, q_put2, q_put2, ek]
          rfl
        · rw [if_neg h4, if_neg h4]
/-- room for n more entries of the log -/
def dq_B (s : dr_S) (n : Nat) : Prop := s.2 204 = 0 ∨ ∃ k : Nat, s.2 203 = nI k ∧ k + n ≤ 1024
theorem q_Bmono {s : dr_S} {n k : Nat} (h : dq_B s n) (hk : k ≤ n) : dq_B s k := by
  rcases h with h | ⟨j, h1, h2⟩
  · exact Or.inl h
  · exact Or.inr ⟨j, h1, by omega⟩
/-- what the log takes back: the row as it was when the log had 'mark' entries -/
def dq_un (pl bf : Nat → Int32) (mark : Nat) : Nat → (Nat → Int32) → (Nat → Int32)
  | 0, g => g
  | k + 1, g => if k < mark then g else dq_un pl bf mark k (upd g (pl k).toNatClampNeg (bf k))
/-- from s to s' the row became g; of the rest only the log changed; k entries at most came to it, and it takes back what it took back before -/
def dq_C (s s' : dr_S) (g : Nat → Int32) (k : Nat) : Prop :=
  s'.1 14 = g ∧ (∀ a, a ≠ 14 → a ≠ 15 → a ≠ 16 → s'.1 a = s.1 a) ∧ (∀ f, f ≠ 203 → s'.2 f = s.2 f) ∧ (∀ n, dq_B s (n + k) → dq_B s' n) ∧
  (s.2 204 ≠ 0 → ∀ j : Nat, s.2 203 = nI j → j + k ≤ 1024 → ∃ j' : Nat, j ≤ j' ∧ j' ≤ j + k ∧ s'.2 203 = nI j' ∧ (∀ mark, mark ≤ j → dq_un (s'.1 15) (s'.1 16) mark j' g = dq_un (s.1 15) (s.1 16) mark j (s.1 14)) ∧ ((∀ i, i < j → ¬ s.1 15 i < 0) → ∀ i, i < j' → ¬ s'.1 15 i < 0)) ∧ (s.2 204 = 0 → s'.2 203 = s.2 203)
theorem q_Crf (s : dr_S) : dq_C s s (s.1 14) 0 := ⟨rfl, fun _ _ _ _ => rfl, fun _ _ => rfl, fun _ h => h, fun _ j h _ => ⟨j, Nat.le_refl _, Nat.le_refl _, h, fun _ _ => rfl, fun z => z⟩, fun _ => rfl⟩
theorem q_Ctr {s s1 s2 : dr_S} {g1 g2 : Nat → Int32} {k1 k2 : Nat} (h1 : dq_C s s1 g1 k1) (h2 : dq_C s1 s2 g2 k2) : dq_C s s2 g2 (k1 + k2) := by
  obtain ⟨a1, b1, c1, d1, e1, f1⟩ := h1
  obtain ⟨a2, b2, c2, d2, e2, f2⟩ := h2
  refine ⟨a2, fun a x y z => (b2 a x y z).trans (b1 a x y z), fun f x => (c2 f x).trans (c1 f x), fun n h => d2 n (d1 (n + k2) (by rw [show n + k2 + k1 = n + (k1 + k2) by omega]; exact h)), fun ht j hj hle => ?_, fun ht => ?_⟩
  · obtain ⟨j1, p1, p2, p3, p4, p5⟩ := e1 ht j hj (by omega)
    obtain ⟨j2, q1, q2, q3, q4, q5⟩ := e2 (by rw [c1 204 (by decide)]; exact ht) j1 p3 (by omega)
    refine ⟨j2, by omega, by omega, q3, fun mark hm => ?_, fun z => q5 (p5 z)⟩
    rw [q4 mark (by omega), a1, p4 mark hm]
  · rw [f2 (by rw [c1 204 (by decide)]; exact ht), f1 ht]
theorem q_Cw {s s' : dr_S} {g : Nat → Int32} {k k' : Nat} (h : dq_C s s' g k) (hk : k ≤ k') : dq_C s s' g k' := by
  obtain ⟨a1, b1, c1, d1, e1, f1⟩ := h
  refine ⟨a1, b1, c1, fun n hn => d1 n (q_Bmono hn (by omega)), fun ht j hj hle => ?_, f1⟩
  obtain ⟨j1, p1, p2, p3, p4⟩ := e1 ht j hj (by omega)
  exact ⟨j1, p1, by omega, p3, p4⟩
theorem dq_un_out {pl bf pl' bf' : Nat → Int32} {mark : Nat} : ∀ {j : Nat} {g : Nat → Int32}, (∀ i, i < j → pl' i = pl i ∧ bf' i = bf i) → dq_un pl' bf' mark j g = dq_un pl bf mark j g
  | 0, _, _ => rfl
  | j + 1, g, h => by
    rw [dq_un, dq_un, (h j (by omega)).1, (h j (by omega)).2, dq_un_out (fun i hi => h i (by omega))]
theorem q_Cput {s : dr_S} {p : Nat} {v : Int32} (hp : p < 2 ^ 31) (hB : dq_B s 1) : dq_C s (dq_put s p v) (upd (s.1 14) p v) 1 := by
  unfold dq_put
  by_cases h1 : s.1 14 p = v
  · rw [if_pos h1, q_upd_id h1]
    exact q_Cw (q_Crf s) (by omega)
  · rw [if_neg h1]
    by_cases h2 : s.2 204 = 0
    · rw [if_pos h2]
      refine ⟨q_put1 _ _ _ _, fun a x y z => q_putO x, fun f _ => by rw [q_put2], fun n _ => Or.inl (by rw [q_put2]; exact h2), fun ht => absurd h2 ht, fun _ => by rw [q_put2]⟩
    · rw [if_neg h2]
      rcases hB with hB | ⟨k, ek, hk⟩
      · exact absurd hB h2
      · have hk31 : k < 2 ^ 31 := by omega
        rw [if_neg (by rw [ek]; exact nI_pos hk31), if_pos (by rw [ek]; exact (nI_ltI (a := k) (b := 1024) hk31 (by omega)).mpr (by omega)), ek, nI_clamp hk31]
        refine ⟨?_, fun a x y z => ?_, fun f x => ?_, fun n hn => ?_, fun ht j hj hle => ?_, fun ht => absurd ht h2⟩
        · rw [q_put1, q_pf1, q_putO (by decide), q_putO (by decide)]
        · rw [q_putO x, q_pf1, q_putO z, q_putO y]
        · rw [q_put2, q_pfO x, q_put2, q_put2]
        · rcases hn with hn | ⟨j, h5, h6⟩
          · exact absurd hn h2
          · have hj : j = k := (nI_eq (a := j) (b := k) (by omega) hk31).mp (h5.symm.trans ek)
            refine Or.inr ⟨k + 1, ?_, by omega⟩
            rw [q_put2, q_pf2, nI_1]
        · have hj2 : j = k := (nI_eq (a := j) (b := k) (by omega) hk31).mp (hj.symm.trans ek)
          subst hj2
          refine ⟨j + 1, by omega, by omega, ?_, fun mark hm => ?_, fun z i hi => ?_⟩
          · rw [q_put2, q_pf2, nI_1]
          · rw [dq_un, if_neg (by omega)]
            have e15 : (dr_put (dr_pf (dr_put (dr_put s 15 j (nI p)) 16 j (s.1 14 p)) 203 (nI j + 1)) 14 p v).1 15 = upd (s.1 15) j (nI p) := by
              rw [q_putO (by decide), q_pf1, q_putO (by decide), q_put1]
            have e16 : (dr_put (dr_pf (dr_put (dr_put s 15 j (nI p)) 16 j (s.1 14 p)) 203 (nI j + 1)) 14 p v).1 16 = upd (s.1 16) j (s.1 14 p) := by
              rw [q_putO (by decide), q_pf1, q_put1, q_putO (by decide)]
            rw [e15, e16, q_updS, q_updS, nI_clamp hp]
            have eg : upd (upd (s.1 14) p v) p (s.1 14 p) = s.1 14 := by
              funext i
              by_cases hi : i = p
              · subst hi
                rw [q_updS]
              · rw [q_updO hi, q_updO hi]
            rw [eg]
            exact dq_un_out (fun i hi => ⟨q_updO (by omega), q_updO (by omega)⟩)
          · have e15 : (dr_put (dr_pf (dr_put (dr_put s 15 j (nI p)) 16 j (s.1 14 p)) 203 (nI j + 1)) 14 p v).1 15 = upd (s.1 15) j (nI p) := by
              rw [q_putO (by decide), q_pf1, q_putO (by decide), q_put1]
            rw [e15]
            by_cases q : i = j
            · rw [q, q_updS]
              exact nI_pos hp
            · rw [q_updO q]
              exact z i (by omega)

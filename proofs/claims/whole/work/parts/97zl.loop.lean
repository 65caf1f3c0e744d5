/-! 97zl: the law's loop -/
theorem rds {Lx : Nat} {xs : Nat → Int32} {i c : Nat} (hL : Lx ≤ 3585) (h : i + c < Lx) : dr_rds Lx xs (nI i + nI c) = some (xs (i + c)) := by
  unfold dr_rds
  rw [nI_add, nI_clamp (by omega), if_neg]
  intro q
  rcases q with q | q
  · exact nI_pos (by omega) q
  · omega
set_option maxHeartbeats 4000000 in
theorem law_p {ln : Nat → Nat} {Lx : Nat} {xs : Nat → Int32} (hL : Lx ≤ 3585) : ∀ (k fu i : Nat) (s : dr_S) (r : sg_R), Lx ≤ i + 7 * k + 6 → k < fu → i ≤ 3600 → rr ln s r → rm_ti r + 30 * k ≤ 20000 → ∃ s9, f_L_law_p28 ln Lx xs fu (nI i) s = some (1, s9)
  | k, 0, _, _, _, _, q, _, _, _ => absurd q (Nat.not_lt_zero _)
  | k, fu + 1, i, s, r, hk, hf, hi, h, ht => by
    rw [f_L_law_p28]
    have ecmp : (Int32.ofNat Lx - 7 < nI i) ↔ Lx < i + 7 := by
      rw [Int32.lt_iff_toInt_lt, nI_toInt (show i < 2 ^ 31 by omega)]
      have e : (nI Lx - nI 7).toInt = (Lx : Int) - (7 : Nat) := pk_sub_toInt (by omega) (by omega)
      have e : (Int32.ofNat Lx - 7).toInt = (Lx : Int) - (7 : Nat) := e
      rw [e]
      omega
    by_cases q : Lx < i + 7
    · rw [if_pos (ecmp.mpr q)]
      exact ⟨s, rfl⟩
    · rw [if_neg (fun z => q (ecmp.mp z))]
      obtain ⟨k', ek⟩ : ∃ k', k = k' + 1 := ⟨k - 1, by omega⟩
      have e0 : dr_rds Lx xs (nI i) = some (xs i) := by
        have := rds (xs := xs) (i := i) (c := 0) hL (by omega)
        rw [nI_add, Nat.add_zero] at this
        exact this
      have e1 : dr_rds Lx xs (nI i + 1) = some (xs (i + 1)) := rds (c := 1) hL (by omega)
      have e2 : dr_rds Lx xs (nI i + 2) = some (xs (i + 2)) := rds (c := 2) hL (by omega)
      have e3 : dr_rds Lx xs (nI i + 3) = some (xs (i + 3)) := rds (c := 3) hL (by omega)
      have e4 : dr_rds Lx xs (nI i + 4) = some (xs (i + 4)) := rds (c := 4) hL (by omega)
      have e5 : dr_rds Lx xs (nI i + 5) = some (xs (i + 5)) := rds (c := 5) hL (by omega)
      have e6 : dr_rds Lx xs (nI i + 6) = some (xs (i + 6)) := rds (c := 6) hL (by omega)
      -- the next call
      have next : ∀ s' r', rr ln s' r' → rm_ti r' ≤ rm_ti r + 30 → ∃ s9, f_L_law_p757 ln Lx xs (f_L_law_p28 ln Lx xs fu) (nI i) s' = some (1, s9) := by
        intro s' r' h' ht'
        unfold f_L_law_p757
        rw [q_let, show nI i + 7 = nI (i + 7) from nI_add i 7]
        exact law_p hL k' fu (i + 7) s' r' (by omega) (by omega) (by omega) h' (by omega)
      have go : ∀ {F G : dr_S → Option (Int32 × dr_S)}, call_ok ln F G s r → ∃ s9, dr_bnd (F s) (fun r1 s1 => dr_bnd (G s1) (fun r2 s2 => if r1 = r2 then f_L_law_p757 ln Lx xs (f_L_law_p28 ln Lx xs fu) (nI i) s2 else none)) = some (1, s9) := by
        intro F G hc
        obtain ⟨v, s1, s2, r', c1, c2, c3, c4⟩ := hc
        rw [c1, q_bi, c2, q_bi, if_pos rfl]
        exact next s2 r' c3 c4
      have ti29 : rm_ti r < 2 ^ 29 := by omega
      have ti30 : rm_ti r < 2 ^ 30 := by omega
      obtain ⟨m, hm, em⟩ := pk_andE (xs i) (m := 31) 5 rfl
      have hm : m < 32 := hm
      rw [e0, Option.bind_some, em]
      by_cases hm18 : m ≤ 18
      · have sw : ∀ (Fs : List (Option (Int32 × dr_S))) (Fd : Option (Int32 × dr_S)), dr_sw (nI m) 0 18 Fs Fd = Fs.getD (m - 0) none := fun Fs Fd => q_sw (lo := 0) (hi := 18) (Nat.zero_le _) hm18 (by omega)
        rw [sw, Nat.sub_zero]
        have hms : m = 0 ∨ m = 1 ∨ m = 2 ∨ m = 3 ∨ m = 4 ∨ m = 5 ∨ m = 6 ∨ m = 7 ∨ m = 8 ∨ m = 9 ∨ m = 10 ∨ m = 11 ∨ m = 12 ∨ m = 13 ∨ m = 14 ∨ m = 15 ∨ m = 16 ∨ m = 17 ∨ m = 18 := by omega
        rcases hms with z | z | z | z | z | z | z | z | z | z | z | z | z | z | z | z | z | z | z <;> subst z <;> simp only [List.getD_cons_succ, List.getD_cons_zero, e1, e2, e3, e4, e5, e6, Option.bind_some]
        · exact go (ok_rule h _ _ _ _ _ _)
        · exact go (ok_ahead h _ _)
        · exact go (ok_fault h _ _)
        · exact go (ok_begin h _ _ _)
        · exact go (ok_step h _ _)
        · exact go (ok_clerk h _ _)
        · exact go (ok_job h _ _)
        · exact go (ok_drawer h _ _)
        · by_cases z : xs (i + 3) = 0
          · rw [if_pos z]
            unfold f_L_law_p472 f_L_law_p499
            simp only [e1, e2, e3, Option.bind_some, if_pos z]
            exact go (ok_at h _ _ _)
          · rw [if_neg z]
            unfold f_L_law_p472 f_L_law_p499
            simp only [e1, e2, e3, Option.bind_some, if_neg z]
            exact go (ok_at h _ _ _)
        · exact go (ok_nth h _)
        · exact go (ok_rank h _)
        · exact go (ok_there h ti30 _ _ _)
        · exact go (ok_line h ti30 _)
        · exact go (ok_order h ti30 _ _)
        · exact go (ok_shape h)
        · exact go (ok_found h ti29 _ _)
        · exact go (ok_fall h)
        · exact go (ok_night h _)
        · exact go (ok_count h _)
      · have sw : ∀ (Fs : List (Option (Int32 × dr_S))) (Fd : Option (Int32 × dr_S)), dr_sw (nI m) 0 18 Fs Fd = Fd := fun Fs Fd => q_swO (lo := 0) (hi := 18) (Or.inr (by omega)) (by omega)
        rw [sw]
        exact next s r h (by omega)

/-! 97e: crowning the top, of the reference; the call fall -/
theorem qm_crown_p {ln : Nat → Nat} {r : sg_R} {x : Int32} (L : dq_ML ln) (hb : 2 ≤ rm_b r ∧ rm_b r ≤ 5) (hu : rm_us r < 256) (hth : ∀ d, d < rm_us r → ∀ t, dv_th (rm_dr r d) = some t → t < rm_us r ∧ dv_hi (rm_dr r d) ≠ none) : ∀ (j fu k : Nat) (s : dr_S) (o : Option Nat) (cs : List Nat), s.2 1200 = nI (rm_b r) → (∀ d, d < rm_us r → s.1 35 d = nO (dv_hi (rm_dr r d)) ∧ s.1 36 d = nO (dv_th (rm_dr r d))) → (∀ (i c : Nat), cs[i]? = some c → s.1 34 (14 * rm_us r + i) = nI c) → (∀ (i h : Nat), (cs.dropLast.map (fun d => (dv_hi (rm_dr r d)).getD 0))[i]? = some h → s.1 33 (14 * rm_us r + i) = nI h) → cs.length = k → 2 * rm_b r + 1 = k + j → j + 1 < fu → (∀ d, o = some d → d < rm_us r) → (∀ d ∈ cs, d < rm_us r) → (∀ d, cs.getLast? = some d → dv_th (rm_dr r d) = o) →
    ∃ s1, f_X12_fall_p135 ln fu x (nI (rm_us r)) (nO o) (nI k) s = f_X12_fall_p217 ln x (nI (rm_us r)) (nI (cs ++ sg_chain r j o).length) s1 ∧ dm_F s s1 ∧ s1.2 = s.2 ∧ (∀ a, a ≠ 33 → a ≠ 34 → s1.1 a = s.1 a) ∧ (∀ p, p < 14 * rm_us r ∨ 14 * rm_us r + 14 ≤ p → s1.1 33 p = s.1 33 p ∧ s1.1 34 p = s.1 34 p) ∧ (∀ (i c : Nat), (cs ++ sg_chain r j o)[i]? = some c → s1.1 34 (14 * rm_us r + i) = nI c) ∧ (∀ (i h : Nat), ((cs ++ sg_chain r j o).dropLast.map (fun d => (dv_hi (rm_dr r d)).getD 0))[i]? = some h → s1.1 33 (14 * rm_us r + i) = nI h)
  | j, 0, _, _, _, _, _, _, _, _, _, _, q, _, _, _ => absurd q (Nat.not_lt_zero _)
  | j, fu + 1, k, s, none, cs, h0, hd, hc, hh, hk, hj, hf, ho, hcs, hlast => by
    have e : sg_chain r j none = [] := by cases j <;> rfl
    rw [f_X12_fall_p135, if_pos (show nO none = (-1 : Int32) from rfl), e, List.append_nil, hk]
    exact ⟨s, rfl, dm_rf s, rfl, fun _ _ _ => rfl, fun _ _ => ⟨rfl, rfl⟩, hc, hh⟩
  | 0, fu + 1, k, s, some c, cs, h0, hd, hc, hh, hk, hj, hf, ho, hcs, hlast => by
    have hcu := ho c rfl
    have h2b : (2 : Int32) * nI (rm_b r) + 1 = nI (2 * rm_b r + 1) := by rw [show (2 : Int32) = nI 2 from rfl, pk_mul, nI_1]
    rw [f_X12_fall_p135, show nO (some c) = nI c from rfl, if_neg (n1_ne (by omega)), h0, h2b, if_pos (nI_le (by omega) (by omega)), sg_chain, List.append_nil, hk]
    exact ⟨s, rfl, dm_rf s, rfl, fun _ _ _ => rfl, fun _ _ => ⟨rfl, rfl⟩, hc, hh⟩
  | j + 1, fu + 1, k, s, some c, cs, h0, hd, hc, hh, hk, hj, hf, ho, hcs, hlast => by
    have hcu := ho c rfl
    have h2b : (2 : Int32) * nI (rm_b r) + 1 = nI (2 * rm_b r + 1) := by rw [show (2 : Int32) = nI 2 from rfl, pk_mul, nI_1]
    rw [f_X12_fall_p135, show nO (some c) = nI c from rfl, if_neg (n1_ne (by omega)), h0, h2b, if_neg (nI_ge (by omega) (by omega)), c14, nI_add, m_wrb L 34 3584 rfl (by decide) (by decide) (by omega), sg_chain]
    have ecs : ∀ l : List Nat, (cs ++ [c]) ++ l = cs ++ (c :: l) := fun l => by rw [List.append_assoc]; rfl
    have el : (cs ++ [c]).getLast? = some c := by rw [List.getLast?_append]; rfl
    have fin : ∀ (s1 : dr_S), dm_F s s1 → s1.2 = s.2 → (∀ a, a ≠ 33 → a ≠ 34 → s1.1 a = s.1 a) → (∀ p, p < 14 * rm_us r ∨ 14 * rm_us r + 14 ≤ p → s1.1 33 p = s.1 33 p ∧ s1.1 34 p = s.1 34 p) → (∀ (i x : Nat), (cs ++ [c])[i]? = some x → s1.1 34 (14 * rm_us r + i) = nI x) → (∀ (i h : Nat), ((cs ++ [c]).dropLast.map (fun d => (dv_hi (rm_dr r d)).getD 0))[i]? = some h → s1.1 33 (14 * rm_us r + i) = nI h) → ∃ s2, f_X12_fall_p204 ln (f_X12_fall_p135 ln fu) x (nI (rm_us r)) (nI c) (nI k) s1 = f_X12_fall_p217 ln x (nI (rm_us r)) (nI (cs ++ c :: sg_chain r j (dv_th (rm_dr r c))).length) s2 ∧ dm_F s s2 ∧ s2.2 = s.2 ∧ (∀ a, a ≠ 33 → a ≠ 34 → s2.1 a = s.1 a) ∧ (∀ p, p < 14 * rm_us r ∨ 14 * rm_us r + 14 ≤ p → s2.1 33 p = s.1 33 p ∧ s2.1 34 p = s.1 34 p) ∧ (∀ (i x : Nat), (cs ++ c :: sg_chain r j (dv_th (rm_dr r c)))[i]? = some x → s2.1 34 (14 * rm_us r + i) = nI x) ∧ (∀ (i h : Nat), ((cs ++ c :: sg_chain r j (dv_th (rm_dr r c))).dropLast.map (fun d => (dv_hi (rm_dr r d)).getD 0))[i]? = some h → s2.1 33 (14 * rm_us r + i) = nI h) := by
      intro s1 F1 e2 ea eo ec eh
      unfold f_X12_fall_p204
      rw [m_rdb L 36 256 rfl (by decide) (by decide) (by omega), ea 36 (by decide) (by decide), (hd c hcu).2, q_let, nI_1]
      obtain ⟨s2, b1, b2, b3, b4, b5, b6, b7⟩ := qm_crown_p (ln := ln) (x := x) L hb hu hth j fu (k + 1) s1 (dv_th (rm_dr r c)) (cs ++ [c]) (by rw [e2]; exact h0) (fun d hdu => by rw [ea 35 (by decide) (by decide), ea 36 (by decide) (by decide)]; exact hd d hdu) ec eh (by rw [List.length_append, hk]; rfl) (by omega) (by omega) (fun d hdd => (hth c hcu d hdd).1) (fun d hdd => by
        rcases List.mem_append.mp hdd with q | q
        · exact hcs d q
        · rw [List.mem_singleton.mp q]; exact hcu) (fun d hdd => by
        rw [el] at hdd
        cases hdd
        rfl)
      rw [ecs] at b1 b6 b7
      exact ⟨s2, b1, dm_tr F1 b2, b3.trans e2, fun a h1 h2 => (b4 a h1 h2).trans (ea a h1 h2), fun p hp => ⟨(b5 p hp).1.trans (eo p hp).1, (b5 p hp).2.trans (eo p hp).2⟩, b6, b7⟩
    have hc2 : ∀ (i y : Nat), (cs ++ [c])[i]? = some y → upd (s.1 34) (14 * rm_us r + k) (nI c) (14 * rm_us r + i) = nI y := by
      intro i y hy
      have hlt := (List.getElem?_eq_some_iff.mp hy).1
      rw [List.length_append] at hlt
      have hlt : i < cs.length + 1 := hlt
      by_cases e : i < cs.length
      · rw [List.getElem?_append_left e] at hy
        rw [q_updO (by omega)]
        exact hc i y hy
      · have ei : i = cs.length := by omega
        subst ei
        rw [List.getElem?_append_right (Nat.le_refl _), Nat.sub_self] at hy
        cases hy
        rw [hk, q_updS]
    by_cases e0 : k = 0
    · have ecs0 : cs = [] := List.eq_nil_of_length_eq_zero (by omega)
      rw [if_pos (show nI k ≤ 0 by rw [e0]; decide)]
      refine fin (dr_put s 34 (14 * rm_us r + k) (nI c)) (dm_put _ _ _ (dm_rf s) (by decide)) rfl (fun a h1 h2 => q_putO h2) (fun p hp => ⟨rfl, q_updO (by omega)⟩) hc2 (fun i h hi => ?_)
      rw [ecs0] at hi
      cases hi
    · obtain ⟨l, hl⟩ : ∃ l, cs.getLast? = some l := by
        cases hq : cs.getLast? with
        | none =>
          rw [List.getLast?_eq_none_iff] at hq
          rw [hq] at hk
          exact absurd hk.symm e0
        | some l => exact ⟨l, rfl⟩
      have hlu := hcs l (List.mem_of_getLast? hl)
      have hlt := hlast l hl
      obtain ⟨h, hhi⟩ : ∃ h, dv_hi (rm_dr r l) = some h := by
        cases hq : dv_hi (rm_dr r l) with
        | none => exact absurd hq (hth l hlu c hlt).2
        | some h => exact ⟨h, rfl⟩
      have hne : cs ≠ [] := fun q => by rw [q] at hk; exact e0 hk.symm
      have ec : cs = cs.dropLast ++ [l] := by
        have q := List.dropLast_concat_getLast hne
        rw [List.getLast?_eq_some_getLast hne] at hl
        cases hl
        exact q.symm
      have hk1 : cs[k - 1]? = some l := by
        rw [ec, List.getElem?_append_right (by rw [List.length_dropLast]; omega), List.length_dropLast, hk, Nat.sub_self]
        rfl
      rw [if_neg (show ¬ nI k ≤ 0 from nI_ge (a := 0) (by omega) (by omega)), show nI (14 * rm_us r + k) - 1 = nI (14 * rm_us r + (k - 1)) from by rw [show (1 : Int32) = nI 1 from rfl, pk_sub (by omega), show 14 * rm_us r + k - 1 = 14 * rm_us r + (k - 1) by omega], m_rdb L 34 3584 rfl (by decide) (by decide) (by omega), show (dr_put s 34 (14 * rm_us r + k) (nI c)).1 34 (14 * rm_us r + (k - 1)) = nI l from by
        show upd (s.1 34) _ _ _ = _
        rw [q_updO (by omega)]
        exact hc (k - 1) l hk1, m_rdb L 35 256 rfl (by decide) (by decide) (by omega), show (dr_put s 34 (14 * rm_us r + k) (nI c)).1 35 l = nI h from by
        show s.1 35 l = _
        rw [(hd l hlu).1, hhi]
        rfl, m_wrb L 33 3584 rfl (by decide) (by decide) (by omega)]
      refine fin (dr_put (dr_put s 34 (14 * rm_us r + k) (nI c)) 33 (14 * rm_us r + (k - 1)) (nI h)) (dm_put _ _ _ (dm_put _ _ _ (dm_rf s) (by decide)) (by decide)) rfl (fun a h1 h2 => by rw [q_putO h1, q_putO h2]) (fun p hp => ⟨q_updO (by omega), q_updO (by omega)⟩) hc2 (fun i g hi => ?_)
      rw [List.dropLast_concat] at hi
      show upd (s.1 33) (14 * rm_us r + (k - 1)) (nI h) (14 * rm_us r + i) = _
      rw [ec, List.map_append] at hi
      have hll : (cs.dropLast.map (fun d => (dv_hi (rm_dr r d)).getD 0)).length = k - 1 := by rw [List.length_map, List.length_dropLast, hk]
      by_cases e : i < k - 1
      · rw [List.getElem?_append_left (by omega)] at hi
        rw [q_updO (by omega)]
        exact hh i g hi
      · have hlt2 := (List.getElem?_eq_some_iff.mp hi).1
        rw [List.length_append, hll] at hlt2
        have hlt2 : i < k - 1 + 1 := hlt2
        have ei : i = k - 1 := by omega
        rw [List.getElem?_append_right (by omega), hll, ei, Nat.sub_self] at hi
        have hi : some ((dv_hi (rm_dr r l)).getD 0) = some g := hi
        rw [hhi] at hi
        cases hi
        rw [ei, q_updS]
        rfl

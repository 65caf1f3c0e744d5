/-! 97b: crowning the top, of the class -/
theorem row_addH {m : Nat → Int32} {b d h : Nat} {x : sg_D} (hx : rp_row m b d x) (hl : (dv_hs x).length ≤ 2 * b) : rp_row (upd (upd m (dp b d (5 + (dv_hs x).length)) (nI h)) (dp b d 1) (nI ((dv_hs x).length + 1))) b d (dv_lev x, dv_hs x ++ [h], dv_cs x, dv_hi x, dv_th x, dv_la x) := by
  obtain ⟨x0, x1, x2, x3, x4, x5⟩ := hx
  have ne : ∀ k, k ≠ 1 → k ≠ 5 + (dv_hs x).length → upd (upd m (dp b d (5 + (dv_hs x).length)) (nI h)) (dp b d 1) (nI ((dv_hs x).length + 1)) (dp b d k) = m (dp b d k) := fun k h1 h2 => by
    rw [q_updO (fun q => h1 (by unfold dp at q; omega)), q_updO (fun q => h2 (by unfold dp at q; omega))]
  refine ⟨(ne 0 (by omega) (by omega)).trans x0, ?_, (ne 2 (by omega) (by omega)).trans x2, (ne 3 (by omega) (by omega)).trans x3, fun k g hk => ?_, fun hlv k g hk => ?_⟩
  · rw [q_updS]
    show nI ((dv_hs x).length + 1) = nI (dv_hs x ++ [h]).length
    rw [List.length_append]
    rfl
  · have hk : (dv_hs x ++ [h])[k]? = some g := hk
    have hlt := (List.getElem?_eq_some_iff.mp hk).1
    rw [List.length_append] at hlt
    have hlt : k < (dv_hs x).length + 1 := hlt
    by_cases e : k < (dv_hs x).length
    · rw [List.getElem?_append_left e] at hk
      rw [ne (5 + k) (by omega) (by omega)]
      exact x4 k g hk
    · have ek : k = (dv_hs x).length := by omega
      subst ek
      rw [List.getElem?_append_right (Nat.le_refl _), Nat.sub_self] at hk
      cases hk
      rw [q_updO (fun q => by unfold dp at q; omega), q_updS]
  · have hk : (dv_cs x)[k]? = some g := hk
    rw [ne (2 * b + 6 + k) (by omega) (by omega)]
    exact x5 hlv k g hk
theorem row_addC {m : Nat → Int32} {b d c : Nat} {x : sg_D} (hx : rp_row m b d x) (hl : (dv_hs x).length ≤ 2 * b + 1) : rp_row (upd m (dp b d (2 * b + 6 + (dv_cs x).length)) (nI c)) b d (dv_lev x, dv_hs x, dv_cs x ++ [c], dv_hi x, dv_th x, dv_la x) := by
  obtain ⟨x0, x1, x2, x3, x4, x5⟩ := hx
  have ne : ∀ k, k ≠ 2 * b + 6 + (dv_cs x).length → upd m (dp b d (2 * b + 6 + (dv_cs x).length)) (nI c) (dp b d k) = m (dp b d k) := fun k h2 => q_updO (fun q => h2 (by unfold dp at q; omega))
  refine ⟨(ne 0 (by omega)).trans x0, (ne 1 (by omega)).trans x1, (ne 2 (by omega)).trans x2, (ne 3 (by omega)).trans x3, fun k g hk => ?_, fun hlv k g hk => ?_⟩
  · have hk : (dv_hs x)[k]? = some g := hk
    have hlt := (List.getElem?_eq_some_iff.mp hk).1
    rw [ne (5 + k) (by omega)]
    exact x4 k g hk
  · have hk : (dv_cs x ++ [c])[k]? = some g := hk
    have hlt := (List.getElem?_eq_some_iff.mp hk).1
    rw [List.length_append] at hlt
    have hlt : k < (dv_cs x).length + 1 := hlt
    by_cases e : k < (dv_cs x).length
    · rw [List.getElem?_append_left e] at hk
      rw [ne (2 * b + 6 + k) (by omega)]
      exact x5 hlv k g hk
    · have ek : k = (dv_cs x).length := by omega
      subst ek
      rw [List.getElem?_append_right (Nat.le_refl _), Nat.sub_self] at hk
      cases hk
      exact q_updS _ _ _
/-- the loop that gathers children and headings -/
theorem q0_crown_p {ln : Nat → Nat} {r : sg_R} {m0 : Nat → Int32} {lev : Nat} (hw : wf_sz r) (hu : rm_us r < 256) (hrow : ∀ d, d < rm_us r → rp_row m0 (rm_b r) d (rm_dr r d)) (hth : ∀ d, d < rm_us r → ∀ t, dv_th (rm_dr r d) = some t → t < rm_us r ∧ dv_hi (rm_dr r d) ≠ none) : ∀ (j fu k : Nat) (s : dr_S) (o : Option Nat) (cs : List Nat), dq_G (rm_b r) ln s → s.2 204 = 0 → (∀ p, (∀ i, i < 4 * rm_b r + 8 → p ≠ dp (rm_b r) (rm_us r) i) → s.1 14 p = m0 p) → rp_row (s.1 14) (rm_b r) (rm_us r) (lev, cs.dropLast.map (fun d => (dv_hi (rm_dr r d)).getD 0), cs, none, none, none) → s.1 14 (dp (rm_b r) (rm_us r) 4) = -1 → cs.length = k → 2 * rm_b r + 1 = k + j → j < fu → (∀ d, o = some d → d < rm_us r) → (∀ d ∈ cs, d < rm_us r) → (∀ d, cs.getLast? = some d → dv_th (rm_dr r d) = o) →
    ∃ s' g n, f_X0_crownTheTop_p65 ln fu (nO o) (nI (rm_us r)) (nI (2 * rm_b r + 1)) (nO cs.getLast?) (nI k) s = f_X0_crownTheTop_p129 ln (nI (rm_us r)) s' ∧ dq_C s s' g n ∧ (∀ p, (∀ i, i < 4 * rm_b r + 8 → p ≠ dp (rm_b r) (rm_us r) i) → g p = m0 p) ∧ rp_row g (rm_b r) (rm_us r) (lev, (cs ++ sg_chain r j o).dropLast.map (fun d => (dv_hi (rm_dr r d)).getD 0), cs ++ sg_chain r j o, none, none, none) ∧ g (dp (rm_b r) (rm_us r) 4) = -1
  | j, 0, _, _, _, _, _, _, _, _, _, _, _, q, _, _, _ => absurd q (Nat.not_lt_zero _)
  | 0, fu + 1, k, s, o, cs, hG, h204, hout, hx, hx4, hk, hj, hf, ho, hcs, hlast => by
    rw [f_X0_crownTheTop_p65, if_pos (nI_le (by omega) (by have := hw.1; omega)), sg_chain, List.append_nil]
    exact ⟨s, s.1 14, 0, rfl, q_Crf s, hout, hx, hx4⟩
  | j + 1, fu + 1, k, s, none, cs, hG, h204, hout, hx, hx4, hk, hj, hf, ho, hcs, hlast => by
    have hb := hw.1
    rw [f_X0_crownTheTop_p65, if_neg (nI_ge (by omega) (by omega)), if_pos (show nO none = (-1 : Int32) from rfl), sg_chain, List.append_nil]
    exact ⟨s, s.1 14, 0, rfl, q_Crf s, hout, hx, hx4⟩
  | j + 1, fu + 1, k, s, some c, cs, hG, h204, hout, hx, hx4, hk, hj, hf, ho, hcs, hlast => by
    have hb := hw.1
    have hc := ho c rfl
    have hus := hw.2.1
    rw [f_X0_crownTheTop_p65, if_neg (nI_ge (by omega) (by omega)), show nO (some c) = nI c from rfl, if_neg (n1_ne (by omega)), sg_chain]
    have hlenh : (cs.dropLast.map (fun d => (dv_hi (rm_dr r d)).getD 0)).length = k - 1 := by rw [List.length_map, List.length_dropLast, hk]
    have ecs : ∀ l : List Nat, (cs ++ [c]) ++ l = cs ++ (c :: l) := fun l => by rw [List.append_assoc]; rfl
    -- behind the heading, if there is one
    have fin : ∀ (s1 : dr_S), dq_G (rm_b r) ln s1 → s1.2 204 = 0 → (∀ p, (∀ i, i < 4 * rm_b r + 8 → p ≠ dp (rm_b r) (rm_us r) i) → s1.1 14 p = m0 p) → rp_row (s1.1 14) (rm_b r) (rm_us r) (lev, (cs ++ [c]).dropLast.map (fun d => (dv_hi (rm_dr r d)).getD 0), cs, none, none, none) → s1.1 14 (dp (rm_b r) (rm_us r) 4) = -1 → ∃ s' g n, f_X0_crownTheTop_p99 ln (f_X0_crownTheTop_p65 ln fu) (nI c) (nI (rm_us r)) (nI (2 * rm_b r + 1)) (nI k) s1 = f_X0_crownTheTop_p129 ln (nI (rm_us r)) s' ∧ dq_C s1 s' g n ∧ (∀ p, (∀ i, i < 4 * rm_b r + 8 → p ≠ dp (rm_b r) (rm_us r) i) → g p = m0 p) ∧ rp_row g (rm_b r) (rm_us r) (lev, (cs ++ c :: sg_chain r j (dv_th (rm_dr r c))).dropLast.map (fun d => (dv_hi (rm_dr r d)).getD 0), cs ++ c :: sg_chain r j (dv_th (rm_dr r c)), none, none, none) ∧ g (dp (rm_b r) (rm_us r) 4) = -1 := by
      intro s1 G1 z1 out1 row1 la1
      have hll : ((cs ++ [c]).dropLast.map (fun d => (dv_hi (rm_dr r d)).getD 0)).length = k := by rw [List.length_map, List.length_dropLast, List.length_append, hk]; rfl
      obtain ⟨s2, a2, C2⟩ := q4_setChild (d := rm_us r) (k := k) (v := nI c) G1 (by omega) (by omega) (Or.inl z1)
      have row2 := row_addC (c := c) row1 (by show ((cs ++ [c]).dropLast.map _).length ≤ _; omega)
      have e2 : s2.1 14 = upd (s1.1 14) (dp (rm_b r) (rm_us r) (2 * rm_b r + 6 + k)) (nI c) := C2.1
      have row2 : rp_row (s2.1 14) (rm_b r) (rm_us r) (lev, (cs ++ [c]).dropLast.map (fun d => (dv_hi (rm_dr r d)).getD 0), cs ++ [c], none, none, none) := by
        rw [e2, ← hk]
        exact row2
      have G2 := q_GC G1 C2
      have g3 := q4_get (d := c) (k := 3) G2 (by omega) (by omega)
      have v3 : s2.1 14 (dp (rm_b r) c 3) = nO (dv_th (rm_dr r c)) := by
        rw [e2, q_updO (dp_ne (by omega) (by omega) (by omega)), out1 _ (fun i hi => dp_ne (by omega) (by omega) hi)]
        exact (hrow c hc).2.2.2.1
      rw [v3] at g3
      unfold f_X0_crownTheTop_p99
      rw [a2, q_bv, show f_X4_get ln (nI c) 3 s2 = _ from g3, q_bi, q_let, nI_1]
      obtain ⟨s3, g, n, b1, b2, b3, b4, b5⟩ := q0_crown_p (ln := ln) (lev := lev) hw hu hrow hth j fu (k + 1) s2 (dv_th (rm_dr r c)) (cs ++ [c]) G2 (by rw [C2.2.2.1 204 (by decide)]; exact z1) (fun p hp => by rw [e2, q_updO (hp _ (by omega))]; exact out1 p hp) row2 (by rw [e2, q_updO (fun q => by unfold dp at q; omega)]; exact la1) (by rw [List.length_append, hk]; rfl) (by omega) (by omega) (fun d hd => (hth c hc d hd).1) (fun d hd => by
        rcases List.mem_append.mp hd with q | q
        · exact hcs d q
        · rw [List.mem_singleton.mp q]; exact hc) (fun d hd => by
        rw [List.getLast?_append] at hd
        have hd : some c = some d := hd
        cases hd
        rfl)
      have el : (cs ++ [c]).getLast? = some c := by rw [List.getLast?_append]; rfl
      rw [el] at b1
      rw [ecs] at b4
      exact ⟨s3, g, _, b1, q_Ctr C2 b2, b3, b4, b5⟩
    by_cases e0 : k = 0
    · have ecs0 : cs = [] := List.eq_nil_of_length_eq_zero (by omega)
      rw [if_pos (show nI k ≤ 0 by rw [e0]; decide)]
      refine fin s hG h204 hout ?_ hx4
      rw [ecs0] at hx ⊢
      exact hx
    · obtain ⟨l, hl⟩ : ∃ l, cs.getLast? = some l := by
        cases hq : cs.getLast? with
        | none =>
          rw [List.getLast?_eq_none_iff] at hq
          rw [hq] at hk
          exact absurd hk.symm e0
        | some l => exact ⟨l, rfl⟩
      have hlm : l ∈ cs := List.mem_of_getLast? hl
      have hlu := hcs l hlm
      have hlt := hlast l hl
      obtain ⟨h, hh⟩ : ∃ h, dv_hi (rm_dr r l) = some h := by
        cases hq : dv_hi (rm_dr r l) with
        | none => exact absurd hq (hth l hlu c hlt).2
        | some h => exact ⟨h, rfl⟩
      rw [if_neg (show ¬ nI k ≤ 0 from nI_ge (a := 0) (by omega) (by omega)), hl]
      have g2 := q4_get (d := l) (k := 2) hG (by omega) (by omega)
      have v2 : s.1 14 (dp (rm_b r) l 2) = nI h := by
        rw [hout _ (fun i hi => dp_ne (by omega) (by omega) hi), (hrow l hlu).2.2.1, hh]
        rfl
      rw [v2] at g2
      have g2 : f_X4_get ln (nI l) 2 s = some (nI h, s) := g2
      have hz : s.1 14 (dp (rm_b r) (rm_us r) 1) = nI (k - 1) := by rw [← hlenh]; exact hx.2.1
      obtain ⟨s1, a1, C1⟩ := q4_addHeading (d := rm_us r) (z := k - 1) (v := nI h) hG (by omega) hz (by omega) (Or.inl h204)
      rw [show nO (some l) = nI l from rfl, g2, q_bi, a1, q_bv]
      have row1 := row_addH (h := h) hx (by show (cs.dropLast.map _).length ≤ _; omega)
      have eh : cs.dropLast.map (fun d => (dv_hi (rm_dr r d)).getD 0) ++ [h] = (cs ++ [c]).dropLast.map (fun d => (dv_hi (rm_dr r d)).getD 0) := by
        rw [List.dropLast_concat]
        have ec : cs = cs.dropLast ++ [l] := by
          have hne : cs ≠ [] := fun q => by rw [q] at hk; exact e0 hk.symm
          have := List.dropLast_concat_getLast hne
          rw [List.getLast?_eq_some_getLast hne] at hl
          cases hl
          exact this.symm
        conv => rhs; rw [ec, List.map_append]
        show _ ++ [h] = _ ++ [(dv_hi (rm_dr r l)).getD 0]
        rw [hh]
        rfl
      obtain ⟨s2, g, n, b1, b2, b3, b4, b5⟩ := fin s1 (q_GC hG C1) (by rw [C1.2.2.1 204 (by decide)]; exact h204) (fun p hp => by rw [C1.1, q_updO (hp 1 (by omega)), q_updO (hp _ (by omega))]; exact hout p hp) (by
        rw [C1.1, ← hlenh, ← eh]
        have e3 : (dv_hs (lev, cs.dropLast.map (fun d => (dv_hi (rm_dr r d)).getD 0), cs, none, none, none)).length = (cs.dropLast.map (fun d => (dv_hi (rm_dr r d)).getD 0)).length := rfl
        exact row1) (by rw [C1.1, q_updO (fun q => by unfold dp at q; omega), q_updO (fun q => by unfold dp at q; omega)]; exact hx4)
      exact ⟨s2, g, _, b1, q_Ctr C1 b2, b3, b4, b5⟩

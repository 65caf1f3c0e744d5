/-! 97o: the jobs of a heading, of the class -/
def lt_C (s : dr_S) (r : sg_R) (J : List Nat) : Prop := s.2 708 = nI J.length ∧ ∀ k, k < J.length → s.1 20 k = nI (J.getD k 0) ∧ s.1 21 k = nI (jb_ki (lj r J k)) ∧ s.1 22 k = nO (jb_an (lj r J k)) ∧ s.1 23 k = nI (jb_be (lj r J k)) ∧ s.1 24 k = nO (jb_en (lj r J k))
def lq_F (s s1 : dr_S) : Prop := (∀ a, (a < 20 ∨ 26 < a) → s1.1 a = s.1 a) ∧ (∀ f, f ≠ 708 → s1.2 f = s.2 f)
theorem lq_rf (s : dr_S) : lq_F s s := ⟨fun _ _ => rfl, fun _ _ => rfl⟩
theorem lq_tr {s s1 s2 : dr_S} (h1 : lq_F s s1) (h2 : lq_F s1 s2) : lq_F s s2 := ⟨fun a h => (h2.1 a h).trans (h1.1 a h), fun a h => (h2.2 a h).trans (h1.2 a h)⟩
theorem lq_C {ln : Nat → Nat} {s s1 : dr_S} {r : sg_R} (hC : rp_C ln s r) (F : lq_F s s1) : rp_C ln s1 r := rC_fr hC ⟨F.1 14 (by decide), F.1 18 (by decide)⟩ (fun f hf => F.2 f (by
  simp only [List.mem_cons, List.not_mem_nil, or_false] at hf
  omega))
theorem lq_dc {s s1 : dr_S} (F : lq_F s s1) : dc_F s s1 := ⟨fun a ha => F.1 a (by omega), fun f hf => F.2 f (by omega), F.2 204 (by decide), F.2 203 (by decide)⟩
theorem gD1 {l : List Nat} {i k : Nat} (h : k < l.length) : (l ++ [i]).getD k 0 = l.getD k 0 := by rw [List.getD_eq_getElem?_getD, List.getD_eq_getElem?_getD, List.getElem?_append_left h]
theorem gD2 {l : List Nat} {i : Nat} : (l ++ [i]).getD l.length 0 = i := by rw [List.getD_eq_getElem?_getD, List.getElem?_append_right (Nat.le_refl _), Nat.sub_self]; rfl
theorem q7_can_p {ln : Nat → Nat} {r : sg_R} {h : Nat} (hh : h < 10000) (hti : rm_ti r < 2 ^ 30) (hnj : rm_nj r ≤ 120) (hv : ∀ i, i < rm_nj r → iv_jb (rm_ti r) (rm_jb r i)) : ∀ (k fu i : Nat) (s : dr_S) (l : List Nat), rm_nj r = i + k → k < fu → rp_C ln s r → lt_C s r l → l.length ≤ 9 → ∃ s1, f_X7_canBeAsked_p7 ln fu (nI h) (nI i) s = some (bI (l_ask r h k i l).isSome, s1) ∧ lq_F s s1 ∧ ∀ J, l_ask r h k i l = some J → lt_C s1 r J
  | k, 0, _, _, _, _, q, _, _, _ => absurd q (Nat.not_lt_zero _)
  | 0, fu + 1, i, s, l, hk, hf, hC, hl, h9 => by
    have gb := q6_begun hC.1
    rw [hC.2.2.2.2.2.2.2.2.1] at gb
    rw [f_X7_canBeAsked_p7, gb, q_bi, if_pos (nI_le (by omega) (by omega))]
    exact ⟨s, rfl, lq_rf s, fun J e => by cases e; exact hl⟩
  | k + 1, fu + 1, i, s, l, hk, hf, hC, hl, h9 => by
    have gb := q6_begun hC.1
    rw [hC.2.2.2.2.2.2.2.2.1] at gb
    have hi : i < rm_nj r := by omega
    obtain ⟨c1, c2, c3, c4, c5, c6, c7, c8⟩ := hC.2.2.2.2.2.2.2.2.2 i hi
    obtain ⟨v1, v2, v3, v4, v5⟩ := hv i hi
    have G : ∀ (s' : dr_S) (w : Nat), s'.2 = s.2 → s'.1 14 = s.1 14 → w < 8 → f_X6_get ln (nI i) (nI w) s' = some (s.1 14 (jp (rm_b r) i w), s') := by
      intro s' w e1 e2 hw
      have hG : dq_G (rm_b r) ln s' := by
        have := hC.1
        unfold dq_G at this ⊢
        rw [e1]
        exact this
      rw [q6_get hG (by omega) hw, e2]
    rw [f_X7_canBeAsked_p7, gb, q_bi, if_neg (nI_ge (by omega) (by omega)), show f_X6_get ln (nI i) 1 s = _ from G s 1 rfl rfl (by omega), q_bi, c2, l_ask]
    by_cases e : jb_he (rm_jb r i) = h
    · rw [if_pos (show nI (jb_he (rm_jb r i)) = nI h by rw [e]), if_pos e, show f_X6_get ln (nI i) 4 s = _ from G s 4 rfl rfl (by omega), q_bi, c5]
      cases he : jb_en (rm_jb r i) with
      | none =>
        rw [if_pos (show nO none = (-1 : Int32) from rfl), if_neg (by intro q; exact absurd q.1 (by decide))]
        exact ⟨s, rfl, lq_rf s, fun J e => by cases e⟩
      | some x =>
        have hx := (v4 x he).2.1
        rw [if_neg (show ¬ nO (some x) = (-1 : Int32) from n1_ne (by omega)), hl.1, if_neg (nI_pos (by omega))]
        by_cases h8 : l.length < 9
        · have l20 := hC.2.1.2.2.2.2.1 20 (by omega) (by omega)
          have l21 := hC.2.1.2.2.2.2.1 21 (by omega) (by omega)
          have l22 := hC.2.1.2.2.2.2.1 22 (by omega) (by omega)
          have l23 := hC.2.1.2.2.2.2.1 23 (by omega) (by omega)
          have l24 := hC.2.1.2.2.2.2.1 24 (by omega) (by omega)
          rw [if_pos (show nI l.length < 9 from nI_lt (b := 9) h8 (by omega)), if_pos (show (some x).isSome = true ∧ l.length < 9 from ⟨rfl, h8⟩)]
          rw [q_wr (a := 20) (i := l.length) (by omega) (by omega), Option.bind_some, show f_X6_get ln (nI i) 0 _ = _ from G (dr_put s 20 l.length (nI i)) 0 rfl rfl (by omega), q_bi]
          rw [show (dr_put s 20 l.length (nI i)).2 708 = _ from hl.1, q_wr (a := 21) (i := l.length) (by omega) (by omega), Option.bind_some, show f_X6_get ln (nI i) 2 _ = _ from G (dr_put (dr_put s 20 l.length (nI i)) 21 l.length (s.1 14 (jp (rm_b r) i 0))) 2 rfl rfl (by omega), q_bi]
          generalize hS2 : dr_put (dr_put s 20 l.length (nI i)) 21 l.length (s.1 14 (jp (rm_b r) i 0)) = S2
          have a2 : S2.2 = s.2 := by rw [← hS2]; rfl
          have b2 : S2.1 14 = s.1 14 := by rw [← hS2]; rfl
          rw [show S2.2 708 = nI l.length by rw [a2]; exact hl.1, q_wr (a := 22) (i := l.length) (by omega) (by omega), Option.bind_some, show f_X6_get ln (nI i) 3 _ = _ from G (dr_put S2 22 l.length (s.1 14 (jp (rm_b r) i 2))) 3 a2 b2 (by omega), q_bi]
          generalize hS3 : dr_put S2 22 l.length (s.1 14 (jp (rm_b r) i 2)) = S3
          have a3 : S3.2 = s.2 := by rw [← hS3]; exact a2
          have b3 : S3.1 14 = s.1 14 := by rw [← hS3]; exact b2
          rw [show S3.2 708 = nI l.length by rw [a3]; exact hl.1, q_wr (a := 23) (i := l.length) (by omega) (by omega), Option.bind_some, show f_X6_get ln (nI i) 4 _ = _ from G (dr_put S3 23 l.length (s.1 14 (jp (rm_b r) i 3))) 4 a3 b3 (by omega), q_bi]
          generalize hS4 : dr_put S3 23 l.length (s.1 14 (jp (rm_b r) i 3)) = S4
          have a4 : S4.2 = s.2 := by rw [← hS4]; exact a3
          rw [show S4.2 708 = nI l.length by rw [a4]; exact hl.1, q_wr (a := 24) (i := l.length) (by omega) (by omega), Option.bind_some, q_letS]
          generalize hS5 : dr_put S4 24 l.length (s.1 14 (jp (rm_b r) i 4)) = S5
          have a5 : S5.2 = s.2 := by rw [← hS5]; exact a4
          rw [show S5.2 708 = nI l.length by rw [a5]; exact hl.1, nI_1]
          unfold f_X7_canBeAsked_p157
          rw [q_let, nI_1]
          have F : lq_F s (dr_pf S5 708 (nI (l.length + 1))) := by
            refine ⟨fun a ha => ?_, fun f hf => ?_⟩
            · rw [q_pf1, ← hS5, q_putO (by omega), ← hS4, q_putO (by omega), ← hS3, q_putO (by omega), ← hS2, q_putO (by omega), q_putO (by omega)]
            · rw [q_pfO hf, a5]
          have T : lt_C (dr_pf S5 708 (nI (l.length + 1))) r (l ++ [i]) := by
            refine ⟨by rw [q_pf2, List.length_append]; rfl, fun k' hk' => ?_⟩
            rw [List.length_append] at hk'
            have hk' : k' < l.length + 1 := hk'
            have e20 : (dr_pf S5 708 (nI (l.length + 1))).1 20 = upd (s.1 20) l.length (nI i) := by rw [q_pf1, ← hS5, ← hS4, ← hS3, ← hS2]; rfl
            have e21 : (dr_pf S5 708 (nI (l.length + 1))).1 21 = upd (s.1 21) l.length (s.1 14 (jp (rm_b r) i 0)) := by rw [q_pf1, ← hS5, ← hS4, ← hS3, ← hS2]; rfl
            have e22 : (dr_pf S5 708 (nI (l.length + 1))).1 22 = upd (s.1 22) l.length (s.1 14 (jp (rm_b r) i 2)) := by rw [q_pf1, ← hS5, ← hS4, ← hS3, ← hS2]; rfl
            have e23 : (dr_pf S5 708 (nI (l.length + 1))).1 23 = upd (s.1 23) l.length (s.1 14 (jp (rm_b r) i 3)) := by rw [q_pf1, ← hS5, ← hS4, ← hS3, ← hS2]; rfl
            have e24 : (dr_pf S5 708 (nI (l.length + 1))).1 24 = upd (s.1 24) l.length (s.1 14 (jp (rm_b r) i 4)) := by rw [q_pf1, ← hS5, ← hS4, ← hS3, ← hS2]; rfl
            rw [e20, e21, e22, e23, e24]
            unfold lj
            by_cases q : k' = l.length
            · rw [q, q_updS, q_updS, q_updS, q_updS, q_updS, gD2]
              exact ⟨rfl, c1, c3, c4, c5⟩
            · rw [q_updO q, q_updO q, q_updO q, q_updO q, q_updO q, gD1 (by omega)]
              exact hl.2 k' (by omega)
          obtain ⟨s1, z1, z2, z3⟩ := q7_can_p hh hti hnj hv k fu (i + 1) _ (l ++ [i]) (by omega) (by omega) (lq_C hC F) T (by rw [List.length_append]; exact h8)
          exact ⟨s1, z1, lq_tr F z2, z3⟩
        · rw [if_neg (show ¬ nI l.length < 9 from nI_nlt (b := 9) (by omega) (by omega)), if_neg (by intro q; exact h8 q.2)]
          exact ⟨s, rfl, lq_rf s, fun J e => by cases e⟩
    · rw [if_neg (show ¬ nI (jb_he (rm_jb r i)) = nI h from nI_lit (by omega) (by omega) e), if_neg e]
      unfold f_X7_canBeAsked_p157
      rw [q_let, nI_1]
      exact q7_can_p hh hti hnj hv k fu (i + 1) s l (by omega) (by omega) hC hl h9
theorem q7_can {ln : Nat → Nat} {s : dr_S} {r : sg_R} {h : Nat} (hC : rp_C ln s r) (hh : h < 10000) (hti : rm_ti r < 2 ^ 30) (hnj : rm_nj r ≤ 120) (hv : ∀ i, i < rm_nj r → iv_jb (rm_ti r) (rm_jb r i)) : ∃ s1, f_X7_canBeAsked ln (nI h) s = some (bI (l_ask r h (rm_nj r) 0 []).isSome, s1) ∧ lq_F s s1 ∧ ∀ J, l_ask r h (rm_nj r) 0 [] = some J → lt_C s1 r J := by
  have F : lq_F s (dr_pf s 708 0) := ⟨fun a _ => rfl, fun f hf => q_pfO hf⟩
  obtain ⟨s1, z1, z2, z3⟩ := q7_can_p (ln := ln) hh hti hnj hv (rm_nj r) dr_N 0 (dr_pf s 708 0) [] (by omega) (by unfold dr_N; omega) (lq_C hC F) ⟨q_pf2 _ _ _, fun k hk => absurd hk (Nat.not_lt_zero _)⟩ (Nat.zero_le _)
  exact ⟨s1, z1, lq_tr F z2, z3⟩

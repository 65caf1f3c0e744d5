/-! 97r: the jobs of a heading, of the reference -/
def lm_C (s : dr_S) (J : List Nat) : Prop := s.2 1244 = nI J.length ∧ ∀ k, k < J.length → s.1 63 k = nI (J.getD k 0)
def lm_F (s s1 : dr_S) : Prop := (∀ a, a ≠ 63 → a ≠ 64 → s1.1 a = s.1 a) ∧ (∀ f, f ≠ 1244 → s1.2 f = s.2 f)
theorem lm_rf (s : dr_S) : lm_F s s := ⟨fun _ _ _ => rfl, fun _ _ => rfl⟩
theorem lm_tr {s s1 s2 : dr_S} (h1 : lm_F s s1) (h2 : lm_F s1 s2) : lm_F s s2 := ⟨fun a x y => (h2.1 a x y).trans (h1.1 a x y), fun a h => (h2.2 a h).trans (h1.2 a h)⟩
theorem lm_M {ln : Nat → Nat} {s s1 : dr_S} {r : sg_R} (hM : rp_M ln s r) (F : lm_F s s1) : rp_M ln s1 r := rM_fr hM (fun a h1 h2 => F.1 a (by omega) (by omega)) (fun f h1 h2 => F.2 f (by omega))
theorem lm_dm {s s1 : dr_S} (F : lm_F s s1) : dm_F s s1 := ⟨fun a h => F.1 a (by omega) (by omega), fun f h => F.2 f (by omega), fun a h => F.1 a (by omega) (by omega), fun f h => F.2 f (by omega)⟩
theorem qm_can_p {ln : Nat → Nat} {r : sg_R} {h : Nat} (hh : h < 10000) (hti : rm_ti r < 2 ^ 30) (hnj : rm_nj r ≤ 120) (hv : ∀ i, i < rm_nj r → iv_jb (rm_ti r) (rm_jb r i)) : ∀ (k fu i : Nat) (s : dr_S) (l : List Nat), rm_nj r = i + k → k < fu → rp_M ln s r → lm_C s l → l.length ≤ 9 → ∃ s1, f_X12_canBeAsked_p7 ln fu (nI h) (nI i) s = some (bI (l_ask r h k i l).isSome, s1) ∧ lm_F s s1 ∧ ∀ J, l_ask r h k i l = some J → lm_C s1 J
  | k, 0, _, _, _, _, q, _, _, _ => absurd q (Nat.not_lt_zero _)
  | 0, fu + 1, i, s, l, hk, hf, hM, hl, h9 => by
    rw [f_X12_canBeAsked_p7, mM_nj hM, if_pos (nI_le (by omega) (by omega))]
    exact ⟨s, rfl, lm_rf s, fun J e => by cases e; exact hl⟩
  | k + 1, fu + 1, i, s, l, hk, hf, hM, hl, h9 => by
    have L := mM_L hM
    have hi : i < rm_nj r := by omega
    obtain ⟨m1, m2, m3, m4, m5, m6, m7⟩ := mM_jb hM i hi
    obtain ⟨v1, v2, v3, v4, v5⟩ := hv i hi
    rw [f_X12_canBeAsked_p7, mM_nj hM, if_neg (nI_ge (by omega) (by omega)), m_rdb L 51 120 rfl (by decide) (by decide) (by omega), m2, l_ask]
    by_cases e : jb_he (rm_jb r i) = h
    · rw [if_pos (show nI (jb_he (rm_jb r i)) = nI h by rw [e]), if_pos e, m_rdb L 54 120 rfl (by decide) (by decide) (by omega), m5]
      cases he : jb_en (rm_jb r i) with
      | none =>
        rw [if_pos (show nO none = (-1 : Int32) from rfl), if_neg (by intro q; exact absurd q.1 (by decide))]
        exact ⟨s, rfl, lm_rf s, fun J e => by cases e⟩
      | some x =>
        obtain ⟨x1, x2, x3, x4⟩ := v4 x he
        rw [if_neg (show ¬ nO (some x) = (-1 : Int32) from n1_ne (by omega)), m_rdb L 56 120 rfl (by decide) (by decide) (by omega), m7, x3, if_pos (show (if false = true then (1 : Int32) else 0) = 0 by decide), hl.1]
        by_cases h8 : l.length < 9
        · rw [if_neg (show ¬ nI l.length = (9 : Int32) from nI_lit (k := 9) (by omega) (by omega) (by omega)), if_pos (show (some x).isSome = true ∧ l.length < 9 from ⟨rfl, h8⟩), m_wrb L 63 9 rfl (by decide) (by decide) h8, q_letS]
          unfold f_X12_canBeAsked_p78
          rw [show (dr_put s 63 l.length (nI i)).2 1244 = _ from hl.1, nI_1, q_let, nI_1]
          have F : lm_F s (dr_pf (dr_put s 63 l.length (nI i)) 1244 (nI (l.length + 1))) := ⟨fun a x y => by rw [q_pf1, q_putO x], fun f hf => by rw [q_pfO hf, q_put2]⟩
          obtain ⟨s1, z1, z2, z3⟩ := qm_can_p hh hti hnj hv k fu (i + 1) _ (l ++ [i]) (by omega) (by omega) (lm_M hM F) ⟨by rw [q_pf2, List.length_append]; rfl, fun k' hk' => by
            rw [List.length_append] at hk'
            have hk' : k' < l.length + 1 := hk'
            rw [q_pf1, q_put1]
            by_cases q : k' = l.length
            · rw [q, q_updS, gD2]
            · rw [q_updO q, gD1 (by omega)]
              exact hl.2 k' (by omega)⟩ (by rw [List.length_append]; exact h8)
          exact ⟨s1, z1, lm_tr F z2, z3⟩
        · rw [if_pos (show nI l.length = (9 : Int32) by rw [show l.length = 9 by omega]; rfl), if_neg (by intro q; exact h8 q.2)]
          exact ⟨s, rfl, lm_rf s, fun J e => by cases e⟩
    · rw [if_neg (show ¬ nI (jb_he (rm_jb r i)) = nI h from nI_lit (by omega) (by omega) e), if_neg e]
      unfold f_X12_canBeAsked_p78
      rw [q_let, nI_1]
      exact qm_can_p hh hti hnj hv k fu (i + 1) s l (by omega) (by omega) hM hl h9
theorem qm_can {ln : Nat → Nat} {s : dr_S} {r : sg_R} {h : Nat} (hM : rp_M ln s r) (hh : h < 10000) (hti : rm_ti r < 2 ^ 30) (hnj : rm_nj r ≤ 120) (hv : ∀ i, i < rm_nj r → iv_jb (rm_ti r) (rm_jb r i)) : ∃ s1, f_X12_canBeAsked ln (nI h) s = some (bI (l_ask r h (rm_nj r) 0 []).isSome, s1) ∧ lm_F s s1 ∧ ∀ J, l_ask r h (rm_nj r) 0 [] = some J → lm_C s1 J := by
  have F : lm_F s (dr_pf s 1244 0) := ⟨fun a _ _ => rfl, fun f hf => q_pfO hf⟩
  obtain ⟨s1, z1, z2, z3⟩ := qm_can_p (ln := ln) hh hti hnj hv (rm_nj r) dr_N 0 (dr_pf s 1244 0) [] (by omega) (by unfold dr_N; omega) (lm_M hM F) ⟨q_pf2 _ _ _, fun k hk => absurd hk (Nat.not_lt_zero _)⟩ (Nat.zero_le _)
  exact ⟨s1, z1, lm_tr F z2, z3⟩
theorem sm_bd {r : sg_R} {J : List Nat} {S : Nat} : ∀ i : Nat, -(i : Int) ≤ l_sm r J S i ∧ l_sm r J S i ≤ (i : Int)
  | 0 => ⟨Int.le_refl _, Int.le_refl _⟩
  | i + 1 => by
    obtain ⟨a, b⟩ := sm_bd (r := r) (J := J) (S := S) i
    rw [l_sm]
    unfold l_w
    split
    · split
      · omega
      · split <;> omega
    · omega
theorem ti_add {a b : Int32} {x y : Int} (ha : a.toInt = x) (hb : b.toInt = y) (h1 : -1000 ≤ x + y) (h2 : x + y ≤ 1000) : (a + b).toInt = x + y := by
  rw [Int32.toInt_add, ha, hb]
  exact Int.bmod_eq_of_le (by omega) (by omega)
theorem qm_isThere_p {ln : Nat → Nat} {s : dr_S} {r : sg_R} {J : List Nat} {S : Nat} (hM : rp_M ln s r) (hnj : rm_nj r ≤ 120) (hT : lm_C s J) (hJ : l_ok r J) (hS : S < 512) : ∀ (n fu i : Nat) (x : Int32), J.length = i + n → n < fu → x.toInt = l_sm r J S i → f_X12_isThere_p4 ln fu (nI S) x (nI i) s = some (bI (decide (0 < l_sm r J S J.length)), s)
  | n, 0, _, _, _, q, _ => absurd q (Nat.not_lt_zero _)
  | 0, fu + 1, i, x, hi, hf, hx => by
    have := hJ.1
    have e : i = J.length := by omega
    rw [f_X12_isThere_p4, hT.1, if_pos (nI_le (by omega) (by omega)), ← e, ← hx]
    by_cases q : x ≤ 0
    · rw [if_pos q]
      rw [Int32.le_iff_toInt_le] at q
      have e0 : (0 : Int32).toInt = 0 := rfl
      rw [decide_eq_false (by omega)]
      rfl
    · rw [if_neg q]
      rw [Int32.le_iff_toInt_le] at q
      have e0 : (0 : Int32).toInt = 0 := rfl
      rw [decide_eq_true (by omega)]
      rfl
  | n + 1, fu + 1, i, x, hi, hf, hx => by
    have h9 := hJ.1
    have L := mM_L hM
    have ih := fun y => qm_isThere_p hM hnj hT hJ hS n fu (i + 1) y (by omega) (by omega)
    obtain ⟨j1, j2, j3, j4, j5, j6⟩ := hJ.2 i (by omega)
    have t63 := hT.2 i (by omega)
    obtain ⟨m1, m2, m3, m4, m5, m6, m7⟩ := mM_jb hM (J.getD i 0) j1
    have bd := sm_bd (r := r) (J := J) (S := S) i
    rw [f_X12_isThere_p4, hT.1, if_neg (nI_ge (by omega) (by omega)), b_sh hS (show i < 9 by omega)]
    unfold f_X12_isThere_p79 f_X12_isThere_p77 f_X12_isThere_p79
    cases hb : S.testBit i with
    | false =>
      rw [if_pos (by decide), q_let, nI_1]
      exact ih x (by rw [l_sm, hb, hx]; show _ = l_sm r J S i + 0; omega)
    | true =>
      rw [if_neg (by decide), m_rdb L 63 9 rfl (by decide) (by decide) (by omega), t63, m_rdb L 52 120 rfl (by decide) (by decide) (by omega), m3]
      rcases j6 with e | e
      · have e' : jb_an (rm_jb r (J.getD i 0)) = some 0 := e
        rw [e', if_pos (show nO (some 0) = (0 : Int32) from rfl), q_let, nI_1]
        exact ih x (by rw [l_sm, hb, hx]; unfold l_an; rw [e]; show _ = l_sm r J S i + 0; omega)
      · have e' : jb_an (rm_jb r (J.getD i 0)) = some 1 := e
        rw [e', if_neg (show ¬ nO (some 1) = (0 : Int32) by decide), m_rdb L 63 9 rfl (by decide) (by decide) (by omega), t63, m_rdb L 50 120 rfl (by decide) (by decide) (by omega), m1, m_rdb L 63 9 rfl (by decide) (by decide) (by omega), t63, m_rdb L 50 120 rfl (by decide) (by decide) (by omega), m1]
        have sv : ∀ w : Int, l_w r J i = w → l_sm r J S (i + 1) = l_sm r J S i + w := by
          intro w hw
          rw [l_sm, hb]
          unfold l_an
          rw [e, ← hw]
          rfl
        have hki : jb_ki (rm_jb r (J.getD i 0)) ≤ 2 := j2
        have hw : l_w r J i = if jb_ki (rm_jb r (J.getD i 0)) = 1 then 1 else if jb_ki (rm_jb r (J.getD i 0)) = 2 then -1 else 0 := rfl
        by_cases k1 : jb_ki (rm_jb r (J.getD i 0)) = 1
        · rw [if_pos (show nI (jb_ki (rm_jb r (J.getD i 0))) = (1 : Int32) by rw [k1]; rfl), q_let, q_let, nI_1]
          rw [if_pos k1] at hw
          exact ih _ (by rw [sv 1 hw]; exact ti_add hx rfl (by omega) (by omega))
        · rw [if_neg (show ¬ nI (jb_ki (rm_jb r (J.getD i 0))) = (1 : Int32) from nI_lit (k := 1) (by omega) (by omega) k1)]
          rw [if_neg k1] at hw
          by_cases k2 : jb_ki (rm_jb r (J.getD i 0)) = 2
          · rw [if_pos (show nI (jb_ki (rm_jb r (J.getD i 0))) = (2 : Int32) by rw [k2]; rfl), q_let, q_let, nI_1]
            rw [if_pos k2] at hw
            exact ih _ (by rw [sv (-1) hw]; exact ti_add hx rfl (by omega) (by omega))
          · rw [if_neg (show ¬ nI (jb_ki (rm_jb r (J.getD i 0))) = (2 : Int32) from nI_lit (k := 2) (by omega) (by omega) k2), q_let, q_let, nI_1]
            rw [if_neg k2] at hw
            exact ih _ (by rw [sv 0 hw]; exact ti_add hx rfl (by omega) (by omega))
theorem qm_may_p {ln : Nat → Nat} {s : dr_S} {r : sg_R} {J : List Nat} {S k : Nat} (hM : rp_M ln s r) (hnj : rm_nj r ≤ 120) (hti : rm_ti r < 2 ^ 30) (hT : lm_C s J) (hJ : l_ok r J) (hS : S < 512) (hk : k < J.length) : ∀ (n fu i : Nat), J.length = i + n → n < fu → f_X12_mayCome_p21 ln fu (nI S) (nI k) (nI (J.getD k 0)) (nI i) s = some (bI (l_nf r J S k n i && l_right r J (decide (0 < l_sm r J S J.length)) k), s)
  | n, 0, _, _, q => absurd q (Nat.not_lt_zero _)
  | 0, fu + 1, i, hi, hf => by
    have h9 := hJ.1
    have L := mM_L hM
    obtain ⟨k1, k2, k3, k4, k5, k6⟩ := hJ.2 k hk
    obtain ⟨m1, m2, m3, m4, m5, m6, m7⟩ := mM_jb hM (J.getD k 0) k1
    have eT : f_X12_isThere ln (nI S) s = some (bI (decide (0 < l_sm r J S J.length)), s) := qm_isThere_p hM hnj hT hJ hS J.length dr_N 0 0 (by omega) (by unfold dr_N; omega) rfl
    rw [f_X12_mayCome_p21, hT.1, if_pos (nI_le (by omega) (by omega)), eT, q_bi, m_rdb L 52 120 rfl (by decide) (by decide) (by omega), m_rdb L 50 120 rfl (by decide) (by decide) (by omega), m1, m3]
    unfold f_X12_mayCome_p110 f_X12_mayCome_p114 f_X12_mayCome_p115 l_right l_an l_nf
    have hki : jb_ki (rm_jb r (J.getD k 0)) ≤ 2 := k2
    show _ = some (bI (true && (decide (jb_an (rm_jb r (J.getD k 0)) = some 1) == (decide (0 < l_sm r J S J.length) != decide (jb_ki (rm_jb r (J.getD k 0)) = 1)))), s)
    have k6 : jb_an (rm_jb r (J.getD k 0)) = some 0 ∨ jb_an (rm_jb r (J.getD k 0)) = some 1 := k6
    generalize decide (0 < l_sm r J S J.length) = th at *
    generalize jb_ki (rm_jb r (J.getD k 0)) = x at *
    have hx : x = 0 ∨ x = 1 ∨ x = 2 := by omega
    rcases k6 with e | e <;> rw [e] <;> rcases hx with z | z | z <;> subst z <;> cases th <;> rfl
  | n + 1, fu + 1, i, hi, hf => by
    have h9 := hJ.1
    have L := mM_L hM
    have ih := qm_may_p hM hnj hti hT hJ hS hk n fu (i + 1) (by omega) (by omega)
    obtain ⟨k1, k2, k3, k4, k5, k6⟩ := hJ.2 k hk
    obtain ⟨_, _, _, m4, _, _, _⟩ := mM_jb hM (J.getD k 0) k1
    obtain ⟨j1, j2, j3, j4, j5, j6⟩ := hJ.2 i (by omega)
    obtain ⟨_, _, _, _, n5, _, _⟩ := mM_jb hM (J.getD i 0) j1
    have t63 := hT.2 i (by omega)
    rw [f_X12_mayCome_p21, hT.1, if_neg (nI_ge (by omega) (by omega)), l_nf]
    unfold f_X12_mayCome_p68
    by_cases e : i = k
    · rw [if_pos (by rw [e]), q_let, nI_1, ih, e, decide_eq_true k3, Bool.or_true, Bool.true_and]
    · rw [if_neg (show ¬ nI i = nI k from nI_lit (by omega) (by omega) e), b_sh hS (show i < 9 by omega)]
      cases hb : S.testBit i with
      | true =>
        rw [if_neg (by decide), q_let, nI_1, ih, Bool.true_or, Bool.true_and]
      | false =>
        rw [if_pos (by decide), m_rdb L 63 9 rfl (by decide) (by decide) (by omega), t63, m_rdb L 54 120 rfl (by decide) (by decide) (by omega), m_rdb L 53 120 rfl (by decide) (by decide) (by omega), n5, m4, show nO (jb_en (rm_jb r (J.getD i 0))) = nI (l_en r J i) from congrArg nO j5, Bool.false_or]
        have k4' : jb_be (rm_jb r (J.getD k 0)) < 2 ^ 30 := by
          have : jb_be (rm_jb r (J.getD k 0)) < l_en r J k := k3
          omega
        by_cases q : jb_be (lj r J k) < l_en r J i
        · rw [if_pos (show nI (jb_be (rm_jb r (J.getD k 0))) < nI (l_en r J i) from nI_lt q (by omega)), q_let, nI_1, ih, decide_eq_true q, Bool.true_and]
        · rw [if_neg (show ¬ nI (jb_be (rm_jb r (J.getD k 0))) < nI (l_en r J i) from nI_nlt (by have : ¬ jb_be (rm_jb r (J.getD k 0)) < l_en r J i := q; omega) (by omega)), decide_eq_false q, Bool.false_and, Bool.false_and]
          rfl
theorem qm_may {ln : Nat → Nat} {s : dr_S} {r : sg_R} {J : List Nat} {S k : Nat} (hM : rp_M ln s r) (hnj : rm_nj r ≤ 120) (hti : rm_ti r < 2 ^ 30) (hT : lm_C s J) (hJ : l_ok r J) (hS : S < 512) (hk : k < J.length) : f_X12_mayCome ln (nI S) (nI k) s = some (bI (l_mr r J S k), s) := by
  have h9 := hJ.1
  have L := mM_L hM
  unfold f_X12_mayCome l_mr
  rw [m_rdb L 63 9 rfl (by decide) (by decide) (by omega), hT.2 k hk, b_sh hS (show k < 9 by omega)]
  cases hb : S.testBit k with
  | true =>
    rw [if_pos (by decide)]
    rfl
  | false =>
    rw [if_neg (by decide), show f_X12_mayCome_p21 ln dr_N (nI S) (nI k) (nI (J.getD k 0)) 0 s = _ from qm_may_p hM hnj hti hT hJ hS hk J.length dr_N 0 (by omega) (by unfold dr_N; omega)]
    rfl

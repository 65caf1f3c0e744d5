/-! 97l: the call rule -/
theorem rM_rule {ln : Nat → Nat} {s s1 : dr_S} {r : sg_R} {ru : List (Nat × Bool)} (h : rp_M ln s r) (ha : ∀ a, 30 ≤ a → a < 60 → s1.1 a = s.1 a) (hf : ∀ f, f ≠ 1201 → f ≠ 1240 → s1.2 f = s.2 f) (hru : rp_mru s1 ru) : rp_M ln s1 (sg_sR r ru) := by
  unfold rp_M rp_mrow rp_mck rp_mrow
  rw [hf 1200 (by decide) (by decide), hf 1204 (by decide) (by decide), hf 1205 (by decide) (by decide), hf 1226 (by decide) (by decide), hf 1234 (by decide) (by decide), ha 30 (by decide) (by decide), ha 31 (by decide) (by decide), ha 32 (by decide) (by decide), ha 33 (by decide) (by decide), ha 34 (by decide) (by decide), ha 35 (by decide) (by decide), ha 36 (by decide) (by decide), ha 37 (by decide) (by decide), ha 38 (by decide) (by decide), ha 39 (by decide) (by decide), ha 40 (by decide) (by decide), ha 41 (by decide) (by decide), ha 42 (by decide) (by decide), ha 43 (by decide) (by decide), ha 44 (by decide) (by decide), ha 45 (by decide) (by decide), ha 46 (by decide) (by decide), ha 47 (by decide) (by decide), ha 48 (by decide) (by decide), ha 49 (by decide) (by decide), ha 50 (by decide) (by decide), ha 51 (by decide) (by decide), ha 52 (by decide) (by decide), ha 53 (by decide) (by decide), ha 54 (by decide) (by decide), ha 55 (by decide) (by decide), ha 56 (by decide) (by decide), ha 57 (by decide) (by decide), ha 58 (by decide) (by decide), ha 59 (by decide) (by decide)]
  exact ⟨h.1, h.2.1, hru, h.2.2.2⟩
theorem qm_copy_p {ln : Nat → Nat} {ru : List (Nat × Bool)} (L : dq_ML ln) (hl : ru.length ≤ 4) : ∀ (k fu i : Nat) (s : dr_S), ru.length = i + k → k < fu → s.2 1201 = nI ru.length → (∀ (j d : Nat) (g : Bool), ru[j]? = some (d, g) → s.1 60 j = nI d ∧ s.1 61 j = (if g then 1 else 0)) → ∃ s1, f_X12_rule_p219 ln fu (nI i) s = some (-1, s1) ∧ s1.2 = s.2 ∧ (∀ a, a ≠ 28 → a ≠ 29 → s1.1 a = s.1 a) ∧ (∀ (j d : Nat) (g : Bool), ru[j]? = some (d, g) → i ≤ j → s1.1 28 j = nI d ∧ s1.1 29 j = (if g then 1 else 0)) ∧ (∀ j, j < i → s1.1 28 j = s.1 28 j ∧ s1.1 29 j = s.1 29 j)
  | k, 0, _, _, _, q, _, _ => absurd q (Nat.not_lt_zero _)
  | 0, fu + 1, i, s, hk, hf, h1, h2 => by
    rw [f_X12_rule_p219, h1, if_pos (nI_le (by omega) (by omega))]
    refine ⟨s, rfl, rfl, fun _ _ _ => rfl, fun j d g hj hij => ?_, fun j _ => ⟨rfl, rfl⟩⟩
    have := (List.getElem?_eq_some_iff.mp hj).1
    omega
  | k + 1, fu + 1, i, s, hk, hf, h1, h2 => by
    have hi : i < ru.length := by omega
    have he : ru[i]? = some ru[i] := List.getElem?_eq_getElem hi
    generalize ru[i] = e at he
    obtain ⟨v60, v61⟩ := h2 i e.1 e.2 he
    rw [f_X12_rule_p219, h1, if_neg (nI_ge (by omega) (by omega)), m_rdb L 60 4 rfl (by decide) (by decide) (by omega), v60, m_wrb L 28 4 rfl (by decide) (by decide) (by omega), m_rdb L 61 4 rfl (by decide) (by decide) (by omega), show (dr_put s 28 i (nI e.1)).1 61 i = _ from v61, m_wzb L 29 4 rfl (by decide) (by decide) (by omega), q_let, nI_1]
    have ez : vp_nar .boolean (if e.2 then (1 : Int32) else 0) = (if e.2 then 1 else 0) := by cases e.2 <;> rfl
    rw [ez]
    obtain ⟨s1, a1, a2, a3, a4, a5⟩ := qm_copy_p L hl k fu (i + 1) (dr_put (dr_put s 28 i (nI e.1)) 29 i (if e.2 then 1 else 0)) (by omega) (by omega) h1 h2
    refine ⟨s1, a1, a2, fun a x y => by rw [a3 a x y, q_putO y, q_putO x], fun j d g hj hij => ?_, fun j hj => ?_⟩
    · by_cases ej : j = i
      · rw [ej, he] at hj
        cases hj
        obtain ⟨b1, b2⟩ := a5 i (by omega)
        rw [ej, b1, b2]
        exact ⟨q_updS _ _ _, q_updS _ _ _⟩
      · exact a4 j d g hj (by omega)
    · obtain ⟨b1, b2⟩ := a5 j (by omega)
      rw [b1, b2]
      exact ⟨q_updO (by omega), q_updO (by omega)⟩
theorem ps_le {by' : Nat → Nat} : ∀ (k i : Nat) (st : Option (Option Nat)) (ru : List (Nat × Bool)) (p : Nat), (sg_ps by' k i st ru).1 = some p → p ≤ i + k
  | 0, i, st, ru, p, h => by
    rw [sg_ps] at h
    split at h
    · cases h
    · cases h
      exact Nat.le_refl _
  | k + 1, i, st, ru, p, h => by
    have ih := fun a b => ps_le (by' := by') k (i + 1) a b p
    rw [sg_ps_s] at h
    split at h
    · have := ih _ _ h
      omega
    · cases st with
      | none =>
        cases h
        omega
      | some st =>
        cases st with
        | none =>
          dsimp only at h
          split at h
          · have := ih _ _ h
            omega
          · split at h
            · have := ih _ _ h
              omega
            · cases h
              omega
        | some x =>
          dsimp only at h
          split at h
          · have := ih _ _ h
            omega
          · cases h
            omega
def ps_v : Option Nat → Int32
  | some p => nI p
  | none => -1
theorem ok_rule {ln : Nat → Nat} {s : dr_S} {r : sg_R} (h : rr ln s r) (x a b c d e : Int32) : call_ok ln (f_X11_rule ln x a b c d e) (f_X12_rule ln x a b c d e) s r := by
  have h0 := h
  obtain ⟨hC, hM, ⟨hiv, hi2⟩, h204, h203⟩ := h
  have hiv0 := hiv
  obtain ⟨rk, t, st, hp, hT, hcn⟩ := hiv
  have L := mM_L hM
  have hnj := st.1.2.2.1
  have l17 : ln 17 = 5 := hC.2.1.2.2.1
  have l19 : ln 19 = 4 := hC.2.1.2.2.2.1
  have l18 : ln 18 = 4 := hC.2.1.1
  rcases in_cases x 20 (by omega) with ⟨g, g2⟩ | ⟨n, hn, en, g2⟩
  · refine call_ro h0 (-2) ?_ ?_
    · unfold f_X11_rule
      rcases g with g | g
      · rw [if_pos g]
      · rw [if_neg (nI_gex (n := 21) (by omega) g), if_neg (show ¬ x ≤ 20 from le_lit (n := 20) (by omega) g)]
    · unfold f_X12_rule
      rw [show f_X12_in ln x 0 20 s = _ from g2 ln s, q_bi, if_pos rfl]
  · -- the class
    generalize hH : dr_pf (dr_put (dr_put (dr_put (dr_put (dr_put s 17 0 a) 17 1 b) 17 2 c) 17 3 d) 17 4 e) 504 0 = H
    have Ha : ∀ k, k ≠ 17 → H.1 k = s.1 k := fun k hk => by rw [← hH, q_pf1, q_putO hk, q_putO hk, q_putO hk, q_putO hk, q_putO hk]
    have Hf : ∀ f, f ≠ 504 → H.2 f = s.2 f := fun f hf => by rw [← hH, q_pfO hf]; rfl
    have H5 : H.2 504 = nI 0 := by rw [← hH, q_pf2]; rfl
    have Hw : ∀ j, j < 5 → H.1 17 j = sg_w5 a b c d e j := by
      intro j hj
      rw [← hH]
      show upd (upd (upd (upd (upd (s.1 17) 0 a) 1 b) 2 c) 3 d) 4 e j = _
      have hjs : j = 0 ∨ j = 1 ∨ j = 2 ∨ j = 3 ∨ j = 4 := by omega
      rcases hjs with z | z | z | z | z <;> subst z <;> rfl
    have hear : f_X5_hear ln a b c d e s = some (0, dr_put (dr_put (dr_put (dr_put (dr_put s 17 0 a) 17 1 b) 17 2 c) 17 3 d) 17 4 e) := by
      unfold f_X5_hear
      rw [show (0 : Int32) = nI 0 from rfl, q_wr (i := 0) (by omega) (by omega), Option.bind_some, show (1 : Int32) = nI 1 from rfl, q_wr (i := 1) (by omega) (by omega), Option.bind_some, show (2 : Int32) = nI 2 from rfl, q_wr (i := 2) (by omega) (by omega), Option.bind_some, show (3 : Int32) = nI 3 from rfl, q_wr (i := 3) (by omega) (by omega), Option.bind_some, show (4 : Int32) = nI 4 from rfl, q_wr (i := 4) (by omega) (by omega), Option.bind_some]
    have ps0 : ps_ok (some none) [] := ⟨List.nodup_nil, fun y hy => (by cases hy), fun y hy => (by cases hy)⟩
    obtain ⟨s1, F1, a1, a2⟩ := q5_fault_p (ln := ln) (n := n) (w := sg_w5 a b c d e) l17 l19 (by omega) n dr_N 0 H (some none) [] (by omega) (by unfold dr_N; omega) ps0 ⟨H5, fun i y z hi => (by cases hi), fun y hy => (by cases hy)⟩ Hw
    have hrl := ps_rl (by' := sg_by (sg_w5 a b c d e)) n 0 (some none) [] ps0
    have hrlk : rl_ok (sg_ps (sg_by (sg_w5 a b c d e)) n 0 (some none) []).2 := ⟨(ps_len hrl).1, fun i y z hi => hrl.2.1 _ (List.mem_of_getElem? hi)⟩
    have e11 : f_X11_rule ln x a b c d e s = (if ps_v (sg_ps (sg_by (sg_w5 a b c d e)) n 0 (some none) []).1 = (-1) then dr_bnd (f_X6_begun ln s1) (fun r5 s4 => (if r5 = 0 then dr_bndv (f_X5_keepWhatWasRead ln s4) (fun s6 => some (ps_v (sg_ps (sg_by (sg_w5 a b c d e)) n 0 (some none) []).1, s6)) else some (ps_v (sg_ps (sg_by (sg_w5 a b c d e)) n 0 (some none) []).1, s4))) else some (ps_v (sg_ps (sg_by (sg_w5 a b c d e)) n 0 (some none) []).1, s1)) := by
      unfold f_X11_rule f_X5_faultOf
      rw [en, if_neg (nI_pos (by omega)), if_pos (show nI n ≤ 20 from nI_le (b := 20) (by omega) (by omega)), hear, q_bv, q_letS, hH, show f_X5_faultOf_p9 ln dr_N (nI n) 0 0 H = some (ps_v (sg_ps (sg_by (sg_w5 a b c d e)) n 0 (some none) []).1, s1) from a1, q_bi]
    have C1 : rp_C ln s1 r := rC_fr hC ⟨by rw [F1.1 14 (by decide), Ha 14 (by decide)], by rw [F1.1 18 (by decide), Ha 18 (by decide)]⟩ (fun f hf => by
      have : f ≠ 504 := by
        simp only [List.mem_cons, List.not_mem_nil, or_false] at hf
        omega
      rw [F1.2 f this, Hf f this])
    have D1 : dc_F s s1 := ⟨fun k hk => by rw [F1.1 k (by omega), Ha k (by omega)], fun f hf => by rw [F1.2 f (by omega), Hf f (by omega)], by rw [F1.2 204 (by decide), Hf 204 (by decide)], by rw [F1.2 203 (by decide), Hf 203 (by decide)]⟩
    -- the reference, from any state alike
    have e12 : ∀ s', rp_M ln s' r → ∃ s2, rl_F s' s2 ∧ rl_M s2 (sg_ps (sg_by (sg_w5 a b c d e)) n 0 (some none) []).2 ∧ f_X12_rule ln x a b c d e s' = (match (sg_ps (sg_by (sg_w5 a b c d e)) n 0 (some none) []).1 with | some p => some (nI p, s2) | none => (if (s2.2 1226) ≤ 0 then dr_letS (dr_pf s2 1201 (s2.2 1240)) (fun s4 => (f_X12_rule_p219 ln dr_N 0 s4)) else some ((-1), s2))) := by
      intro s' hM'
      obtain ⟨s2, b1, b2, b3⟩ := qm_rule_p (ln := ln) (n := n) (a := a) (b := b) (c := c) (d := d) (e := e) L (by omega) n dr_N 0 (dr_pf s' 1240 0) (some none) [] (by omega) (by unfold dr_N; omega) ps0 ⟨q_pf2 _ _ _, fun i y z hi => (by cases hi)⟩
      refine ⟨s2, rl_tr (show rl_F s' (dr_pf s' 1240 0) from ⟨fun k _ _ => rfl, fun f hf => q_pfO hf⟩) b1, b2, ?_⟩
      unfold f_X12_rule
      rw [show f_X12_in ln x 0 20 s' = _ from g2 ln s', q_bi, if_neg (by decide), q_letS, en]
      exact b3
    have gb := q6_begun C1.1
    rw [C1.2.2.2.2.2.2.2.2.1] at gb
    have rl_dm : ∀ {u v : dr_S}, rl_F u v → dm_F u v := fun F => ⟨fun k hk => F.1 k (by omega) (by omega), fun f hf => F.2 f (by omega), fun k hk => F.1 k (by omega) (by omega), fun f hf => F.2 f (by omega)⟩
    have rl_rM : ∀ {u v : dr_S}, rl_F u v → rp_M ln u r → rp_M ln v r := fun F hu => rM_fr hu (fun k h1 h2 => F.1 k (by omega) (by omega)) (fun f h1 h2 => F.2 f (by omega))
    have hle := fun p => ps_le (by' := sg_by (sg_w5 a b c d e)) n 0 (some none) [] p
    generalize sg_ps (sg_by (sg_w5 a b c d e)) n 0 (some none) [] = R at *
    cases hR : R.1 with
    | some p =>
      rw [hR] at e11
      have hp2 := hle p hR
      have e11 : f_X11_rule ln x a b c d e s = some (nI p, s1) := by
        rw [e11]
        exact if_neg (n1_ne (by omega))
      refine call_mk h0 e11 D1 C1 (fun hM1 => ?_) ⟨hiv0, hi2⟩
      obtain ⟨s2, b1, b2, b3⟩ := e12 s1 hM1
      rw [hR] at b3
      exact ⟨s2, b3, rl_dm b1, rl_rM b1 hM1⟩
    | none =>
      rw [hR] at e11
      have a2 := a2 hR
      have e11 : f_X11_rule ln x a b c d e s = (if nI (rm_nj r) = (0 : Int32) then dr_bndv (f_X5_keepWhatWasRead ln s1) (fun s6 => some ((-1), s6)) else some ((-1), s1)) := by
        rw [e11, gb]
        exact if_pos rfl
      by_cases hz : rm_nj r = 0
      · rw [hz, if_pos (show nI 0 = (0 : Int32) from rfl)] at e11
        have hkeep : f_X5_keepWhatWasRead ln s1 = some (0, dr_pf (dr_set s1 18 (va_cpy (s1.1 19) (s1.1 18) 0 0 4)) 503 (nI R.2.length)) := by
          unfold f_X5_keepWhatWasRead
          have ecp : dr_cp ln s1 19 18 0 0 4 = some (dr_set s1 18 (va_cpy (s1.1 19) (s1.1 18) 0 0 4)) := by
            unfold dr_cp
            rw [l19, l18]
            rfl
          rw [ecp, Option.bind_some, q_letS]
          have e504 : s1.2 504 = nI R.2.length := a2.1
          rw [show (dr_set s1 18 (va_cpy (s1.1 19) (s1.1 18) 0 0 4)).2 504 = s1.2 504 from rfl, e504]
        rw [hkeep, q_bv] at e11
        generalize hK : dr_pf (dr_set s1 18 (va_cpy (s1.1 19) (s1.1 18) 0 0 4)) 503 (nI R.2.length) = K at e11
        have Ka : ∀ k, k ≠ 18 → K.1 k = s1.1 k := fun k hk => by
          rw [← hK, q_pf1]
          show (if k = 18 then _ else s1.1 k) = _
          rw [if_neg hk]
        have Kf : ∀ f, f ≠ 503 → K.2 f = s1.2 f := fun f hf => by
          rw [← hK, q_pfO hf]
          rfl
        have K18 : ∀ j, j < 4 → K.1 18 j = s1.1 19 j := fun j hj => by
          rw [← hK, q_pf1]
          show va_cpy (s1.1 19) (s1.1 18) 0 0 4 j = _
          rw [pk_cpy_in (Nat.zero_le _) (by omega), Nat.zero_add, Nat.sub_zero]
        have K5 : K.2 503 = nI R.2.length := by rw [← hK, q_pf2]
        have hruC : rp_rule K R.2 := ⟨K5, fun i y z hi => by
          have hlt := (List.getElem?_eq_some_iff.mp hi).1
          have := hrlk.1
          rw [K18 i (by omega)]
          exact a2.2.1 i y z hi⟩
        have CK : rp_C ln K (sg_sR r R.2) := by
          obtain ⟨c1, c2, c3, c4⟩ := C1
          refine ⟨?_, c2, hruC, by rw [Ka 14 (by decide)]; exact c4⟩
          obtain ⟨d1, d2, d3, d4, d5, d6, d7, d8, d9, d10, d11⟩ := c1
          exact ⟨d1, d2, (Kf 402 (by decide)).trans d3, (Kf 403 (by decide)).trans d4, (Kf 404 (by decide)).trans d5, (Kf 405 (by decide)).trans d6, (Kf 406 (by decide)).trans d7, (Kf 301 (by decide)).trans d8, (Kf 601 (by decide)).trans d9, (Kf 602 (by decide)).trans d10, (Kf 603 (by decide)).trans d11⟩
        have DK : dc_F s K := dc_tr D1 ⟨fun k hk => Ka k (by omega), fun f hf => Kf f (by omega), Kf 204 (by decide), Kf 203 (by decide)⟩
        refine call_mk h0 e11 DK CK (fun hM1 => ?_) ⟨iv_rule hiv0 hrlk, hi2⟩
        obtain ⟨s2, b1, b2, b3⟩ := e12 K hM1
        rw [hR] at b3
        have hM2 := rl_rM b1 hM1
        have b3 : f_X12_rule ln x a b c d e K = f_X12_rule_p219 ln dr_N 0 (dr_pf s2 1201 (nI R.2.length)) := by
          rw [b3]
          show (if s2.2 1226 ≤ 0 then _ else _) = _
          rw [mM_nj hM2, hz, if_pos (by decide), q_letS, b2.1]
        obtain ⟨s3, f1, f2, f3, f4, f5⟩ := qm_copy_p (ln := ln) L (ps_len hrl).1 R.2.length dr_N 0 (dr_pf s2 1201 (nI R.2.length)) (by omega) (by have := (ps_len hrl).1; unfold dr_N; omega) (q_pf2 _ _ _) b2.2
        refine ⟨s3, b3.trans f1, ?_, ?_⟩
        · have F3 : dm_F s2 s3 := ⟨fun k hk => f3 k (by omega) (by omega), fun f hf => by rw [f2, q_pfO (by omega)], fun k hk => f3 k (by omega) (by omega), fun f hf => by rw [f2, q_pfO (by omega)]⟩
          exact dm_tr (rl_dm b1) F3
        · refine rM_rule hM1 (fun k h1 h2 => ?_) (fun f h1 h2 => ?_) ⟨by rw [f2, q_pf2], fun i y z hi => f4 i y z hi (Nat.zero_le _)⟩
          · rw [f3 k (by omega) (by omega)]
            exact b1.1 k (by omega) (by omega)
          · rw [f2, q_pfO h1]
            exact b1.2 f h2
      · rw [if_neg (show ¬ nI (rm_nj r) = (0 : Int32) from nI_lit (k := 0) (by omega) (by omega) hz)] at e11
        refine call_mk h0 e11 D1 C1 (fun hM1 => ?_) ⟨hiv0, hi2⟩
        obtain ⟨s2, b1, b2, b3⟩ := e12 s1 hM1
        rw [hR] at b3
        have hM2 := rl_rM b1 hM1
        refine ⟨s2, ?_, rl_dm b1, hM2⟩
        rw [b3]
        show (if s2.2 1226 ≤ 0 then _ else _) = _
        rw [mM_nj hM2, if_neg (show ¬ nI (rm_nj r) ≤ 0 from nI_ge (a := 0) (by omega) (by omega))]

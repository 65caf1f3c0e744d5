/-! 97q: the class's search for an order -/
theorem q7_go_i {ln : Nat → Nat} {r : sg_R} {J : List Nat} {n S : Nat} {rc : Int32 → Int32 → Int32 → dr_S → Option (Int32 × dr_S)} (hln : (∀ i, 20 ≤ i → i ≤ 25 → ln i = 9) ∧ ln 26 = 16) (hJ : l_ok r J) (hti : rm_ti r < 2 ^ 30) (hS : S < 2 ^ J.length) (hn : cm S J.length = n + 1) (hrc : go_ok r J n rc) : ∀ (j fu i : Nat) (s : dr_S), J.length = i + j → j < fu → lt_C s r J → dd_ok s r J → ((List.range' 0 i).any (fun k => l_mc r J S k && l_L (l_mc r J) J.length n (S ||| 2 ^ k)) = false) → ∃ s', f_X7_goesOn_p54 ln rc fu (nI (J.length - (n + 1))) (nI S) (bI (l_par r J S J.length)) (nI i) s = some (bI ((List.range' i j).any (fun k => l_mc r J S k && l_L (l_mc r J) J.length n (S ||| 2 ^ k))), s') ∧ go_F s s' (J.length - (n + 1)) ∧ dd_ok s' r J ∧ ∀ k0, (List.range' i j).find? (fun k => l_mc r J S k && l_L (l_mc r J) J.length n (S ||| 2 ^ k)) = some k0 → s'.1 25 (J.length - (n + 1)) = nI (J.getD k0 0) ∧ ∀ k g, (l_row (l_mc r J) J.length n (S ||| 2 ^ k0))[k]? = some g → s'.1 25 (J.length - n + k) = nI (J.getD g 0)
  | j, 0, _, _, _, q, _, _, _ => absurd q (Nat.not_lt_zero _)
  | 0, fu + 1, i, s, hi, hf, hT, hd, hpre => by
    have := hJ.1
    have e : i = J.length := by omega
    subst e
    rw [f_X7_goesOn_p54, hT.1, if_pos (nI_le (by omega) (by omega))]
    obtain ⟨s', a1, a2, a3⟩ := q7_dead (rc := rc) hln.2 hJ hS hd (by rw [hn, l_L]; exact hpre) (J.length - (n + 1))
    refine ⟨s', a1, a2, a3, fun k0 q => ?_⟩
    cases q
  | j + 1, fu + 1, i, s, hi, hf, hT, hd, hpre => by
    have h9 := hJ.1
    have h5 := p2_le hJ.1
    have hcm := cm_le (S := S) J.length
    have hSS : S < 512 := by omega
    have hilt : i < J.length := by omega
    rw [f_X7_goesOn_p54, hT.1, if_neg (nI_ge (by omega) (by omega)), if_neg (show ¬ (9 : Int32) ≤ nI i from nI_ge (b := 9) (by omega) (by omega)), List.range'_succ, List.any_cons, List.find?_cons]
    -- if this one can't be, the others are asked
    have other : ∀ s2, go_F s s2 (J.length - (n + 1)) → dd_ok s2 r J → (l_mc r J S i && l_L (l_mc r J) J.length n (S ||| 2 ^ i)) = false → ∃ s', f_X7_goesOn_p181 ln rc (f_X7_goesOn_p54 ln rc fu) (nI (J.length - (n + 1))) (nI S) (bI (l_par r J S J.length)) (nI i) s2 = some (bI ((l_mc r J S i && l_L (l_mc r J) J.length n (S ||| 2 ^ i)) || (List.range' (i + 1) j).any (fun k => l_mc r J S k && l_L (l_mc r J) J.length n (S ||| 2 ^ k))), s') ∧ go_F s s' (J.length - (n + 1)) ∧ dd_ok s' r J ∧ ∀ k0, (match (l_mc r J S i && l_L (l_mc r J) J.length n (S ||| 2 ^ i)) with | true => some i | false => (List.range' (i + 1) j).find? (fun k => l_mc r J S k && l_L (l_mc r J) J.length n (S ||| 2 ^ k))) = some k0 → s'.1 25 (J.length - (n + 1)) = nI (J.getD k0 0) ∧ ∀ k g, (l_row (l_mc r J) J.length n (S ||| 2 ^ k0))[k]? = some g → s'.1 25 (J.length - n + k) = nI (J.getD g 0) := by
      intro s2 F2 d2 hz
      unfold f_X7_goesOn_p181
      rw [q_let, nI_1, hz, Bool.false_or]
      obtain ⟨s', a1, a2, a3, a4⟩ := q7_go_i hln hJ hti hS hn hrc j fu (i + 1) s2 (by omega) (by omega) (go_lt F2 hT) d2 (by rw [List.range'_1_concat, List.any_append, hpre]; show (false || ((l_mc r J S (0 + i) && l_L (l_mc r J) J.length n (S ||| 2 ^ (0 + i))) || false)) = false; rw [Nat.zero_add, hz]; rfl)
      exact ⟨s', a1, go_tr F2 a2 (Nat.le_refl _), a3, a4⟩
    have l20 := hln.1 20 (by omega) (by omega)
    have l21 := hln.1 21 (by omega) (by omega)
    have l22 := hln.1 22 (by omega) (by omega)
    have l25 := hln.1 25 (by omega) (by omega)
    cases hb : S.testBit i with
    | true =>
      rw [if_neg (fun q => by have := (b_and hSS (show i < 9 by omega)).mp q; rw [hb] at this; cases this)]
      unfold f_X7_goesOn_p84
      rw [if_pos rfl]
      exact other s (go_rf s _) hd (by unfold l_mc; rw [hb]; rfl)
    | false =>
      rw [if_pos ((b_and hSS (show i < 9 by omega)).mpr hb)]
      unfold f_X7_goesOn_p84
      have eN : f_X7_nothingComesFirst ln (nI i) (nI S) s = some (bI (l_nf r J S i J.length 0), s) := q7_ncf_p hT hJ (hln.1 23 (by omega) (by omega)) (hln.1 24 (by omega) (by omega)) hti hSS hilt J.length dr_N 0 (by omega) (by unfold dr_N; omega)
      rw [if_neg (by decide), eN, q_bi]
      cases hN : l_nf r J S i J.length 0 with
      | false =>
        rw [if_pos (show bI false = (0 : Int32) from rfl)]
        exact other s (go_rf s _) hd (by unfold l_mc; rw [hb, hN]; rfl)
      | true =>
        rw [if_neg (by decide), q7_right hT hJ l21 l22 hilt, q_bi]
        cases hR : l_right r J (l_par r J S J.length) i with
        | false =>
          rw [if_pos (show bI false = (0 : Int32) from rfl)]
          exact other s (go_rf s _) hd (by unfold l_mc; rw [hb, hN, hR]; rfl)
        | true =>
          have hmc : l_mc r J S i = true := by unfold l_mc; rw [hb, hN, hR]; rfl
          obtain ⟨k1, k2, k3, k4, k5, k6⟩ := hJ.2 i hilt
          obtain ⟨t20, t21, t22, _, _⟩ := hT.2 i hilt
          rw [if_neg (by decide), q_rd (by omega) (by omega), Option.bind_some, t20, q_wr (a := 25) (i := J.length - (n + 1)) (by omega) (by omega), Option.bind_some]
          generalize hs7 : dr_put s 25 (J.length - (n + 1)) (nI (J.getD i 0)) = s7
          have F7 : go_F s s7 (J.length - (n + 1)) := by rw [← hs7]; exact ⟨fun a x y => q_putO x, rfl, fun q hq => by rw [q_put1, q_updO (by omega)]⟩
          have d7 : dd_ok s7 r J := by rw [← hs7]; exact hd
          have v7 : s7.1 25 (J.length - (n + 1)) = nI (J.getD i 0) := by rw [← hs7, q_put1, q_updS]
          have T7 := go_lt F7 hT
          obtain ⟨_, u21, u22, _, _⟩ := T7.2 i hilt
          -- on to the rest of the row
          have goes : ∀ z : Bool, z = l_chg r J i → ∃ s', f_X7_goesOn_p150 ln rc (f_X7_goesOn_p54 ln rc fu) (nI (J.length - (n + 1))) (nI S) (bI (l_par r J S J.length)) (nI i) (bI z) s7 = some (bI ((l_mc r J S i && l_L (l_mc r J) J.length n (S ||| 2 ^ i)) || (List.range' (i + 1) j).any (fun k => l_mc r J S k && l_L (l_mc r J) J.length n (S ||| 2 ^ k))), s') ∧ go_F s s' (J.length - (n + 1)) ∧ dd_ok s' r J ∧ ∀ k0, (match (l_mc r J S i && l_L (l_mc r J) J.length n (S ||| 2 ^ i)) with | true => some i | false => (List.range' (i + 1) j).find? (fun k => l_mc r J S k && l_L (l_mc r J) J.length n (S ||| 2 ^ k))) = some k0 → s'.1 25 (J.length - (n + 1)) = nI (J.getD k0 0) ∧ ∀ k g, (l_row (l_mc r J) J.length n (S ||| 2 ^ k0))[k]? = some g → s'.1 25 (J.length - n + k) = nI (J.getD g 0) := by
            intro z hz
            have hcm2 : cm (S ||| 2 ^ i) J.length = n := by
              have := cm_or hb J.length hilt
              omega
            obtain ⟨s8, a1, a2, a3, a4⟩ := hrc (S ||| 2 ^ i) s7 (or_lt hS hilt) hcm2 T7 d7
            have hpar := (par_or (r := r) (J := J) hb J.length hilt).1
            have eq : f_X7_goesOn_p150 ln rc (f_X7_goesOn_p54 ln rc fu) (nI (J.length - (n + 1))) (nI S) (bI (l_par r J S J.length)) (nI i) (bI z) s7 = dr_bnd (some (bI (l_L (l_mc r J) J.length n (S ||| 2 ^ i)), s8)) (fun r11 s10 => (if r11 = 0 then (f_X7_goesOn_p181 ln rc (f_X7_goesOn_p54 ln rc fu) (nI (J.length - (n + 1))) (nI S) (bI (l_par r J S J.length)) (nI i) s10) else some (1, s10))) := by
              rw [← a1, hpar, ← hz]
              unfold f_X7_goesOn_p150 f_X7_goesOn_p173
              rw [b_or hSS (show i < 9 by omega), nI_1, show J.length - (n + 1) + 1 = J.length - n by omega]
              generalize l_par r J S J.length = y
              cases z <;> cases y <;> rfl
            rw [eq, q_bi]
            have F8 := go_tr F7 a2 (by omega)
            cases hL : l_L (l_mc r J) J.length n (S ||| 2 ^ i) with
            | false =>
              rw [if_pos (show bI false = (0 : Int32) from rfl)]
              have := other s8 F8 a3 (by rw [hL, Bool.and_false])
              rw [hL] at this
              exact this
            | true =>
              rw [if_neg (by decide), hmc]
              refine ⟨s8, rfl, F8, a3, fun k0 q => ?_⟩
              have q : some i = some k0 := q
              cases q
              refine ⟨?_, a4 hL⟩
              rw [a2.2.2 _ (by omega)]
              exact v7
          rw [q_rd (by omega) (by omega), Option.bind_some, u22]
          have hki : jb_ki (lj r J i) < 2 ^ 31 := by omega
          unfold f_X7_goesOn_p149
          rcases k6 with e | e
          · rw [e, if_neg (show ¬ nO (some 0) = (1 : Int32) by decide)]
            exact goes false (by unfold l_chg l_an; rw [e]; rfl)
          · rw [e, if_pos (show nO (some 1) = (1 : Int32) from rfl), q_rd (by omega) (by omega), Option.bind_some, u21]
            by_cases e0 : jb_ki (lj r J i) = 0
            · rw [e0, if_pos (show nI 0 = (0 : Int32) from rfl)]
              exact goes false (by unfold l_chg l_an; rw [e, e0]; rfl)
            · rw [if_neg (show ¬ nI (jb_ki (lj r J i)) = (0 : Int32) from nI_lit (k := 0) hki (by omega) e0)]
              exact goes true (by unfold l_chg l_an; rw [e, decide_eq_true e0]; rfl)
theorem q7_goes {ln : Nat → Nat} {r : sg_R} {J : List Nat} (hln : (∀ i, 20 ≤ i → i ≤ 25 → ln i = 9) ∧ ln 26 = 16) (hJ : l_ok r J) (hti : rm_ti r < 2 ^ 30) : ∀ (D n : Nat), n < D → go_ok r J n (f_X7_goesOn ln D)
  | 0, _, h => absurd h (Nat.not_lt_zero _)
  | D + 1, 0, _ => by
    intro S s hS hc hT hd
    have h9 := hJ.1
    refine ⟨s, ?_, go_rf s _, hd, fun _ k g q => (by cases q)⟩
    rw [f_X7_goesOn]
    unfold f_X7_goesOn_b
    rw [hT.1, Nat.sub_zero, if_pos (nI_le (Nat.le_refl _) (by omega))]
    rfl
  | D + 1, n + 1, h => by
    intro S s hS hc hT hd
    have h9 := hJ.1
    have h5 := p2_le hJ.1
    have hcm := cm_le (S := S) J.length
    have hSS : S < 512 := by omega
    obtain ⟨w1, w2⟩ := bt_wd ⟨S, hSS⟩
    have w1 : (nI S >>> (5 &&& 31) : Int32) = nI (S / 32) := w1
    have w2 : (1 <<< ((nI S &&& 31) &&& 31) : Int32) = 1 <<< nI (S % 32) := w2
    rw [f_X7_goesOn]
    unfold f_X7_goesOn_b
    rw [hT.1, if_neg (nI_ge (by omega) (by omega)), if_pos (show nI (J.length - (n + 1)) < 9 from nI_lt (b := 9) (by omega) (by omega)), if_neg (nI_pos (by omega)), if_neg (nI_pos (by omega)), if_neg (show ¬ (512 : Int32) ≤ nI S from nI_ge (b := 512) hSS (by omega)), w1, w2, q_rd (by omega) (by omega), Option.bind_some]
    by_cases q : (s.1 26 (S / 32)) &&& (1 <<< nI (S % 32)) = 0
    · rw [if_pos q]
      obtain ⟨s', a1, a2, a3, a4⟩ := q7_go_i hln hJ hti hS hc (q7_goes hln hJ hti D n (by omega)) J.length dr_N 0 s (by omega) (by unfold dr_N; omega) hT hd rfl
      refine ⟨s', a1, a2, a3, fun hL k g hk => ?_⟩
      rw [l_row] at hk
      cases hfi : (List.range' 0 J.length).find? (fun k => l_mc r J S k && l_L (l_mc r J) J.length n (S ||| 2 ^ k)) with
      | none =>
        rw [hfi] at hk
        cases hk
      | some k0 =>
        rw [hfi] at hk
        obtain ⟨b1, b2⟩ := a4 k0 hfi
        cases k with
        | zero =>
          cases hk
          exact b1
        | succ k =>
          have := b2 k g hk
          rw [show J.length - (n + 1) + (k + 1) = J.length - n + k by omega]
          exact this
    · rw [if_neg q]
      have hL := hd S hS q
      rw [hc] at hL
      refine ⟨s, by rw [hL]; rfl, go_rf s _, hd, fun z => ?_⟩
      rw [hL] at z
      cases z
theorem q7_fill {ln : Nat → Nat} (l26 : ln 26 = 16) : ∀ (k fu i : Nat) (s : dr_S), 16 = i + k → k < fu → ∃ s', f_J7_fill_53178_p5 ln fu 0 (nI i) (nI 16) s = some (0, s') ∧ s'.2 = s.2 ∧ (∀ a, a ≠ 26 → s'.1 a = s.1 a) ∧ (∀ p, s'.1 26 p = if i ≤ p ∧ p < 16 then 0 else s.1 26 p)
  | k, 0, _, _, _, q => absurd q (Nat.not_lt_zero _)
  | 0, fu + 1, i, s, hk, _ => by
    rw [f_J7_fill_53178_p5, if_pos (nI_le (by omega) (by omega))]
    exact ⟨s, rfl, rfl, fun _ _ => rfl, fun p => by rw [if_neg (by omega)]⟩
  | k + 1, fu + 1, i, s, hk, hf => by
    rw [f_J7_fill_53178_p5, if_neg (nI_ge (by omega) (by omega)), q_wr (by omega) (by omega), Option.bind_some, q_let, nI_1]
    obtain ⟨s', a1, a2, a3, a4⟩ := q7_fill l26 k fu (i + 1) (dr_put s 26 i 0) (by omega) (by omega)
    refine ⟨s', a1, a2, fun a ha => by rw [a3 a ha, q_putO ha], fun p => ?_⟩
    rw [a4 p, q_put1]
    by_cases e : p = i
    · rw [e, q_updS, if_neg (by omega), if_pos (by omega)]
    · rw [q_updO e]
      by_cases q : i + 1 ≤ p ∧ p < 16
      · rw [if_pos q, if_pos (by omega)]
      · rw [if_neg q, if_neg (by omega)]
theorem par_0 {r : sg_R} {J : List Nat} : ∀ i, l_par r J 0 i = false
  | 0 => rfl
  | i + 1 => by
    rw [l_par, par_0 i, Nat.zero_testBit]
    rfl
def jd (r : sg_R) (h : Nat) : Int32 := match l_ask r h (rm_nj r) 0 [] with
  | none => -1
  | some J => bI (l_L (l_mc r J) J.length J.length 0)
theorem q7_judge {ln : Nat → Nat} {s : dr_S} {r : sg_R} {h : Nat} (hC : rp_C ln s r) (hh : h < 10000) (hti : rm_ti r < 2 ^ 30) (hnj : rm_nj r ≤ 120) (hv : ∀ i, i < rm_nj r → iv_jb (rm_ti r) (rm_jb r i)) : ∃ s1, f_X7_judge ln (nI h) s = some (jd r h, s1) ∧ lq_F s s1 ∧ ∀ J, l_ask r h (rm_nj r) 0 [] = some J → s1.2 708 = nI J.length ∧ (l_L (l_mc r J) J.length J.length 0 = true → ∀ k g, (l_row (l_mc r J) J.length J.length 0)[k]? = some g → s1.1 25 k = nI (J.getD g 0)) := by
  obtain ⟨s1, a1, a2, a3⟩ := q7_can hC hh hti hnj hv
  unfold f_X7_judge jd
  rw [a1, q_bi]
  cases hA : l_ask r h (rm_nj r) 0 [] with
  | none =>
    rw [show bI (none : Option (List Nat)).isSome = (0 : Int32) from rfl, if_pos rfl]
    exact ⟨s1, rfl, a2, fun J e => by cases e⟩
  | some J =>
    have hJ : l_ok r J := l_ask_ok hv (rm_nj r) 0 [] J (by omega) ⟨Nat.zero_le _, fun k hk => absurd hk (Nat.not_lt_zero _)⟩ hA
    have h9 := hJ.1
    have T := a3 J hA
    have l26 : ln 26 = 16 := hC.2.1.2.2.2.2.2.1
    have hln : (∀ i, 20 ≤ i → i ≤ 25 → ln i = 9) ∧ ln 26 = 16 := ⟨hC.2.1.2.2.2.2.1, l26⟩
    rw [if_neg (show ¬ bI (some J).isSome = (0 : Int32) by show ¬ (1 : Int32) = 0; decide)]
    obtain ⟨s2, b1, b2, b3, b4⟩ := q7_fill l26 16 dr_N 0 s1 (by omega) (by unfold dr_N; omega)
    have eF : f_J7_fill_53178 ln 0 s1 = some (0, s2) := by
      unfold f_J7_fill_53178
      rw [q_let, l26]
      exact b1
    rw [eF, q_bv]
    have T2 : lt_C s2 r J := by
      unfold lt_C
      rw [b2, b3 20 (by decide), b3 21 (by decide), b3 22 (by decide), b3 23 (by decide), b3 24 (by decide)]
      exact T
    have d2 : dd_ok s2 r J := by
      intro S hS hb
      exfalso
      apply hb
      have h5 := p2_le hJ.1
      rw [b4, if_pos (by omega)]
      exact Int32.zero_and
    obtain ⟨s3, c1, c2, c3, c4⟩ := q7_goes hln hJ hti dr_D J.length (by unfold dr_D; omega) 0 s2 (p2_pos _) (cm_0 _) T2 d2
    rw [Nat.sub_self, par_0] at c1
    rw [show f_X7_goesOn ln dr_D 0 0 0 s2 = _ from c1, q_bi]
    refine ⟨s3, ?_, ⟨fun a ha => ?_, fun f hf => ?_⟩, fun J' e => ?_⟩
    · show (if bI (l_L (l_mc r J) J.length J.length 0) = 0 then some (0, s3) else some (1, s3)) = some (bI (l_L (l_mc r J) J.length J.length 0), s3)
      cases l_L (l_mc r J) J.length J.length 0 <;> rfl
    · rw [c2.1 a (by omega) (by omega), b3 a (by omega)]
      exact a2.1 a ha
    · rw [c2.2.1, b2]
      exact a2.2 f hf
    · cases e
      refine ⟨by rw [c2.2.1, b2]; exact T.1, fun hL k g hk => ?_⟩
      have := c4 hL k g hk
      rw [Nat.sub_self, Nat.zero_add] at this
      exact this

/-! 97: there, both sides -/
theorem m1_le {t : Nat} (h : t < 2 ^ 31) : (-1 : Int32) ≤ nI t := by
  rw [Int32.le_iff_toInt_le, nI_toInt h]
  have e : (-1 : Int32).toInt = -1 := rfl
  omega
theorem q6_last_p {ln : Nat → Nat} {s : dr_S} {r : sg_R} {j t T : Nat} (hC : rp_C ln s r) (hnj : rm_nj r ≤ 120) (hj : j < rm_nj r) (ht : t < 2 ^ 31) (hT : T < 2 ^ 31) (hhe : ∀ i, i < rm_nj r → jb_he (rm_jb r i) < 10000) (hch : ∀ i u, (rm_ch r).lookup i = some u → u < 2 ^ 31) : ∀ (k fu i : Nat), rm_nj r = i + k → k < fu → f_X6_isLastChange_p23 ln fu (nI j) (nI T) (nI t) (nI i) s = some (bI (th_l r j t T k i), s)
  | k, 0, _, _, q => absurd q (Nat.not_lt_zero _)
  | 0, fu + 1, i, hk, hf => by
    have gb := q6_begun hC.1
    rw [hC.2.2.2.2.2.2.2.2.1] at gb
    rw [f_X6_isLastChange_p23, gb, q_bi, if_pos (nI_le (by omega) (by omega))]
    rfl
  | k + 1, fu + 1, i, hk, hf => by
    have gb := q6_begun hC.1
    rw [hC.2.2.2.2.2.2.2.2.1] at gb
    have hi : i < rm_nj r := by omega
    have ci := hC.2.2.2.2.2.2.2.2.2 i hi
    have cj := hC.2.2.2.2.2.2.2.2.2 j hj
    have g7 := q6_get (c := i) (k := 7) hC.1 (by omega) (by omega)
    have g1 := q6_get (c := i) (k := 1) hC.1 (by omega) (by omega)
    have h1 := q6_get (c := j) (k := 1) hC.1 (by omega) (by omega)
    rw [ci.2.2.2.2.2.2.2] at g7
    rw [ci.2.1] at g1
    rw [cj.2.1] at h1
    have ih := q6_last_p hC hnj hj ht hT hhe hch k fu (i + 1) (by omega) (by omega)
    have hei := hhe i hi
    have hej := hhe j hj
    rw [f_X6_isLastChange_p23, gb, q_bi, if_neg (nI_ge (by omega) (by omega)), show f_X6_get ln (nI i) 7 s = _ from g7, q_bi, show f_X6_get ln (nI i) 1 s = _ from g1, q_bi, show f_X6_get ln (nI j) 1 s = _ from h1, q_bi, th_l]
    unfold f_X6_isLastChange_p72 th_o
    by_cases e : jb_he (rm_jb r i) = jb_he (rm_jb r j)
    · rw [if_pos (by rw [e]), decide_eq_false (show ¬ jb_he (rm_jb r i) ≠ jb_he (rm_jb r j) from fun z => z e), Bool.false_or]
      cases hl : (rm_ch r).lookup i with
      | none =>
        rw [if_pos (show nO none ≤ nI t from m1_le ht), q_let, nI_1, ih]
        show _ = some (bI (true && _), s)
        rw [Bool.true_and]
      | some u =>
        have hu := hch i u hl
        show (if nI u ≤ nI t then _ else (if nI T < nI u then _ else some (0, s))) = some (bI ((decide (u ≤ t) || decide (T < u)) && _), s)
        by_cases e1 : u ≤ t
        · rw [if_pos (nI_le e1 ht), q_let, nI_1, ih, decide_eq_true e1, Bool.true_or, Bool.true_and]
        · rw [if_neg (nI_ge (by omega) hu), decide_eq_false e1, Bool.false_or]
          by_cases e2 : T < u
          · rw [if_pos (nI_lt e2 hu), q_let, nI_1, ih, decide_eq_true e2, Bool.true_and]
          · rw [if_neg (nI_nlt (by omega) hT), decide_eq_false e2, Bool.false_and]
            rfl
    · rw [if_neg (nI_lit (by omega) (by omega) e), q_let, nI_1, ih, decide_eq_true e, Bool.true_or, Bool.true_and]
theorem q11_there_p {ln : Nat → Nat} {s : dr_S} {r : sg_R} {fr to T : Nat} (hC : rp_C ln s r) (hok : rl_ok (rm_ru r)) (hnj : rm_nj r ≤ 120) (hfr : fr < 10000) (hto : to < 10000) (hT : T < 2 ^ 31) (hhe : ∀ i, i < rm_nj r → jb_he (rm_jb r i) < 10000 ∧ jb_ki (rm_jb r i) ≤ 2) (hch : ∀ i u, (rm_ch r).lookup i = some u → u < 2 ^ 31) : ∀ (k fu i : Nat), rm_nj r = i + k → k < fu → f_X11_there_p37 ln fu (nI fr) (nI to) (nI T) (nI (nbz (th_P r fr to T) i)) (nI i) s = some (nI (nbz (th_P r fr to T) (rm_nj r)), s)
  | k, 0, _, _, q => absurd q (Nat.not_lt_zero _)
  | 0, fu + 1, i, hk, hf => by
    have gb := q6_begun hC.1
    rw [hC.2.2.2.2.2.2.2.2.1] at gb
    rw [f_X11_there_p37, gb, q_bi, if_pos (nI_le (by omega) (by omega)), show i = rm_nj r by omega]
  | k + 1, fu + 1, i, hk, hf => by
    have gb := q6_begun hC.1
    rw [hC.2.2.2.2.2.2.2.2.1] at gb
    have hi : i < rm_nj r := by omega
    obtain ⟨hei, hki⟩ := hhe i hi
    have ci := hC.2.2.2.2.2.2.2.2.2 i hi
    have g7 := q6_get (c := i) (k := 7) hC.1 (by omega) (by omega)
    have g1 := q6_get (c := i) (k := 1) hC.1 (by omega) (by omega)
    have g0 := q6_get (c := i) (k := 0) hC.1 (by omega) (by omega)
    rw [ci.2.2.2.2.2.2.2] at g7
    rw [ci.2.1] at g1
    rw [ci.1] at g0
    have ih := q11_there_p hC hok hnj hfr hto hT hhe hch k fu (i + 1) (by omega) (by omega)
    rw [nbz] at ih
    have no : th_P r fr to T i = false → f_X11_there_p37 ln fu (nI fr) (nI to) (nI T) (nI (nbz (th_P r fr to T) i)) (nI (i + 1)) s = some (nI (nbz (th_P r fr to T) (rm_nj r)), s) := fun z => by
      rw [z, if_neg (by decide)] at ih
      exact ih
    rw [f_X11_there_p37, gb, q_bi, if_neg (nI_ge (by omega) (by omega)), show f_X6_get ln (nI i) 1 s = _ from g1, q_bi, q5_isAhead hC.2.1.1 hC.2.2.1 hok hei hfr, q_bi]
    unfold f_X11_there_p91 f_X11_there_p92 f_X11_there_p129
    have P0 : th_P r fr to T i = (th_in r fr to (jb_he (rm_jb r i)) && (decide (jb_ki (rm_jb r i) = 1) && (match (rm_ch r).lookup i with | none => false | some t => decide (t ≤ T) && th_l r i t T (rm_nj r) 0))) := rfl
    unfold th_in at P0
    cases h1 : sg_ah (rm_ru r) (jb_he (rm_jb r i)) fr with
    | true =>
      rw [h1] at P0
      rw [if_neg (show ¬ bI true = (0 : Int32) by decide), if_pos rfl, q_let, nI_1]
      exact no P0
    | false =>
      rw [h1] at P0
      rw [if_pos (show bI false = (0 : Int32) from rfl), q5_isAhead hC.2.1.1 hC.2.2.1 hok hto hei, q_bi]
      cases h2 : sg_ah (rm_ru r) to (jb_he (rm_jb r i)) with
      | true =>
        rw [h2] at P0
        rw [if_neg (show ¬ bI true = (0 : Int32) by decide), if_pos rfl, q_let, nI_1]
        exact no P0
      | false =>
        rw [h2] at P0
        rw [if_pos (show bI false = (0 : Int32) from rfl), if_neg (by decide), show f_X6_get ln (nI i) 0 s = _ from g0, q_bi]
        by_cases hk1 : jb_ki (rm_jb r i) = 1
        · rw [if_pos (show nI (jb_ki (rm_jb r i)) = (1 : Int32) by rw [hk1]; rfl)]
          rw [decide_eq_true hk1] at P0
          unfold f_X6_isLastChange
          rw [show f_X6_get ln (nI i) 7 s = _ from g7, q_bi]
          cases hl : (rm_ch r).lookup i with
          | none =>
            rw [hl] at P0
            rw [if_pos (show nO none = (-1 : Int32) from rfl), q_bi, if_pos rfl, q_let, nI_1]
            exact no P0
          | some t =>
            have ht := hch i t hl
            rw [hl] at P0
            rw [show nO (some t) = nI t from rfl, if_neg (n1_ne ht)]
            by_cases hle : t ≤ T
            · rw [if_pos (nI_le hle hT), show f_X6_isLastChange_p23 ln dr_N (nI i) (nI T) (nI t) 0 s = _ from q6_last_p hC hnj hi ht hT (fun i hi => (hhe i hi).1) hch (rm_nj r) dr_N 0 (by omega) (by unfold dr_N; omega), q_bi]
              have P1 : th_P r fr to T i = th_l r i t T (rm_nj r) 0 := by
                rw [P0]
                show (true && (true && (decide (t ≤ T) && th_l r i t T (rm_nj r) 0))) = _
                rw [decide_eq_true hle]
                rfl
              cases hq : th_l r i t T (rm_nj r) 0 with
              | true =>
                rw [hq] at P1
                rw [P1, if_pos rfl] at ih
                rw [if_neg (show ¬ bI true = (0 : Int32) by decide), q_let, nI_1, q_let, nI_1]
                exact ih
              | false =>
                rw [hq] at P1
                rw [if_pos (show bI false = (0 : Int32) from rfl), q_let, nI_1]
                exact no P1
            · rw [if_neg (nI_ge (by omega) ht), q_bi, if_pos rfl, q_let, nI_1]
              refine no ?_
              rw [P0]
              show (true && (true && (decide (t ≤ T) && _))) = false
              rw [decide_eq_false hle]
              rfl
        · rw [if_neg (show ¬ nI (jb_ki (rm_jb r i)) = (1 : Int32) from nI_lit (k := 1) (by omega) (by omega) hk1), q_let, nI_1]
          refine no ?_
          rw [P0, decide_eq_false hk1]
          rfl
/-- the reference's inner loop -/
theorem qm_there_i {ln : Nat → Nat} {s : dr_S} {r : sg_R} {h T : Nat} {x1 x2 x4 x5 : Int32} {kb : Int32 → Int32 → Int32 → Int32 → Int32 → dr_S → Option (Int32 × dr_S)} (hM : rp_M ln s r) (hl : (rm_ch r).length ≤ 120) (hh : h < 10000) (hT : T < 2 ^ 31) (hhe : ∀ e ∈ rm_ch r, jb_he (rm_jb r e.1) < 10000 ∧ e.2 < 2 ^ 31) : ∀ (k fu i : Nat) (b : Bool), (rm_ch r).length = i + k → k < fu → f_X12_there_p105 ln kb fu x1 x2 (nI T) x4 x5 (nI h) (bI b) (nI i) s = f_X12_there_p167 ln kb x1 x2 (nI T) x5 (bI (b && ((rm_ch r).drop i).all (fun z => decide (jb_he (rm_jb r z.1) ≠ h) || decide (T < z.2)))) x4 s
  | k, 0, _, _, _, q => absurd q (Nat.not_lt_zero _)
  | 0, fu + 1, i, b, hk, hf => by
    rw [f_X12_there_p105, mM_nc hM, if_pos (nI_le (by omega) (by omega)), show (rm_ch r).drop i = [] from List.drop_eq_nil_of_le (by omega), List.all_nil, Bool.and_true]
    cases b <;> rfl
  | k + 1, fu + 1, i, b, hk, hf => by
    have L := mM_L hM
    have hi : i < (rm_ch r).length := by omega
    have he : (rm_ch r)[i]? = some ((rm_ch r)[i]) := List.getElem?_eq_getElem hi
    have hd : (rm_ch r).drop i = (rm_ch r)[i] :: (rm_ch r).drop (i + 1) := List.drop_eq_getElem_cons hi
    generalize (rm_ch r)[i] = e at he hd
    obtain ⟨v57, v58, v59⟩ := mM_ch hM i e.1 e.2 he
    obtain ⟨h1, h2⟩ := hhe e (List.mem_of_getElem? he)
    rw [f_X12_there_p105, mM_nc hM, if_neg (nI_ge (by omega) (by omega)), hd, List.all_cons]
    unfold f_X12_there_p146 f_X12_there_p142 f_X12_there_p147
    cases b with
    | false =>
      rw [if_pos (show bI false = (0 : Int32) from rfl), q_let, nI_1, show (0 : Int32) = bI false from rfl, qm_there_i hM hl hh hT hhe k fu (i + 1) false (by omega) (by omega), Bool.false_and, Bool.false_and]
    | true =>
      rw [if_neg (show ¬ bI true = (0 : Int32) by decide), m_rdb L 58 120 rfl (by decide) (by decide) (by omega), v58, Bool.true_and]
      by_cases e1 : jb_he (rm_jb r e.1) = h
      · rw [if_pos (by rw [e1]), m_rdb L 57 120 rfl (by decide) (by decide) (by omega), v57, decide_eq_false (show ¬ jb_he (rm_jb r e.1) ≠ h from fun z => z e1), Bool.false_or]
        by_cases e2 : T < e.2
        · rw [if_neg (nI_ge e2 h2), q_let, nI_1, show (1 : Int32) = bI true from rfl, qm_there_i hM hl hh hT hhe k fu (i + 1) true (by omega) (by omega), decide_eq_true e2]
        · rw [if_pos (nI_le (by omega) hT), q_let, nI_1, show (0 : Int32) = bI false from rfl, qm_there_i hM hl hh hT hhe k fu (i + 1) false (by omega) (by omega), decide_eq_false e2, Bool.false_and]
      · rw [if_neg (nI_lit (by omega) (by omega) e1), q_let, nI_1, show (1 : Int32) = bI true from rfl, qm_there_i hM hl hh hT hhe k fu (i + 1) true (by omega) (by omega), decide_eq_true e1, Bool.true_or]
theorem qm_there_p {ln : Nat → Nat} {s : dr_S} {r : sg_R} {fr to T : Nat} (hM : rp_M ln s r) (hok : rl_ok (rm_ru r)) (hl : (rm_ch r).length ≤ 120) (hfr : fr < 10000) (hto : to < 10000) (hT : T < 2 ^ 31) (hhe : ∀ e ∈ rm_ch r, jb_he (rm_jb r e.1) < 10000 ∧ e.2 < 2 ^ 31) : ∀ (k fu i n : Nat), (rm_ch r).length = i + k → k < fu → f_X12_there_p34 ln fu (nI fr) (nI to) (nI T) (nI n) (nI i) s = some (nI (n + sg_th r fr to T ((rm_ch r).drop i)), s)
  | k, 0, _, _, _, q => absurd q (Nat.not_lt_zero _)
  | 0, fu + 1, i, n, hk, hf => by
    rw [f_X12_there_p34, mM_nc hM, if_pos (nI_le (by omega) (by omega)), show (rm_ch r).drop i = [] from List.drop_eq_nil_of_le (by omega)]
    rfl
  | k + 1, fu + 1, i, n, hk, hf => by
    have L := mM_L hM
    have hi : i < (rm_ch r).length := by omega
    have he : (rm_ch r)[i]? = some ((rm_ch r)[i]) := List.getElem?_eq_getElem hi
    have hd : (rm_ch r).drop i = (rm_ch r)[i] :: (rm_ch r).drop (i + 1) := List.drop_eq_getElem_cons hi
    generalize (rm_ch r)[i] = e at he hd
    obtain ⟨v57, v58, v59⟩ := mM_ch hM i e.1 e.2 he
    obtain ⟨h1, h2⟩ := hhe e (List.mem_of_getElem? he)
    have ih := fun m => qm_there_p hM hok hl hfr hto hT hhe k fu (i + 1) m (by omega) (by omega)
    rw [f_X12_there_p34, mM_nc hM, if_neg (nI_ge (by omega) (by omega)), m_rdb L 58 120 rfl (by decide) (by decide) (by omega), v58, m_rdb L 59 120 rfl (by decide) (by decide) (by omega), v59, hd, sg_th]
    unfold f_X12_there_p170
    by_cases e1 : jb_ki (rm_jb r e.1) = 1
    · rw [if_pos e1, if_neg (by decide), m_rdb L 57 120 rfl (by decide) (by decide) (by omega), v57, decide_eq_true e1, Bool.true_and]
      by_cases e2 : e.2 ≤ T
      · rw [if_neg (nI_nlt e2 hT), qm_isAhead (qm_l L) (mM_ru hM) hok h1 hfr, q_bi, decide_eq_true e2, Bool.true_and]
        unfold th_in
        cases h3 : sg_ah (rm_ru r) (jb_he (rm_jb r e.1)) fr with
        | true =>
          rw [if_neg (show ¬ bI true = (0 : Int32) by decide), q_let, nI_1, ih n]
          show _ = some (nI (n + ((if ((!true && _) && _) = true then 1 else 0) + _)), s)
          rw [show (!true) = false from rfl, Bool.false_and, Bool.false_and, if_neg (by decide), Nat.zero_add]
        | false =>
          rw [if_pos (show bI false = (0 : Int32) from rfl), qm_isAhead (qm_l L) (mM_ru hM) hok hto h1, q_bi]
          cases h4 : sg_ah (rm_ru r) to (jb_he (rm_jb r e.1)) with
          | true =>
            rw [if_neg (show ¬ bI true = (0 : Int32) by decide), q_let, nI_1, ih n, show (!true) = false from rfl, Bool.and_false, Bool.false_and, if_neg (by decide), Nat.zero_add]
          | false =>
            rw [if_pos (show bI false = (0 : Int32) from rfl), q_let, nI_1, show (1 : Int32) = bI true from rfl, qm_there_i hM hl h1 hT hhe k dr_N (i + 1) true (by omega) (by unfold dr_N; omega), show (!false) = true from rfl, Bool.true_and, Bool.true_and, Bool.true_and]
            unfold f_X12_there_p167 f_X12_there_p170
            rw [q_let, q_let, nI_1]
            cases ((rm_ch r).drop (i + 1)).all (fun z => decide (jb_he (rm_jb r z.1) ≠ jb_he (rm_jb r e.1)) || decide (T < z.2)) with
            | true =>
              rw [show nI n + bI true = nI (n + 1) from nI_1 n, ih (n + 1), if_pos rfl, Nat.add_assoc]
            | false =>
              rw [show nI n + bI false = nI n from Int32.add_zero _, ih n, if_neg (by decide), Nat.zero_add]
      · rw [if_pos (nI_lt (by omega) h2), q_let, nI_1, ih n, decide_eq_false e2, Bool.false_and, if_neg (by decide), Nat.zero_add]
    · rw [if_neg e1, if_pos rfl, q_let, nI_1, ih n, decide_eq_false e1, Bool.false_and, if_neg (by decide), Nat.zero_add]
theorem ok_there {ln : Nat → Nat} {s : dr_S} {r : sg_R} (h : rr ln s r) (hti : rm_ti r < 2 ^ 30) (x y z : Int32) : call_ok ln (f_X11_there ln x y z) (f_X12_there ln x y z) s r := by
  have h0 := h
  obtain ⟨hC, hM, ⟨hiv, hi2⟩, h204, h203⟩ := h
  obtain ⟨rk, t, st, hp, hT, hcn⟩ := hiv
  have hok := st.1.2.2.2
  have hnj := st.1.2.2.1
  have hch := st.2.2.2.2.2.1
  have hjb := st.2.2.2.2.2.2
  have gt := q6_time hC.1
  rw [hC.2.2.2.2.2.2.2.1] at gt
  have hlen : (rm_ch r).length ≤ 120 := by
    have := nodup_lt (n := rm_nj r) hch.2.1 (fun d hd => by
      obtain ⟨p, hp1, hp2⟩ := List.mem_map.mp hd
      rw [← hp2]
      exact (hch.1 p.1 p.2 hp1).1)
    rw [List.length_map] at this
    omega
  rcases hd_cases x with q | ⟨fr, hfr, efr, qfr⟩
  · refine call_ro h0 (-1) ?_ ?_
    · unfold f_X11_there
      rw [(q ln s).1, q_bi, if_pos rfl]
    · unfold f_X12_there
      rw [(q ln s).2, q_bi, if_pos rfl]
  · rcases hd_cases y with q | ⟨to, hto, eto, qto⟩
    · refine call_ro h0 (-1) ?_ ?_
      · unfold f_X11_there
        rw [(qfr ln s).1, q_bi, if_neg (by decide), (q ln s).1, q_bi, if_pos rfl]
      · unfold f_X12_there
        rw [(qfr ln s).2, q_bi, if_neg (by decide), (q ln s).2, q_bi, if_pos rfl]
    · have e11 : f_X11_there ln x y z s = (if z < 0 then some ((-1), s) else (if z ≤ nI (rm_ti r) then (f_X11_there_p37 ln dr_N (nI fr) (nI to) z 0 0 s) else some ((-1), s))) := by
        unfold f_X11_there
        rw [(qfr ln s).1, q_bi, if_neg (by decide), (qto ln s).1, q_bi, if_neg (by decide), gt, q_bi, efr, eto]
      have e12 : f_X12_there ln x y z s = dr_bnd (f_X12_in ln z 0 (nI (rm_ti r)) s) (fun r6 s5 => (if r6 = 0 then some ((-1), s5) else (f_X12_there_p34 ln dr_N (nI fr) (nI to) z 0 0 s5))) := by
        unfold f_X12_there
        rw [(qfr ln s).2, q_bi, if_neg (by decide), (qto ln s).2, q_bi, if_neg (by decide), mM_ti hM, efr, eto]
      rcases in_cases z (rm_ti r) (by omega) with ⟨g, g2⟩ | ⟨T, hTt, eT, g2⟩
      · refine call_ro h0 (-1) ?_ ?_
        · rw [e11]
          rcases g with g | g
          · rw [if_pos g]
          · rw [if_neg (nI_gex (n := rm_ti r + 1) (by omega) g), if_neg (le_lit (n := rm_ti r) (by omega) g)]
        · rw [e12, g2 ln s, q_bi, if_pos rfl]
      · refine call_ro h0 (nI (nbz (th_P r fr to T) (rm_nj r))) ?_ ?_
        · rw [e11, eT, if_neg (nI_pos (by omega)), if_pos (nI_le (by omega) (by omega))]
          exact q11_there_p hC hok hnj hfr hto (by omega) (fun i hi => ⟨(hjb i hi).2.1, (hjb i hi).1⟩) (fun i u hu => by have := (hch.1 i u (mem_look hu)).2.2; omega) (rm_nj r) dr_N 0 (by omega) (by unfold dr_N; omega)
        · rw [e12, g2 ln s, q_bi, if_neg (by decide), eT]
          have q := qm_there_p (T := T) hM hok hlen hfr hto (by omega) (fun e he => ⟨(hjb e.1 (hch.1 e.1 e.2 he).1).2.1, by have := (hch.1 e.1 e.2 he).2.2; omega⟩) (rm_ch r).length dr_N 0 0 (by omega) (by unfold dr_N; omega)
          rw [Nat.zero_add, List.drop_zero, th_both hch] at q
          exact q

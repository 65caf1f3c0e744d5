/-! 92: the cards: nth, rank, how many -/
def sg_hc (r : sg_R) (n : Nat) (o : Option Nat) : List Nat := ((sg_chain r n o).map (fun d => dv_hs (rm_dr r d))).flatten
theorem hc_0 (r : sg_R) (o : Option Nat) : sg_hc r 0 o = [] := rfl
theorem hc_n (r : sg_R) (n : Nat) : sg_hc r n none = [] := by cases n <;> rfl
theorem hc_s (r : sg_R) (n d : Nat) : sg_hc r (n + 1) (some d) = dv_hs (rm_dr r d) ++ sg_hc r n (dv_th (rm_dr r d)) := rfl
theorem sg_cards_eq (r : sg_R) : sg_cards r = sg_hc r 256 (sg_first r 0) := rfl
/-- what the walks along the leaves need -/
def wf_lv (r : sg_R) : Prop := wf_sz r ∧ rl_ok (rm_ru r) ∧ (∀ d, d < rm_us r → (dv_hs (rm_dr r d)).length ≤ 10 ∧ (∀ h ∈ dv_hs (rm_dr r d), h < 10000) ∧ (∀ t, dv_th (rm_dr r d) = some t → t < rm_us r))
theorem hc_len {r : sg_R} (hw : wf_lv r) : ∀ (n : Nat) (o : Option Nat), (∀ d, o = some d → d < rm_us r) → (sg_hc r n o).length ≤ 10 * n ∧ ∀ h ∈ sg_hc r n o, h < 10000
  | 0, o, _ => by rw [hc_0]; exact ⟨Nat.zero_le _, fun h hh => by cases hh⟩
  | n + 1, none, _ => by rw [hc_n]; exact ⟨Nat.zero_le _, fun h hh => by cases hh⟩
  | n + 1, some d, ho => by
    have hd := ho d rfl
    obtain ⟨a1, a2, a3⟩ := hw.2.2 d hd
    obtain ⟨b1, b2⟩ := hc_len hw n (dv_th (rm_dr r d)) a3
    rw [hc_s, List.length_append]
    refine ⟨by omega, fun h hh => ?_⟩
    rcases List.mem_append.mp hh with q | q
    · exact a2 h q
    · exact b2 h q
theorem q1_howMany_p {ln : Nat → Nat} {s : dr_S} {r : sg_R} (hC : rp_C ln s r) (hw : wf_lv r) : ∀ (k fu i n : Nat) (o : Option Nat), 256 = i + k → k < fu → (∀ d, o = some d → d < rm_us r) → f_X1_howMany_p13 ln fu (nI n) (nO o) (nI i) s = some (nI (n + (sg_hc r k o).length), s)
  | k, 0, _, _, _, _, q, _ => absurd q (Nat.not_lt_zero _)
  | 0, fu + 1, i, n, o, hk, hf, ho => by
    rw [f_X1_howMany_p13, if_pos (show (256 : Int32) ≤ nI i from nI_le (a := 256) (by omega) (by omega)), hc_0]
    rfl
  | k + 1, fu + 1, i, n, none, hk, hf, ho => by
    rw [f_X1_howMany_p13, if_neg (show ¬ (256 : Int32) ≤ nI i from nI_ge (b := 256) (by omega) (by omega)), if_pos (show nO none = (-1 : Int32) from rfl), hc_n]
    rfl
  | k + 1, fu + 1, i, n, some d, hk, hf, ho => by
    have hd := ho d rfl
    have hus := hw.1.2.1
    have hb := hw.1.1
    have hx := (hC.2.2.2.2.2.1 d hd).1
    have g1 := q4_get (d := d) (k := 1) hC.1 (by omega) (by omega)
    have g3 := q4_get (d := d) (k := 3) hC.1 (by omega) (by omega)
    rw [hx.2.1] at g1
    rw [hx.2.2.2.1] at g3
    rw [f_X1_howMany_p13, if_neg (show ¬ (256 : Int32) ≤ nI i from nI_ge (b := 256) (by omega) (by omega)), show nO (some d) = nI d from rfl, if_neg (n1_ne (by omega)), show f_X4_get ln (nI d) 1 s = _ from g1, q_bi, q_let, nI_add, show f_X4_get ln (nI d) 3 s = _ from g3, q_bi, q_let, nI_1, q1_howMany_p hC hw k fu (i + 1) _ _ (by omega) (by omega) (hw.2.2 d hd).2.2, hc_s, List.length_append, Nat.add_assoc]
theorem q1_kth_p {ln : Nat → Nat} {s : dr_S} {r : sg_R} (hC : rp_C ln s r) (hw : wf_lv r) : ∀ (k fu i n : Nat) (o : Option Nat), 256 = i + k → k < fu → n < 2 ^ 31 → (∀ d, o = some d → d < rm_us r) → f_X1_kth_p14 ln fu (nI n) (nO o) (nI i) s = some (nO (sg_hc r k o)[n]?, s)
  | k, 0, _, _, _, _, q, _, _ => absurd q (Nat.not_lt_zero _)
  | 0, fu + 1, i, n, o, hk, hf, hn, ho => by
    rw [f_X1_kth_p14, if_pos (show (256 : Int32) ≤ nI i from nI_le (a := 256) (by omega) (by omega)), hc_0]
    rfl
  | k + 1, fu + 1, i, n, none, hk, hf, hn, ho => by
    rw [f_X1_kth_p14, if_neg (show ¬ (256 : Int32) ≤ nI i from nI_ge (b := 256) (by omega) (by omega)), if_pos (show nO none = (-1 : Int32) from rfl), hc_n]
    rfl
  | k + 1, fu + 1, i, n, some d, hk, hf, hn, ho => by
    have hd := ho d rfl
    have hus := hw.1.2.1
    have hb := hw.1.1
    have hl := (hw.2.2 d hd).1
    have hx := (hC.2.2.2.2.2.1 d hd).1
    have hrw := hw.1.2.2.2.1 d hd
    have g1 := q4_get (d := d) (k := 1) hC.1 (by omega) (by omega)
    have g3 := q4_get (d := d) (k := 3) hC.1 (by omega) (by omega)
    rw [hx.2.1] at g1
    rw [hx.2.2.2.1] at g3
    rw [f_X1_kth_p14, if_neg (show ¬ (256 : Int32) ≤ nI i from nI_ge (b := 256) (by omega) (by omega)), show nO (some d) = nI d from rfl, if_neg (n1_ne (by omega)), if_neg (nI_pos hn), show f_X4_get ln (nI d) 1 s = _ from g1, q_bi, hc_s]
    by_cases e : n < (dv_hs (rm_dr r d)).length
    · obtain ⟨g, hg⟩ := at_some e
      rw [if_neg (nI_ge e (by omega)), q4_heading hC.1 (by omega) hx.2.1 hrw.1 hn, q_bi, if_pos e, hx.2.2.2.2.1 n g hg, List.getElem?_append_left e, hg]
      rfl
    · rw [if_pos (nI_le (by omega) hn), q_let, show f_X4_get ln (nI d) 3 s = _ from g3, q_bi, q_let, nI_1, pk_sub (by omega), q1_kth_p hC hw k fu (i + 1) _ _ (by omega) (by omega) (by omega) (hw.2.2 d hd).2.2, List.getElem?_append_right (by omega)]
def sg_cah (ru : List (Nat × Bool)) (h : Nat) : List Nat → Nat
  | [] => 0
  | g :: q => (if sg_ah ru g h then 1 else 0) + sg_cah ru h q
theorem cah_app {ru : List (Nat × Bool)} {h : Nat} : ∀ (a b : List Nat), sg_cah ru h (a ++ b) = sg_cah ru h a + sg_cah ru h b
  | [], b => by rw [List.nil_append, sg_cah, Nat.zero_add]
  | g :: a, b => by rw [List.cons_append, sg_cah, sg_cah, cah_app a b, Nat.add_assoc]
theorem q1_ahead_i {ln : Nat → Nat} {s : dr_S} {r : sg_R} {h d m : Nat} {kb : Int32 → Int32 → Int32 → Int32 → dr_S → Option (Int32 × dr_S)} (hC : rp_C ln s r) (hw : wf_lv r) (hh : h < 10000) (hd : d < rm_us r) : ∀ (k fu i n : Nat), (dv_hs (rm_dr r d)).length = i + k → k < fu → f_X1_aheadOf_p41 ln kb fu (nI h) (nI n) (nI d) (nI m) (nI (dv_hs (rm_dr r d)).length) (nI i) s = kb (nI h) (nI (n + sg_cah (rm_ru r) h ((dv_hs (rm_dr r d)).drop i))) (nO (dv_th (rm_dr r d))) (nI (m + 1)) s
  | k, 0, _, _, _, q => absurd q (Nat.not_lt_zero _)
  | 0, fu + 1, i, n, hk, hf => by
    have hus := hw.1.2.1
    have hb := hw.1.1
    have hl := (hw.2.2 d hd).1
    have hx := (hC.2.2.2.2.2.1 d hd).1
    have g3 := q4_get (d := d) (k := 3) hC.1 (by omega) (by omega)
    rw [hx.2.2.2.1] at g3
    rw [f_X1_aheadOf_p41, if_pos (nI_le (by omega) (by omega)), show f_X4_get ln (nI d) 3 s = _ from g3, q_bi, q_let, nI_1, List.drop_eq_nil_of_le (by omega), sg_cah]
    rfl
  | k + 1, fu + 1, i, n, hk, hf => by
    have hus := hw.1.2.1
    have hb := hw.1.1
    obtain ⟨hl, hlt, _⟩ := hw.2.2 d hd
    have hx := (hC.2.2.2.2.2.1 d hd).1
    have hrw := hw.1.2.2.2.1 d hd
    obtain ⟨g, hg⟩ := at_some (l := dv_hs (rm_dr r d)) (i := i) (by omega)
    have hg2 := hlt g (List.mem_of_getElem? hg)
    rw [f_X1_aheadOf_p41, if_neg (nI_ge (by omega) (by omega)), q4_heading hC.1 (by omega) hx.2.1 hrw.1 (by omega), q_bi, if_pos (by omega), hx.2.2.2.2.1 i g hg, q5_isAhead hC.2.1.1 hC.2.2.1 hw.2.1 hg2 hh, q_bi, drop_at hg, sg_cah]
    unfold f_X1_aheadOf_p72
    cases ha : sg_ah (rm_ru r) g h with
    | true =>
      rw [if_neg (show ¬ bI true = (0 : Int32) by decide), q_let, nI_1, q_let, nI_1, q1_ahead_i hC hw hh hd k fu (i + 1) (n + 1) (by omega) (by omega), if_pos rfl, Nat.add_assoc]
    | false =>
      rw [if_pos (show bI false = (0 : Int32) from rfl), q_let, nI_1, q1_ahead_i hC hw hh hd k fu (i + 1) n (by omega) (by omega), if_neg (by decide), Nat.zero_add]
theorem q1_aheadOf_p {ln : Nat → Nat} {s : dr_S} {r : sg_R} {h : Nat} (hC : rp_C ln s r) (hw : wf_lv r) (hh : h < 10000) : ∀ (k fu i n : Nat) (o : Option Nat), 256 = i + k → k < fu → (∀ d, o = some d → d < rm_us r) → f_X1_aheadOf_p14 ln fu (nI h) (nI n) (nO o) (nI i) s = some (nI (n + sg_cah (rm_ru r) h (sg_hc r k o)), s)
  | k, 0, _, _, _, _, q, _ => absurd q (Nat.not_lt_zero _)
  | 0, fu + 1, i, n, o, hk, hf, ho => by
    rw [f_X1_aheadOf_p14, if_pos (show (256 : Int32) ≤ nI i from nI_le (a := 256) (by omega) (by omega)), hc_0]
    rfl
  | k + 1, fu + 1, i, n, none, hk, hf, ho => by
    rw [f_X1_aheadOf_p14, if_neg (show ¬ (256 : Int32) ≤ nI i from nI_ge (b := 256) (by omega) (by omega)), if_pos (show nO none = (-1 : Int32) from rfl), hc_n]
    rfl
  | k + 1, fu + 1, i, n, some d, hk, hf, ho => by
    have hd := ho d rfl
    have hus := hw.1.2.1
    have hb := hw.1.1
    have hl := (hw.2.2 d hd).1
    have hx := (hC.2.2.2.2.2.1 d hd).1
    have g1 := q4_get (d := d) (k := 1) hC.1 (by omega) (by omega)
    rw [hx.2.1] at g1
    rw [f_X1_aheadOf_p14, if_neg (show ¬ (256 : Int32) ≤ nI i from nI_ge (b := 256) (by omega) (by omega)), show nO (some d) = nI d from rfl, if_neg (n1_ne (by omega)), show f_X4_get ln (nI d) 1 s = _ from g1, q_bi]
    have q := q1_ahead_i (m := i) (kb := f_X1_aheadOf_p14 ln fu) hC hw hh hd (dv_hs (rm_dr r d)).length dr_N 0 n (by omega) (by unfold dr_N; omega)
    rw [List.drop_zero] at q
    rw [show f_X1_aheadOf_p41 ln (f_X1_aheadOf_p14 ln fu) dr_N (nI h) (nI n) (nI d) (nI i) (nI (dv_hs (rm_dr r d)).length) 0 s = _ from q, q1_aheadOf_p hC hw hh k fu (i + 1) _ _ (by omega) (by omega) (hw.2.2 d hd).2.2, hc_s, cah_app, Nat.add_assoc]
/-- the reference's list of cards -/
def lc (s : dr_S) (l : List Nat) : Prop := s.2 1242 = nI l.length ∧ ∀ (k g : Nat), l[k]? = some g → s.1 62 k = nI g
def lc_F (s s1 : dr_S) : Prop := (∀ a, a ≠ 62 → s1.1 a = s.1 a) ∧ (∀ f, f ≠ 1242 → s1.2 f = s.2 f)
theorem lc_tr {s s1 s2 : dr_S} (h1 : lc_F s s1) (h2 : lc_F s1 s2) : lc_F s s2 := ⟨fun a h => (h2.1 a h).trans (h1.1 a h), fun a h => (h2.2 a h).trans (h1.2 a h)⟩
theorem lc_rf (s : dr_S) : lc_F s s := ⟨fun _ _ => rfl, fun _ _ => rfl⟩
theorem lc_dm {s s1 : dr_S} (h : lc_F s s1) : dm_F s s1 := ⟨fun a q => h.1 a (by omega), fun f q => h.2 f (by omega), fun a q => h.1 a (by omega), fun f q => h.2 f (by omega)⟩
theorem lc_M {ln : Nat → Nat} {s s1 : dr_S} {r : sg_R} (h : lc_F s s1) (hM : rp_M ln s r) : rp_M ln s1 r := rM_fr hM (fun a _ q => h.1 a (by omega)) (fun f _ q => h.2 f (by omega))
theorem qm_lists_i {ln : Nat → Nat} {r : sg_R} {d m : Nat} {kb : Int32 → Int32 → dr_S → Option (Int32 × dr_S)} (hw : wf_lv r) (hd : d < rm_us r) : ∀ (k fu i : Nat) (s : dr_S) (l : List Nat), rp_M ln s r → lc s l → l.length + k ≤ 3600 → (dv_hs (rm_dr r d)).length = i + k → k < fu → ∃ s1, f_X12_lists_p27 ln kb fu (nI d) (nI m) (nI i) s = kb (nO (dv_th (rm_dr r d))) (nI (m + 1)) s1 ∧ lc_F s s1 ∧ lc s1 (l ++ (dv_hs (rm_dr r d)).drop i)
  | k, 0, _, _, _, _, _, _, _, q => absurd q (Nat.not_lt_zero _)
  | 0, fu + 1, i, s, l, hM, hl, hn, hk, hf => by
    have hus := hw.1.2.1
    have L := mM_L hM
    have hll := (hw.2.2 d hd).1
    obtain ⟨m1, m2, m3⟩ := mM_dr hM d hd
    rw [f_X12_lists_p27, m_rdb L 32 256 rfl (by decide) (by decide) (by omega), m2.1, if_pos (nI_le (by omega) (by omega)), m_rdb L 36 256 rfl (by decide) (by decide) (by omega), m2.2.2.1, q_let, nI_1, List.drop_eq_nil_of_le (by omega), List.append_nil]
    exact ⟨s, rfl, lc_rf s, hl⟩
  | k + 1, fu + 1, i, s, l, hM, hl, hn, hk, hf => by
    have hus := hw.1.2.1
    have L := mM_L hM
    have hll := (hw.2.2 d hd).1
    obtain ⟨m1, m2, m3⟩ := mM_dr hM d hd
    obtain ⟨g, hg⟩ := at_some (l := dv_hs (rm_dr r d)) (i := i) (by omega)
    rw [f_X12_lists_p27, m_rdb L 32 256 rfl (by decide) (by decide) (by omega), m2.1, if_neg (nI_ge (by omega) (by omega)), c14, nI_add, m_rdb L 33 3584 rfl (by decide) (by decide) (by omega), m2.2.2.2.1 i g hg, hl.1, m_wrb L 62 3600 rfl (by decide) (by decide) (by omega), q_letS, show (dr_put s 62 l.length (nI g)).2 1242 = nI l.length from hl.1, nI_1, q_let, nI_1]
    have F1 : lc_F s (dr_pf (dr_put s 62 l.length (nI g)) 1242 (nI (l.length + 1))) := ⟨fun a ha => by rw [q_pf1, q_putO ha], fun f hf => by rw [q_pfO hf]; rfl⟩
    have hl1 : lc (dr_pf (dr_put s 62 l.length (nI g)) 1242 (nI (l.length + 1))) (l ++ [g]) := by
      refine ⟨by rw [q_pf2, List.length_append]; rfl, fun p q hq => ?_⟩
      rw [q_pf1]
      show upd (s.1 62) l.length (nI g) p = _
      by_cases e : p < l.length
      · rw [List.getElem?_append_left e] at hq
        rw [q_updO (by omega)]
        exact hl.2 p q hq
      · have hlt := (List.getElem?_eq_some_iff.mp hq).1
        rw [List.length_append] at hlt
        have hlt : p < l.length + 1 := hlt
        have ep : p = l.length := by omega
        subst ep
        rw [List.getElem?_append_right (Nat.le_refl _), Nat.sub_self] at hq
        cases hq
        exact q_updS _ _ _
    obtain ⟨s1, a1, a2, a3⟩ := qm_lists_i (m := m) (kb := kb) hw hd k fu (i + 1) _ (l ++ [g]) (lc_M F1 hM) hl1 (by rw [List.length_append]; show l.length + 1 + k ≤ 3600; omega) (by omega) (by omega)
    refine ⟨s1, a1, lc_tr F1 a2, ?_⟩
    rw [drop_at hg]
    rw [List.append_assoc] at a3
    exact a3
theorem qm_lists_p {ln : Nat → Nat} {r : sg_R} (hw : wf_lv r) : ∀ (k fu i : Nat) (s : dr_S) (l : List Nat) (o : Option Nat), rp_M ln s r → lc s l → l.length + 10 * k ≤ 3600 → 256 = i + k → k < fu → (∀ d, o = some d → d < rm_us r) → ∃ s1, f_X12_lists_p13 ln fu (nO o) (nI i) s = some (0, s1) ∧ lc_F s s1 ∧ lc s1 (l ++ sg_hc r k o)
  | k, 0, _, _, _, _, _, _, _, _, q, _ => absurd q (Nat.not_lt_zero _)
  | 0, fu + 1, i, s, l, o, hM, hl, hn, hk, hf, ho => by
    rw [f_X12_lists_p13, if_pos (show (256 : Int32) ≤ nI i from nI_le (a := 256) (by omega) (by omega)), hc_0, List.append_nil]
    exact ⟨s, rfl, lc_rf s, hl⟩
  | k + 1, fu + 1, i, s, l, none, hM, hl, hn, hk, hf, ho => by
    rw [f_X12_lists_p13, if_neg (show ¬ (256 : Int32) ≤ nI i from nI_ge (b := 256) (by omega) (by omega)), if_pos (show nO none = (-1 : Int32) from rfl), hc_n, List.append_nil]
    exact ⟨s, rfl, lc_rf s, hl⟩
  | k + 1, fu + 1, i, s, l, some d, hM, hl, hn, hk, hf, ho => by
    have hd := ho d rfl
    have hus := hw.1.2.1
    have hll := (hw.2.2 d hd).1
    rw [f_X12_lists_p13, if_neg (show ¬ (256 : Int32) ≤ nI i from nI_ge (b := 256) (by omega) (by omega)), show nO (some d) = nI d from rfl, if_neg (n1_ne (by omega))]
    obtain ⟨s1, a1, a2, a3⟩ := qm_lists_i (ln := ln) (m := i) (kb := f_X12_lists_p13 ln fu) hw hd (dv_hs (rm_dr r d)).length dr_N 0 s l hM hl (by omega) (by omega) (by unfold dr_N; omega)
    rw [show f_X12_lists_p27 ln (f_X12_lists_p13 ln fu) dr_N (nI d) (nI i) 0 s = _ from a1]
    rw [List.drop_zero] at a3
    obtain ⟨s2, b1, b2, b3⟩ := qm_lists_p hw k fu (i + 1) s1 _ (dv_th (rm_dr r d)) (lc_M a2 hM) a3 (by rw [List.length_append]; omega) (by omega) (by omega) (hw.2.2 d hd).2.2
    refine ⟨s2, b1, lc_tr a2 b2, ?_⟩
    rw [hc_s, ← List.append_assoc]
    exact b3

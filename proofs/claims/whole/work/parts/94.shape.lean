/-! 94: shape -/
theorem sg_ah_tr : ∀ (ru : List (Nat × Bool)) (x y z : Nat), sg_ah ru x y = true → sg_ah ru y z = true → sg_ah ru x z = true
  | [], x, y, z, h1, h2 => by
    rw [sg_ah] at h1 h2 ⊢
    have h1 := of_decide_eq_true h1
    have h2 := of_decide_eq_true h2
    exact decide_eq_true (by omega)
  | (d, g) :: r, x, y, z, h1, h2 => by
    rw [sg_ah] at h1 h2 ⊢
    by_cases e1 : sg_dig x d = sg_dig y d
    · rw [if_pos e1] at h1
      by_cases e2 : sg_dig y d = sg_dig z d
      · rw [if_pos e2] at h2
        rw [if_pos (e1.trans e2)]
        exact sg_ah_tr r x y z h1 h2
      · rw [if_neg e2] at h2
        rw [if_neg (by omega), e1]
        exact h2
    · rw [if_neg e1] at h1
      by_cases e2 : sg_dig y d = sg_dig z d
      · rw [if_pos e2] at h2
        rw [if_neg (by omega), ← e2]
        exact h1
      · rw [if_neg e2] at h2
        cases g with
        | true =>
          rw [if_pos rfl] at h1 h2
          have h1 := of_decide_eq_true h1
          have h2 := of_decide_eq_true h2
          rw [if_neg (by omega), if_pos rfl]
          exact decide_eq_true (by omega)
        | false =>
          rw [if_neg (by decide)] at h1 h2
          have h1 := of_decide_eq_true h1
          have h2 := of_decide_eq_true h2
          rw [if_neg (by omega), if_neg (by decide)]
          exact decide_eq_true (by omega)
/-- bad headings, as the reference asks, and as the class does -/
def sg_bh (ru : List (Nat × Bool)) (x : sg_D) : Option Nat → List Nat → Bool
  | _, [] => false
  | p, g :: q => !(sg_cov ru x g) || ((match p with | none => false | some a => !(sg_ah ru a g)) || sg_bh ru x (some g) q)
def sg_bc (ru : List (Nat × Bool)) (x : sg_D) : Nat → List Nat → Bool
  | g, [] => !(sg_cov ru x g)
  | g, a :: q => if sg_ah ru g a then sg_bc ru x a q else true
theorem sg_bc_eq (ru : List (Nat × Bool)) (x : sg_D) : ∀ (q : List Nat) (g : Nat), sg_bc ru x g q = (!(sg_cov ru x g) || sg_bh ru x (some g) q)
  | [], g => by
    rw [sg_bc, sg_bh, Bool.or_false]
  | a :: q, g => by
    rw [sg_bc, sg_bh]
    cases ha : sg_ah ru g a with
    | false =>
      rw [if_neg (by decide)]
      cases sg_cov ru x g <;> cases sg_cov ru x a <;> rfl
    | true =>
      rw [if_pos rfl, sg_bc_eq ru x q a]
      cases hg : sg_cov ru x g with
      | true =>
        show _ = (false || (!sg_cov ru x a || (!true || sg_bh ru x (some a) q)))
        cases sg_cov ru x a <;> rfl
      | false =>
        have hca : sg_cov ru x a = false := by
          unfold sg_cov at hg ⊢
          cases hh : dv_hi x with
          | none => rw [hh] at hg; cases hg
          | some t =>
            rw [hh] at hg
            have q1 : sg_ah ru t g = true := by
              cases h2 : sg_ah ru t g with
              | true => rfl
              | false =>
                have hg : (!(sg_ah ru t g)) = false := hg
                rw [h2] at hg
                cases hg
            show (!(sg_ah ru t a)) = false
            rw [sg_ah_tr ru t g a q1 ha]
            rfl
        rw [hca]
        rfl
/-- bad children -/
def sg_bk (r : sg_R) : List Nat → List Nat → Bool
  | h :: hs, c :: cs => (match dv_hi (rm_dr r c) with | none => true | some g => sg_ah (rm_ru r) h g) || sg_bk r hs cs
  | _, _ => false
theorem sg_bk_nil (r : sg_R) (l : List Nat) : sg_bk r [] l = false := by cases l <;> rfl
def sg_bad2 (r : sg_R) (d : Nat) : Bool := sg_bh (rm_ru r) (rm_dr r d) none (dv_hs (rm_dr r d)) || (decide (0 < dv_lev (rm_dr r d)) && sg_bk r (dv_hs (rm_dr r d)) (dv_cs (rm_dr r d)))
def sg_shp (r : sg_R) : Nat → Nat → Option Nat
  | 0, _ => none
  | k + 1, i => if sg_bad2 r i then some i else sg_shp r k (i + 1)
/-- what shape needs -/
def wf_sh (r : sg_R) : Prop := wf_sz r ∧ rl_ok (rm_ru r) ∧ (∀ d, d < rm_us r → hs_ok (rm_b r) (rm_dr r d) ∧ (dv_hs (rm_dr r d)).length ≤ 2 * rm_b r ∧ dv_lev (rm_dr r d) < 64 ∧ (0 < dv_lev (rm_dr r d) → (dv_cs (rm_dr r d)).length = (dv_hs (rm_dr r d)).length + 1 ∧ ∀ k ∈ dv_cs (rm_dr r d), k < rm_us r ∧ dv_lev (rm_dr r k) + 1 = dv_lev (rm_dr r d)))
theorem iv_sh {r : sg_R} {rk : Nat → Nat} {t : Nat} (st : iv_st r rk) (hcn : cnv t (dv_lev (rm_dr r (rm_to r))) (cnt r) (fun L => psum (pd r L)) (mh r)) : wf_sh r := ⟨iv_sz st, st.1.2.2.2, fun d hd => ⟨iv_hs (st.2.2.1 d hd).1, (st.2.2.1 d hd).1.2.1, by have := iv_l11 st hcn hd; omega, (st.2.2.1 d hd).1.2.2.2.2.2.2.1⟩⟩
theorem q9_bh_p {ln : Nat → Nat} {s : dr_S} {r : sg_R} {d : Nat} (hC : rp_C ln s r) (hw : wf_sh r) (hd : d < rm_us r) : ∀ (k fu i g : Nat), (dv_hs (rm_dr r d)).length = i + k → k < fu → 0 < i → g < 10000 → f_X9_hasBadHeadings_p23 ln fu (nI d) (nI (dv_hs (rm_dr r d)).length) (nI g) (nI i) s = some (bI (sg_bc (rm_ru r) (rm_dr r d) g ((dv_hs (rm_dr r d)).drop i)), s)
  | k, 0, _, _, _, q, _, _ => absurd q (Nat.not_lt_zero _)
  | 0, fu + 1, i, g, hk, hf, hi, hg => by
    have hus := hw.1.2.1
    have hb := hw.1.1
    obtain ⟨ho, hl, _⟩ := hw.2.2 d hd
    have hx := (hC.2.2.2.2.2.1 d hd).1
    have h2b : (2 : Int32) * nI (rm_b r) = nI (2 * rm_b r) := by rw [show (2 : Int32) = nI 2 from rfl, pk_mul]
    rw [f_X9_hasBadHeadings_p23, if_pos (nI_le (by omega) (by omega)), q4_half hC.1, q_bi, h2b, if_neg (nI_nlt hl (by omega)), if_neg (show ¬ nI (dv_hs (rm_dr r d)).length ≤ 0 from nI_ge (a := 0) (by omega) (by omega)), q4_covers hC.1 hC.2.1.1 hC.2.2.1 hw.2.1 (by omega) hx ho hg, q_bi, List.drop_eq_nil_of_le (by omega), sg_bc]
    cases sg_cov (rm_ru r) (rm_dr r d) g <;> rfl
  | k + 1, fu + 1, i, g, hk, hf, hi, hg => by
    have hus := hw.1.2.1
    have hb := hw.1.1
    obtain ⟨ho, hl, _⟩ := hw.2.2 d hd
    have hx := (hC.2.2.2.2.2.1 d hd).1
    obtain ⟨a, ha⟩ := at_some (l := dv_hs (rm_dr r d)) (i := i) (by omega)
    have ha2 := ho.2.1 a (List.mem_of_getElem? ha)
    rw [f_X9_hasBadHeadings_p23, if_neg (nI_ge (by omega) (by omega)), q4_heading hC.1 (by omega) hx.2.1 ho.1 (by omega), q_bi, if_pos (by omega), hx.2.2.2.2.1 i a ha, q5_isAhead hC.2.1.1 hC.2.2.1 hw.2.1 hg ha2, q_bi, drop_at ha, sg_bc]
    cases hah : sg_ah (rm_ru r) g a with
    | true =>
      rw [if_neg (show ¬ bI true = (0 : Int32) by decide), q_let, nI_1, q9_bh_p hC hw hd k fu (i + 1) a (by omega) (by omega) (by omega) ha2, if_pos rfl]
    | false =>
      rw [if_pos (show bI false = (0 : Int32) from rfl), if_neg (by decide)]
      rfl
theorem q9_bh {ln : Nat → Nat} {s : dr_S} {r : sg_R} {d : Nat} (hC : rp_C ln s r) (hw : wf_sh r) (hd : d < rm_us r) : f_X9_hasBadHeadings ln (nI d) s = some (bI (sg_bh (rm_ru r) (rm_dr r d) none (dv_hs (rm_dr r d))), s) := by
  have hus := hw.1.2.1
  have hb := hw.1.1
  obtain ⟨ho, hl, _⟩ := hw.2.2 d hd
  have hx := (hC.2.2.2.2.2.1 d hd).1
  have g1 := q4_get (d := d) (k := 1) hC.1 (by omega) (by omega)
  rw [hx.2.1] at g1
  unfold f_X9_hasBadHeadings
  rw [show f_X4_get ln (nI d) 1 s = _ from g1, q_bi, show f_X4_heading ln (nI d) 0 s = _ from q4_heading (k := 0) hC.1 (by omega) hx.2.1 ho.1 (by omega), q_bi]
  cases hh : dv_hs (rm_dr r d) with
  | nil =>
    have q : ∀ fu, f_X9_hasBadHeadings_p23 ln (fu + 1) (nI d) (nI 0) (-1) 1 s = some (0, s) := by
      intro fu
      rw [f_X9_hasBadHeadings_p23, if_pos (by decide), q4_half hC.1, q_bi, if_neg (by
        rw [show (2 : Int32) * nI (rm_b r) = nI (2 * rm_b r) from by rw [show (2 : Int32) = nI 2 from rfl, pk_mul]]
        exact nI_nlt (by omega) (by omega)), if_pos (by decide)]
    exact q 999999
  | cons g q =>
    have hg : (dv_hs (rm_dr r d))[0]? = some g := by rw [hh]; rfl
    have hg2 := ho.2.1 g (List.mem_of_getElem? hg)
    have hlen : (dv_hs (rm_dr r d)).length = 1 + q.length := by rw [hh, List.length_cons]; omega
    have e := q9_bh_p hC hw hd q.length dr_N 1 g hlen (by unfold dr_N; omega) (by omega) hg2
    rw [hh] at e
    have v0 := hx.2.2.2.2.1 0 g hg
    rw [if_pos (show 0 < (g :: q).length from Nat.succ_pos _), v0]
    rw [show f_X9_hasBadHeadings_p23 ln dr_N (nI d) (nI (g :: q).length) (nI g) 1 s = _ from e, show (g :: q).drop 1 = q from rfl, sg_bc_eq, sg_bh]
    rfl
theorem q9_bk_p {ln : Nat → Nat} {s : dr_S} {r : sg_R} {d : Nat} (hC : rp_C ln s r) (hw : wf_sh r) (hd : d < rm_us r) (hlv : 0 < dv_lev (rm_dr r d)) : ∀ (k fu i : Nat), (dv_hs (rm_dr r d)).length + 1 = i + k → k < fu → f_X9_hasBadChildren_p25 ln fu (nI d) (nI (dv_hs (rm_dr r d)).length) (nI (dv_lev (rm_dr r d) - 1)) (nI i) s = some (bI (sg_bk r ((dv_hs (rm_dr r d)).drop i) ((dv_cs (rm_dr r d)).drop i)), s)
  | k, 0, _, _, q => absurd q (Nat.not_lt_zero _)
  | 0, fu + 1, i, hk, hf => by
    have hus := hw.1.2.1
    have hb := hw.1.1
    obtain ⟨ho, hl, _⟩ := hw.2.2 d hd
    rw [f_X9_hasBadChildren_p25, if_pos (nI_lt (by omega) (by omega)), List.drop_eq_nil_of_le (by omega)]
    rfl
  | k + 1, fu + 1, i, hk, hf => by
    have hus := hw.1.2.1
    have hb := hw.1.1
    obtain ⟨ho, hl, hl64, hcs⟩ := hw.2.2 d hd
    obtain ⟨hcl, hcu⟩ := hcs hlv
    have hx := (hC.2.2.2.2.2.1 d hd).1
    obtain ⟨c, hc⟩ := at_some (l := dv_cs (rm_dr r d)) (i := i) (by omega)
    obtain ⟨cu, cl⟩ := hcu c (List.mem_of_getElem? hc)
    have hxc := (hC.2.2.2.2.2.1 c cu).1
    have hoc := (hw.2.2 c cu).1
    have gu := q4_inUse hC.1
    rw [hC.2.2.2.2.1] at gu
    have g0 := q4_get (d := c) (k := 0) hC.1 (by omega) (by omega)
    have g2 := q4_get (d := c) (k := 2) hC.1 (by omega) (by omega)
    rw [hxc.1] at g0
    rw [hxc.2.2.1] at g2
    rw [f_X9_hasBadChildren_p25, if_neg (nI_nlt (by omega) (by omega)), q4_child hC.1 (by omega) hx ho hlv (by omega) (by omega) hc, q_bi, if_neg (nI_pos (by omega)), gu, q_bi, if_pos (nI_lt cu (by omega))]
    unfold f_X9_hasBadChildren_p65 f_X9_hasBadChildren_p136
    rw [if_pos rfl, show f_X4_get ln (nI c) 0 s = _ from g0, q_bi, if_pos (by rw [show dv_lev (rm_dr r c) = dv_lev (rm_dr r d) - 1 by omega]), show f_X4_get ln (nI c) 2 s = _ from g2, q_bi, drop_at hc]
    by_cases e : i < (dv_hs (rm_dr r d)).length
    · obtain ⟨h, hh⟩ := at_some e
      have hh2 := ho.2.1 h (List.mem_of_getElem? hh)
      rw [if_neg (nI_ge e (by omega)), drop_at hh, sg_bk]
      cases hhi : dv_hi (rm_dr r c) with
      | none => rw [if_pos (show nO none = (-1 : Int32) from rfl)]; rfl
      | some g =>
        have hg := hoc.2.2 g hhi
        rw [show nO (some g) = nI g from rfl, if_neg (n1_ne (by omega)), q4_heading hC.1 (by omega) hx.2.1 ho.1 (by omega), q_bi, if_pos e, hx.2.2.2.2.1 i h hh, q5_isAhead hC.2.1.1 hC.2.2.1 hw.2.1 hh2 hg, q_bi]
        show _ = some (bI (sg_ah (rm_ru r) h g || sg_bk r _ _), s)
        cases sg_ah (rm_ru r) h g with
        | true => rw [if_neg (show ¬ bI true = (0 : Int32) by decide)]; rfl
        | false =>
          rw [if_pos (show bI false = (0 : Int32) from rfl), q_let, nI_1, q9_bk_p hC hw hd hlv k fu (i + 1) (by omega) (by omega), Bool.false_or]
    · rw [if_pos (nI_le (by omega) (by omega)), q_let, nI_1, q9_bk_p hC hw hd hlv k fu (i + 1) (by omega) (by omega), show (dv_hs (rm_dr r d)).drop (i + 1) = [] from List.drop_eq_nil_of_le (by omega), show (dv_hs (rm_dr r d)).drop i = [] from List.drop_eq_nil_of_le (by omega), sg_bk_nil, sg_bk_nil]
theorem q9_bk {ln : Nat → Nat} {s : dr_S} {r : sg_R} {d : Nat} (hC : rp_C ln s r) (hw : wf_sh r) (hd : d < rm_us r) (hlv : 0 < dv_lev (rm_dr r d)) : f_X9_hasBadChildren ln (nI d) s = some (bI (sg_bk r (dv_hs (rm_dr r d)) (dv_cs (rm_dr r d))), s) := by
  have hus := hw.1.2.1
  have hb := hw.1.1
  obtain ⟨ho, hl, hl64, hcs⟩ := hw.2.2 d hd
  have hx := (hC.2.2.2.2.2.1 d hd).1
  have g0 := q4_get (d := d) (k := 0) hC.1 (by omega) (by omega)
  have g1 := q4_get (d := d) (k := 1) hC.1 (by omega) (by omega)
  rw [hx.1] at g0
  rw [hx.2.1] at g1
  unfold f_X9_hasBadChildren
  rw [show f_X4_get ln (nI d) 1 s = _ from g1, q_bi, show f_X4_get ln (nI d) 0 s = _ from g0, q_bi, q_let, show nI (dv_lev (rm_dr r d)) - 1 = nI (dv_lev (rm_dr r d) - 1) from by rw [show (1 : Int32) = nI 1 from rfl, pk_sub (by omega)]]
  exact q9_bk_p hC hw hd hlv ((dv_hs (rm_dr r d)).length + 1) dr_N 0 (by omega) (by unfold dr_N; omega)
theorem q9_least_p {ln : Nat → Nat} {s : dr_S} {r : sg_R} (hC : rp_C ln s r) (hw : wf_sh r) : ∀ (k fu i : Nat), rm_us r = i + k → k < fu → f_X9_leastBad_p2 ln fu (nI i) s = some (nO (sg_shp r k i), s)
  | k, 0, _, _, q => absurd q (Nat.not_lt_zero _)
  | 0, fu + 1, i, hk, hf => by
    have hus := hw.1.2.1
    have gu := q4_inUse hC.1
    rw [hC.2.2.2.2.1] at gu
    rw [f_X9_leastBad_p2, gu, q_bi, if_pos (nI_le (by omega) (by omega))]
    rfl
  | k + 1, fu + 1, i, hk, hf => by
    have hus := hw.1.2.1
    have hb := hw.1.1
    have hd : i < rm_us r := by omega
    obtain ⟨ho, hl, hl64, hcs⟩ := hw.2.2 i hd
    have gu := q4_inUse hC.1
    rw [hC.2.2.2.2.1] at gu
    have g0 := q4_get (d := i) (k := 0) hC.1 (by omega) (by omega)
    rw [(hC.2.2.2.2.2.1 i hd).1.1] at g0
    have ih := q9_least_p hC hw k fu (i + 1) (by omega) (by omega)
    rw [f_X9_leastBad_p2, gu, q_bi, if_neg (nI_ge (by omega) (by omega)), show f_X4_get ln (nI i) 0 s = _ from g0, q_bi, sg_shp]
    unfold f_X9_leastBad_p30 f_X9_leastBad_p53 sg_bad2
    rw [q9_bh hC hw hd, q_bi, q_bi]
    by_cases e : 0 < dv_lev (rm_dr r i)
    · rw [if_neg (show ¬ nI (dv_lev (rm_dr r i)) ≤ 0 from nI_ge (a := 0) e (by omega)), show decide (0 < dv_lev (rm_dr r i)) = true from decide_eq_true e]
      cases sg_bh (rm_ru r) (rm_dr r i) none (dv_hs (rm_dr r i)) with
      | true => rw [if_neg (show ¬ bI true = (0 : Int32) by decide), if_pos (show (true || _) = true from rfl)]; rfl
      | false =>
        rw [if_pos (show bI false = (0 : Int32) from rfl), if_neg (by decide), q9_bk hC hw hd e, q_bi]
        cases sg_bk r (dv_hs (rm_dr r i)) (dv_cs (rm_dr r i)) with
        | true => rw [if_neg (show ¬ bI true = (0 : Int32) by decide), if_pos (show (false || (true && true)) = true from rfl)]; rfl
        | false => rw [if_pos (show bI false = (0 : Int32) from rfl), q_let, nI_1, ih, if_neg (show ¬ (false || (true && false)) = true by decide)]
    · rw [if_pos (show nI (dv_lev (rm_dr r i)) ≤ 0 by rw [show dv_lev (rm_dr r i) = 0 by omega]; decide), show decide (0 < dv_lev (rm_dr r i)) = false from decide_eq_false e]
      cases sg_bh (rm_ru r) (rm_dr r i) none (dv_hs (rm_dr r i)) with
      | true => rw [if_neg (show ¬ bI true = (0 : Int32) by decide), if_pos (show (true || _) = true from rfl)]; rfl
      | false => rw [if_pos (show bI false = (0 : Int32) from rfl), if_pos rfl, q_let, nI_1, ih, if_neg (show ¬ (false || (false && _)) = true from fun z => by cases z)]
theorem q9_least {ln : Nat → Nat} {s : dr_S} {r : sg_R} (hC : rp_C ln s r) (hw : wf_sh r) : f_X9_leastBad ln s = some (nO (sg_shp r (rm_us r) 0), s) := q9_least_p hC hw (rm_us r) dr_N 0 (by omega) (by have := hw.1.2.1; unfold dr_N; omega)

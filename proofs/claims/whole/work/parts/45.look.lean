/-! 45: looking into a drawer: covers, the way, a heading's place; both sides -/
def sg_cov (ru : List (Nat × Bool)) (x : sg_D) (h : Nat) : Bool := match dv_hi x with
  | none => true
  | some g => !(sg_ah ru g h)
def sg_way (ru : List (Nat × Bool)) : List Nat → Nat → Nat
  | [], _ => 0
  | g :: r, h => if sg_ah ru g h then sg_way ru r h + 1 else 0
def sg_pos : List Nat → Nat → Option Nat
  | [], _ => none
  | g :: r, h => if g = h then some 0 else (sg_pos r h).map (· + 1)
theorem sg_way_le (ru : List (Nat × Bool)) (h : Nat) : ∀ hs : List Nat, sg_way ru hs h ≤ hs.length
  | [] => Nat.le_refl _
  | g :: r => by
    rw [sg_way]
    have := sg_way_le ru h r
    split
    · rw [List.length_cons]; omega
    · omega
theorem sg_pos_lt {h : Nat} : ∀ {hs : List Nat} {k : Nat}, sg_pos hs h = some k → hs[k]? = some h
  | [], k, e => by cases e
  | g :: r, k, e => by
    rw [sg_pos] at e
    split at e
    · next hg => cases e; rw [hg]; rfl
    · cases hp : sg_pos r h with
      | none => rw [hp] at e; cases e
      | some j =>
        rw [hp] at e
        cases e
        show (g :: r)[j + 1]? = some h
        rw [List.getElem?_cons_succ]
        exact sg_pos_lt hp
/-- headings are below 10000, and not too many -/
def hs_ok (b : Nat) (x : sg_D) : Prop := (dv_hs x).length ≤ 2 * b + 1 ∧ (∀ h ∈ dv_hs x, h < 10000) ∧ (∀ g, dv_hi x = some g → g < 10000)
theorem q4_covers {b : Nat} {ln : Nat → Nat} {s : dr_S} {ru : List (Nat × Bool)} {d h : Nat} {x : sg_D} (hG : dq_G b ln s) (hl : ln 18 = 4) (hr : rp_rule s ru) (hok : rl_ok ru) (hd : d < 260) (hx : rp_row (s.1 14) b d x) (ho : hs_ok b x) (hh : h < 10000) : f_X4_covers ln (nI d) (nI h) s = some (bI (sg_cov ru x h), s) := by
  have hb := hG.1
  unfold f_X4_covers
  rw [show (2 : Int32) = nI 2 from rfl, q4_get hG hd (by omega), q_bi, hx.2.2.1]
  unfold sg_cov
  cases hi : dv_hi x with
  | none =>
    rw [show nO none = (-1 : Int32) from rfl, if_pos rfl]
    rfl
  | some g =>
    have hg := ho.2.2 g hi
    rw [show nO (some g) = nI g from rfl, if_neg (fun q => nI_pos (n := g) (by omega) (by rw [q]; decide)), q5_isAhead hl hr hok hg hh, q_bi]
    show (if bI (sg_ah ru g h) = 0 then some (1, s) else some (0, s)) = some (bI (!sg_ah ru g h), s)
    cases sg_ah ru g h <;> rfl
theorem q4_wayOf_p {b : Nat} {ln : Nat → Nat} {s : dr_S} {ru : List (Nat × Bool)} {d h : Nat} {x : sg_D} (hG : dq_G b ln s) (hl : ln 18 = 4) (hr : rp_rule s ru) (hok : rl_ok ru) (hd : d < 260) (hx : rp_row (s.1 14) b d x) (ho : hs_ok b x) (hh : h < 10000) : ∀ (fu i : Nat), i ≤ (dv_hs x).length → (dv_hs x).length - i < fu → f_X4_wayOf_p20 ln fu (nI h) (nI (dv_hs x).length) (nI (d * (4 * b + 8) + 5)) (nI i) s = some (nI (i + sg_way ru ((dv_hs x).drop i) h), s)
  | 0, _, _, q => absurd q (Nat.not_lt_zero _)
  | fu + 1, i, hi, hf => by
    have hb := hG.1
    have hn := ho.1
    rw [f_X4_wayOf_p20]
    by_cases hq : i = (dv_hs x).length
    · rw [hq, if_pos (nI_le (Nat.le_refl _) (by omega)), List.drop_length]
      rfl
    · have hlt : i < (dv_hs x).length := by omega
      obtain ⟨g, he⟩ : ∃ g, (dv_hs x)[i]? = some g := ⟨_, List.getElem?_eq_getElem hlt⟩
      have hdrop : (dv_hs x).drop i = g :: (dv_hs x).drop (i + 1) := by
        rw [List.drop_eq_getElem_cons hlt]
        rw [List.getElem?_eq_getElem hlt] at he
        rw [Option.some.inj he]
      have hg : g < 10000 := ho.2.1 g (List.mem_of_getElem? he)
      have hv := hx.2.2.2.2.1 i g he
      have hlp := dp_lt (k := 5 + i) hG.1 hd (by omega)
      unfold dp at hlp
      rw [if_neg (nI_ge hlt (by omega)), nI_add, q_get (q_GL hG) (p := d * (4 * b + 8) + 5 + i) (by rw [hG.2.1.1]; omega), q_bi, show d * (4 * b + 8) + 5 + i = dp b d (5 + i) by unfold dp; omega, hv, q5_isAhead hl hr hok hg hh, q_bi, hdrop, sg_way]
      cases ha : sg_ah ru g h with
      | true =>
        rw [if_neg (by decide), if_pos rfl]
        show f_X4_wayOf_p20 ln fu (nI h) (nI (dv_hs x).length) (nI (d * (4 * b + 8) + 5)) (nI i + 1) s = _
        rw [nI_1, q4_wayOf_p hG hl hr hok hd hx ho hh fu (i + 1) (by omega) (by omega)]
        rw [show i + 1 + sg_way ru ((dv_hs x).drop (i + 1)) h = i + (sg_way ru ((dv_hs x).drop (i + 1)) h + 1) by omega]
      | false =>
        rw [if_pos (by decide), if_neg (by decide)]
        rfl
theorem q4_wayOf {b : Nat} {ln : Nat → Nat} {s : dr_S} {ru : List (Nat × Bool)} {d h : Nat} {x : sg_D} (hG : dq_G b ln s) (hl : ln 18 = 4) (hr : rp_rule s ru) (hok : rl_ok ru) (hd : d < 260) (hx : rp_row (s.1 14) b d x) (ho : hs_ok b x) (hh : h < 10000) : f_X4_wayOf ln (nI d) (nI h) s = some (nI (sg_way ru (dv_hs x) h), s) := by
  have hb := hG.1
  have hn := ho.1
  unfold f_X4_wayOf
  rw [show (1 : Int32) = nI 1 from rfl, q4_get hG hd (by omega), q_bi, hx.2.1, hG.2.2.2.1, show (5 : Int32) = nI 5 from rfl, pk_mul, nI_add]
  have h := q4_wayOf_p hG hl hr hok hd hx ho hh dr_N 0 (Nat.zero_le _) (by unfold dr_N; omega)
  rw [Nat.zero_add] at h
  exact h
theorem q4_placeOf_p {b : Nat} {ln : Nat → Nat} {s : dr_S} {d h : Nat} {x : sg_D} (hG : dq_G b ln s) (hd : d < 260) (hx : rp_row (s.1 14) b d x) (ho : hs_ok b x) (hh : h < 10000) : ∀ (fu i : Nat), i ≤ (dv_hs x).length → (dv_hs x).length - i < fu → f_X4_placeOf_p20 ln fu (nI h) (nI (dv_hs x).length) (nI (d * (4 * b + 8) + 5)) (nI i) s = some (nO ((sg_pos ((dv_hs x).drop i) h).map (i + ·)), s)
  | 0, _, _, q => absurd q (Nat.not_lt_zero _)
  | fu + 1, i, hi, hf => by
    have hb := hG.1
    have hn := ho.1
    rw [f_X4_placeOf_p20]
    by_cases hq : i = (dv_hs x).length
    · rw [hq, if_pos (nI_le (Nat.le_refl _) (by omega)), List.drop_length]
      rfl
    · have hlt : i < (dv_hs x).length := by omega
      obtain ⟨g, he⟩ : ∃ g, (dv_hs x)[i]? = some g := ⟨_, List.getElem?_eq_getElem hlt⟩
      have hdrop : (dv_hs x).drop i = g :: (dv_hs x).drop (i + 1) := by
        rw [List.drop_eq_getElem_cons hlt]
        rw [List.getElem?_eq_getElem hlt] at he
        rw [Option.some.inj he]
      have hg : g < 10000 := ho.2.1 g (List.mem_of_getElem? he)
      have hv := hx.2.2.2.2.1 i g he
      have hlp := dp_lt (k := 5 + i) hG.1 hd (by omega)
      unfold dp at hlp
      rw [if_neg (nI_ge hlt (by omega)), nI_add, q_get (q_GL hG) (p := d * (4 * b + 8) + 5 + i) (by rw [hG.2.1.1]; omega), q_bi, show d * (4 * b + 8) + 5 + i = dp b d (5 + i) by unfold dp; omega, hv, hdrop, sg_pos]
      by_cases e : g = h
      · subst e
        rw [if_pos rfl, if_pos rfl]
        rfl
      · rw [if_neg (fun q => e ((nI_eq (by omega) (by omega)).mp q)), if_neg e]
        show f_X4_placeOf_p20 ln fu (nI h) (nI (dv_hs x).length) (nI (d * (4 * b + 8) + 5)) (nI i + 1) s = _
        rw [nI_1, q4_placeOf_p hG hd hx ho hh fu (i + 1) (by omega) (by omega)]
        cases sg_pos ((dv_hs x).drop (i + 1)) h with
        | none => rfl
        | some j =>
          show some (nI (i + 1 + j), s) = some (nI (i + (j + 1)), s)
          rw [show i + 1 + j = i + (j + 1) by omega]
theorem q4_placeOf {b : Nat} {ln : Nat → Nat} {s : dr_S} {d h : Nat} {x : sg_D} (hG : dq_G b ln s) (hd : d < 260) (hx : rp_row (s.1 14) b d x) (ho : hs_ok b x) (hh : h < 10000) : f_X4_placeOf ln (nI d) (nI h) s = some (nO (sg_pos (dv_hs x) h), s) := by
  have hb := hG.1
  have hn := ho.1
  unfold f_X4_placeOf
  rw [show (1 : Int32) = nI 1 from rfl, q4_get hG hd (by omega), q_bi, hx.2.1, hG.2.2.2.1, show (5 : Int32) = nI 5 from rfl, pk_mul, nI_add]
  have e := q4_placeOf_p hG hd hx ho hh dr_N 0 (Nat.zero_le _) (by unfold dr_N; omega)
  rw [List.drop_zero] at e
  refine Eq.trans e ?_
  cases sg_pos (dv_hs x) h with
  | none => rfl
  | some j =>
    show some (nI (0 + j), s) = some (nI j, s)
    rw [Nat.zero_add]
/-- the k-th child of a guide -/
theorem q4_child {b : Nat} {ln : Nat → Nat} {s : dr_S} {d k c : Nat} {x : sg_D} (hG : dq_G b ln s) (hd : d < 260) (hx : rp_row (s.1 14) b d x) (ho : hs_ok b x) (hlev : 0 < dv_lev x) (hll : dv_lev x < 2 ^ 31) (hk : k ≤ (dv_hs x).length) (hc : (dv_cs x)[k]? = some c) : f_X4_child ln (nI d) (nI k) s = some (nI c, s) := by
  have hb := hG.1
  have hn := ho.1
  have hlp := dp_lt (k := 2 * b + 6 + k) hG.1 hd (by omega)
  have hv := hx.2.2.2.2.2 hlev k c hc
  have g0 := q4_get (d := d) (k := 0) hG hd (by omega)
  have g1 := q4_get (d := d) (k := 1) hG hd (by omega)
  unfold f_X4_child f_X4_child_p28
  rw [show f_X4_get ln (nI d) 0 s = _ from g0, q_bi, hx.1, if_neg (nI_nle hlev hll), if_neg (nI_pos (by omega)), show f_X4_get ln (nI d) 1 s = _ from g1, q_bi, hx.2.1, if_neg (nI_nlt hk (by omega)), if_neg (by decide), hG.2.2.2.1, hG.2.2.2.2.1, pk_mul, nI_add, nI_add]
  unfold dp at hlp hv
  rw [q_get (q_GL hG) (p := d * (4 * b + 8) + (2 * b + 6) + k) (by rw [hG.2.1.1]; omega), q_bi, show d * (4 * b + 8) + (2 * b + 6) + k = d * (4 * b + 8) + (2 * b + 6 + k) by omega, hv]
/-- the reference's -/
def rp_mru (s : dr_S) (ru : List (Nat × Bool)) : Prop := s.2 1201 = nI ru.length ∧ ∀ (i d : Nat) (g : Bool), ru[i]? = some (d, g) → s.1 28 i = nI d ∧ s.1 29 i = (if g then 1 else 0)
def dq_ML (ln : Nat → Nat) : Prop := ∀ i, 28 ≤ i → ln i = dr_ln 0 i
theorem qm_l {ln : Nat → Nat} (h : dq_ML ln) : ln 28 = 4 ∧ ln 29 = 4 := ⟨h 28 (by omega), h 29 (by omega)⟩
theorem qm_covers {b : Nat} {ln : Nat → Nat} {s : dr_S} {ru : List (Nat × Bool)} {d h : Nat} {x : sg_D} (hL : dq_ML ln) (hr : rp_mru s ru) (hok : rl_ok ru) (hd : d < 256) (hx : s.1 35 d = nO (dv_hi x)) (ho : hs_ok b x) (hh : h < 10000) : f_X12_covers ln (nI d) (nI h) s = some (bI (sg_cov ru x h), s) := by
  have l35 : ln 35 = 256 := hL 35 (by omega)
  unfold f_X12_covers
  rw [q_rd (by omega) (by omega), Option.bind_some, hx]
  unfold sg_cov
  cases hi : dv_hi x with
  | none =>
    rw [show nO none = (-1 : Int32) from rfl, if_pos rfl]
    rfl
  | some g =>
    have hg := ho.2.2 g hi
    rw [show nO (some g) = nI g from rfl, if_neg (fun q => nI_pos (n := g) (by omega) (by rw [q]; decide)), Option.bind_some, qm_isAhead (qm_l hL) hr hok hg hh, q_bi]
    show (if bI (sg_ah ru g h) = 0 then some (1, s) else some (0, s)) = some (bI (!sg_ah ru g h), s)
    cases sg_ah ru g h <;> rfl
theorem qm_way_p {b : Nat} {ln : Nat → Nat} {s : dr_S} {ru : List (Nat × Bool)} {d h c : Nat} {x : sg_D} (hL : dq_ML ln) (hr : rp_mru s ru) (hok : rl_ok ru) (hb : b ≤ 5) (hd : d < 256) (hx : rp_mrow s 33 34 32 35 36 d x) (ho : hs_ok b x) (hh : h < 10000) (hlev : 0 < dv_lev x) (hc : (dv_cs x)[sg_way ru (dv_hs x) h]? = some c) : ∀ (fu i : Nat), i ≤ (dv_hs x).length → (dv_hs x).length - i < fu → i + sg_way ru ((dv_hs x).drop i) h = sg_way ru (dv_hs x) h → f_X12_way_p2 ln fu (nI d) (nI h) (nI i) s = some (nI c, s)
  | 0, _, _, q, _ => absurd q (Nat.not_lt_zero _)
  | fu + 1, i, hi, hf, hw => by
    have l32 : ln 32 = 256 := hL 32 (by omega)
    have l33 : ln 33 = 3584 := hL 33 (by omega)
    have l34 : ln 34 = 3584 := hL 34 (by omega)
    have hn := ho.1
    have fin : ∀ j, j ≤ (dv_hs x).length → j = sg_way ru (dv_hs x) h → f_X12_way_p37 ln (nI d) (nI j) s = some (nI c, s) := by
      intro j hj ej
      unfold f_X12_way_p37
      rw [show (14 : Int32) = nI 14 from rfl, pk_mul, nI_add, q_rd (by omega) (by omega), Option.bind_some, hx.2.2.2.2 hlev j c (by rw [ej]; exact hc)]
    rw [f_X12_way_p2, q_rd (by omega) (by omega), Option.bind_some, hx.1]
    by_cases hq : i = (dv_hs x).length
    · rw [hq, List.drop_length, sg_way] at hw
      rw [hq, if_pos (nI_le (Nat.le_refl _) (by omega))]
      exact fin _ (Nat.le_refl _) (by omega)
    · have hlt : i < (dv_hs x).length := by omega
      obtain ⟨g, he⟩ : ∃ g, (dv_hs x)[i]? = some g := ⟨_, List.getElem?_eq_getElem hlt⟩
      have hdrop : (dv_hs x).drop i = g :: (dv_hs x).drop (i + 1) := by
        rw [List.drop_eq_getElem_cons hlt]
        rw [List.getElem?_eq_getElem hlt] at he
        rw [Option.some.inj he]
      have hg : g < 10000 := ho.2.1 g (List.mem_of_getElem? he)
      rw [if_neg (nI_ge hlt (by omega)), show (14 : Int32) = nI 14 from rfl, pk_mul, nI_add, q_rd (by omega) (by omega), Option.bind_some, hx.2.2.2.1 i g he, qm_isAhead (qm_l hL) hr hok hg hh, q_bi]
      rw [hdrop, sg_way] at hw
      cases ha : sg_ah ru g h with
      | true =>
        rw [ha, if_pos rfl] at hw
        rw [if_neg (by decide)]
        show f_X12_way_p2 ln fu (nI d) (nI h) (nI i + 1) s = _
        rw [nI_1]
        exact qm_way_p hL hr hok hb hd hx ho hh hlev hc fu (i + 1) (by omega) (by omega) (by omega)
      | false =>
        rw [ha, if_neg (by decide)] at hw
        rw [if_pos (by decide)]
        exact fin i (by omega) (by omega)
theorem qm_way {b : Nat} {ln : Nat → Nat} {s : dr_S} {ru : List (Nat × Bool)} {d h c : Nat} {x : sg_D} (hL : dq_ML ln) (hr : rp_mru s ru) (hok : rl_ok ru) (hb : b ≤ 5) (hd : d < 256) (hx : rp_mrow s 33 34 32 35 36 d x) (ho : hs_ok b x) (hh : h < 10000) (hlev : 0 < dv_lev x) (hc : (dv_cs x)[sg_way ru (dv_hs x) h]? = some c) : f_X12_way ln (nI d) (nI h) s = some (nI c, s) := by
  have hn := ho.1
  exact qm_way_p hL hr hok hb hd hx ho hh hlev hc dr_N 0 (Nat.zero_le _) (by unfold dr_N; omega) (by rw [List.drop_zero, Nat.zero_add])

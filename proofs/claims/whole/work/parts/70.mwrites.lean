/-! 70: the parts of writing, of the reference -/
theorem qm_hasCopy_p {ln : Nat → Nat} {s : dr_S} {c h : Nat} {x : sg_D} (L : dq_ML ln) (hc : c < 4) (hx : rp_mrow s 46 47 45 48 49 c x) (hn : (dv_hs x).length ≤ 11) (ho : ∀ g ∈ dv_hs x, g < 10000) (hh : h < 10000) : ∀ (fu i : Nat), i ≤ (dv_hs x).length → (dv_hs x).length - i < fu → f_X12_hasCopy_p2 ln fu (nI c) (nI h) (nI i) s = some (bI (sg_pos ((dv_hs x).drop i) h).isSome, s)
  | 0, _, _, q => absurd q (Nat.not_lt_zero _)
  | fu + 1, i, hi, hf => by
    rw [f_X12_hasCopy_p2, m_rdb L 45 4 rfl (by decide) (by decide) hc, hx.1]
    by_cases hq : i = (dv_hs x).length
    · rw [hq, if_pos (nI_le (Nat.le_refl _) (by omega)), List.drop_length]
      rfl
    · have hlt : i < (dv_hs x).length := by omega
      obtain ⟨g, he⟩ := at_some hlt
      have hg : g < 10000 := ho g (List.mem_of_getElem? he)
      rw [if_neg (nI_ge hlt (by omega)), c14, nI_add, m_rdb L 46 56 rfl (by decide) (by decide) (by omega), hx.2.2.2.1 i g he, drop_at he, sg_pos]
      by_cases e : g = h
      · rw [e, if_pos rfl, if_pos rfl]
        rfl
      · rw [if_neg (nI_lit (by omega) (by omega) e), if_neg e, q_let, nI_1, qm_hasCopy_p L hc hx hn ho hh fu (i + 1) (by omega) (by omega)]
        cases sg_pos ((dv_hs x).drop (i + 1)) h <;> rfl
theorem qm_hasCopy {ln : Nat → Nat} {s : dr_S} {c h : Nat} {x : sg_D} (L : dq_ML ln) (hc : c < 4) (hx : rp_mrow s 46 47 45 48 49 c x) (hn : (dv_hs x).length ≤ 11) (ho : ∀ g ∈ dv_hs x, g < 10000) (hh : h < 10000) : f_X12_hasCopy ln (nI c) (nI h) s = some (bI (sg_pos (dv_hs x) h).isSome, s) := qm_hasCopy_p L hc hx hn ho hh dr_N 0 (Nat.zero_le _) (by unfold dr_N; omega)
theorem qm_placeIn_p {ln : Nat → Nat} {s : dr_S} {ru : List (Nat × Bool)} {c h : Nat} {x : sg_D} (L : dq_ML ln) (hr : rp_mru s ru) (hok : rl_ok ru) (hc : c < 4) (hx : rp_mrow s 46 47 45 48 49 c x) (hn : (dv_hs x).length ≤ 11) (ho : ∀ g ∈ dv_hs x, g < 10000) (hh : h < 10000) : ∀ (fu i : Nat), i ≤ (dv_hs x).length → (dv_hs x).length - i < fu → sg_pos ((dv_hs x).drop i) h = none → f_X12_placeIn_p2 ln fu (nI c) (nI h) (nI i) s = some (nI (i + sg_way ru ((dv_hs x).drop i) h), s)
  | 0, _, _, q, _ => absurd q (Nat.not_lt_zero _)
  | fu + 1, i, hi, hf, hp => by
    rw [f_X12_placeIn_p2, m_rdb L 45 4 rfl (by decide) (by decide) hc, hx.1]
    by_cases hq : i = (dv_hs x).length
    · rw [hq, if_pos (nI_le (Nat.le_refl _) (by omega)), List.drop_length, sg_way]
      rfl
    · have hlt : i < (dv_hs x).length := by omega
      obtain ⟨g, he⟩ := at_some hlt
      have hg : g < 10000 := ho g (List.mem_of_getElem? he)
      rw [drop_at he, sg_pos] at hp
      by_cases e : g = h
      · rw [if_pos e] at hp
        cases hp
      · rw [if_neg e] at hp
        have hp2 : sg_pos ((dv_hs x).drop (i + 1)) h = none := by
          cases hq : sg_pos ((dv_hs x).drop (i + 1)) h with
          | none => rfl
          | some v => rw [hq] at hp; cases hp
        rw [if_neg (nI_ge hlt (by omega)), c14, nI_add, m_rdb L 46 56 rfl (by decide) (by decide) (by omega), hx.2.2.2.1 i g he, if_neg (nI_lit (by omega) (by omega) e), m_rdb L 46 56 rfl (by decide) (by decide) (by omega), hx.2.2.2.1 i g he, qm_isAhead (qm_l L) hr hok hg hh, q_bi, drop_at he, sg_way]
        cases ha : sg_ah ru g h with
        | true =>
          rw [if_neg (show ¬ bI true = (0 : Int32) by decide), if_pos rfl, q_let, nI_1, qm_placeIn_p L hr hok hc hx hn ho hh fu (i + 1) (by omega) (by omega) hp2, show i + 1 + sg_way ru ((dv_hs x).drop (i + 1)) h = i + (sg_way ru ((dv_hs x).drop (i + 1)) h + 1) by omega]
        | false =>
          rw [if_pos (show bI false = (0 : Int32) from rfl), if_neg (by decide)]
          rfl
theorem qm_placeIn {ln : Nat → Nat} {s : dr_S} {ru : List (Nat × Bool)} {c h : Nat} {x : sg_D} (L : dq_ML ln) (hr : rp_mru s ru) (hok : rl_ok ru) (hc : c < 4) (hx : rp_mrow s 46 47 45 48 49 c x) (hn : (dv_hs x).length ≤ 11) (ho : ∀ g ∈ dv_hs x, g < 10000) (hh : h < 10000) (hp : sg_pos (dv_hs x) h = none) : f_X12_placeIn ln (nI c) (nI h) s = some (nI (sg_way ru (dv_hs x) h), s) := by
  have q := qm_placeIn_p L hr hok hc hx hn ho hh dr_N 0 (Nat.zero_le _) (by unfold dr_N; omega) hp
  rw [Nat.zero_add] at q
  exact q
theorem qm_p38 {ln : Nat → Nat} {s : dr_S} {c d h : Nat} {x : sg_D} (L : dq_ML ln) (hc : c < 4) (hx : rp_mrow s 46 47 45 48 49 c x) (hn : (dv_hs x).length ≤ 11) (ho : ∀ g ∈ dv_hs x, g < 10000) (hh : h < 10000) : ∀ (fu i q : Nat), (dv_hs x).length - i < fu → sg_pos ((dv_hs x).drop i) h = some q → f_X12_writes_p38 ln fu (nI c) (nI d) (nI h) 1 (nI i) s = f_X12_writes_p65 ln (nI c) (nI d) (nI h) 1 (nI (i + q)) s
  | 0, _, _, q, _ => absurd q (Nat.not_lt_zero _)
  | fu + 1, i, q, hf, hp => by
    have hlt : i < (dv_hs x).length := by
      by_cases z : i < (dv_hs x).length
      · exact z
      · rw [List.drop_eq_nil_of_le (by omega), sg_pos] at hp
        cases hp
    obtain ⟨g, he⟩ := at_some hlt
    have hg : g < 10000 := ho g (List.mem_of_getElem? he)
    rw [drop_at he, sg_pos] at hp
    rw [f_X12_writes_p38, if_neg (by decide), c14, nI_add, m_rdb L 46 56 rfl (by decide) (by decide) (by omega), hx.2.2.2.1 i g he]
    by_cases e : g = h
    · rw [if_pos e] at hp
      cases hp
      rw [e, if_pos rfl]
      rfl
    · rw [if_neg e] at hp
      rw [if_neg (nI_lit (by omega) (by omega) e), q_let, nI_1]
      cases hq : sg_pos ((dv_hs x).drop (i + 1)) h with
      | none => rw [hq] at hp; cases hp
      | some v =>
        rw [hq] at hp
        cases hp
        rw [qm_p38 L hc hx hn ho hh fu (i + 1) v (by omega) hq, show i + 1 + v = i + (v + 1) by omega]
/-- behind the writing of drawer d -/
theorem qm_done {ln : Nat → Nat} {s : dr_S} {r : sg_R} {c d j : Nat} (hr : rp_M ln s r) (hw : wf_sz r) (hck : ∀ c, c < 4 → ck_at (rm_ck r c) ≠ 0 → ck_pl (rm_ck r c) < rm_us r) (hc : c < 4) (hf : ck_fa (rm_ck r c) ≤ 2) (hat : ck_at (rm_ck r c) = 3) (hpl : ck_pl (rm_ck r c) = d) (hd : d < rm_us r) (hj : ck_jo (rm_ck r c) = some j) (hjn : j < rm_nj r) (hlv : dv_lev (rm_dr r d) < 64) (hcl : 0 < dv_lev (rm_dr r d) → (dv_cs (rm_dr r d)).length = (dv_hs (rm_dr r d)).length + 1) (hu : (dv_hs (rm_dr r d)).length = 2 * rm_b r + 1 → rm_us r < 256) : ∃ s', f_X12_writes_p353 ln (nI c) (nI d) s = some (0, s') ∧ dm_F s s' ∧ rp_M ln s' (sg_done r c d) := by
  have hus := hw.2.1
  have hb := hw.1
  have L := mM_L hr
  have hat0 : ck_at (rm_ck r c) ≠ 0 := by rw [hat]; decide
  have hrk := hw.2.2.2.1 d hd
  have h2b : (2 : Int32) * nI (rm_b r) = nI (2 * rm_b r) := by rw [show (2 : Int32) = nI 2 from rfl, pk_mul]
  unfold f_X12_writes_p353 sg_done
  rw [m_rdb L 32 256 rfl (by decide) (by decide) (by omega), (mM_dr hr d hd).2.1.1, mM_b hr, h2b]
  by_cases hz : (dv_hs (rm_dr r d)).length ≤ 2 * rm_b r
  · rw [if_neg (nI_nlt hz (by omega)), if_pos hz]
    obtain ⟨s1, e1, F1, m1⟩ := qm_letsGo (c := c) (d := d) hr hw hc hf hd
    have K := ck_la r c d none
    obtain ⟨s2, e2, F2, m2⟩ := qm_ends (c := c) (j := j) (a := 1) m1 (wf_la hw hd) hc (by rw [K.1]; exact hj) (by rw [K.2.2.2.2.1]; exact hjn)
    refine ⟨s2, ?_, dm_tr F1 F2, m2⟩
    rw [e1, q_bv, show f_X12_ends ln (nI c) 1 s1 = _ from e2, q_bv]
  · have hz1 : (dv_hs (rm_dr r d)).length = 2 * rm_b r + 1 := by have := hrk.1; omega
    have hu1 := hu hz1
    rw [if_pos (nI_lt (by omega) (by omega)), if_neg hz]
    obtain ⟨s1, e1, F1, m1, v1⟩ := qm_parted hr hw hck hd hu1 hlv hz1 (fun q => by rw [hcl q, hz1])
    rw [e1, q_bi, m_wrb L 43 4 rfl (by decide) (by decide) hc, m_rdb L 35 256 rfl (by decide) (by decide) (by omega), show (dr_put s1 43 c (nI (rm_us r))).1 35 d = _ from v1, m_wrb L 42 4 rfl (by decide) (by decide) hc, m_wrb L 39 4 rfl (by decide) (by decide) hc]
    refine ⟨_, rfl, dm_put _ _ _ (dm_put _ _ _ (dm_put _ _ _ F1 (by decide)) (by decide)) (by decide), ?_⟩
    obtain ⟨k1, k2, k3, k4, k5, k6, k7, k8⟩ := mM_ck m1 c hc
    refine rm_sK m1 (wf_part hw hd hu1) (fun a h1 h2 h3 => by rw [q_putO (by omega), q_putO (by omega), q_putO (by omega)]) rfl (fun e he hne => ⟨rfl, ?_, rfl, rfl, ?_, ?_, rfl, rfl, rfl, fun _ _ => rfl, fun _ _ => rfl, fun _ _ => rfl⟩) ⟨k1, ?_, fun _ => ?_, k4, ?_, fun _ l hl => k6 hat0 l hl, fun q => absurd (show (4 : Nat) = 3 from q) (by decide), fun _ => ?_⟩
    · show upd (s1.1 39) c 4 e = _
      rw [q_updO hne]
    · show upd (s1.1 42) c _ e = _
      rw [q_updO hne]
    · show upd (s1.1 43) c _ e = _
      rw [q_updO hne]
    · show upd (s1.1 39) c 4 c = _
      rw [q_updS]
      rfl
    · show s1.1 40 c = nI d
      rw [← hpl]
      exact k3 hat0
    · show upd (s1.1 43) c _ c = _
      rw [q_updS]
      rfl
    · refine Eq.mpr (if_neg (fun z => ?_)) (q_updS (s1.1 42) c (nI ((dv_hs (rm_dr r d)).getD (rm_b r) 0)))
      rcases z with z | z
      · exact absurd (show (4 : Nat) = 1 from z) (by decide)
      · exact z.1 rfl
/-- the copy comes into the drawer -/
theorem qm_bec_p {ln : Nat → Nat} {c d : Nat} (L : dq_ML ln) (hc : c < 4) (hd : d < 256) : ∀ (fu i : Nat) (s : dr_S), i ≤ 14 → 14 - i < fu → ∃ s1, f_X12_becomes_p21 ln fu (nI c) (nI d) (nI i) s = f_X12_becomes_p21 ln 1 (nI c) (nI d) (nI 14) s1 ∧ dm_F s s1 ∧ s1.2 = s.2 ∧ (∀ a, a ≠ 33 → a ≠ 34 → s1.1 a = s.1 a) ∧ (∀ p, s1.1 33 p = if 14 * d + i ≤ p ∧ p < 14 * d + 14 then s.1 46 (14 * c + (p - 14 * d)) else s.1 33 p) ∧ (∀ p, s1.1 34 p = if 14 * d + i ≤ p ∧ p < 14 * d + 14 then s.1 47 (14 * c + (p - 14 * d)) else s.1 34 p)
  | 0, _, _, _, q => absurd q (Nat.not_lt_zero _)
  | fu + 1, i, s, hi, hf => by
    by_cases h : i = 14
    · subst h
      refine ⟨s, ?_, dm_rf s, rfl, fun _ _ _ => rfl, fun p => ?_, fun p => ?_⟩
      · rw [f_X12_becomes_p21, f_X12_becomes_p21, if_pos (show (14 : Int32) ≤ nI 14 by decide), if_pos (show (14 : Int32) ≤ nI 14 by decide)]
      · rw [if_neg (by omega)]
      · rw [if_neg (by omega)]
    · rw [f_X12_becomes_p21, if_neg (show ¬ (14 : Int32) ≤ nI i from nI_ge (a := i) (b := 14) (by omega) (by omega)), c14, c14, nI_add, nI_add, m_rdb L 46 56 rfl (by decide) (by decide) (by omega), m_wrb L 33 3584 rfl (by decide) (by decide) (by omega), m_rdb L 47 56 rfl (by decide) (by decide) (by omega), m_wrb L 34 3584 rfl (by decide) (by decide) (by omega), q_let, nI_1]
      obtain ⟨s1, a1, a2, a3, a4, a5, a6⟩ := qm_bec_p L hc hd fu (i + 1) (dr_put (dr_put s 33 (14 * d + i) (s.1 46 (14 * c + i))) 34 (14 * d + i) (s.1 47 (14 * c + i))) (by omega) (by omega)
      refine ⟨s1, a1, dm_tr (dm_put _ _ _ (dm_put _ _ _ (dm_rf s) (by decide)) (by decide)) a2, a3, fun a h1 h2 => by rw [a4 a h1 h2, q_putO h2, q_putO h1], fun p => ?_, fun p => ?_⟩
      · rw [a5]
        show (if _ then s.1 46 _ else upd (s.1 33) (14 * d + i) (s.1 46 (14 * c + i)) p) = _
        by_cases hp : p = 14 * d + i
        · subst hp
          rw [if_neg (by omega), if_pos (by omega), q_updS, show 14 * d + i - 14 * d = i by omega]
        · rw [q_updO hp]
          by_cases hq : 14 * d + (i + 1) ≤ p ∧ p < 14 * d + 14
          · rw [if_pos hq, if_pos (by omega)]
          · rw [if_neg hq, if_neg (by omega)]
      · rw [a6]
        show (if _ then s.1 47 _ else upd (s.1 34) (14 * d + i) (s.1 47 (14 * c + i)) p) = _
        by_cases hp : p = 14 * d + i
        · subst hp
          rw [if_neg (by omega), if_pos (by omega), q_updS, show 14 * d + i - 14 * d = i by omega]
        · rw [q_updO hp]
          by_cases hq : 14 * d + (i + 1) ≤ p ∧ p < 14 * d + 14
          · rw [if_pos hq, if_pos (by omega)]
          · rw [if_neg hq, if_neg (by omega)]
theorem qm_becomes {ln : Nat → Nat} {s : dr_S} {r : sg_R} {c : Nat} (hr : rp_M ln s r) (hw : wf_sz r) (hc : c < 4) (hat : ck_at (rm_ck r c) = 3) (hd : ck_pl (rm_ck r c) < rm_us r) (hlv : dv_lev (ck_co (rm_ck r c)) = dv_lev (rm_dr r (ck_pl (rm_ck r c)))) : ∃ s', f_X12_becomes ln (nI c) s = some (0, s') ∧ dm_F s s' ∧ rp_M ln s' (sg_sD r (ck_pl (rm_ck r c)) (dv_lev (rm_dr r (ck_pl (rm_ck r c))), dv_hs (ck_co (rm_ck r c)), dv_cs (ck_co (rm_ck r c)), dv_hi (ck_co (rm_ck r c)), dv_th (ck_co (rm_ck r c)), dv_la (rm_dr r (ck_pl (rm_ck r c))))) := by
  have hus := hw.2.1
  have hb := hw.1
  have L := mM_L hr
  have hat0 : ck_at (rm_ck r c) ≠ 0 := by rw [hat]; decide
  obtain ⟨k1, k2, k3, k4, k5, k6, k7, k8⟩ := mM_ck hr c hc
  have k3 := k3 hat0
  obtain ⟨y1, y2, y3, y4, y5⟩ := k7 hat
  have hco := hw.2.2.2.2 c hc hat
  obtain ⟨d1, d2, d3⟩ := mM_dr hr _ hd
  generalize hpp : ck_pl (rm_ck r c) = d at *
  generalize hyy : ck_co (rm_ck r c) = y at *
  unfold f_X12_becomes
  rw [m_rdb L 40 4 rfl (by decide) (by decide) hc, k3, m_rdb L 45 4 rfl (by decide) (by decide) hc, y1, m_wrb L 32 256 rfl (by decide) (by decide) (by omega)]
  obtain ⟨s1, a1, a2, a3, a4, a5, a6⟩ := qm_bec_p (c := c) (d := d) L hc (by omega) dr_N 0 (dr_put s 32 d (nI (dv_hs y).length)) (by omega) (by unfold dr_N; omega)
  rw [show f_X12_becomes_p21 ln dr_N (nI c) (nI d) 0 _ = _ from a1, f_X12_becomes_p21, if_pos (show (14 : Int32) ≤ nI 14 by decide), m_rdb L 48 4 rfl (by decide) (by decide) hc, show s1.1 48 c = nO (dv_hi y) from by rw [a4 48 (by decide) (by decide)]; exact y2, m_wrb L 35 256 rfl (by decide) (by decide) (by omega), m_rdb L 49 4 rfl (by decide) (by decide) hc, show (dr_put s1 35 d (nO (dv_hi y))).1 49 c = nO (dv_th y) from by show s1.1 49 c = _; rw [a4 49 (by decide) (by decide)]; exact y3, m_wrb L 36 256 rfl (by decide) (by decide) (by omega)]
  refine ⟨_, rfl, dm_put _ _ _ (dm_put _ _ _ (dm_tr (dm_put _ _ _ (dm_rf s) (by decide)) a2) (by decide)) (by decide), ?_⟩
  have b4 : ∀ a, a ≠ 32 → a ≠ 33 → a ≠ 34 → s1.1 a = s.1 a := fun a h1 h2 h3 => (a4 a h2 h3).trans (q_putO h1)
  have b32 : s1.1 32 = upd (s.1 32) d (nI (dv_hs y).length) := (a4 32 (by decide) (by decide)).trans (q_put1 _ _ _ _)
  refine rm_sD hr hw hd rfl (fun a h1 h2 h3 => by rw [q_putO (by omega), q_putO (by omega)]; exact b4 a (by omega) (by omega) (by omega)) a3 (fun e he hne => ⟨?_, ?_, ?_, ?_, ?_, fun k hk => ?_, fun k hk => ?_⟩) ⟨?_, ⟨?_, ?_, ?_, fun k h hk => ?_, fun hl k h hk => ?_⟩, ?_⟩
  · show s1.1 31 e = _; rw [b4 31 (by decide) (by decide) (by decide)]
  · show s1.1 32 e = _; rw [b32, q_updO hne]
  · show upd (s1.1 35) d _ e = _; rw [q_updO hne, b4 35 (by decide) (by decide) (by decide)]
  · show upd (s1.1 36) d _ e = _; rw [q_updO hne, b4 36 (by decide) (by decide) (by decide)]
  · show s1.1 37 e = _; rw [b4 37 (by decide) (by decide) (by decide)]
  · show s1.1 33 _ = _; rw [a5, if_neg (by omega)]; rfl
  · show s1.1 34 _ = _; rw [a6, if_neg (by omega)]; rfl
  · show s1.1 31 d = _; rw [b4 31 (by decide) (by decide) (by decide), d1]; rfl
  · show s1.1 32 d = _; rw [b32, q_updS]; rfl
  · show upd (s1.1 35) d _ d = _; rw [q_updS]; rfl
  · show upd (s1.1 36) d _ d = _; rw [q_updS]; rfl
  · have hk : (dv_hs y)[k]? = some h := hk
    have hlt := (List.getElem?_eq_some_iff.mp hk).1
    have := hco.1
    show s1.1 33 _ = _
    rw [a5, if_pos (by omega), show 14 * d + k - 14 * d = k by omega]
    exact y4 k h hk
  · have hk : (dv_cs y)[k]? = some h := hk
    have hl : 0 < dv_lev (rm_dr r d) := hl
    have hlt := (List.getElem?_eq_some_iff.mp hk).1
    have := hco.2
    show s1.1 34 _ = _
    rw [a6, if_pos (by omega), show 14 * d + k - 14 * d = k by omega]
    exact y5 (by omega) k h hk
  · show s1.1 37 d = _; rw [b4 37 (by decide) (by decide) (by decide), d3]; rfl

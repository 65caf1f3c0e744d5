/-! 59: a frame for all; the first drawer of a level; going up; of the class -/
theorem rp_all {m m' : Nat → Int32} {r r' : sg_R} (hm : rp_mem m r) (hw : wf_sz r) (eb : rm_b r' = rm_b r)
    (hT : m' (260 * (4 * rm_b r + 8)) = nI (rm_to r')) (hU : m' (260 * (4 * rm_b r + 8) + 1) = nI (rm_us r'))
    (hD : ∀ d, d < rm_us r' → (d < rm_us r ∧ rm_dr r' d = rm_dr r d ∧ ∀ k, k < 4 * rm_b r + 8 → m' (dp (rm_b r) d k) = m (dp (rm_b r) d k)) ∨ (rp_row m' (rm_b r) d (rm_dr r' d) ∧ m' (dp (rm_b r) d 4) = nO (dv_la (rm_dr r' d))))
    (hK : ∀ c, c < 4 → (rm_ck r' c = rm_ck r c ∧ (∀ k, k < 128 → m' (cp (rm_b r) c k) = m (cp (rm_b r) c k)) ∧ (∀ k, k < 4 * rm_b r + 8 → k ≠ 4 → m' (dp (rm_b r) (256 + c) k) = m (dp (rm_b r) (256 + c) k))) ∨ rp_ck m' (rm_b r) c (rm_ck r' c))
    (hN : m' (260 * (4 * rm_b r + 8) + 1474) = nI (rm_ti r')) (hM : m' (260 * (4 * rm_b r + 8) + 1475) = nI (rm_nj r'))
    (hJ : ∀ j, j < rm_nj r' → (j < rm_nj r ∧ rm_jb r' j = rm_jb r j ∧ (rm_ch r').lookup j = (rm_ch r).lookup j ∧ ∀ k, k < 8 → m' (jp (rm_b r) j k) = m (jp (rm_b r) j k)) ∨ rp_jb m' (rm_b r) j (rm_jb r' j) (rm_ch r')) : rp_mem m' r' := by
  obtain ⟨h1, h2, h3, h4, h5, h6, h7⟩ := hm
  unfold rp_mem
  rw [eb]
  refine ⟨hT, hU, fun d hd => ?_, fun c hc => ?_, hN, hM, fun j hj => ?_⟩
  · rcases hD d hd with ⟨a1, a2, a3⟩ | q
    · rw [a2]
      exact ⟨rp_row_fr (h3 d a1).1 (hw.2.2.2.1 d a1) (fun k hk _ => a3 k hk), (a3 4 (by omega)).trans (h3 d a1).2⟩
    · exact q
  · rcases hK c hc with ⟨a1, a2, a3⟩ | q
    · rw [a1]
      exact rp_ck_fr (h4 c hc) (hw.2.2.2.2 c hc) a2 a3
    · exact q
  · rcases hJ j hj with ⟨a1, a2, a3, a4⟩ | q
    · rw [a2]
      have q := rp_jb_fr (h7 j a1) a4
      unfold rp_jb at q ⊢
      rw [a3]
      exact q
    · exact q
theorem q4_firstOf_p {ln : Nat → Nat} {s : dr_S} {r : sg_R} {lev : Nat} (hr : rp_C ln s r) (hw : wf_sz r) (hdr : ∀ d, d < rm_us r → wf_dr r d ∧ (0 < dv_lev (rm_dr r d) → (dv_cs (rm_dr r d)).length = (dv_hs (rm_dr r d)).length + 1 ∧ ∀ k ∈ dv_cs (rm_dr r d), k < rm_us r)) (hlev : lev < 2 ^ 30) : ∀ (fu i d : Nat), i ≤ 256 → 256 - i < fu → d < rm_us r → f_X4_firstOf_p7 ln fu (nI lev) (nI d) (nI i) s = some (nO (sg_fst r lev (256 - i) d), s)
  | 0, _, _, _, q, _ => absurd q (Nat.not_lt_zero _)
  | fu + 1, i, d, hi, hf, hd => by
    have hus := hw.2.1
    have hb := hw.1
    have hx := (hr.2.2.2.2.2.1 d hd).1
    obtain ⟨⟨ho, hlv, -⟩, hcs⟩ := hdr d hd
    have g0 := q4_get (d := d) (k := 0) hr.1 (by omega) (by omega)
    rw [hx.1] at g0
    have fin : f_X4_firstOf_p37 ln (nI lev) (nI d) s = some (nO (if dv_lev (rm_dr r d) = lev then some d else none), s) := by
      unfold f_X4_firstOf_p37
      rw [show f_X4_get ln (nI d) 0 s = _ from g0, q_bi]
      by_cases e : dv_lev (rm_dr r d) = lev
      · rw [e, if_pos rfl, if_pos rfl]
        rfl
      · rw [if_neg e, if_neg (fun q => e ((nI_eq (by omega) (by omega)).mp q))]
        rfl
    rw [f_X4_firstOf_p7]
    by_cases h : i = 256
    · subst h
      rw [if_pos (show (256 : Int32) ≤ nI 256 from nI_le (Nat.le_refl _) (by omega)), Nat.sub_self, sg_fst]
      exact fin
    · rw [if_neg (show ¬ (256 : Int32) ≤ nI i from nI_ge (a := i) (b := 256) (by omega) (by omega)), show f_X4_get ln (nI d) 0 s = _ from g0, q_bi]
      obtain ⟨n, hn⟩ : ∃ n, 256 - i = n + 1 := ⟨256 - i - 1, by omega⟩
      rw [hn, sg_fst]
      by_cases hl : lev < dv_lev (rm_dr r d)
      · rw [if_pos hl, if_neg (nI_ge hl (by omega))]
        obtain ⟨hcl, hcu⟩ := hcs (by omega)
        obtain ⟨c, hc⟩ : ∃ c, (dv_cs (rm_dr r d))[0]? = some c := ⟨_, List.getElem?_eq_getElem (by omega)⟩
        have hcd : (dv_cs (rm_dr r d)).getD 0 0 = c := by rw [List.getD_eq_getElem?_getD, hc]; rfl
        have e := q4_child (d := d) (k := 0) hr.1 (by omega) hx ho (by omega) (by omega) (by omega) hc
        rw [show f_X4_child ln (nI d) 0 s = _ from e, q_bi, q_let, nI_1, hcd, q4_firstOf_p hr hw hdr hlev fu (i + 1) c (by omega) (by omega) (hcu c (List.mem_of_getElem? hc)), show 256 - (i + 1) = n by omega]
      · rw [if_neg hl, if_pos (nI_le (by omega) (by omega))]
        exact fin
theorem q4_firstOf {ln : Nat → Nat} {s : dr_S} {r : sg_R} {lev : Nat} (hr : rp_C ln s r) (hw : wf_sz r) (hdr : ∀ d, d < rm_us r → wf_dr r d ∧ (0 < dv_lev (rm_dr r d) → (dv_cs (rm_dr r d)).length = (dv_hs (rm_dr r d)).length + 1 ∧ ∀ k ∈ dv_cs (rm_dr r d), k < rm_us r)) (hlev : lev < 2 ^ 30) (ht : rm_to r < rm_us r) : f_X4_firstOf ln (nI lev) s = some (nO (sg_first r lev), s) := by
  unfold f_X4_firstOf
  rw [q4_top hr.1, q_bi, hr.2.2.2.1]
  exact q4_firstOf_p hr hw hdr hlev dr_N 0 (rm_to r) (by omega) (by unfold dr_N; omega) ht
theorem q3_path {ln : Nat → Nat} {s : dr_S} {r : sg_R} {c l : Nat} (hr : rp_C ln s r) (hc : c < 4) (hat : ck_at (rm_ck r c) ≠ 0) (hl : l < 122) : f_X3_path ln (nI c) (nI l) s = some (nO (ck_pa (rm_ck r c) l), s) := by
  have e := q3_get (c := c) (k := 6 + l) hr.1 hc (by omega)
  rw [(hr.2.2.2.2.2.2.1 c hc).2.2.2.2.2.2.1 hat l hl] at e
  unfold f_X3_path
  rw [if_neg (nI_pos (by omega)), if_neg (show ¬ (122 : Int32) ≤ nI l from nI_ge (a := l) (b := 122) (by omega) (by omega)), show (6 : Int32) = nI 6 from rfl, nI_add, e, q_bi]
theorem sg_fst_lt {r : sg_R} {lev : Nat} (hcs : ∀ d, d < rm_us r → 0 < dv_lev (rm_dr r d) → (dv_cs (rm_dr r d)).length = (dv_hs (rm_dr r d)).length + 1 ∧ ∀ k ∈ dv_cs (rm_dr r d), k < rm_us r) : ∀ (n d q : Nat), d < rm_us r → sg_fst r lev n d = some q → q < rm_us r ∧ dv_lev (rm_dr r q) = lev
  | 0, d, q, hd, h => by
    rw [sg_fst] at h
    split at h
    · next e => cases h; exact ⟨hd, e⟩
    · cases h
  | n + 1, d, q, hd, h => by
    rw [sg_fst] at h
    split at h
    · next e =>
      obtain ⟨hcl, hcu⟩ := hcs d hd (by omega)
      refine sg_fst_lt hcs n _ q (hcu _ ?_) h
      rw [List.getD_eq_getElem?_getD, List.getElem?_eq_getElem (by omega)]
      exact List.getElem_mem _
    · split at h
      · next e => cases h; exact ⟨hd, e⟩
      · cases h
/-- what going up needs -/
def wf_rise (r : sg_R) (c : Nat) : Prop := rm_to r < rm_us r ∧ (ck_at (rm_ck r c) = 4 → (∃ n, ck_ri (rm_ck r c) = some n ∧ n < rm_us r) ∧ rm_us r < 256 ∧ (∀ l p, ck_pa (rm_ck r c) l = some p → p < rm_us r))
theorem q10_climb {ln : Nat → Nat} {s : dr_S} {r : sg_R} {c : Nat} (hr : rp_C ln s r) (hs : wf_step r c) (hri : wf_rise r c) (hat : ck_at (rm_ck r c) = 4) (hB : dq_B s 18) : ∃ s' g, f_X10_climb ln (nI c) s = some (0, s') ∧ dq_C s s' g 18 ∧ rp_mem g (sg_rise r c) := by
  have hs0 := hs
  obtain ⟨hw, hok, hck, hdr, hc⟩ := hs
  have hus := hw.2.1
  have hb := hw.1
  have hat0 : ck_at (rm_ck r c) ≠ 0 := by rw [hat]; decide
  obtain ⟨hto, hri2⟩ := hri
  obtain ⟨⟨n, hn, hnu⟩, hu, hpa⟩ := hri2 hat
  obtain ⟨hf, -, hat2⟩ := hck c hc
  obtain ⟨hpl, hso, j, hj, hjn, hkb⟩ := hat2 hat0
  obtain ⟨⟨ho, hlv, hla, hth, hht⟩, hcs⟩ := hdr _ hpl
  obtain ⟨p1, p3⟩ := q10_place hr hc hat0
  have hrow := (hr.2.2.2.2.2.1 _ hpl).1
  have hm := hr.2.2.2
  have p4 := q3_get (c := c) (k := 4) hr.1 hc (by omega)
  rw [(hr.2.2.2.2.2.2.1 c hc).2.2.2.2.1, hn] at p4
  have g0 := q4_get (d := ck_pl (rm_ck r c)) (k := 0) hr.1 (by omega) (by omega)
  rw [hrow.1] at g0
  unfold f_X10_climb
  rw [p1, q_bi, q4_top hr.1, q_bi, hm.1]
  have hsg : sg_rise r c = (if ck_pl (rm_ck r c) = rm_to r then sg_end (sg_la (sg_sT (sg_sU (sg_sD r (rm_us r) (dv_lev (rm_dr r (ck_pl (rm_ck r c))) + 1, [ck_so (rm_ck r c)], [ck_pl (rm_ck r c), (ck_ri (rm_ck r c)).getD 0], none, none, none)) (rm_us r + 1)) (rm_us r)) c (ck_pl (rm_ck r c)) none) c 1 else sg_move r c (match ck_pa (rm_ck r c) (dv_lev (rm_dr r (ck_pl (rm_ck r c))) + 1) with | none => sg_first r (dv_lev (rm_dr r (ck_pl (rm_ck r c))) + 1) | some p => some p)) := rfl
  rw [hsg, hn]
  generalize hd : ck_pl (rm_ck r c) = d at *
  by_cases e : d = rm_to r
  · rw [if_pos e, if_pos (by rw [e])]
    rw [p3, q_bi, show f_X3_get ln (nI c) 4 s = _ from p4, q_bi]
    obtain ⟨s1, e1, C1⟩ := q4_raise (d := d) (u := rm_us r) (c := n) (h := ck_so (rm_ck r c)) (lev := dv_lev (rm_dr r d)) hr.1 (by omega) hm.2.1 hu hrow.1 (q_Bmono hB (by omega))
    have hm1 : rp_mem (s1.1 14) (sg_sT (sg_sU (sg_sD r (rm_us r) (dv_lev (rm_dr r d) + 1, [ck_so (rm_ck r c)], [d, n], none, none, none)) (rm_us r + 1)) (rm_us r)) := by
      have hul := dp_in (b := rm_b r) (d := rm_us r) (k := 0) (by omega)
      have hlt := dp_260 (b := rm_b r) (d := rm_us r) (k := 4 * rm_b r + 7) (by omega) (by omega)
      have dpu : ∀ k, dp (rm_b r) (rm_us r) k = dp (rm_b r) (rm_us r) 0 + k := fun k => by unfold dp; omega
      rw [dpu] at hlt
      have ag : ∀ p, s1.1 14 p = if p = 260 * (4 * rm_b r + 8) then nI (rm_us r) else if p = dp (rm_b r) (rm_us r) 0 + (2 * rm_b r + 6 + 1) then nI n else if p = dp (rm_b r) (rm_us r) 0 + (2 * rm_b r + 6) then nI d else if p = dp (rm_b r) (rm_us r) 0 + 1 then nI 1 else if p = dp (rm_b r) (rm_us r) 0 + 5 then nI (ck_so (rm_ck r c)) else if p = dp (rm_b r) (rm_us r) 0 + 4 then -1 else if p = dp (rm_b r) (rm_us r) 0 + 3 then -1 else if p = dp (rm_b r) (rm_us r) 0 + 2 then -1 else if p = dp (rm_b r) (rm_us r) 0 + 0 then nI (dv_lev (rm_dr r d) + 1) else if p = 260 * (4 * rm_b r + 8) + 1 then nI (rm_us r + 1) else s.1 14 p := by
        intro p
        rw [C1.1]
        unfold dq_open
        rw [dpu 1, dpu 2, dpu 3, dpu 4, dpu 5, dpu (2 * rm_b r + 6), dpu (2 * rm_b r + 6 + 1)]
        simp only [upd]
        by_cases h1 : p = dp (rm_b r) (rm_us r) 0 + 1
        · simp only [h1, if_true]
        · simp only [h1, if_false, Nat.add_zero]
      generalize hU : dp (rm_b r) (rm_us r) 0 = uw at *
      have big : ∀ p, 260 * (4 * rm_b r + 8) + 1 < p → s1.1 14 p = s.1 14 p := fun p hp => by
        rw [ag, if_neg (by omega), if_neg (by omega), if_neg (by omega), if_neg (by omega), if_neg (by omega), if_neg (by omega), if_neg (by omega), if_neg (by omega), if_neg (by omega), if_neg (by omega)]
      have row : ∀ e k, e < 260 → e ≠ rm_us r → k < 4 * rm_b r + 8 → s1.1 14 (dp (rm_b r) e k) = s.1 14 (dp (rm_b r) e k) := fun e k he hne hk => by
        have hl := dp_260 (b := rm_b r) (d := e) (k := k) he hk
        have nn : ∀ i, i < 4 * rm_b r + 8 → dp (rm_b r) e k ≠ uw + i := fun i hi => by
          rw [← dpu i]
          exact dp_ne hne hk hi
        rw [ag, if_neg (by omega), if_neg (nn _ (by omega)), if_neg (nn _ (by omega)), if_neg (nn _ (by omega)), if_neg (nn _ (by omega)), if_neg (nn _ (by omega)), if_neg (nn _ (by omega)), if_neg (nn _ (by omega)), if_neg (nn _ (by omega)), if_neg (by omega)]
      refine rp_all hm hw rfl ?_ ?_ (fun q hq => ?_) (fun k hk => Or.inl ⟨rfl, fun i hi => big _ (by unfold cp; omega), fun i hi _ => row (256 + k) i (by omega) (by omega) hi⟩) ((big _ (by omega)).trans hm.2.2.2.2.1) ((big _ (by omega)).trans hm.2.2.2.2.2.1) (fun i hi => Or.inl ⟨hi, rfl, rfl, fun k hk => big _ (by unfold jp; omega)⟩)
      · rw [ag, if_pos rfl]
        rfl
      · rw [ag, if_neg (by omega), if_neg (by omega), if_neg (by omega), if_neg (by omega), if_neg (by omega), if_neg (by omega), if_neg (by omega), if_neg (by omega), if_neg (by omega), if_pos rfl]
        rfl
      · have hq : q < rm_us r + 1 := hq
        by_cases hqu : q = rm_us r
        · right
          subst hqu
          have ed : rm_dr (sg_sT (sg_sU (sg_sD r (rm_us r) (dv_lev (rm_dr r d) + 1, [ck_so (rm_ck r c)], [d, n], none, none, none)) (rm_us r + 1)) (rm_us r)) (rm_us r) = (dv_lev (rm_dr r d) + 1, [ck_so (rm_ck r c)], [d, n], none, none, none) := by
            show (if rm_us r = rm_us r then _ else _) = _
            rw [if_pos rfl]
          rw [ed]
          refine ⟨⟨?_, ?_, ?_, ?_, fun k g hk => ?_, fun _ k g hk => ?_⟩, ?_⟩
          · rw [dpu, ag, if_neg (by omega), if_neg (by omega), if_neg (by omega), if_neg (by omega), if_neg (by omega), if_neg (by omega), if_neg (by omega), if_neg (by omega), if_pos rfl]; rfl
          · rw [dpu, ag, if_neg (by omega), if_neg (by omega), if_neg (by omega), if_pos rfl]; rfl
          · rw [dpu, ag, if_neg (by omega), if_neg (by omega), if_neg (by omega), if_neg (by omega), if_neg (by omega), if_neg (by omega), if_neg (by omega), if_pos rfl]; rfl
          · rw [dpu, ag, if_neg (by omega), if_neg (by omega), if_neg (by omega), if_neg (by omega), if_neg (by omega), if_neg (by omega), if_pos rfl]; rfl
          · have hk2 : [ck_so (rm_ck r c)][k]? = some g := hk
            cases k with
            | zero =>
              cases hk2
              rw [dpu, ag, if_neg (by omega), if_neg (by omega), if_neg (by omega), if_neg (by omega), if_pos rfl]
            | succ k => cases hk2
          · have hk2 : [d, n][k]? = some g := hk
            cases k with
            | zero =>
              cases hk2
              rw [dpu, ag, if_neg (by omega), if_neg (by omega), if_pos rfl]
            | succ k =>
              cases k with
              | zero =>
                cases hk2
                rw [dpu, ag, if_neg (by omega), if_pos rfl]
              | succ k => cases hk2
          · rw [dpu, ag, if_neg (by omega), if_neg (by omega), if_neg (by omega), if_neg (by omega), if_neg (by omega), if_pos rfl]; rfl
        · left
          refine ⟨by omega, ?_, fun k hk => row q k (by omega) hqu hk⟩
          show (if q = rm_us r then _ else rm_dr r q) = rm_dr r q
          rw [if_neg hqu]
    have hr1 := rp_C_of (r' := (sg_sT (sg_sU (sg_sD r (rm_us r) (dv_lev (rm_dr r d) + 1, [ck_so (rm_ck r c)], [d, n], none, none, none)) (rm_us r + 1)) (rm_us r))) hr C1 rfl rfl (by rw [← C1.1]; exact hm1)
    have hw1 : wf_sz (sg_sT (sg_sU (sg_sD r (rm_us r) (dv_lev (rm_dr r d) + 1, [ck_so (rm_ck r c)], [d, n], none, none, none)) (rm_us r + 1)) (rm_us r)) := by
      refine ⟨hw.1, by show rm_us r + 1 ≤ 256; omega, hw.2.2.1, fun q hq => ?_, hw.2.2.2.2⟩
      show rw_ok (rm_b r) (if q = rm_us r then _ else rm_dr r q)
      have hq : q < rm_us r + 1 := hq
      by_cases hqu : q = rm_us r
      · rw [if_pos hqu]
        exact ⟨by show 1 ≤ _; omega, by show 2 ≤ _; omega⟩
      · rw [if_neg hqu]
        exact hw.2.2.2.1 q (by omega)
    generalize hR : (sg_sT (sg_sU (sg_sD r (rm_us r) (dv_lev (rm_dr r d) + 1, [ck_so (rm_ck r c)], [d, n], none, none, none)) (rm_us r + 1)) (rm_us r)) = r1 at *
    have kk : rm_ck r1 = rm_ck r := by rw [← hR]; rfl
    have ku : rm_us r1 = rm_us r + 1 := by rw [← hR]; rfl
    have kn : rm_nj r1 = rm_nj r := by rw [← hR]; rfl
    obtain ⟨s2, g2, a2, C2, m2⟩ := q10_letGo (c := c) (d := d) hr1 hw1 hc (by rw [kk]; exact hf) (by omega) (C1.2.2.2.1 _ (q_Bmono hB (by omega)))
    have T2 := q_Ctr C1 C2
    have K := ck_la r1 c d none
    obtain ⟨s3, g3, a3, C3, m3⟩ := q10_end (c := c) (j := j) (a := 1) (rp_C_of hr1 C2 K.2.1 K.2.2.2.1 m2) (wf_la hw1 (by omega)) hc (by rw [K.1, kk]; exact hj) (by rw [K.2.2.2.2.1]; omega) (T2.2.2.2.1 _ (q_Bmono hB (by omega)))
    refine ⟨s3, g3, ?_, q_Ctr T2 C3, ?_⟩
    · rw [show nO (some n) = nI n from rfl, e1, q_bv, a2, q_bv, show f_X10_end ln (nI c) 1 s2 = _ from a3, q_bv]
    · show rp_mem g3 (sg_end (sg_la _ c d none) c 1)
      rw [show (some n).getD 0 = n from rfl, hR]
      exact m3
  · rw [if_neg e, if_neg (fun q => e ((nI_eq (by omega) (by omega)).mp q)), show f_X4_get ln (nI d) 0 s = _ from g0, q_bi, q_let, nI_1, q3_path hr hc hat0 (by omega), q_bi]
    have mv : ∀ t : Option Nat, (∀ q, t = some q → q < rm_us r) → ∃ s' g, f_X10_climb_p104 ln (nO t) (nI c) s = some (0, s') ∧ dq_C s s' g 18 ∧ rp_mem g (sg_move r c t) := by
      intro t ht
      obtain ⟨s1, g, a1, a2, a3⟩ := q10_moveTo hr hs0 hat0 ht (q_Bmono hB (by omega))
      refine ⟨s1, g, ?_, q_Cw a2 (by omega), a3⟩
      unfold f_X10_climb_p104
      rw [a1, q_bv]
    cases hp : ck_pa (rm_ck r c) (dv_lev (rm_dr r d) + 1) with
    | none =>
      rw [if_pos (show nO none = (-1 : Int32) from rfl), q4_firstOf hr hw hdr (by omega) hto, q_bi]
      exact mv _ (fun q hq => (sg_fst_lt (fun d hd => (hdr d hd).2) _ _ q hto hq).1)
    | some p =>
      have hp2 := hpa _ p hp
      rw [if_neg (show ¬ nO (some p) = (-1 : Int32) from fun z => nI_pos (n := p) (by omega) (by rw [show nI p = -1 from z]; decide))]
      exact mv (some p) (fun q hq => by cases hq; exact hp2)

/-! 61: writing, of the class -/
theorem ch_look {ch : List (Nat × Nat)} {j t i : Nat} : (ch ++ [(j, t)]).lookup i = (match ch.lookup i with | some x => some x | none => if i = j then some t else none) := by
  induction ch with
  | nil =>
    show List.lookup i [(j, t)] = _
    by_cases h : i = j
    · subst h
      simp [List.lookup]
    · have : (i == j) = false := by simpa using h
      simp [List.lookup, this, h]
  | cons z q ih =>
    show List.lookup i ((z.1, z.2) :: (q ++ [(j, t)])) = _
    show _ = (match List.lookup i ((z.1, z.2) :: q) with | some x => some x | none => if i = j then some t else none)
    by_cases h : i = z.1
    · subst h
      simp [List.lookup]
    · have : (i == z.1) = false := by simpa using h
      simp only [List.lookup, this]
      exact ih
/-- a change comes to the list -/
theorem rp_sC {m : Nat → Int32} {r : sg_R} {j t : Nat} (hm : rp_mem m r) (hw : wf_sz r) (hj : j < rm_nj r) (hn : (rm_ch r).lookup j = none) : rp_mem (upd m (jp (rm_b r) j 7) (nI t)) (sg_sC r (rm_ch r ++ [(j, t)])) := by
  have hb := hw.1
  have hus := hw.2.1
  have low : ∀ p, p < 260 * (4 * rm_b r + 8) + 514 → upd m (jp (rm_b r) j 7) (nI t) p = m p := fun p hp => q_updO (by unfold jp; omega)
  have hnj := hw.2.2.1
  refine rp_all hm hw rfl ((low _ (by omega)).trans hm.1) ((low _ (by omega)).trans hm.2.1) (fun d hd => Or.inl ⟨hd, rfl, fun k hk => low _ (by have hd : d < rm_us r := hd; have := dp_260 (b := rm_b r) (d := d) (k := k) (by omega) hk; omega)⟩) (fun c hc => Or.inl ⟨rfl, fun k hk => low _ (by unfold cp; omega), fun k hk _ => low _ (by have := dp_260 (b := rm_b r) (d := 256 + c) (k := k) (by omega) hk; omega)⟩) ((q_updO (by unfold jp; omega)).trans hm.2.2.2.2.1) ((q_updO (by unfold jp; omega)).trans hm.2.2.2.2.2.1) (fun i hi => ?_)
  have hi : i < rm_nj r := hi
  have hy := hm.2.2.2.2.2.2 i hi
  by_cases e : i = j
  · right
    subst e
    have ne : ∀ k, k ≠ 7 → upd m (jp (rm_b r) i 7) (nI t) (jp (rm_b r) i k) = m (jp (rm_b r) i k) := fun k h => q_updO (fun q => h (by unfold jp at q; omega))
    refine ⟨(ne 0 (by decide)).trans hy.1, (ne 1 (by decide)).trans hy.2.1, (ne 2 (by decide)).trans hy.2.2.1, (ne 3 (by decide)).trans hy.2.2.2.1, (ne 4 (by decide)).trans hy.2.2.2.2.1, (ne 5 (by decide)).trans hy.2.2.2.2.2.1, (ne 6 (by decide)).trans hy.2.2.2.2.2.2.1, ?_⟩
    rw [q_updS]
    show nI t = nO ((rm_ch r ++ [(i, t)]).lookup i)
    rw [ch_look, hn]
    show nI t = nO (if i = i then some t else none)
    rw [if_pos rfl]
    rfl
  · left
    refine ⟨hi, rfl, ?_, fun k hk => q_updO (by unfold jp; omega)⟩
    show (rm_ch r ++ [(j, t)]).lookup i = _
    rw [ch_look]
    cases (rm_ch r).lookup i with
    | none => show (if i = j then some t else none) = none; rw [if_neg e]
    | some v => rfl
/-- what writing needs of the room -/
def wf_wr (r : sg_R) (c : Nat) : Prop := ck_at (rm_ck r c) = 3 →
  dv_lev (ck_co (rm_ck r c)) = dv_lev (rm_dr r (ck_pl (rm_ck r c))) ∧ hs_ok (rm_b r) (ck_co (rm_ck r c)) ∧ (dv_hs (ck_co (rm_ck r c))).length ≤ 2 * rm_b r ∧ (0 < dv_lev (ck_co (rm_ck r c)) → (dv_cs (ck_co (rm_ck r c))).length = (dv_hs (ck_co (rm_ck r c))).length + 1 ∧ ∃ n, ck_ri (rm_ck r c) = some n) ∧ (jb_ki (rm_jb r (ck_job (rm_ck r c))) = 1 ∨ 0 < dv_lev (ck_co (rm_ck r c)) → rm_us r < 256) ∧ (dv_lev (ck_co (rm_ck r c)) = 0 → (rm_ch r).lookup (ck_job (rm_ck r c)) = none)
theorem q4_copyOf {ln : Nat → Nat} {s : dr_S} {c : Nat} : f_X4_copyOf ln (nI c) s = some (nI (256 + c), s) := by
  unfold f_X4_copyOf
  rw [show (256 : Int32) = nI 256 from rfl, nI_add]
theorem q6_changeCards {ln : Nat → Nat} {s : dr_S} {r : sg_R} {j : Nat} (hr : rp_C ln s r) (hw : wf_sz r) (hj : j < rm_nj r) (hn : (rm_ch r).lookup j = none) (hB : dq_B s 1) : ∃ s' g, f_X6_changeCards ln (nI j) s = some (0, s') ∧ dq_C s s' g 1 ∧ rp_mem g (sg_sC r (rm_ch r ++ [(j, rm_ti r)])) := by
  have hnj := hw.2.2.1
  obtain ⟨s1, e1, C1⟩ := q6_set (c := j) (k := 7) (v := nI (rm_ti r)) hr.1 (by omega) (by omega) hB
  refine ⟨s1, _, ?_, C1, rp_sC hr.2.2.2 hw hj hn⟩
  unfold f_X6_changeCards
  rw [q6_time hr.1, q_bi, hr.2.2.2.2.2.2.2.1, show f_X6_set ln (nI j) 7 (nI (rm_ti r)) s = _ from e1, q_bv]
theorem wf_sD {r : sg_R} {d : Nat} {x : sg_D} (hw : wf_sz r) (hx : rw_ok (rm_b r) x) : wf_sz (sg_sD r d x) := by
  refine ⟨hw.1, hw.2.1, hw.2.2.1, fun q hq => ?_, hw.2.2.2.2⟩
  show rw_ok (rm_b r) (if q = d then x else rm_dr r q)
  by_cases e : q = d
  · rw [if_pos e]; exact hx
  · rw [if_neg e]; exact hw.2.2.2.1 q hq
theorem q10_cardEnd {ln : Nat → Nat} {s s1 : dr_S} {g : Nat → Int32} {k : Nat} {r : sg_R} {c d j : Nat} {x : sg_D} (hr : rp_C ln s r) (hw : wf_sz r) (hc : c < 4) (hd : d < rm_us r) (hj : ck_jo (rm_ck r c) = some j) (hjn : j < rm_nj r) (hn : (rm_ch r).lookup j = none) (hC : dq_C s s1 g k) (hx : rw_ok (rm_b r) x) (hrow : rp_row g (rm_b r) d x) (hla : dv_la x = dv_la (rm_dr r d)) (hfr : ∀ p, (∀ k, k < 4 * rm_b r + 8 → k ≠ 4 → p ≠ dp (rm_b r) d k) → g p = s.1 14 p) (hB : dq_B s (k + 1)) :
    ∃ s' g', f_X10_writeCard_p107 ln (nI c) s1 = some (1, s') ∧ dq_C s s' g' (k + 1) ∧ rp_mem g' (sg_sC (sg_sD r d x) (rm_ch r ++ [(j, rm_ti r)])) := by
  have hus := hw.2.1
  have hm1 : rp_mem g (sg_sD r d x) := by
    refine rp_sD hr.2.2.2 hw (by omega) (fun p hp => hfr p (fun k hk _ => hp k hk)) ⟨hrow, ?_⟩
    rw [hfr _ (fun k hk h4 e => h4 (by unfold dp at e; omega)), hla]
    exact (hr.2.2.2.2.2.1 d hd).2
  have hr1 := rp_C_of (r' := sg_sD r d x) hr hC rfl rfl hm1
  obtain ⟨s2, g2, e2, C2, m2⟩ := q6_changeCards (j := j) hr1 (wf_sD hw hx) hjn hn (hC.2.2.2.1 _ (q_Bmono hB (by omega)))
  refine ⟨s2, g2, ?_, q_Ctr hC C2, m2⟩
  have ej := q3_get (c := c) (k := 2) hr1.1 hc (by omega)
  rw [(hr1.2.2.2.2.2.2.1 c hc).2.2.1, show ck_jo (rm_ck (sg_sD r d x) c) = some j from hj] at ej
  unfold f_X10_writeCard_p107
  rw [show f_X3_get ln (nI c) 2 s1 = some (nI j, s1) from ej, q_bi, e2, q_bv]
theorem q10_writeCard {ln : Nat → Nat} {s : dr_S} {r : sg_R} {c : Nat} (hr : rp_C ln s r) (hs : wf_step r c) (hwr : wf_wr r c) (hat : ck_at (rm_ck r c) = 3) (h0 : dv_lev (rm_dr r (ck_pl (rm_ck r c))) = 0) (hB : dq_B s 55) :
    (decide (jb_ki (rm_jb r (ck_job (rm_ck r c))) = 1) = (sg_pos (dv_hs (ck_co (rm_ck r c))) (ck_so (rm_ck r c))).isSome → f_X10_writeCard ln (nI c) (nI (ck_pl (rm_ck r c))) s = some (0, s)) ∧
    (decide (jb_ki (rm_jb r (ck_job (rm_ck r c))) = 1) ≠ (sg_pos (dv_hs (ck_co (rm_ck r c))) (ck_so (rm_ck r c))).isSome → ∃ s' g, f_X10_writeCard ln (nI c) (nI (ck_pl (rm_ck r c))) s = some (1, s') ∧ dq_C s s' g 55 ∧ rp_mem g (sg_sC (sg_sD r (ck_pl (rm_ck r c)) (0, (match sg_pos (dv_hs (ck_co (rm_ck r c))) (ck_so (rm_ck r c)) with | none => sg_ins (dv_hs (ck_co (rm_ck r c))) (sg_way (rm_ru r) (dv_hs (ck_co (rm_ck r c))) (ck_so (rm_ck r c))) (ck_so (rm_ck r c)) | some i => (dv_hs (ck_co (rm_ck r c))).eraseIdx i), dv_cs (ck_co (rm_ck r c)), dv_hi (ck_co (rm_ck r c)), dv_th (ck_co (rm_ck r c)), dv_la (rm_dr r (ck_pl (rm_ck r c))))) (rm_ch r ++ [(ck_job (rm_ck r c), rm_ti r)]))) := by
  obtain ⟨hw, hok, hck, hdr, hc⟩ := hs
  obtain ⟨w1, w2, w3, w4, w5, w6⟩ := hwr hat
  have hat0 : ck_at (rm_ck r c) ≠ 0 := by rw [hat]; decide
  obtain ⟨hf, -, hck3⟩ := hck c hc
  obtain ⟨hpl, hso, j, hj, hjn, hki⟩ := hck3 hat0
  have hus := hw.2.1
  have hb := hw.1
  have hjb : ck_job (rm_ck r c) = j := by unfold ck_job; rw [hj]; rfl
  have hco := hw.2.2.2.2 c hc hat
  have hrow := (hr.2.2.2.2.2.2.1 c hc).2.2.2.2.2.2.2 hat
  have g3 := (q10_place hr hc hat0).2
  have gk := q10_kindOf hr hw hc hj hjn
  rw [hjb] at w6 ⊢
  rw [h0] at w1
  have w7 := w6 w1
  clear w6
  generalize hpp : ck_pl (rm_ck r c) = d at *
  generalize hhh : ck_so (rm_ck r c) = h at *
  generalize hyy : ck_co (rm_ck r c) = y at *
  have e24 : f_X10_writeCard ln (nI c) (nI d) s = f_X10_writeCard_p24 ln (nI c) (nI d) (nI h) (if jb_ki (rm_jb r j) = 1 then 1 else 0) s := by
    unfold f_X10_writeCard
    rw [g3, q_bi, gk, q_bi]
    by_cases e : jb_ki (rm_jb r j) = 1
    · rw [e, if_pos (show nI 1 = (1 : Int32) from rfl), if_pos rfl]
    · rw [if_neg (show ¬ nI (jb_ki (rm_jb r j)) = (1 : Int32) from fun q => e ((nI_eq (a := jb_ki (rm_jb r j)) (b := 1) (by omega) (by omega)).mp q)), if_neg e]
  have epo := q4_placeOf (d := 256 + c) (h := h) hr.1 (by omega) hrow w2 hso
  have e53 : f_X10_writeCard ln (nI c) (nI d) s = f_X10_writeCard_p53 ln (nI c) (nI d) (nI h) (if jb_ki (rm_jb r j) = 1 then 1 else 0) (nO (sg_pos (dv_hs y) h)) (if sg_pos (dv_hs y) h = none then 1 else 0) (if jb_ki (rm_jb r j) = 1 then 1 else 0) s := by
    rw [e24]
    unfold f_X10_writeCard_p24
    rw [q4_copyOf, q_bi, epo, q_bi]
    cases hp : sg_pos (dv_hs y) h with
    | none => rw [if_pos (show nO none = (-1 : Int32) from rfl), if_pos rfl]
    | some i =>
      have hi := (List.getElem?_eq_some_iff.mp (sg_pos_lt hp)).1
      rw [if_neg (show ¬ nO (some i) = (-1 : Int32) from fun z => nI_pos (n := i) (by omega) (by rw [show nI i = -1 from z]; decide)), if_neg (Option.some_ne_none i)]
  rw [e53]
  unfold f_X10_writeCard_p53
  obtain ⟨s1, ga, a1, C1, r1, f1⟩ := q4_bring (f := 256 + c) (t := d) hr.1 (by omega) (by omega) (by omega) hrow hco (by omega) (fun q => by omega) (q_Bmono hB (by omega))
  have G1 := q_GC hr.1 C1
  have hx1 : rp_row (s1.1 14) (rm_b r) d y := by rw [C1.1]; exact r1
  have B1 : dq_B s1 26 := C1.2.2.2.1 _ (q_Bmono hB (by omega))
  have hru1 : rp_rule s1 (rm_ru r) := ⟨(C1.2.2.1 503 (by decide)).trans hr.2.2.1.1, fun i d g he => by rw [C1.2.1 18 (by decide) (by decide) (by decide)]; exact hr.2.2.1.2 i d g he⟩
  cases hp : sg_pos (dv_hs y) h with
  | none =>
    rw [if_pos rfl]
    refine ⟨fun q => ?_, fun q => ?_⟩
    · have hk1 : ¬ jb_ki (rm_jb r j) = 1 := of_decide_eq_false q
      rw [if_neg hk1, if_neg (by decide)]
    · have hk1 : jb_ki (rm_jb r j) = 1 := by
        by_cases e : jb_ki (rm_jb r j) = 1
        · exact e
        · exact absurd (decide_eq_false e) q
      rw [if_pos hk1, if_pos rfl, q4_copyOf, q_bi, a1, q_bv, if_neg (by decide), q4_wayOf G1 hr.2.1.1 hru1 hok (by omega) hx1 w2 hso, q_bi]
      have wl := sg_way_le (rm_ru r) h (dv_hs y)
      obtain ⟨s2, gb, a2, C2, r2, f2⟩ := q4_insert (k := sg_way (rm_ru r) (dv_hs y) h) (h := h) (v := -1) G1 (by omega) hx1 hco w3 wl (by omega) (fun q => by omega) (dv_cs y) (fun q => by omega) (dv_la (rm_dr r d)) B1
      rw [a2, q_bv]
      rw [w1] at r2
      have hl := sg_ins_len (v := h) wl
      obtain ⟨s3, gc, a3, C3, m3⟩ := q10_cardEnd hr hw hc hpl hj hjn w7 (q_Ctr C1 C2) (x := (0, sg_ins (dv_hs y) (sg_way (rm_ru r) (dv_hs y) h) h, dv_cs y, dv_hi y, dv_th y, dv_la (rm_dr r d))) ⟨by show (sg_ins _ _ _).length ≤ _; omega, hco.2⟩ r2 rfl (fun p hp => (f2 p hp).trans (by rw [C1.1]; exact f1 p hp)) (q_Bmono hB (by omega))
      exact ⟨s3, gc, a3, q_Cw C3 (by omega), m3⟩
  | some i =>
    have hi := (List.getElem?_eq_some_iff.mp (sg_pos_lt hp)).1
    rw [if_neg (Option.some_ne_none i)]
    refine ⟨fun q => ?_, fun q => ?_⟩
    · have hk1 : jb_ki (rm_jb r j) = 1 := of_decide_eq_true q
      rw [if_pos hk1, if_neg (by decide)]
    · have hk1 : ¬ jb_ki (rm_jb r j) = 1 := by
        intro e
        exact q (decide_eq_true e)
      rw [if_neg hk1, if_pos rfl, q4_copyOf, q_bi, a1, q_bv, if_pos rfl]
      obtain ⟨s2, gb, a2, C2, r2, f2⟩ := q4_remove (k := i) G1 (by omega) hx1 hco hi w1 (dv_cs y) (dv_la (rm_dr r d)) (q_Bmono B1 (by omega))
      rw [show nO (some i) = nI i from rfl, a2, q_bv]
      rw [w1] at r2
      have hl := List.length_eraseIdx_le (dv_hs y) i
      obtain ⟨s3, gc, a3, C3, m3⟩ := q10_cardEnd hr hw hc hpl hj hjn w7 (q_Ctr C1 C2) (x := (0, (dv_hs y).eraseIdx i, dv_cs y, dv_hi y, dv_th y, dv_la (rm_dr r d))) ⟨by show ((dv_hs y).eraseIdx i).length ≤ _; omega, hco.2⟩ r2 rfl (fun p hp => (f2 p hp).trans (by rw [C1.1]; exact f1 p hp)) (q_Bmono hB (by omega))
      exact ⟨s3, gc, a3, q_Cw C3 (by omega), m3⟩

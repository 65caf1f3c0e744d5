/-! 51: a step of reading, of the class -/
/-- what a step needs of the room -/
def wf_step (r : sg_R) (c : Nat) : Prop := wf_sz r ∧ rl_ok (rm_ru r) ∧ (∀ e, e < 4 → wf_ck r e) ∧ (∀ d, d < rm_us r → wf_dr r d ∧ (0 < dv_lev (rm_dr r d) → (dv_cs (rm_dr r d)).length = (dv_hs (rm_dr r d)).length + 1 ∧ ∀ k ∈ dv_cs (rm_dr r d), k < rm_us r)) ∧ c < 4
theorem q10_place {ln : Nat → Nat} {s : dr_S} {r : sg_R} {c : Nat} (h : rp_C ln s r) (hc : c < 4) (hat : ck_at (rm_ck r c) ≠ 0) : f_X3_get ln (nI c) 1 s = some (nI (ck_pl (rm_ck r c)), s) ∧ f_X3_get ln (nI c) 3 s = some (nI (ck_so (rm_ck r c)), s) := by
  have hk := h.2.2.2.2.2.2.1 c hc
  have e1 := q3_get (c := c) (k := 1) h.1 hc (by omega)
  have e3 := q3_get (c := c) (k := 3) h.1 hc (by omega)
  rw [hk.2.1, if_neg hat] at e1
  rw [hk.2.2.2.1, if_neg hat] at e3
  exact ⟨e1, e3⟩
theorem q10_read {ln : Nat → Nat} {s : dr_S} {r : sg_R} {c : Nat} (hr : rp_C ln s r) (hs : wf_step r c) (hat : ck_at (rm_ck r c) = 1) (hB : dq_B s 6) : ∃ s' g, f_X10_read ln (nI c) s = some (0, s') ∧ dq_C s s' g 6 ∧ rp_mem g (sg_read r c) := by
  obtain ⟨hw, hok, hck, hdr, hc⟩ := hs
  have hus := hw.2.1
  have hb := hw.1
  have hat0 : ck_at (rm_ck r c) ≠ 0 := by rw [hat]; decide
  obtain ⟨hf, -, hat2⟩ := hck c hc
  obtain ⟨hpl, hso, j, hj, hjn, hkb⟩ := hat2 hat0
  obtain ⟨⟨ho, hlv, hla, hth, hht⟩, hcs⟩ := hdr _ hpl
  obtain ⟨p1, p3⟩ := q10_place hr hc hat0
  have g0 := q4_get (d := ck_pl (rm_ck r c)) (k := 0) hr.1 (by omega) (by omega)
  have hrow := (hr.2.2.2.2.2.1 _ hpl).1
  rw [hrow.1] at g0
  unfold f_X10_read
  rw [p1, q_bi, p3, q_bi, show f_X4_get ln (nI (ck_pl (rm_ck r c))) 0 s = _ from g0, q_bi, q10_mustGoOn hr hw hok hc hf hpl ho hso, q_bi]
  have hjob : ck_job (rm_ck r c) = j := by unfold ck_job; rw [hj]; rfl
  have hsg : sg_read r c = (if sg_must r c (ck_pl (rm_ck r c)) (ck_so (rm_ck r c)) then (match dv_th (rm_dr r (ck_pl (rm_ck r c))) with | none => r | some t => sg_sK r c (ck_put (rm_ck r c) 1 t (ck_so (rm_ck r c)) (ck_ri (rm_ck r c)))) else if 0 < dv_lev (rm_dr r (ck_pl (rm_ck r c))) then sg_sK r c (1, (dv_cs (rm_dr r (ck_pl (rm_ck r c)))).getD (sg_way (rm_ru r) (dv_hs (rm_dr r (ck_pl (rm_ck r c)))) (ck_so (rm_ck r c))) 0, ck_jo (rm_ck r c), ck_fa (rm_ck r c), ck_so (rm_ck r c), ck_ri (rm_ck r c), (fun l => if l = dv_lev (rm_dr r (ck_pl (rm_ck r c))) then some (ck_pl (rm_ck r c)) else ck_pa (rm_ck r c) l), ck_co (rm_ck r c)) else if jb_ki (rm_jb r (ck_job (rm_ck r c))) = 0 then sg_end r c (if (sg_pos (dv_hs (rm_dr r (ck_pl (rm_ck r c)))) (ck_so (rm_ck r c))).isSome then 1 else 0) else if sg_free r c (ck_pl (rm_ck r c)) then sg_sK (sg_la r c (ck_pl (rm_ck r c)) (some c)) c (ck_put (rm_ck r c) 2 (ck_pl (rm_ck r c)) (ck_so (rm_ck r c)) (ck_ri (rm_ck r c))) else r) := rfl
  rw [hsg, hjob]
  generalize ck_pl (rm_ck r c) = d at *
  cases hm : sg_must r c d (ck_so (rm_ck r c)) with
  | true =>
    rw [if_neg (show ¬ bI true = 0 by decide), if_pos rfl]
    have g3 := q4_get (d := d) (k := 3) hr.1 (by omega) (by omega)
    rw [hrow.2.2.2.1] at g3
    rw [show f_X4_get ln (nI d) 3 s = _ from g3, q_bi]
    cases ht : dv_th (rm_dr r d) with
    | none =>
      exfalso
      have hhi := hht.mpr ht
      unfold sg_must sg_cov at hm
      rw [hhi] at hm
      simp at hm
    | some t =>
      obtain ⟨s1, e1, C1⟩ := q3_set (c := c) (k := 1) (v := nI t) hr.1 hc (by omega) (q_Bmono hB (by omega))
      refine ⟨s1, _, ?_, q_Cw C1 (by omega), ?_⟩
      · rw [show f_X3_set ln (nI c) 1 (nO (some t)) s = _ from e1, q_bv]
      · have h := rp_ckput (c := c) (a := 1) (p := t) hr.2.2.2 hw hc hat0 (by decide) (by decide)
        have e0 : upd (upd (s.1 14) (cp (rm_b r) c 1) (nI t)) (cp (rm_b r) c 0) (nI 1) = upd (s.1 14) (cp (rm_b r) c 1) (nI t) := by
          refine q_upd_id ?_
          rw [q_updO (by unfold cp; omega), (hr.2.2.2.2.2.2.1 c hc).1, hat]
        rw [e0] at h
        exact h
  | false =>
    rw [if_pos (show bI false = 0 by decide), if_neg (by decide : ¬ false = true)]
    by_cases hl0 : 0 < dv_lev (rm_dr r d)
    · rw [if_neg (nI_nle hl0 (by omega)), if_pos hl0]
      obtain ⟨hcl, hcu⟩ := hcs hl0
      obtain ⟨s1, e1, C1⟩ := q3_keepPath (c := c) (l := dv_lev (rm_dr r d)) (v := nI d) hr.1 hc (by omega) (q_Bmono hB (by omega))
      rw [e1, q_bv]
      have G1 := q_GC hr.1 C1
      have row1 : rp_row (s1.1 14) (rm_b r) d (rm_dr r d) := by
        rw [C1.1]
        exact rp_row_fr hrow (hw.2.2.2.1 d hpl) (fun k hk _ => q_updO (by have := dp_260 (b := rm_b r) (d := d) (k := k) (by omega) hk; unfold cp; omega))
      have rul1 : rp_rule s1 (rm_ru r) := ⟨(C1.2.2.1 503 (by decide)).trans hr.2.2.1.1, fun i x g he => by rw [C1.2.1 18 (by decide) (by decide) (by decide)]; exact hr.2.2.1.2 i x g he⟩
      rw [q4_wayOf G1 hr.2.1.1 rul1 hok (by omega) row1 ho hso, q_bi]
      have hwl := sg_way_le (rm_ru r) (ck_so (rm_ck r c)) (dv_hs (rm_dr r d))
      obtain ⟨x, hx⟩ : ∃ x, (dv_cs (rm_dr r d))[sg_way (rm_ru r) (dv_hs (rm_dr r d)) (ck_so (rm_ck r c))]? = some x := ⟨_, List.getElem?_eq_getElem (by omega)⟩
      rw [q4_child G1 (by omega) row1 ho hl0 (by omega) hwl hx, q_bi]
      obtain ⟨s2, e2, C2⟩ := q3_set (c := c) (k := 1) (v := nI x) G1 hc (by omega) (C1.2.2.2.1 _ (q_Bmono hB (by omega)))
      refine ⟨s2, _, ?_, q_Cw (q_Ctr C1 C2) (by omega), ?_⟩
      · rw [show f_X3_set ln (nI c) 1 (nI x) s1 = _ from e2, q_bv]
      · rw [C1.1, List.getD_eq_getElem?_getD, hx]
        have hk := hr.2.2.2.2.2.2.1 c hc
        have ne : ∀ i k, i ≠ k → cp (rm_b r) c i ≠ cp (rm_b r) c k := fun i k h q => h (by unfold cp at q; omega)
        refine rp_sK hr.2.2.2 hw hc (fun q hp _ => ?_) ⟨?_, ?_, ?_, ?_, ?_, ?_, fun _ l hl => ?_, fun q => absurd (show (1 : Nat) = 3 from q) (by decide)⟩
        · rw [q_updO (hp 1 (by omega)), q_updO (hp (6 + dv_lev (rm_dr r d)) (by omega))]
        · rw [q_updO (ne 0 1 (by decide)), q_updO (ne 0 (6 + _) (by omega)), hk.1, hat]
          rfl
        · rw [q_updS]
          rfl
        · rw [q_updO (ne 2 1 (by decide)), q_updO (ne 2 (6 + _) (by omega))]
          exact hk.2.2.1
        · rw [q_updO (ne 3 1 (by decide)), q_updO (ne 3 (6 + _) (by omega)), hk.2.2.2.1, if_neg hat0]
          rfl
        · rw [q_updO (ne 4 1 (by decide)), q_updO (ne 4 (6 + _) (by omega))]
          exact hk.2.2.2.2.1
        · rw [q_updO (ne 5 1 (by decide)), q_updO (ne 5 (6 + _) (by omega))]
          exact hk.2.2.2.2.2.1
        · rw [q_updO (ne (6 + l) 1 (by omega))]
          show upd (s.1 14) (cp (rm_b r) c (6 + dv_lev (rm_dr r d))) (nI d) (cp (rm_b r) c (6 + l)) = nO (if l = dv_lev (rm_dr r d) then some d else ck_pa (rm_ck r c) l)
          by_cases hll : l = dv_lev (rm_dr r d)
          · rw [if_pos hll, hll, q_updS]
            rfl
          · rw [if_neg hll, q_updO (ne (6 + l) (6 + _) (by omega))]
            exact hk.2.2.2.2.2.2.1 hat0 l hl
    · have hlz : dv_lev (rm_dr r d) = 0 := by omega
      rw [if_pos (by rw [hlz]; decide), if_neg hl0, q10_kindOf hr hw hc hj hjn, q_bi]
      by_cases hk0 : jb_ki (rm_jb r j) = 0
      · rw [if_pos (show nI (jb_ki (rm_jb r j)) = 0 by rw [hk0]; rfl), if_pos hk0, q4_placeOf hr.1 (by omega) hrow ho hso, q_bi]
        cases hp : sg_pos (dv_hs (rm_dr r d)) (ck_so (rm_ck r c)) with
        | none =>
          rw [if_pos (show nO none = (-1 : Int32) from rfl)]
          obtain ⟨s1, g, a1, a2, a3⟩ := q10_end (a := 0) hr hw hc hj hjn hB
          refine ⟨s1, g, ?_, a2, a3⟩
          unfold f_X10_read_p135
          rw [show f_X10_end ln (nI c) 0 s = _ from a1, q_bv]
        | some i =>
          have hlt : i < (dv_hs (rm_dr r d)).length := (List.getElem?_eq_some_iff.mp (sg_pos_lt hp)).1
          have := ho.1
          rw [if_neg (show ¬ nO (some i) = (-1 : Int32) from fun q => nI_pos (n := i) (by omega) (by rw [show nI i = -1 from q]; decide))]
          obtain ⟨s1, g, a1, a2, a3⟩ := q10_end (a := 1) hr hw hc hj hjn hB
          refine ⟨s1, g, ?_, a2, a3⟩
          unfold f_X10_read_p135
          rw [show f_X10_end ln (nI c) 1 s = _ from a1, q_bv]
      · rw [if_neg hk0]
        have hkn : ¬ nI (jb_ki (rm_jb r j)) = 0 := by
          exact nI_ne0 (by omega) (by omega)
        rw [if_neg hkn, q10_isFree hr hw hc hf hpl hla, q_bi]
        cases hfr : sg_free r c d with
        | false =>
          rw [if_pos (show bI false = 0 by decide), if_neg (by decide : ¬ false = true)]
          exact ⟨s, s.1 14, rfl, q_Cw (q_Crf s) (by omega), hr.2.2.2⟩
        | true =>
          rw [if_neg (show ¬ bI true = 0 by decide), if_pos rfl]
          obtain ⟨s1, g, a1, a2, a3⟩ := q10_latch hr hw hc hf hat0 hpl (q_Bmono hB (by omega))
          refine ⟨s1, g, ?_, q_Cw a2 (by omega), a3⟩
          rw [a1, q_bv]

/-! 53: a step of holding, of the class -/
theorem q10_hold {ln : Nat → Nat} {s : dr_S} {r : sg_R} {c : Nat} (hr : rp_C ln s r) (hs : wf_step r c) (hat : ck_at (rm_ck r c) = 2) (hB : dq_B s 29) : ∃ s' g, f_X10_hold ln (nI c) s = some (0, s') ∧ dq_C s s' g 29 ∧ rp_mem g (sg_hold r c) := by
  have hs0 := hs
  obtain ⟨hw, hok, hck, hdr, hc⟩ := hs
  have hus := hw.2.1
  have hb := hw.1
  have hat0 : ck_at (rm_ck r c) ≠ 0 := by rw [hat]; decide
  obtain ⟨hf, -, hat2⟩ := hck c hc
  obtain ⟨hpl, hso, -⟩ := hat2 hat0
  obtain ⟨⟨ho, hlv, hla, hth, hht⟩, hcs⟩ := hdr _ hpl
  obtain ⟨p1, p3⟩ := q10_place hr hc hat0
  have hrow := (hr.2.2.2.2.2.1 _ hpl).1
  have hsg : sg_hold r c = (if sg_must r c (ck_pl (rm_ck r c)) (ck_so (rm_ck r c)) then sg_move r c (dv_th (rm_dr r (ck_pl (rm_ck r c)))) else sg_sK r c (3, ck_pl (rm_ck r c), ck_jo (rm_ck r c), ck_fa (rm_ck r c), ck_so (rm_ck r c), ck_ri (rm_ck r c), ck_pa (rm_ck r c), rm_dr r (ck_pl (rm_ck r c)))) := rfl
  unfold f_X10_hold
  rw [p1, q_bi, p3, q_bi, q10_mustGoOn hr hw hok hc hf hpl ho hso, q_bi, hsg]
  cases hm : sg_must r c (ck_pl (rm_ck r c)) (ck_so (rm_ck r c)) with
  | true =>
    rw [if_neg (show ¬ bI true = 0 by decide), if_pos rfl]
    have g3 := q4_get (d := ck_pl (rm_ck r c)) (k := 3) hr.1 (by omega) (by omega)
    rw [hrow.2.2.2.1] at g3
    rw [show f_X4_get ln (nI (ck_pl (rm_ck r c))) 3 s = _ from g3, q_bi]
    obtain ⟨s1, g, a1, a2, a3⟩ := q10_moveTo hr hs0 hat0 hth (q_Bmono hB (by omega))
    refine ⟨s1, g, ?_, q_Cw a2 (by omega), a3⟩
    rw [a1, q_bv]
  | false =>
    rw [if_pos (show bI false = 0 by decide), if_neg (by decide : ¬ false = true)]
    obtain ⟨s1, g, a1, C1, rg, og⟩ := q4_bring (f := ck_pl (rm_ck r c)) (t := 256 + c) hr.1 (by omega) (by omega) (by omega) hrow (hw.2.2.2.1 _ hpl) hlv (fun h => (hcs h).1) (q_Bmono hB (by omega))
    obtain ⟨s2, e2, C2⟩ := q3_set (c := c) (k := 0) (v := 3) (q_GC hr.1 C1) hc (by omega) (C1.2.2.2.1 _ (q_Bmono hB (by omega)))
    refine ⟨s2, _, ?_, q_Ctr C1 C2, ?_⟩
    · unfold f_X4_copyOf
      rw [q_bi, show (256 : Int32) = nI 256 from rfl, nI_add, a1, q_bv, show f_X3_set ln (nI c) 0 3 s1 = _ from e2, q_bv]
    · rw [C1.1]
      have hk := hr.2.2.2.2.2.2.1 c hc
      have ne : ∀ i k, i ≠ k → cp (rm_b r) c i ≠ cp (rm_b r) c k := fun i k h q => h (by unfold cp at q; omega)
      have cell : ∀ i, g (cp (rm_b r) c i) = s.1 14 (cp (rm_b r) c i) := fun i => og _ (fun k hk _ q => by
        have := dp_260 (b := rm_b r) (d := 256 + c) (k := k) (by omega) hk
        unfold cp at q
        omega)
      refine rp_sK hr.2.2.2 hw hc (fun q hp hq => ?_) ⟨?_, ?_, ?_, ?_, ?_, ?_, fun _ l hl => ?_, fun _ => ?_⟩
      · rw [q_updO (hp 0 (by omega))]
        exact og q (fun k hk _ => hq k hk)
      · rw [q_updS]
        rfl
      · rw [q_updO (ne 1 0 (by decide)), cell, hk.2.1, if_neg hat0]
        rfl
      · rw [q_updO (ne 2 0 (by decide)), cell]
        exact hk.2.2.1
      · rw [q_updO (ne 3 0 (by decide)), cell, hk.2.2.2.1, if_neg hat0]
        rfl
      · rw [q_updO (ne 4 0 (by decide)), cell]
        exact hk.2.2.2.2.1
      · rw [q_updO (ne 5 0 (by decide)), cell]
        exact hk.2.2.2.2.2.1
      · rw [q_updO (ne (6 + l) 0 (by omega)), cell]
        exact hk.2.2.2.2.2.2.1 hat0 l hl
      · exact rp_row_fr rg (hw.2.2.2.1 _ hpl) (fun k hk _ => q_updO (by have := dp_260 (b := rm_b r) (d := 256 + c) (k := k) (by omega) hk; unfold cp; omega))

/-! 48: the clerk's small deeds, of the class -/
def wf_ck (r : sg_R) (c : Nat) : Prop := ck_fa (rm_ck r c) ≤ 2 ∧ ck_at (rm_ck r c) ≤ 4 ∧ (ck_at (rm_ck r c) ≠ 0 → ck_pl (rm_ck r c) < rm_us r ∧ ck_so (rm_ck r c) < 10000 ∧ ∃ j, ck_jo (rm_ck r c) = some j ∧ j < rm_nj r ∧ jb_ki (rm_jb r j) ≤ 2)
def wf_dr (r : sg_R) (d : Nat) : Prop := hs_ok (rm_b r) (rm_dr r d) ∧ dv_lev (rm_dr r d) < 64 ∧ (∀ c, dv_la (rm_dr r d) = some c → c < 4) ∧ (∀ t, dv_th (rm_dr r d) = some t → t < rm_us r) ∧ (dv_hi (rm_dr r d) = none ↔ dv_th (rm_dr r d) = none)
theorem rp_C_of {ln : Nat → Nat} {s s' : dr_S} {g : Nat → Int32} {k : Nat} {r r' : sg_R} (h : rp_C ln s r) (hC : dq_C s s' g k) (e1 : rm_b r' = rm_b r) (e2 : rm_ru r' = rm_ru r) (hm : rp_mem g r') : rp_C ln s' r' := by
  obtain ⟨h1, h2, h3, h4⟩ := h
  refine ⟨by rw [e1]; exact q_GC h1 hC, h2, ?_, by rw [hC.1]; exact hm⟩
  rw [e2]
  exact ⟨(hC.2.2.1 503 (by decide)).trans h3.1, fun i d g he => by rw [hC.2.1 18 (by decide) (by decide) (by decide)]; exact h3.2 i d g he⟩
theorem q10_fault {ln : Nat → Nat} {s : dr_S} {r : sg_R} {c : Nat} (h : rp_C ln s r) (hc : c < 4) : f_X3_get ln (nI c) 5 s = some (nI (ck_fa (rm_ck r c)), s) := by
  have e := q3_get (c := c) (k := 5) h.1 hc (by omega)
  rw [(h.2.2.2.2.2.2.1 c hc).2.2.2.2.2.1] at e
  exact e
theorem q10_kindOf {ln : Nat → Nat} {s : dr_S} {r : sg_R} {c j : Nat} (h : rp_C ln s r) (hw : wf_sz r) (hc : c < 4) (hj : ck_jo (rm_ck r c) = some j) (hjn : j < rm_nj r) : f_X10_kindOf ln (nI c) s = some (nI (jb_ki (rm_jb r j)), s) := by
  have hnj := hw.2.2.1
  have e := q3_get (c := c) (k := 2) h.1 hc (by omega)
  have e2 := q6_get (c := j) (k := 0) h.1 (by omega) (by omega)
  rw [(h.2.2.2.2.2.2.1 c hc).2.2.1, hj] at e
  rw [(h.2.2.2.2.2.2.2.2.2 j hjn).1] at e2
  unfold f_X10_kindOf
  rw [show f_X3_get ln (nI c) 2 s = _ from e, q_bi, show nO (some j) = nI j from rfl, show f_X6_get ln (nI j) 0 s = _ from e2, q_bi]
theorem q10_mustGoOn {ln : Nat → Nat} {s : dr_S} {r : sg_R} {c d h : Nat} (hr : rp_C ln s r) (hw : wf_sz r) (hok : rl_ok (rm_ru r)) (hc : c < 4) (hf : ck_fa (rm_ck r c) ≤ 2) (hd : d < rm_us r) (ho : hs_ok (rm_b r) (rm_dr r d)) (hh : h < 10000) : f_X10_mustGoOn ln (nI c) (nI d) (nI h) s = some (bI (sg_must r c d h), s) := by
  have hus := hw.2.1
  unfold f_X10_mustGoOn sg_must
  rw [q10_fault hr hc, q_bi]
  by_cases e : ck_fa (rm_ck r c) = 1
  · rw [e, if_pos (show nI 1 = (1 : Int32) from rfl)]
    rfl
  · rw [if_neg (show ¬ nI (ck_fa (rm_ck r c)) = (1 : Int32) from fun q => e ((nI_eq (a := ck_fa (rm_ck r c)) (b := 1) (by omega) (by omega)).mp q)), q4_covers hr.1 hr.2.1.1 hr.2.2.1 hok (by omega) (hr.2.2.2.2.2.1 d hd).1 ho hh, q_bi]
    have e2 : decide (ck_fa (rm_ck r c) ≠ 1) = true := decide_eq_true e
    rw [e2]
    cases sg_cov (rm_ru r) (rm_dr r d) h <;> rfl
theorem q10_isFree {ln : Nat → Nat} {s : dr_S} {r : sg_R} {c d : Nat} (hr : rp_C ln s r) (hw : wf_sz r) (hc : c < 4) (hf : ck_fa (rm_ck r c) ≤ 2) (hd : d < rm_us r) (hl : ∀ e, dv_la (rm_dr r d) = some e → e < 4) : f_X10_isFree ln (nI c) (nI d) s = some (bI (sg_free r c d), s) := by
  have hus := hw.2.1
  have hb := hw.1
  have e := q4_get (d := d) (k := 4) hr.1 (by omega) (by omega)
  rw [(hr.2.2.2.2.2.1 d hd).2] at e
  unfold f_X10_isFree sg_free
  rw [show f_X4_get ln (nI d) 4 s = _ from e, q_bi]
  cases hla : dv_la (rm_dr r d) with
  | none =>
    rw [show nO none = (-1 : Int32) from rfl, if_pos rfl]
    simp [bI]
  | some a =>
    have ha := hl a hla
    rw [show nO (some a) = nI a from rfl, if_neg (fun q => nI_pos (n := a) (by omega) (by rw [q]; decide))]
    by_cases eac : a = c
    · subst eac
      rw [if_pos rfl]
      simp [bI]
    · rw [if_neg (fun q => eac ((nI_eq (by omega) (by omega)).mp q)), q10_fault hr hc, q_bi]
      by_cases e2 : ck_fa (rm_ck r c) = 2
      · rw [e2, if_pos (show nI 2 = (2 : Int32) from rfl)]
        simp [bI]
      · rw [if_neg (show ¬ nI (ck_fa (rm_ck r c)) = (2 : Int32) from fun q => e2 ((nI_eq (a := ck_fa (rm_ck r c)) (b := 2) (by omega) (by omega)).mp q))]
        simp [bI, e2, eac]
/-- latch or let go -/
theorem rp_la {m : Nat → Int32} {r : sg_R} {d : Nat} {v : Option Nat} (hm : rp_mem m r) (hw : wf_sz r) (hd : d < rm_us r) : rp_mem (upd m (dp (rm_b r) d 4) (nO v)) (sg_sD r d (dv_lev (rm_dr r d), dv_hs (rm_dr r d), dv_cs (rm_dr r d), dv_hi (rm_dr r d), dv_th (rm_dr r d), v)) := by
  have hus := hw.2.1
  have hb := hw.1
  refine rp_sD hm hw (by omega) (fun p hp => q_updO (hp 4 (by omega))) ⟨?_, q_updS _ _ _⟩
  refine rp_row_fr (x := rm_dr r d) (hm.2.2.1 d hd).1 (hw.2.2.2.1 d hd) (fun k hk h4 => q_updO (fun q => ?_))
  unfold dp at q
  omega
theorem q10_letGo {ln : Nat → Nat} {s : dr_S} {r : sg_R} {c d : Nat} (hr : rp_C ln s r) (hw : wf_sz r) (hc : c < 4) (hf : ck_fa (rm_ck r c) ≤ 2) (hd : d < rm_us r) (hB : dq_B s 1) : ∃ s' g, f_X10_letGo ln (nI c) (nI d) s = some (0, s') ∧ dq_C s s' g 1 ∧ rp_mem g (sg_la r c d none) := by
  have hus := hw.2.1
  have hb := hw.1
  unfold f_X10_letGo sg_la
  rw [q10_fault hr hc, q_bi]
  by_cases e : ck_fa (rm_ck r c) = 2
  · rw [e, if_pos (show nI 2 = (2 : Int32) from rfl), if_pos rfl]
    exact ⟨s, s.1 14, rfl, q_Cw (q_Crf s) (by omega), hr.2.2.2⟩
  · rw [if_neg (show ¬ nI (ck_fa (rm_ck r c)) = (2 : Int32) from fun q => e ((nI_eq (a := ck_fa (rm_ck r c)) (b := 2) (by omega) (by omega)).mp q)), if_neg e]
    obtain ⟨s1, e1, C1⟩ := q4_set (d := d) (k := 4) (v := -1) hr.1 (by omega) (by omega) hB
    refine ⟨s1, _, ?_, C1, rp_la (v := none) hr.2.2.2 hw hd⟩
    rw [show f_X4_set ln (nI d) 4 (-1) s = _ from e1, q_bv]

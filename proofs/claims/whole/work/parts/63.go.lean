/-! 63: one step, of the class -/
def sg_pass (r : sg_R) (j : Nat) : sg_R := sg_sJ (sg_sN r (rm_ti r + 1) (rm_nj r)) j (jb_ki (rm_jb r j), jb_he (rm_jb r j), jb_an (rm_jb r j), jb_be (rm_jb r j), jb_en (rm_jb r j), jb_st (rm_jb r j) + 1, jb_lo (rm_jb r j))
theorem pass_jb (r : sg_R) (j i : Nat) : jb_ki (rm_jb (sg_pass r j) i) = jb_ki (rm_jb r i) ∧ jb_he (rm_jb (sg_pass r j) i) = jb_he (rm_jb r i) ∧ jb_an (rm_jb (sg_pass r j) i) = jb_an (rm_jb r i) ∧ jb_be (rm_jb (sg_pass r j) i) = jb_be (rm_jb r i) ∧ jb_en (rm_jb (sg_pass r j) i) = jb_en (rm_jb r i) ∧ jb_lo (rm_jb (sg_pass r j) i) = jb_lo (rm_jb r i) := by
  have e : rm_jb (sg_pass r j) i = if i = j then (jb_ki (rm_jb r j), jb_he (rm_jb r j), jb_an (rm_jb r j), jb_be (rm_jb r j), jb_en (rm_jb r j), jb_st (rm_jb r j) + 1, jb_lo (rm_jb r j)) else rm_jb r i := rfl
  rw [e]
  by_cases h : i = j
  · rw [if_pos h, h]
    exact ⟨rfl, rfl, rfl, rfl, rfl, rfl⟩
  · rw [if_neg h]
    exact ⟨rfl, rfl, rfl, rfl, rfl, rfl⟩
theorem pass_step {r : sg_R} {c j : Nat} (h : wf_step r c) : wf_step (sg_pass r j) c := by
  obtain ⟨h1, h2, h3, h4, h5⟩ := h
  refine ⟨h1, h2, fun e he => ?_, h4, h5⟩
  obtain ⟨a, b, f⟩ := h3 e he
  refine ⟨a, b, fun q => ?_⟩
  obtain ⟨p1, p2, i, p3, p4, p5⟩ := f q
  exact ⟨p1, p2, i, p3, p4, by rw [(pass_jb r j i).1]; exact p5⟩
theorem pass_wr {r : sg_R} {c j : Nat} (h : wf_wr r c) : wf_wr (sg_pass r j) c := by
  intro q
  obtain ⟨h1, h2, h3, h4, h5, h6⟩ := h q
  refine ⟨h1, h2, h3, h4, fun z => h5 ?_, h6⟩
  rw [(pass_jb r j _).1] at z
  exact z
theorem sg_step_eq (r : sg_R) (c : Nat) : sg_step r c = (if ck_at (rm_ck r c) = 1 then sg_read (sg_pass r (ck_job (rm_ck r c))) c else if ck_at (rm_ck r c) = 2 then sg_hold (sg_pass r (ck_job (rm_ck r c))) c else if ck_at (rm_ck r c) = 3 then sg_write (sg_pass r (ck_job (rm_ck r c))) c else if ck_at (rm_ck r c) = 4 then sg_rise (sg_pass r (ck_job (rm_ck r c))) c else sg_pass r (ck_job (rm_ck r c))) := rfl
theorem q_sw {n lo : Nat} {hi : Nat} {Fs : List (Option (Int32 × dr_S))} {Fd : Option (Int32 × dr_S)} (h1 : lo ≤ n) (h2 : n ≤ hi) (h3 : hi < 2 ^ 31) : dr_sw (nI n) lo hi Fs Fd = Fs.getD (n - lo) none := by
  have e : (nI n).toInt = (n : Int) := by
    unfold nI
    rw [Int32.toInt_ofNat_of_lt]
    omega
  unfold dr_sw
  rw [e, if_neg (by omega)]
  congr 1
  omega
theorem q_swO {n lo : Nat} {hi : Nat} {Fs : List (Option (Int32 × dr_S))} {Fd : Option (Int32 × dr_S)} (h1 : n < lo ∨ hi < n) (h3 : n < 2 ^ 31) : dr_sw (nI n) lo hi Fs Fd = Fd := by
  have e : (nI n).toInt = (n : Int) := by
    unfold nI
    rw [Int32.toInt_ofNat_of_lt]
    omega
  unfold dr_sw
  rw [e, if_pos (by omega)]
def wf_go (r : sg_R) (c : Nat) : Prop := wf_step r c ∧ wf_rise r c ∧ wf_wr r c ∧ ck_at (rm_ck r c) ≠ 0
theorem q10_go {ln : Nat → Nat} {s : dr_S} {r : sg_R} {c : Nat} (hr : rp_C ln s r) (hg : wf_go r c) (hB : dq_B s 100) : ∃ s' g, f_X10_go ln (nI c) s = some (0, s') ∧ dq_C s s' g 100 ∧ rp_mem g (sg_step r c) := by
  obtain ⟨hs, hri, hwr, hat0⟩ := hg
  have hs0 := hs
  obtain ⟨hw, hok, hck, hdr, hc⟩ := hs
  obtain ⟨hf, hat4, hck3⟩ := hck c hc
  obtain ⟨hpl, hso, j, hj, hjn, hki⟩ := hck3 hat0
  have hjb : ck_job (rm_ck r c) = j := by unfold ck_job; rw [hj]; rfl
  have g2 := q3_get (c := c) (k := 2) hr.1 hc (by omega)
  rw [(hr.2.2.2.2.2.2.1 c hc).2.2.1, hj] at g2
  have g2 : f_X3_get ln (nI c) 2 s = some (nI j, s) := g2
  obtain ⟨s1, ga, a1, C1, m1⟩ := q6_passStep hr hw hjn (q_Bmono hB (by omega))
  have m1 : rp_mem ga (sg_pass r j) := m1
  have hr1 := rp_C_of (r' := sg_pass r j) hr C1 rfl rfl m1
  have B1 : dq_B s1 98 := C1.2.2.2.1 _ (q_Bmono hB (by omega))
  have g0 := q3_get (c := c) (k := 0) hr1.1 hc (by omega)
  rw [(hr1.2.2.2.2.2.2.1 c hc).1] at g0
  have g0 : f_X3_get ln (nI c) 0 s1 = some (nI (ck_at (rm_ck r c)), s1) := g0
  have hs1 := pass_step (j := j) hs0
  have hw1 := pass_wr (j := j) hwr
  have hri1 : wf_rise (sg_pass r j) c := hri
  unfold f_X10_go
  rw [g2, q_bi, a1, q_bv, g0, q_bi, sg_step_eq, hjb]
  have sw : ∀ (Fs : List (Option (Int32 × dr_S))) (Fd : Option (Int32 × dr_S)), dr_sw (nI (ck_at (rm_ck r c))) 1 4 Fs Fd = Fs.getD (ck_at (rm_ck r c) - 1) none := fun Fs Fd => q_sw (lo := 1) (hi := 4) (by omega) (by omega) (by omega)
  rw [sw]
  have hcases : ck_at (rm_ck r c) = 1 ∨ ck_at (rm_ck r c) = 2 ∨ ck_at (rm_ck r c) = 3 ∨ ck_at (rm_ck r c) = 4 := by omega
  rcases hcases with e | e | e | e
  · rw [e, if_pos rfl]
    obtain ⟨s2, gb, a2, C2, m2⟩ := q10_read hr1 hs1 e (q_Bmono B1 (by omega))
    refine ⟨s2, gb, ?_, q_Cw (q_Ctr C1 C2) (by omega), m2⟩
    show dr_bndv (f_X10_read ln (nI c) s1) (fun q => some (0, q)) = _
    rw [a2, q_bv]
  · rw [e, if_neg (by decide), if_pos rfl]
    obtain ⟨s2, gb, a2, C2, m2⟩ := q10_hold hr1 hs1 e (q_Bmono B1 (by omega))
    refine ⟨s2, gb, ?_, q_Cw (q_Ctr C1 C2) (by omega), m2⟩
    show dr_bndv (f_X10_hold ln (nI c) s1) (fun q => some (0, q)) = _
    rw [a2, q_bv]
  · rw [e, if_neg (by decide), if_neg (by decide), if_pos rfl]
    obtain ⟨s2, gb, a2, C2, m2⟩ := q10_write hr1 hs1 hw1 e (q_Bmono B1 (by omega))
    refine ⟨s2, gb, ?_, q_Cw (q_Ctr C1 C2) (by omega), m2⟩
    show dr_bndv (f_X10_write ln (nI c) s1) (fun q => some (0, q)) = _
    rw [a2, q_bv]
  · rw [e, if_neg (by decide), if_neg (by decide), if_neg (by decide), if_pos rfl]
    obtain ⟨s2, gb, a2, C2, m2⟩ := q10_climb hr1 hs1 hri1 e (q_Bmono B1 (by omega))
    refine ⟨s2, gb, ?_, q_Cw (q_Ctr C1 C2) (by omega), m2⟩
    show dr_bndv (f_X10_climb ln (nI c) s1) (fun q => some (0, q)) = _
    rw [a2, q_bv]

/-! 86: what a step of clerk c leaves alone -/
def sk0 (c : Nat) (r r' : sg_R) : Prop := (∀ e, e ≠ c → rm_ck r' e = rm_ck r e) ∧ (ck_fa (rm_ck r' c) = ck_fa (rm_ck r c) ∧ ck_jo (rm_ck r' c) = ck_jo (rm_ck r c)) ∧ (rm_b r' = rm_b r ∧ rm_ru r' = rm_ru r ∧ rm_nj r' = rm_nj r) ∧ (∀ j, jb_ki (rm_jb r' j) = jb_ki (rm_jb r j) ∧ jb_he (rm_jb r' j) = jb_he (rm_jb r j) ∧ jb_be (rm_jb r' j) = jb_be (rm_jb r j) ∧ jb_lo (rm_jb r' j) = jb_lo (rm_jb r j)) ∧ (∃ l, rm_ch r' = rm_ch r ++ l)
theorem sk_rf (c : Nat) (r : sg_R) : sk0 c r r := ⟨fun _ _ => rfl, ⟨rfl, rfl⟩, ⟨rfl, rfl, rfl⟩, fun _ => ⟨rfl, rfl, rfl, rfl⟩, [], (List.append_nil _).symm⟩
theorem sk_tr {c : Nat} {r r1 r2 : sg_R} (h1 : sk0 c r r1) (h2 : sk0 c r1 r2) : sk0 c r r2 := by
  obtain ⟨a1, a2, a3, a4, l1, a5⟩ := h1
  obtain ⟨b1, b2, b3, b4, l2, b5⟩ := h2
  refine ⟨fun e he => (b1 e he).trans (a1 e he), ⟨b2.1.trans a2.1, b2.2.trans a2.2⟩, ⟨b3.1.trans a3.1, b3.2.1.trans a3.2.1, b3.2.2.trans a3.2.2⟩, fun j => ⟨(b4 j).1.trans (a4 j).1, (b4 j).2.1.trans (a4 j).2.1, (b4 j).2.2.1.trans (a4 j).2.2.1, (b4 j).2.2.2.trans (a4 j).2.2.2⟩, l1 ++ l2, ?_⟩
  rw [b5, a5, List.append_assoc]
theorem sk_pass (c : Nat) (r : sg_R) (j : Nat) : sk0 c r (sg_pass r j) := ⟨fun _ _ => rfl, ⟨rfl, rfl⟩, ⟨rfl, rfl, rfl⟩, fun i => ⟨(pass_jb r j i).1, (pass_jb r j i).2.1, (pass_jb r j i).2.2.2.1, (pass_jb r j i).2.2.2.2.2⟩, [], (List.append_nil _).symm⟩
theorem sk_la (c : Nat) (r : sg_R) (d : Nat) (v : Option Nat) : sk0 c r (sg_la r c d v) := by
  unfold sg_la
  split
  · exact sk_rf c r
  · exact ⟨fun _ _ => rfl, ⟨rfl, rfl⟩, ⟨rfl, rfl, rfl⟩, fun _ => ⟨rfl, rfl, rfl, rfl⟩, [], (List.append_nil _).symm⟩
theorem sk_sK (c : Nat) (r : sg_R) (x : sg_K) (hf : ck_fa x = ck_fa (rm_ck r c)) (hj : ck_jo x = ck_jo (rm_ck r c)) : sk0 c r (sg_sK r c x) := ⟨fun e he => sK_ne he, by rw [sK_at]; exact ⟨hf, hj⟩, ⟨rfl, rfl, rfl⟩, fun _ => ⟨rfl, rfl, rfl, rfl⟩, [], (List.append_nil _).symm⟩
theorem sk_end (c : Nat) (r : sg_R) (a : Nat) : sk0 c r (sg_end r c a) := by
  rw [sg_end_eq]
  refine sk_tr (r1 := sg_sJ r (ck_job (rm_ck r c)) (jb_ki (rm_jb r (ck_job (rm_ck r c))), jb_he (rm_jb r (ck_job (rm_ck r c))), some a, jb_be (rm_jb r (ck_job (rm_ck r c))), some (rm_ti r), jb_st (rm_jb r (ck_job (rm_ck r c))), jb_lo (rm_jb r (ck_job (rm_ck r c))))) ⟨fun _ _ => rfl, ⟨rfl, rfl⟩, ⟨rfl, rfl, rfl⟩, fun i => ?_, [], (List.append_nil _).symm⟩ (sk_sK c _ _ rfl rfl)
  have e : rm_jb (sg_sJ r (ck_job (rm_ck r c)) (jb_ki (rm_jb r (ck_job (rm_ck r c))), jb_he (rm_jb r (ck_job (rm_ck r c))), some a, jb_be (rm_jb r (ck_job (rm_ck r c))), some (rm_ti r), jb_st (rm_jb r (ck_job (rm_ck r c))), jb_lo (rm_jb r (ck_job (rm_ck r c))))) i = if i = ck_job (rm_ck r c) then (jb_ki (rm_jb r (ck_job (rm_ck r c))), jb_he (rm_jb r (ck_job (rm_ck r c))), some a, jb_be (rm_jb r (ck_job (rm_ck r c))), some (rm_ti r), jb_st (rm_jb r (ck_job (rm_ck r c))), jb_lo (rm_jb r (ck_job (rm_ck r c)))) else rm_jb r i := rfl
  rw [e]
  by_cases q : i = ck_job (rm_ck r c)
  · rw [if_pos q, q]
    exact ⟨rfl, rfl, rfl, rfl⟩
  · rw [if_neg q]
    exact ⟨rfl, rfl, rfl, rfl⟩
/-- at rest nothing rises -/
def iv2 (r : sg_R) : Prop := ∀ c, c < 4 → ck_at (rm_ck r c) = 0 → ck_ri (rm_ck r c) = none
def sk2 (c : Nat) (r' : sg_R) : Prop := ck_at (rm_ck r' c) = 0 → ck_ri (rm_ck r' c) = none
theorem end_ri (c : Nat) (r : sg_R) (a : Nat) : sk2 c (sg_end r c a) := fun _ => by rw [sg_end_eq, sK_at]; rfl
theorem sK_ri {c : Nat} {r : sg_R} {x : sg_K} (h : ck_at x ≠ 0) : sk2 c (sg_sK r c x) := fun q => by rw [sK_at] at q; exact absurd q h
theorem pass_ri {c j : Nat} {r : sg_R} (h : ck_at (rm_ck r c) ≠ 0) : sk2 c (sg_pass r j) := fun q => absurd q h
theorem sk_move {c j : Nat} {r : sg_R} (t : Option Nat) (h : ck_at (rm_ck r c) ≠ 0) : sk0 c r (sg_move (sg_pass r j) c t) ∧ sk2 c (sg_move (sg_pass r j) c t) := by
  cases t with
  | none => exact ⟨sk_pass c r j, pass_ri h⟩
  | some t =>
    rw [sg_move_eq]
    split
    · have K := ck_la (sg_pass r j) c (ck_pl (rm_ck (sg_pass r j) c)) none
      have K2 := ck_la (sg_la (sg_pass r j) c (ck_pl (rm_ck (sg_pass r j) c)) none) c t (some c)
      exact ⟨sk_tr (sk_tr (sk_tr (sk_pass c r j) (sk_la c _ _ _)) (sk_la c _ _ _)) (sk_sK c _ _ (by rw [K2.1, K.1]; rfl) (by rw [K2.1, K.1]; rfl)), sK_ri (by show (2 : Nat) ≠ 0; decide)⟩
    · exact ⟨sk_pass c r j, pass_ri h⟩
theorem sk_done {c j d : Nat} {r r2 : sg_R} (h0 : sk0 c r r2) : sk0 c r (sg_done r2 c d) ∧ sk2 c (sg_done r2 c d) := by
  unfold sg_done
  split
  · exact ⟨sk_tr (sk_tr h0 (sk_la c _ _ _)) (sk_end c _ _), end_ri c _ _⟩
  · refine ⟨sk_tr (sk_tr h0 (r1 := sg_part r2 d) ⟨fun _ _ => rfl, ⟨rfl, rfl⟩, ⟨rfl, rfl, rfl⟩, fun _ => ⟨rfl, rfl, rfl, rfl⟩, [], (List.append_nil _).symm⟩) (sk_sK c _ _ rfl rfl), sK_ri (by show (4 : Nat) ≠ 0; decide)⟩
theorem sk_new (c : Nat) (r : sg_R) (u t : Nat) (x : sg_D) : sk0 c r (sg_sT (sg_sU (sg_sD r u x) (u + 1)) t) := ⟨fun _ _ => rfl, ⟨rfl, rfl⟩, ⟨rfl, rfl, rfl⟩, fun _ => ⟨rfl, rfl, rfl, rfl⟩, [], (List.append_nil _).symm⟩
theorem sk_step {c : Nat} {r : sg_R} (h : ck_at (rm_ck r c) ≠ 0) : sk0 c r (sg_step r c) ∧ sk2 c (sg_step r c) := by
  rw [sg_step_eq]
  generalize ck_job (rm_ck r c) = j
  split
  · rw [sg_read_eq]
    split
    · split
      · exact ⟨sk_pass c r j, pass_ri h⟩
      · exact ⟨sk_tr (sk_pass c r j) (sk_sK c _ _ rfl rfl), sK_ri (by show (1 : Nat) ≠ 0; decide)⟩
    · split
      · exact ⟨sk_tr (sk_pass c r j) (sk_sK c _ _ rfl rfl), sK_ri (by show (1 : Nat) ≠ 0; decide)⟩
      · split
        · exact ⟨sk_tr (sk_pass c r j) (sk_end c _ _), end_ri c _ _⟩
        · split
          · have K := ck_la (sg_pass r j) c (ck_pl (rm_ck (sg_pass r j) c)) (some c)
            exact ⟨sk_tr (sk_tr (sk_pass c r j) (sk_la c _ _ _)) (sk_sK c _ _ (by rw [K.1]; rfl) (by rw [K.1]; rfl)), sK_ri (by show (2 : Nat) ≠ 0; decide)⟩
          · exact ⟨sk_pass c r j, pass_ri h⟩
  · split
    · rw [sg_hold_eq]
      split
      · exact sk_move _ h
      · exact ⟨sk_tr (sk_pass c r j) (sk_sK c _ _ rfl rfl), sK_ri (by show (3 : Nat) ≠ 0; decide)⟩
    · split
      · rw [sg_write_eq]
        split
        · split
          · exact ⟨sk_tr (sk_tr (sk_pass c r j) (sk_la c _ _ _)) (sk_end c _ _), end_ri c _ _⟩
          · exact sk_done (j := j) (sk_tr (sk_pass c r j) ⟨fun _ _ => rfl, ⟨rfl, rfl⟩, ⟨rfl, rfl, rfl⟩, fun _ => ⟨rfl, rfl, rfl, rfl⟩, _, rfl⟩)
        · exact sk_done (j := j) (sk_tr (sk_pass c r j) ⟨fun _ _ => rfl, ⟨rfl, rfl⟩, ⟨rfl, rfl, rfl⟩, fun _ => ⟨rfl, rfl, rfl, rfl⟩, [], (List.append_nil _).symm⟩)
      · split
        · rw [sg_rise_eq]
          split
          · exact ⟨sk_tr (sk_tr (sk_tr (sk_pass c r j) (sk_new c _ _ _ _)) (sk_la c _ _ _)) (sk_end c _ _), end_ri c _ _⟩
          · exact sk_move _ h
        · exact ⟨sk_pass c r j, pass_ri h⟩
theorem iv2_step {c : Nat} {r : sg_R} (h2 : iv2 r) (h : ck_at (rm_ck r c) ≠ 0) : iv2 (sg_step r c) := by
  obtain ⟨s, k⟩ := sk_step h
  intro e he
  by_cases ec : e = c
  · rw [ec]; exact k
  · rw [s.1 e ec]
    exact h2 e he
theorem iv2_begin {r : sg_R} {c kind h : Nat} (h2 : iv2 r) : iv2 (sg_begin r c kind h) := by
  intro e he
  by_cases ec : e = c
  · rw [ec, show rm_ck (sg_begin r c kind h) c = (1, rm_to r, some (rm_nj r), ck_fa (rm_ck r c), h, none, (fun _ => none), ck_co (rm_ck r c)) from sK_at _ _ _]
    exact fun _ => rfl
  · rw [show rm_ck (sg_begin r c kind h) e = rm_ck r e from sK_ne ec]
    exact h2 e he
theorem iv2_fault {r : sg_R} {c f : Nat} (hc : c < 4) (h2 : iv2 r) : iv2 (sg_fault r c f) := by
  intro e he
  by_cases ec : e = c
  · rw [ec, show rm_ck (sg_fault r c f) c = (ck_at (rm_ck r c), ck_pl (rm_ck r c), ck_jo (rm_ck r c), f, ck_so (rm_ck r c), ck_ri (rm_ck r c), ck_pa (rm_ck r c), ck_co (rm_ck r c)) from sK_at _ _ _]
    exact h2 c hc
  · rw [show rm_ck (sg_fault r c f) e = rm_ck r e from sK_ne ec]
    exact h2 e he
theorem crown_ck (r : sg_R) : rm_ck (sg_crown r) = rm_ck r := rfl
theorem iv2_fall {r : sg_R} (h2 : iv2 r) : iv2 (sg_fall r) := by
  have q : ∀ e, e < 4 → rm_ck (sg_fall r) e = sg_rest (rm_ck r e) := fun e he => by
    have o := (open_eq (sg_lose4 r)).2.2.2.2.2.2.2.1
    rw [sg_fall_eq, ← lose4_ck r he]
    generalize sg_open (sg_lose4 r) = R at *
    split
    · rw [o]
    · rw [crown_ck, o]
  intro e he
  rw [q e he]
  unfold sg_rest
  split
  · exact h2 e he
  · exact fun _ => rfl

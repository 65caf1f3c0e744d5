/-! 97x: the call found, of the class -/
theorem two_of {B : Nat → Bool} (h : nbz B 4 = 2) : ∃ a c, a < c ∧ c < 4 ∧ (B a = true ∧ B c = true) ∧ ∀ e, e < 4 → B e = true → e = a ∨ e = c := by
  have h : 0 + (if B 0 = true then 1 else 0) + (if B 1 = true then 1 else 0) + (if B 2 = true then 1 else 0) + (if B 3 = true then 1 else 0) = 2 := h
  have key : ∀ a c, (∀ e, e < 4 → e ≠ a → e ≠ c → B e = false) → ∀ e, e < 4 → B e = true → e = a ∨ e = c := by
    intro a c hz e he q
    by_cases e1 : e = a
    · exact Or.inl e1
    · by_cases e2 : e = c
      · exact Or.inr e2
      · rw [hz e he e1 e2] at q
        cases q
  have k4 : ∀ e, e < 4 → e = 0 ∨ e = 1 ∨ e = 2 ∨ e = 3 := fun e he => by omega
  cases h0 : B 0 <;> cases h1 : B 1 <;> cases h2 : B 2 <;> cases h3 : B 3 <;> rw [h0, h1, h2, h3] at h <;> first
    | (exfalso; revert h; decide)
    | exact ⟨0, 1, by decide, by decide, ⟨h0, h1⟩, key 0 1 (fun e he n1 n2 => by rcases k4 e he with z | z | z | z <;> subst z <;> first | exact absurd rfl n1 | exact absurd rfl n2 | assumption)⟩
    | exact ⟨0, 2, by decide, by decide, ⟨h0, h2⟩, key 0 2 (fun e he n1 n2 => by rcases k4 e he with z | z | z | z <;> subst z <;> first | exact absurd rfl n1 | exact absurd rfl n2 | assumption)⟩
    | exact ⟨0, 3, by decide, by decide, ⟨h0, h3⟩, key 0 3 (fun e he n1 n2 => by rcases k4 e he with z | z | z | z <;> subst z <;> first | exact absurd rfl n1 | exact absurd rfl n2 | assumption)⟩
    | exact ⟨1, 2, by decide, by decide, ⟨h1, h2⟩, key 1 2 (fun e he n1 n2 => by rcases k4 e he with z | z | z | z <;> subst z <;> first | exact absurd rfl n1 | exact absurd rfl n2 | assumption)⟩
    | exact ⟨1, 3, by decide, by decide, ⟨h1, h3⟩, key 1 3 (fun e he n1 n2 => by rcases k4 e he with z | z | z | z <;> subst z <;> first | exact absurd rfl n1 | exact absurd rfl n2 | assumption)⟩
    | exact ⟨2, 3, by decide, by decide, ⟨h2, h3⟩, key 2 3 (fun e he n1 n2 => by rcases k4 e he with z | z | z | z <;> subst z <;> first | exact absurd rfl n1 | exact absurd rfl n2 | assumption)⟩
/-- just clerks a and c are at jobs -/
def two (r : sg_R) (a c : Nat) : Prop := a < c ∧ c < 4 ∧ (ck_at (rm_ck r a) ≠ 0 ∧ ck_at (rm_ck r c) ≠ 0) ∧ ∀ e, e < 4 → ck_at (rm_ck r e) ≠ 0 → e = a ∨ e = c
theorem two_ex {r : sg_R} (h : sg_busy r = 2) : ∃ a c, two r a c := by
  obtain ⟨a, c, h1, h2, ⟨h3, h4⟩, h5⟩ := two_of h
  exact ⟨a, c, h1, h2, ⟨of_decide_eq_true h3, of_decide_eq_true h4⟩, fun e he q => h5 e he (decide_eq_true q)⟩
theorem q8_two_p {ln : Nat → Nat} {r : sg_R} {a c : Nat} (hat : ∀ c, c < 4 → ck_at (rm_ck r c) ≤ 4) (h2 : two r a c) : ∀ (k fu i : Nat) (s : dr_S), 4 = i + k → k < fu → rp_C ln s r → s.2 807 = (if a < i then nI a else -1) → s.2 808 = (if c < i then nI c else if a < i then nI a else -1) → ∃ s', f_X8_takeTheTwo_p12 ln fu (nI i) s = some (0, s') ∧ s'.1 = s.1 ∧ (∀ f, f ≠ 807 → f ≠ 808 → s'.2 f = s.2 f) ∧ s'.2 807 = nI a ∧ s'.2 808 = nI c
  | k, 0, _, _, _, q, _, _, _ => absurd q (Nat.not_lt_zero _)
  | 0, fu + 1, i, s, hk, hf, hC, e7, e8 => by
    obtain ⟨h21, h22, ⟨h23, h24⟩, h25⟩ := h2
    rw [f_X8_takeTheTwo_p12, if_pos (show (4 : Int32) ≤ nI i from nI_le (a := 4) (by omega) (by omega))]
    rw [if_pos (by omega)] at e7 e8
    exact ⟨s, rfl, rfl, fun _ _ _ => rfl, e7, e8⟩
  | k + 1, fu + 1, i, s, hk, hf, hC, e7, e8 => by
    have h20 := h2
    obtain ⟨h21, h22, ⟨h23, h24⟩, h25⟩ := h2
    have hi : i < 4 := by omega
    rw [f_X8_takeTheTwo_p12, if_neg (show ¬ (4 : Int32) ≤ nI i from nI_ge (b := 4) (by omega) (by omega)), q11_idle hC hi (hat i hi), q_bi]
    unfold f_X8_takeTheTwo_p45 f_X8_takeTheTwo_p53
    by_cases e : ck_at (rm_ck r i) = 0
    · have n1 : i ≠ a := fun q => h23 (by rw [← q]; exact e)
      have n2 : i ≠ c := fun q => h24 (by rw [← q]; exact e)
      rw [if_pos e, if_neg (by decide), q_let, nI_1]
      refine q8_two_p hat h20 k fu (i + 1) s (by omega) (by omega) hC ?_ ?_
      · rw [e7]
        by_cases q : a < i
        · rw [if_pos q, if_pos (by omega)]
        · rw [if_neg q, if_neg (by omega)]
      · rw [e8]
        by_cases q : c < i
        · rw [if_pos q, if_pos (by omega)]
        · rw [if_neg q, if_neg (show ¬ c < i + 1 by omega)]
          by_cases q2 : a < i
          · rw [if_pos q2, if_pos (by omega)]
          · rw [if_neg q2, if_neg (by omega)]
    · rw [if_neg e, if_pos rfl]
      have Cx : ∀ x y, rp_C ln (dr_pf (dr_pf s 807 x) 808 y) r := fun x y => rC_fr hC ⟨rfl, rfl⟩ (fun f hf => by
        simp only [List.mem_cons, List.not_mem_nil, or_false] at hf
        rw [q_pfO (by omega), q_pfO (by omega)])
      rcases h25 i hi e with z | z
      · rw [e7, if_pos (show (if a < i then nI a else (-1 : Int32)) = -1 from if_neg (by omega)), q_letS, q_letS, q_let, nI_1]
        obtain ⟨s', a1, a2, a3, a4, a5⟩ := q8_two_p hat h20 k fu (i + 1) (dr_pf (dr_pf s 807 (nI i)) 808 (nI i)) (by omega) (by omega) (Cx _ _) (by rw [q_pfO (by decide), q_pf2, if_pos (by omega), z]) (by rw [q_pf2, if_neg (by omega), if_pos (by omega), z])
        exact ⟨s', a1, a2, fun f h1 h2 => by rw [a3 f h1 h2, q_pfO h2, q_pfO h1], a4, a5⟩
      · rw [e7, if_neg (show ¬ (if a < i then nI a else (-1 : Int32)) = -1 by rw [if_pos (by omega)]; exact n1_ne (by omega)), q_letS, q_letS, q_let, nI_1]
        obtain ⟨s', a1, a2, a3, a4, a5⟩ := q8_two_p hat h20 k fu (i + 1) (dr_pf (dr_pf s 807 (if a < i then nI a else -1)) 808 (nI i)) (by omega) (by omega) (Cx _ _) (by rw [q_pfO (by decide), q_pf2, if_pos (by omega), if_pos (by omega)]) (by rw [q_pf2, if_pos (by omega), z])
        exact ⟨s', a1, a2, fun f h1 h2 => by rw [a3 f h1 h2, q_pfO h2, q_pfO h1], a4, a5⟩
theorem fs_len {a c h1 h2 : Nat} : ∀ (n : Nat) (r : sg_R) (l : List (Option Nat)), fs a c h1 h2 n r = some l → l.length = n
  | 0, r, l, h => by
    rw [fs] at h
    split at h
    · cases h
      rfl
    · cases h
  | n + 1, r, l, h => by
    have key : ∀ (r' : sg_R) (o : Option Nat), (fs a c h1 h2 n r').map (fun l => o :: l) = some l → l.length = n + 1 := by
      intro r' o q
      cases hf : fs a c h1 h2 n r' with
      | none =>
        rw [hf] at q
        cases q
      | some l' =>
        rw [hf] at q
        cases q
        rw [List.length_cons, fs_len n r' l' hf]
    rw [fs] at h
    split at h
    · exact key _ _ h
    · split at h
      · rename_i l0 q
        cases h
        split at q
        · cases q
        · exact key _ _ q
      · split at h
        · cases h
        · exact key _ _ h
def fv (o : Option (List (Option Nat))) (y : Int32) : Int32 := match o with
  | none => -1
  | some l => if y = -1 then 1 else nO ((l[y.toNatClampNeg]?).getD none)
theorem y_cases {y : Int32} {N : Nat} (hN : N ≤ 8) (h1 : ¬ y < -1) (h2 : ¬ nI N ≤ y) : y = -1 ∨ ∃ q, q < N ∧ y = nI q := by
  by_cases e : y < 0
  · left
    rw [Int32.lt_iff_toInt_lt] at h1 e
    have e0 : (0 : Int32).toInt = 0 := rfl
    have e1 : (-1 : Int32).toInt = -1 := rfl
    apply Int32.toInt_inj.mp
    omega
  · right
    obtain ⟨q, hq, eq⟩ := nI_of e
    rw [eq] at h2
    refine ⟨q, ?_, eq⟩
    by_cases z : q < N
    · exact z
    · exact absurd (nI_le (by omega) hq) h2
theorem q11_found {ln : Nat → Nat} {s : dr_S} {r : sg_R} {a c h1 h2 N : Nat} {y : Int32} (h : rr ln s r) (hti : rm_ti r < 2 ^ 29) (hN : 1 ≤ N ∧ N ≤ 8) (h2c : two r a c) (hP : gw_P a c h1 h2 r) (hy1 : ¬ y < -1) (hy2 : ¬ nI N ≤ y) (hb : sg_busy r = 2) : ∃ s', f_X11_found ln (nI N) y s = some (fv (fs a c h1 h2 N r) y, s') ∧ dc_F s s' ∧ rp_C ln s' r := by
  obtain ⟨hC, hM, ⟨hiv, hi2⟩, h204, h203⟩ := h
  obtain ⟨rk, t, st, hp, hT, hcn⟩ := hiv
  have hat : ∀ c, c < 4 → ck_at (rm_ck r c) ≤ 4 := fun c hc => (st.2.2.2.1 c hc).2.1
  have l27 : ln 27 = 8 := hC.2.1.2.2.2.2.2.2
  obtain ⟨s3, a1, a2, a3, a4, a5⟩ := q8_two_p (ln := ln) hat h2c 4 dr_N 0 (dr_pf (dr_pf s 807 (-1)) 808 (-1)) (by omega) (by unfold dr_N; omega) (rC_fr hC ⟨rfl, rfl⟩ (fun f hf => by
    simp only [List.mem_cons, List.not_mem_nil, or_false] at hf
    rw [q_pfO (by omega), q_pfO (by omega)])) (by rw [q_pfO (by decide), q_pf2]; rfl) (by rw [q_pf2]; rfl)
  have a2 : s3.1 = s.1 := a2
  have a3 : ∀ f, f ≠ 807 → f ≠ 808 → s3.2 f = s.2 f := fun f x y => by rw [a3 f x y, q_pfO y, q_pfO x]
  have e3 : f_X8_takeTheTwo ln s = some (0, s3) := by
    unfold f_X8_takeTheTwo
    rw [q_letS, q_letS]
    exact a1
  have C3 : rp_C ln s3 r := rC_fr hC ⟨by rw [a2], by rw [a2]⟩ (fun f hf => by
    simp only [List.mem_cons, List.not_mem_nil, or_false] at hf
    exact a3 f (by omega) (by omega))
  obtain ⟨s4, b1, b2, b3⟩ := q8_goes (ln := ln) (a := a) (c := c) (h1 := h1) (h2 := h2) (N := N) hN.2 dr_D N (by unfold dr_D; omega) (Nat.le_refl _) s3 r 0 hP C3 a4 a5 ((a3 203 (by decide) (by decide)).trans h203) (by omega) (fun i hi => absurd hi (Nat.not_lt_zero _)) (by omega)
  have C4 := gw_C b2 C3 (iv_sz st)
  obtain ⟨f1, f2, f3, f4, f5, f6, f7⟩ := b2
  rw [Nat.sub_self] at b1 b3
  have D4 : dc_F s s4 := by
    refine ⟨fun x hx => by rw [f4 x (by omega), a2], fun f hf => by rw [f5 f (by omega) (by omega) (by omega), a3 f (by omega) (by omega)], ?_, by rw [f3, h203]; rfl⟩
    rcases f6 with q | q
    · rw [q, a3 204 (by decide) (by decide)]
    · rw [q, h204]
      rfl
  refine ⟨s4, ?_, D4, C4⟩
  unfold f_X11_found
  rw [if_neg (show ¬ nI N < 1 from nI_nlt (b := 1) hN.1 (by omega)), if_neg (show ¬ (8 : Int32) < nI N from nI_nlt (a := 8) hN.2 (by omega)), if_neg hy1, if_neg hy2, q3_atJobs hC hat, q_bi, hb, if_pos (show nI 2 = (2 : Int32) from rfl), e3, q_bv, show f_X8_goesWrong ln dr_D 0 (nI N) s3 = _ from b1, q_bi]
  cases hf : fs a c h1 h2 N r with
  | none =>
    rw [if_pos (show bI (none : Option (List (Option Nat))).isSome = (0 : Int32) from rfl)]
    rfl
  | some l =>
    rw [if_neg (show ¬ bI (some l).isSome = (0 : Int32) by show ¬ (1 : Int32) = 0; decide)]
    unfold fv
    rcases y_cases hN.2 hy1 hy2 with q | ⟨q, hq, eq⟩
    · rw [if_pos q]
      show _ = some ((if y = -1 then 1 else nO ((l[y.toNatClampNeg]?).getD none)), s4)
      rw [if_pos q]
    · have hne : ¬ y = -1 := by rw [eq]; exact n1_ne (by omega)
      rw [if_neg hne]
      show _ = some ((if y = -1 then 1 else nO ((l[y.toNatClampNeg]?).getD none)), s4)
      rw [if_neg hne]
      have hl := fs_len N r l hf
      have hk : l[q]? = some l[q] := List.getElem?_eq_getElem (by omega)
      have hv := b3 l hf q _ hk
      rw [Nat.zero_add] at hv
      unfold f_X8_kthClerk
      rw [eq, if_neg (nI_pos (by omega)), if_neg (show ¬ (8 : Int32) ≤ nI q from nI_ge (b := 8) (by omega) (by omega)), q_rd (by omega) (by omega), Option.bind_some, q_bi, nI_clamp (by omega), hv, hk]
      rfl

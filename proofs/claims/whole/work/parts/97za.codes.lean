/-! 97za: rows of steps by their codes -/
def gb (a c : Nat) : Nat → Nat → sg_R → Option (sg_R × List (Option Nat))
  | 0, _, r => some (r, [])
  | n + 1, code, r => if code.testBit n = true then (if ck_at (rm_ck r c) = 0 then none else (gb a c n code (sg_step r c)).map (fun q => (q.1, some c :: q.2)))
    else if ck_at (rm_ck r a) = 0 then (if ck_at (rm_ck r c) = 0 then (gb a c n code r).map (fun q => (q.1, none :: q.2)) else none)
    else (gb a c n code (sg_step r a)).map (fun q => (q.1, some a :: q.2))
def gP (a c h1 h2 n : Nat) (r : sg_R) (code : Nat) : Option (List (Option Nat)) := (gb a c n code r).bind (fun q => if sw q.1 h1 h2 = true then some q.2 else none)
theorem gb_cong {a c : Nat} : ∀ (n x y : Nat) (r : sg_R), (∀ i, i < n → x.testBit i = y.testBit i) → gb a c n x r = gb a c n y r
  | 0, _, _, _, _ => rfl
  | n + 1, x, y, r, h => by
    have ih := fun r' => gb_cong (a := a) (c := c) n x y r' (fun i hi => h i (by omega))
    rw [gb, gb, h n (by omega), ih, ih, ih]
theorem gP_m {a c h1 h2 n code : Nat} {r : sg_R} {o : Option Nat} : ((gb a c n code r).map (fun q => (q.1, o :: q.2))).bind (fun q => if sw q.1 h1 h2 = true then some q.2 else none) = (gP a c h1 h2 n r code).map (fun l => o :: l) := by
  unfold gP
  cases gb a c n code r with
  | none => rfl
  | some q =>
    show (if sw q.1 h1 h2 = true then some (o :: q.2) else none) = (if sw q.1 h1 h2 = true then some q.2 else none).map (fun l => o :: l)
    split <;> rfl
theorem fs_m {β γ : Type} {g : Nat → Option β} {f : β → γ} : ∀ (l : List Nat), l.findSome? (fun x => (g x).map f) = (l.findSome? g).map f
  | [] => rfl
  | x :: l => by
    rw [List.findSome?_cons, List.findSome?_cons]
    cases hx : g x with
    | none => exact fs_m l
    | some y => rfl
theorem fs_cg {β : Type} {f g : Nat → Option β} : ∀ (l : List Nat), (∀ x ∈ l, f x = g x) → l.findSome? f = l.findSome? g
  | [], _ => rfl
  | x :: l, h => by
    rw [List.findSome?_cons, List.findSome?_cons, h x List.mem_cons_self, fs_cg l (fun y hy => h y (List.mem_cons_of_mem _ hy))]
theorem fs_no {β : Type} : ∀ (l : List Nat), l.findSome? (fun _ => (none : Option β)) = none
  | [] => rfl
  | _ :: l => by
    rw [List.findSome?_cons]
    exact fs_no l
theorem code_eq {a c h1 h2 : Nat} : ∀ (n : Nat) (r : sg_R), (List.range' 0 (2 ^ n)).findSome? (gP a c h1 h2 n r) = fs a c h1 h2 n r
  | 0, r => by
    have e : gP a c h1 h2 0 r 0 = if sw r h1 h2 = true then some [] else none := rfl
    rw [show (2 : Nat) ^ 0 = 1 from rfl, List.range'_succ, List.findSome?_cons, fs, e]
    by_cases q : sw r h1 h2 = true
    · rw [if_pos q]
    · rw [if_neg q]
      rfl
  | n + 1, r => by
    have hp : 2 ^ (n + 1) = 2 ^ n + 2 ^ n := by rw [Nat.pow_succ]; omega
    have low : (List.range' 0 (2 ^ n)).findSome? (gP a c h1 h2 (n + 1) r) = (if ck_at (rm_ck r a) = 0 then (if ck_at (rm_ck r c) = 0 then (fs a c h1 h2 n r).map (fun l => none :: l) else none) else (fs a c h1 h2 n (sg_step r a)).map (fun l => some a :: l)) := by
      have e : ∀ x ∈ List.range' 0 (2 ^ n), gP a c h1 h2 (n + 1) r x = (if ck_at (rm_ck r a) = 0 then (if ck_at (rm_ck r c) = 0 then (gP a c h1 h2 n r x).map (fun l => none :: l) else none) else (gP a c h1 h2 n (sg_step r a) x).map (fun l => some a :: l)) := by
        intro x hx
        have hx := (List.mem_range'_1.mp hx).2
        have hb : x.testBit n = false := Nat.testBit_lt_two_pow (by omega)
        conv => lhs; unfold gP
        rw [gb, hb, if_neg (by decide)]
        split
        · split
          · exact gP_m
          · rfl
        · exact gP_m
      rw [fs_cg _ e]
      split
      · split
        · rw [fs_m, code_eq n r]
        · exact fs_no _
      · rw [fs_m, code_eq n (sg_step r a)]
    have high : (List.range' (2 ^ n) (2 ^ n)).findSome? (gP a c h1 h2 (n + 1) r) = (if ck_at (rm_ck r c) = 0 then none else (fs a c h1 h2 n (sg_step r c)).map (fun l => some c :: l)) := by
      have em : List.range' (2 ^ n) (2 ^ n) = (List.range' 0 (2 ^ n)).map (fun x => 2 ^ n + x) := by
        have := List.map_add_range' (a := 2 ^ n) 0 (2 ^ n) 1
        rw [Nat.add_zero] at this
        exact this.symm
      rw [em, List.findSome?_map]
      have e : ∀ x ∈ List.range' 0 (2 ^ n), (gP a c h1 h2 (n + 1) r ∘ fun x => 2 ^ n + x) x = (if ck_at (rm_ck r c) = 0 then none else (gP a c h1 h2 n (sg_step r c) x).map (fun l => some c :: l)) := by
        intro x hx
        have hx := (List.mem_range'_1.mp hx).2
        have hb : (2 ^ n + x).testBit n = true := by
          rw [Nat.testBit_two_pow_add_eq, Nat.testBit_lt_two_pow (by omega)]
          rfl
        show gP a c h1 h2 (n + 1) r (2 ^ n + x) = _
        conv => lhs; unfold gP
        rw [gb, hb, if_pos rfl]
        split
        · rfl
        · rw [gb_cong n (2 ^ n + x) x _ (fun i hi => Nat.testBit_two_pow_add_gt hi x)]
          exact gP_m
      rw [fs_cg _ e]
      split
      · exact fs_no _
      · rw [fs_m, code_eq n (sg_step r c)]
    rw [hp, ← List.range'_append_1, List.findSome?_append, Nat.zero_add, low, high, fs]
    by_cases ea : ck_at (rm_ck r a) = 0
    · by_cases ec : ck_at (rm_ck r c) = 0
      · rw [if_pos ea, if_pos ec, if_pos ec, if_pos ⟨ea, ec⟩]
        cases (fs a c h1 h2 n r).map (fun l => none :: l) <;> rfl
      · rw [if_pos ea, if_neg ec, if_neg (show ¬ (ck_at (rm_ck r a) = 0 ∧ ck_at (rm_ck r c) = 0) from fun q => ec q.2), if_pos ea]
        show Option.or none _ = _
        rw [Option.none_or]
    · rw [if_neg ea, if_neg (show ¬ (ck_at (rm_ck r a) = 0 ∧ ck_at (rm_ck r c) = 0) from fun q => ea q.1), if_neg ea]
      cases (fs a c h1 h2 n (sg_step r a)).map (fun l => some a :: l) with
      | none => rw [Option.none_or]
      | some l => rfl
theorem gb_len {a c : Nat} : ∀ (n code : Nat) (r : sg_R) (q : sg_R × List (Option Nat)), gb a c n code r = some q → q.2.length = n
  | 0, _, _, q, h => by
    cases h
    rfl
  | n + 1, code, r, q, h => by
    have key : ∀ (r' : sg_R) (o : Option Nat), (gb a c n code r').map (fun q => (q.1, o :: q.2)) = some q → q.2.length = n + 1 := by
      intro r' o z
      cases hf : gb a c n code r' with
      | none =>
        rw [hf] at z
        cases z
      | some q' =>
        rw [hf] at z
        cases z
        show (o :: q'.2).length = n + 1
        rw [List.length_cons, gb_len n code r' q' hf]
    rw [gb] at h
    split at h
    · split at h
      · cases h
      · exact key _ _ h
    · split at h
      · split at h
        · exact key _ _ h
        · cases h
      · exact key _ _ h
/-- a row of steps, of the reference -/
def gy_F (s s' : dr_S) (i : Nat) : Prop := (∀ a, (a < 28 ∨ (65 ≤ a ∧ a ≠ 74)) → s'.1 a = s.1 a) ∧ (∀ f, (f < 1200 ∨ 1255 ≤ f) → s'.2 f = s.2 f) ∧ ∀ p, p < i → s'.1 74 p = s.1 74 p
theorem gy_tr {s s1 s2 : dr_S} {i j : Nat} (h1 : gy_F s s1 i) (h2 : gy_F s1 s2 j) (hij : i ≤ j) : gy_F s s2 i := ⟨fun a h => (h2.1 a h).trans (h1.1 a h), fun a h => (h2.2.1 a h).trans (h1.2.1 a h), fun p hp => (h2.2.2 p (by omega)).trans (h1.2.2 p hp)⟩
theorem gy_rf (s : dr_S) (i : Nat) : gy_F s s i := ⟨fun _ _ => rfl, fun _ _ => rfl, fun _ _ => rfl⟩
theorem qm_goesBy_p {ln : Nat → Nat} {a c N code : Nat} (hac : a < c ∧ c < 4) (hN : N ≤ 8) (hcode : code < 512) : ∀ (n fu i : Nat) (s : dr_S) (r : sg_R), N = i + n → n < fu → rp_M ln s r → iv r → ∃ s' r', f_X12_goesBy_p3 ln fu (nI code) (nI N) (nI a) (nI c) (nI i) s = some (bI (gb a c n code r).isSome, s') ∧ rp_M ln s' r' ∧ iv r' ∧ un0 r r' ∧ rm_ti r' ≤ rm_ti r + n ∧ gy_F s s' i ∧ ∀ q, gb a c n code r = some q → r' = q.1 ∧ ∀ (k : Nat) (o : Option Nat), q.2[k]? = some o → s'.1 74 (i + k) = nO o
  | n, 0, _, _, _, _, q, _, _ => absurd q (Nat.not_lt_zero _)
  | 0, fu + 1, i, s, r, hi, hf, hM, hiv => by
    rw [f_X12_goesBy_p3, if_pos (nI_le (by omega) (by omega))]
    exact ⟨s, r, rfl, hM, hiv, un_rf r, Nat.le_refl _, gy_rf s i, fun q hq => by cases hq; exact ⟨rfl, fun k o hk => by cases hk⟩⟩
  | n + 1, fu + 1, i, s, r, hi, hf, hM, hiv => by
    have L := mM_L hM
    obtain ⟨rk, t, st, hp, hT, hcn⟩ := id hiv
    have at4 : ∀ x, x < 4 → ck_at (rm_ck r x) ≤ 4 := fun x hx => (st.2.2.2.1 x hx).2.1
    have v39 : ∀ x, x < 4 → s.1 39 x = nI (ck_at (rm_ck r x)) := fun x hx => (mM_ck hM x hx).2.1
    have ha : a < 4 := by omega
    have hc := hac.2
    have ebit : (((nI N - 1) - nI i) : Int32) = nI n := by
      rw [show N = (i + n) + 1 by omega, nI_pred, pk_sub (by omega), show i + n - i = n by omega]
    rw [f_X12_goesBy_p3, if_neg (nI_ge (by omega) (by omega)), ebit, b_sh hcode (show n < 9 by omega), gb]
    -- the row gets its number
    have M74 : ∀ v, rp_M ln (dr_put s 74 i v) r := fun v => rM_fr hM (fun x h1 h2 => q_putO (by omega)) (fun f h1 h2 => rfl)
    have F74 : ∀ v, gy_F s (dr_put s 74 i v) i := fun v => ⟨fun x hx => q_putO (by omega), fun f _ => rfl, fun p hp => by rw [q_put1, q_updO (by omega)]⟩
    -- a step of x, and the rest
    have one : ∀ x, x < 4 → ck_at (rm_ck r x) ≠ 0 → ∃ s' r', f_X12_goesBy_p73 ln (f_X12_goesBy_p3 ln fu) (nI code) (nI N) (nI a) (nI c) (nI i) (nI x) s = some (bI ((gb a c n code (sg_step r x)).map (fun q => (q.1, some x :: q.2))).isSome, s') ∧ rp_M ln s' r' ∧ iv r' ∧ un0 r r' ∧ rm_ti r' ≤ rm_ti r + (n + 1) ∧ gy_F s s' i ∧ ∀ q, (gb a c n code (sg_step r x)).map (fun q => (q.1, some x :: q.2)) = some q → r' = q.1 ∧ ∀ (k : Nat) (o : Option Nat), q.2[k]? = some o → s'.1 74 (i + k) = nO o := by
      intro x hx hat
      unfold f_X12_goesBy_p73 f_X12_goesBy_p95
      rw [m_rdb L 39 4 rfl (by decide) (by decide) hx, v39 x hx, at_ite (at4 x hx), if_neg hat, m_wrb L 74 8 rfl (by decide) (by decide) (by omega), m_rdb L 39 4 rfl (by decide) (by decide) hx, show (dr_put s 74 i (nI x)).1 39 x = _ from v39 x hx, at_ite (at4 x hx), if_neg hat]
      obtain ⟨s2, o1, o2, o3⟩ := qm_one (M74 (nI x)) (iv_one hiv hx hat)
      unfold f_X12_goesBy_p112
      rw [o1, q_bv, q_let, nI_1]
      have F2 : gy_F s s2 i := gy_tr (F74 (nI x)) ⟨fun y hy => by rcases hy with hy | hy; exact o2.1 y hy; exact o2.2.2.1 y hy.1, fun f hf => by rcases hf with hf | hf; exact o2.2.1 f hf; exact o2.2.2.2 f hf, fun p _ => by rw [o2.2.2.1 74 (by decide)]⟩ (Nat.le_refl _)
      have v74 : s2.1 74 i = nI x := by rw [o2.2.2.1 74 (by decide), q_put1, q_updS]
      obtain ⟨s', r', b1, b2, b3, b4, b5, b6, b7⟩ := qm_goesBy_p hac hN hcode n fu (i + 1) s2 (sg_step r x) (by omega) (by omega) o3 (iv_step hiv hx hat)
      refine ⟨s', r', by rw [b1, Option.isSome_map], b2, b3, un_tr (un_step hat) b4, by rw [ti_step] at b5; omega, gy_tr F2 b6 (by omega), fun q hq => ?_⟩
      cases hg : gb a c n code (sg_step r x) with
      | none =>
        rw [hg] at hq
        cases hq
      | some q' =>
        rw [hg] at hq
        cases hq
        obtain ⟨d1, d2⟩ := b7 q' hg
        refine ⟨d1, fun k o hk => ?_⟩
        cases k with
        | zero =>
          cases hk
          rw [Nat.add_zero, b6.2.2 i (by omega), v74]
          rfl
        | succ k =>
          rw [show i + (k + 1) = i + 1 + k by omega]
          exact d2 k o hk
    cases hb : code.testBit n with
    | true =>
      rw [if_neg (by decide), if_pos rfl]
      unfold f_X12_goesBy_p28
      rw [if_neg (show ¬ nI c = nI a from nI_lit (by omega) (by omega) (by omega))]
      unfold f_X12_goesBy_p42
      rw [m_rdb L 39 4 rfl (by decide) (by decide) hc, v39 c hc, at_ite (at4 c hc)]
      by_cases ec : ck_at (rm_ck r c) = 0
      · rw [if_pos ec, if_pos ec, m_rdb L 39 4 rfl (by decide) (by decide) ha, v39 a ha, at_ite (at4 a ha), if_pos rfl]
        refine ⟨s, r, by split <;> rfl, hM, hiv, un_rf r, by omega, gy_rf s i, fun q hq => by cases hq⟩
      · rw [if_neg ec, if_neg ec]
        exact one c hc ec
    | false =>
      rw [if_pos (by decide), if_neg (by decide)]
      unfold f_X12_goesBy_p28
      rw [if_pos rfl]
      unfold f_X12_goesBy_p42
      rw [m_rdb L 39 4 rfl (by decide) (by decide) ha, v39 a ha, at_ite (at4 a ha)]
      by_cases ea : ck_at (rm_ck r a) = 0
      · rw [if_pos ea, if_pos ea, m_rdb L 39 4 rfl (by decide) (by decide) hc, v39 c hc, at_ite (at4 c hc)]
        by_cases ec : ck_at (rm_ck r c) = 0
        · rw [if_pos ec, if_pos ec, if_neg (show ¬ nI a = nI c from nI_lit (by omega) (by omega) (by omega))]
          unfold f_X12_goesBy_p73 f_X12_goesBy_p95 f_X12_goesBy_p112
          rw [m_rdb L 39 4 rfl (by decide) (by decide) ha, v39 a ha, at_ite (at4 a ha), if_pos ea, m_wrb L 74 8 rfl (by decide) (by decide) (by omega), m_rdb L 39 4 rfl (by decide) (by decide) ha, show (dr_put s 74 i (-1)).1 39 a = _ from v39 a ha, at_ite (at4 a ha), if_pos ea, q_let, nI_1]
          obtain ⟨s', r', b1, b2, b3, b4, b5, b6, b7⟩ := qm_goesBy_p hac hN hcode n fu (i + 1) (dr_put s 74 i (-1)) r (by omega) (by omega) (M74 (-1)) hiv
          refine ⟨s', r', by rw [b1, Option.isSome_map], b2, b3, b4, by omega, gy_tr (F74 (-1)) b6 (by omega), fun q hq => ?_⟩
          cases hg : gb a c n code r with
          | none =>
            rw [hg] at hq
            cases hq
          | some q' =>
            rw [hg] at hq
            cases hq
            obtain ⟨d1, d2⟩ := b7 q' hg
            refine ⟨d1, fun k o hk => ?_⟩
            cases k with
            | zero =>
              cases hk
              rw [Nat.add_zero, b6.2.2 i (by omega), q_put1, q_updS]
              rfl
            | succ k =>
              rw [show i + (k + 1) = i + 1 + k by omega]
              exact d2 k o hk
        · rw [if_neg ec, if_neg ec]
          exact ⟨s, r, rfl, hM, hiv, un_rf r, by omega, gy_rf s i, fun q hq => by cases hq⟩
      · rw [if_neg ea, if_neg ea]
        exact one a ha ea

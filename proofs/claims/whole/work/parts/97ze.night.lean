/-! 97ze: a night, as mathematics -/
/-- how many rows of g hold n (one at least) -/
def n_nl (n g : Nat) : Nat := if n = 0 then 1 else (n + g - 1) / g
theorem nl_p {n g : Nat} (hg : 1 ≤ g) : 1 ≤ n_nl n g ∧ n ≤ n_nl n g * g ∧ (n_nl n g = 1 ∨ (n_nl n g - 1) * g < n) := by
  unfold n_nl
  by_cases e : n = 0
  · rw [if_pos e]
    exact ⟨Nat.le_refl _, by omega, Or.inl rfl⟩
  · rw [if_neg e]
    have h1 := Nat.div_add_mod (n + g - 1) g
    have h2 := Nat.mod_lt (n + g - 1) hg
    have h3 : 1 ≤ (n + g - 1) / g := Nat.div_pos (by omega) hg
    generalize (n + g - 1) / g = q at *
    rw [Nat.mul_comm] at h1
    refine ⟨h3, by omega, Or.inr ?_⟩
    rw [Nat.sub_mul, Nat.one_mul]
    have : 1 * g ≤ q * g := Nat.mul_le_mul_right g h3
    omega
theorem nl_i {n g i : Nat} (hg : 1 ≤ g) (h : i + 1 < n_nl n g) : (i + 1) * g < n := by
  obtain ⟨h1, h2, h3⟩ := nl_p (n := n) hg
  have : (i + 1) * g ≤ (n_nl n g - 1) * g := Nat.mul_le_mul_right g (by omega)
  omega
theorem nl_e {n g i : Nat} (hg : 1 ≤ g) (h : ¬ i + 1 < n_nl n g) : n ≤ (i + 1) * g := by
  obtain ⟨h1, h2, h3⟩ := nl_p (n := n) hg
  have : n_nl n g * g ≤ (i + 1) * g := Nat.mul_le_mul_right g (by omega)
  omega
theorem nl_0 {n g i : Nat} (hg : 1 ≤ g) (h : i < n_nl n g) : i = 0 ∨ i * g < n := by
  cases i with
  | zero => exact Or.inl rfl
  | succ i => exact Or.inr (nl_i hg h)
theorem nl_b {n g c : Nat} (hc : c ≤ g) (hg : 1 ≤ g) : n_nl n g = 1 ∨ c * (n_nl n g - 1) < n := by
  obtain ⟨h1, h2, h3⟩ := nl_p (n := n) hg
  rcases h3 with q | q
  · exact Or.inl q
  · right
    have : (n_nl n g - 1) * c ≤ (n_nl n g - 1) * g := Nat.mul_le_mul_left _ hc
    rw [Nat.mul_comm]
    omega
def bd (to d : Nat) (y : sg_D) : sg_D := (dv_lev y, dv_hs y, dv_cs y, if d + 1 < to then dv_hi y else none, if d + 1 < to then some (d + 1) else none, none)
def yl (H : List Nat) (f i : Nat) : sg_D := (0, (H.drop (i * f)).take f, [], ((H.drop (i * f)).take f).getLast?, none, none)
def yw (f fr to i : Nat) : Nat := min (f + 1) (to - (fr + i * (f + 1)))
def yg (D : Nat → sg_D) (lev f fr to i : Nat) : sg_D := (lev, (List.range' (fr + i * (f + 1)) (yw f fr to i - 1)).map (fun c => (dv_hi (D c)).getD 0), List.range' (fr + i * (f + 1)) (yw f fr to i), dv_hi (D (fr + i * (f + 1) + yw f fr to i - 1)), none, none)
def n_up (D : Nat → sg_D) (lev f fr to : Nat) : Nat → sg_D := fun d => if d < to then D d else bd (to + n_nl (to - fr) (f + 1)) d (yg D lev f fr to (d - to))
def n_lv (f : Nat) : Nat → Nat → Nat → Nat → (Nat → sg_D) → Nat × Nat × (Nat → sg_D)
  | 0, _, fr, to, D => (fr, to, D)
  | n + 1, lev, fr, to, D => if to - fr ≤ 1 then (fr, to, D) else n_lv f n (lev + 1) to (to + n_nl (to - fr) (f + 1)) (n_up D lev f fr to)
def n_D0 (H : List Nat) (f : Nat) : Nat → sg_D := fun d => bd (n_nl H.length f) d (yl H f d)
def nR (r : sg_R) (fr to : Nat) (D : Nat → sg_D) : sg_R := (r.1, (to, fr, D), r.2.2)
def n_all (r : sg_R) (f : Nat) : Nat × Nat × (Nat → sg_D) := n_lv f 4 1 0 (n_nl (s_srt r).length f) (n_D0 (s_srt r) f)
def sg_night (r : sg_R) (f : Nat) : sg_R := nR r (n_all r f).1 (n_all r f).2.1 (n_all r f).2.2
def bw : Nat → Nat × Nat
  | 0 => (60, 60)
  | 1 => (20, 80)
  | 2 => (7, 87)
  | 3 => (3, 90)
  | _ => (1, 91)
def nv (r : sg_R) (lev fr to : Nat) (D : Nat → sg_D) : Prop :=
  fr < to ∧ lev ≤ 4 ∧ (to - fr ≤ (bw lev).1 ∧ to ≤ (bw lev).2) ∧ (∀ d, d < to → iv_x (nR r fr to D) (fun d => d) d (D d) ∧ dv_la (D d) = none ∧ dv_lev (D d) ≤ lev ∧ (fr ≤ d ↔ dv_lev (D d) = lev)) ∧ (∀ d, fr ≤ d → d < to → (dv_hi (D d) = none ↔ ¬ d + 1 < to)) ∧ (∀ L, 1 ≤ L → L ≤ lev → cntN (fun d => dv_lev (D d)) L to + 1 ≤ cntN (fun d => dv_lev (D d)) (L - 1) to) ∧ cntN (fun d => dv_lev (D d)) lev to = to - fr
theorem cnt_ext {f f' : Nat → Nat} {L v n : Nat} (h1 : ∀ d, d < n → f' d = f d) : ∀ m, (∀ d, n ≤ d → d < n + m → f' d = v) → cntN f' L (n + m) = cntN f L n + (if L = v then m else 0)
  | 0, _ => by
    rw [Nat.add_zero, cntN_same h1]
    split <;> omega
  | m + 1, h => by
    have ih := cnt_ext (L := L) h1 m (fun d a b => h d a (by omega))
    rw [← Nat.add_assoc, cntN, ih, h (n + m) (by omega) (by omega)]
    by_cases e : L = v
    · rw [if_pos e, if_pos e.symm, if_pos e]
      omega
    · rw [if_neg e, if_neg (fun q => e q.symm), if_neg e]
theorem last_mem {l : List Nat} {g : Nat} (h : l.getLast? = some g) : g ∈ l := List.mem_of_getLast? h
theorem nv_leaves {r : sg_R} {H : List Nat} {f : Nat} (hb : 2 ≤ rm_b r) (hf1 : rm_b r ≤ f) (hf2 : f ≤ 2 * rm_b r) (hH : s_ok r H) (hn : H.length ≤ 120) : nv r 0 0 (n_nl H.length f) (n_D0 H f) := by
  have hg : 1 ≤ f := by omega
  obtain ⟨p1, p2, p3⟩ := nl_p (n := H.length) hg
  have hb2 := nl_b (n := H.length) (g := f) (c := 2) (by omega) hg
  have bnd : n_nl H.length f ≤ 60 := by omega
  have lv : ∀ d, dv_lev (n_D0 H f d) = 0 := fun d => rfl
  have mem : ∀ d, ∀ h ∈ dv_hs (n_D0 H f d), h ∈ H := fun d h hh => by
    have hh : h ∈ (H.drop (d * f)).take f := hh
    exact List.mem_of_mem_drop (List.mem_of_mem_take hh)
  have hi : ∀ d, d < n_nl H.length f → (dv_hi (n_D0 H f d) = none ↔ ¬ d + 1 < n_nl H.length f) := by
    intro d hd
    have e : dv_hi (n_D0 H f d) = if d + 1 < n_nl H.length f then ((H.drop (d * f)).take f).getLast? else none := rfl
    rw [e]
    by_cases q : d + 1 < n_nl H.length f
    · rw [if_pos q]
      have := nl_i hg q
      rw [Nat.add_mul, Nat.one_mul] at this
      refine ⟨fun z => ?_, fun z => absurd q z⟩
      rw [List.getLast?_eq_none_iff] at z
      have hl : ((H.drop (d * f)).take f).length = 0 := by rw [z]; rfl
      rw [List.length_take, List.length_drop] at hl
      omega
    · rw [if_neg q]
      exact ⟨fun _ => q, fun _ => rfl⟩
  have th : ∀ d, dv_th (n_D0 H f d) = if d + 1 < n_nl H.length f then some (d + 1) else none := fun d => rfl
  refine ⟨by omega, by omega, ⟨by show n_nl H.length f - 0 ≤ 60; omega, bnd⟩, fun d hd => ⟨⟨rfl, ?_, fun h hh => (hH.2 h (mem d h hh)).1, fun g hg2 => ?_, ?_, fun t ht => ?_, fun q => absurd q (by rw [lv]; omega), fun _ => ⟨rfl, fun h hh => (hH.2 h (mem d h hh)).2⟩⟩, rfl, Nat.le_refl _, fun _ => rfl, fun _ => Nat.zero_le _⟩, fun d _ hd => hi d hd, fun L h1 h2 => absurd h1 (by omega), ?_⟩
  · show ((H.drop (d * f)).take f).length ≤ 2 * rm_b r
    rw [List.length_take]
    omega
  · have e : dv_hi (n_D0 H f d) = if d + 1 < n_nl H.length f then ((H.drop (d * f)).take f).getLast? else none := rfl
    rw [e] at hg2
    split at hg2
    · exact (hH.2 g (mem d g (last_mem hg2))).1
    · cases hg2
  · rw [hi d hd, th d]
    by_cases q : d + 1 < n_nl H.length f
    · rw [if_pos q]
      exact ⟨fun z => absurd q z, fun z => by cases z⟩
    · rw [if_neg q]
      exact ⟨fun _ => rfl, fun _ => q⟩
  · rw [th d] at ht
    split at ht
    · rename_i q
      cases ht
      exact ⟨q, rfl, Nat.lt_succ_self _⟩
    · cases ht
  · have := cnt_ext (f := fun _ => 0) (f' := fun d => dv_lev (n_D0 H f d)) (L := 0) (v := 0) (n := 0) (fun d hd => absurd hd (Nat.not_lt_zero _)) (n_nl H.length f) (fun d _ _ => rfl)
    rw [Nat.zero_add, if_pos rfl] at this
    rw [this]
    show 0 + n_nl H.length f = n_nl H.length f - 0
    omega
/-- widths -/
theorem yw_ok {f fr to i : Nat} (hw : fr < to) (h : i < n_nl (to - fr) (f + 1)) : 1 ≤ yw f fr to i ∧ fr + i * (f + 1) + yw f fr to i ≤ to ∧ yw f fr to i ≤ f + 1 ∧ (i + 1 < n_nl (to - fr) (f + 1) ↔ fr + i * (f + 1) + yw f fr to i < to) ∧ (fr + i * (f + 1) + yw f fr to i < to → yw f fr to i = f + 1) := by
  have h0 := nl_0 (n := to - fr) (g := f + 1) (by omega) h
  have hk : fr + i * (f + 1) < to := by
    rcases h0 with q | q
    · rw [q, Nat.zero_mul]; omega
    · omega
  have h1 := fun q => nl_i (n := to - fr) (g := f + 1) (i := i) (by omega) q
  have h2 := fun q => nl_e (n := to - fr) (g := f + 1) (i := i) (by omega) q
  rw [Nat.add_mul i 1 (f + 1), Nat.one_mul] at h1 h2
  unfold yw
  generalize i * (f + 1) = P at *
  refine ⟨by omega, by omega, by omega, ⟨fun q => ?_, fun q => ?_⟩, fun q => by omega⟩
  · have := h1 q
    omega
  · by_cases z : i + 1 < n_nl (to - fr) (f + 1)
    · exact z
    · have := h2 z
      omega
theorem nv_up {r : sg_R} {f lev fr to : Nat} {D : Nat → sg_D} (hb : 2 ≤ rm_b r) (hf1 : rm_b r ≤ f) (hf2 : f ≤ 2 * rm_b r) (h : nv r lev fr to D) (hw : ¬ to - fr ≤ 1) : lev < 4 ∧ nv r (lev + 1) to (to + n_nl (to - fr) (f + 1)) (n_up D (lev + 1) f fr to) := by
  obtain ⟨h1, h2, ⟨h3, h3b⟩, h4, h5, h6, h7⟩ := h
  have hlev : lev < 4 := by
    rcases Nat.lt_or_ge lev 4 with q | q
    · exact q
    · have : lev = 4 := by omega
      rw [this] at h3
      have : to - fr ≤ 1 := h3
      omega
  have hng := nl_p (n := to - fr) (g := f + 1) (by omega)
  have hn3 := nl_b (n := to - fr) (g := f + 1) (c := 3) (by omega) (by omega)
  have hY := fun i => yw_ok (f := f) (fr := fr) (to := to) (i := i) h1
  generalize hng0 : n_nl (to - fr) (f + 1) = ng at *
  have Dlo : ∀ d, d < to → n_up D (lev + 1) f fr to d = D d := fun d hd => if_pos hd
  have Dhi : ∀ d, to ≤ d → n_up D (lev + 1) f fr to d = bd (to + ng) d (yg D (lev + 1) f fr to (d - to)) := fun d hd => by
    rw [← hng0]
    exact if_neg (by omega)
  have lvhi : ∀ d, to ≤ d → dv_lev (n_up D (lev + 1) f fr to d) = lev + 1 := fun d hd => by rw [Dhi d hd]; rfl
  have gr : iv_gr (nR r fr to D) (fun d => d) (nR r to (to + ng) (n_up D (lev + 1) f fr to)) (fun d => d) := ⟨rfl, by show to ≤ to + ng; omega, fun d hd => by show dv_lev (n_up D (lev + 1) f fr to d) = dv_lev (D d); rw [Dlo d hd], Nat.le_refl _, fun j _ => ⟨rfl, rfl⟩, fun d e _ _ q => q⟩
  have hiN : ∀ d, to ≤ d → d < to + ng → (dv_hi (n_up D (lev + 1) f fr to d) = none ↔ ¬ d + 1 < to + ng) := by
    intro d hd1 hd2
    obtain ⟨y1, y2, y3, y4, y5⟩ := hY (d - to) (by omega)
    rw [Dhi d hd1]
    show (if d + 1 < to + ng then dv_hi (D (fr + (d - to) * (f + 1) + yw f fr to (d - to) - 1)) else none) = none ↔ _
    by_cases q : d + 1 < to + ng
    · rw [if_pos q]
      have q2 := y4.mp (by omega)
      generalize (d - to) * (f + 1) = P at *
      rw [h5 (fr + P + yw f fr to (d - to) - 1) (by omega) (by omega)]
      exact ⟨fun z => absurd (show fr + P + yw f fr to (d - to) - 1 + 1 < to by omega) z, fun z => absurd q z⟩
    · rw [if_neg q]
      exact ⟨fun _ => q, fun _ => rfl⟩
  have cn : ∀ L, cntN (fun d => dv_lev (n_up D (lev + 1) f fr to d)) L (to + ng) = cntN (fun d => dv_lev (D d)) L to + (if L = lev + 1 then ng else 0) := fun L => cnt_ext (fun d hd => by show dv_lev (n_up D (lev + 1) f fr to d) = dv_lev (D d); rw [Dlo d hd]) ng (fun d a b => lvhi d a)
  have cn0 : cntN (fun d => dv_lev (D d)) (lev + 1) to = 0 := cntN_none (fun d hd => by have := (h4 d hd).2.2.1; show dv_lev (D d) ≠ lev + 1; omega)
  refine ⟨hlev, by omega, by omega, ?_, fun d hd => ?_, hiN, fun L a b => ?_, ?_⟩
  · have hl : lev = 0 ∨ lev = 1 ∨ lev = 2 ∨ lev = 3 := by omega
    rcases hl with z | z | z | z <;> subst z
    · have h3 : to - fr ≤ 60 := h3
      have h3b : to ≤ 60 := h3b
      show to + ng - to ≤ 20 ∧ to + ng ≤ 80
      omega
    · have h3 : to - fr ≤ 20 := h3
      have h3b : to ≤ 80 := h3b
      show to + ng - to ≤ 7 ∧ to + ng ≤ 87
      omega
    · have h3 : to - fr ≤ 7 := h3
      have h3b : to ≤ 87 := h3b
      show to + ng - to ≤ 3 ∧ to + ng ≤ 90
      omega
    · have h3 : to - fr ≤ 3 := h3
      have h3b : to ≤ 90 := h3b
      show to + ng - to ≤ 1 ∧ to + ng ≤ 91
      omega
  · by_cases q : d < to
    · obtain ⟨x1, x2, x3, x4⟩ := h4 d q
      rw [Dlo d q]
      exact ⟨iv_x_mono gr q x1 ⟨rfl, rfl, rfl, rfl, rfl⟩, x2, by omega, fun z => by omega, fun z => by omega⟩
    · have hq : to ≤ d := by omega
      obtain ⟨y1, y2, y3, y4, y5⟩ := hY (d - to) (by omega)
      have hin := hiN d hq hd
      have lvk : ∀ k ∈ List.range' (fr + (d - to) * (f + 1)) (yw f fr to (d - to)), k < to ∧ fr ≤ k := by
        intro k hk
        have := List.mem_range'_1.mp hk
        generalize (d - to) * (f + 1) = P at *
        omega
      refine ⟨⟨rfl, ?_, fun h hh => ?_, fun g hg => ?_, ?_, fun t ht => ?_, fun _ => ⟨?_, fun k hk => ?_⟩, fun z => ?_⟩, by rw [Dhi d hq]; rfl, by rw [lvhi d hq]; omega, fun _ => lvhi d hq, fun _ => hq⟩
      · rw [Dhi d hq]
        show ((List.range' (fr + (d - to) * (f + 1)) (yw f fr to (d - to) - 1)).map (fun c => (dv_hi (D c)).getD 0)).length ≤ 2 * rm_b r
        rw [List.length_map, List.length_range']
        omega
      · rw [Dhi d hq] at hh
        have hh : h ∈ (List.range' (fr + (d - to) * (f + 1)) (yw f fr to (d - to) - 1)).map (fun c => (dv_hi (D c)).getD 0) := hh
        obtain ⟨c, hc, e⟩ := List.mem_map.mp hh
        have hc := List.mem_range'_1.mp hc
        have hct : c < to := by
          generalize (d - to) * (f + 1) = P at *
          omega
        rw [← e]
        cases hz : dv_hi (D c) with
        | none => show 0 < 10000; omega
        | some g => exact (h4 c hct).1.2.2.2.1 g hz
      · rw [Dhi d hq] at hg
        have hg : (if d + 1 < to + ng then dv_hi (D (fr + (d - to) * (f + 1) + yw f fr to (d - to) - 1)) else none) = some g := hg
        split at hg
        · refine (h4 _ ?_).1.2.2.2.1 g hg
          generalize (d - to) * (f + 1) = P at *
          omega
        · cases hg
      · rw [hin, Dhi d hq]
        show _ ↔ (if d + 1 < to + ng then some (d + 1) else none) = none
        by_cases z : d + 1 < to + ng
        · rw [if_pos z]
          exact ⟨fun w => absurd z w, fun w => by cases w⟩
        · rw [if_neg z]
          exact ⟨fun _ => rfl, fun _ => z⟩
      · rw [Dhi d hq] at ht
        have ht : (if d + 1 < to + ng then some (d + 1) else none) = some t := ht
        split at ht
        · rename_i z
          cases ht
          refine ⟨z, ?_, Nat.lt_succ_self _⟩
          show dv_lev (n_up D (lev + 1) f fr to (d + 1)) = _
          rw [lvhi _ (by omega), lvhi d hq]
        · cases ht
      · rw [Dhi d hq]
        show (List.range' (fr + (d - to) * (f + 1)) (yw f fr to (d - to))).length = ((List.range' (fr + (d - to) * (f + 1)) (yw f fr to (d - to) - 1)).map (fun c => (dv_hi (D c)).getD 0)).length + 1
        rw [List.length_map, List.length_range', List.length_range']
        omega
      · rw [Dhi d hq] at hk
        obtain ⟨k1, k2⟩ := lvk k hk
        refine ⟨by show k < to + ng; omega, ?_⟩
        show dv_lev (n_up D (lev + 1) f fr to k) + 1 = _
        rw [Dlo k k1, lvhi d hq, (h4 k k1).2.2.2.mp k2]
      · rw [lvhi d hq] at z
        omega
  · rw [cn L, cn (L - 1)]
    by_cases e : L = lev + 1
    · rw [if_pos e, if_neg (by omega), e, cn0, show lev + 1 - 1 = lev by omega, h7]
      omega
    · rw [if_neg e, if_neg (by omega)]
      have := h6 L a (by omega)
      omega
  · rw [cn, if_pos rfl, cn0]
    omega
theorem nv_all {r : sg_R} {f : Nat} (hb : 2 ≤ rm_b r) (hf1 : rm_b r ≤ f) (hf2 : f ≤ 2 * rm_b r) : ∀ (n lev fr to : Nat) (D : Nat → sg_D), nv r lev fr to D → lev + n = 4 → ∃ lev', nv r lev' (n_lv f n (lev + 1) fr to D).1 (n_lv f n (lev + 1) fr to D).2.1 (n_lv f n (lev + 1) fr to D).2.2 ∧ (n_lv f n (lev + 1) fr to D).2.1 - (n_lv f n (lev + 1) fr to D).1 ≤ 1
  | 0, lev, fr, to, D, h, hl => by
    have e : lev = 4 := by omega
    refine ⟨lev, h, ?_⟩
    have := h.2.2.1.1
    rw [e] at this
    exact this
  | n + 1, lev, fr, to, D, h, hl => by
    rw [n_lv]
    by_cases q : to - fr ≤ 1
    · rw [if_pos q]
      exact ⟨lev, h, q⟩
    · rw [if_neg q]
      exact nv_all hb hf1 hf2 n (lev + 1) _ _ _ (nv_up hb hf1 hf2 h q).2 (by omega)
theorem iv_night {r : sg_R} {f : Nat} (hiv : iv r) (hf1 : rm_b r ≤ f) (hf2 : f ≤ 2 * rm_b r) (hidle : ∀ c, c < 4 → ck_at (rm_ck r c) = 0) : iv (sg_night r f) ∧ (n_all r f).2.1 ≤ 91 := by
  obtain ⟨rk, t, st, hp, hT, hcn⟩ := hiv
  have hH := (srt_ok st hcn).1
  have hb := st.1.1
  have hnj := st.1.2.2.1
  obtain ⟨lev, hv, hw1⟩ := nv_all (f := f) hb.1 hf1 hf2 4 0 0 _ _ (nv_leaves hb.1 hf1 hf2 hH (by have := s_len hH; omega)) (by omega)
  have hv : nv r lev (n_all r f).1 (n_all r f).2.1 (n_all r f).2.2 := hv
  have hw1 : (n_all r f).2.1 - (n_all r f).1 ≤ 1 := hw1
  unfold sg_night
  generalize n_all r f = q at *
  obtain ⟨fr, to, D⟩ := q
  have hv : nv r lev fr to D := hv
  obtain ⟨h1, h2, ⟨h3, h3b⟩, h4, h5, h6, h7⟩ := hv
  have h1 : fr < to := h1
  have hw1 : to - fr ≤ 1 := hw1
  have hb91 : to ≤ 91 := by
    have hl : lev = 0 ∨ lev = 1 ∨ lev = 2 ∨ lev = 3 ∨ lev = 4 := by omega
    rcases hl with z | z | z | z | z <;> subst z
    · have : to ≤ 60 := h3b
      omega
    · have : to ≤ 80 := h3b
      omega
    · have : to ≤ 87 := h3b
      omega
    · have : to ≤ 90 := h3b
      omega
    · exact h3b
  have eT : dv_lev (D fr) = lev := (h4 fr h1).2.2.2.mp (Nat.le_refl _)
  refine ⟨⟨fun d => d, lev, ⟨⟨hb, by show to ≤ 256; omega, hnj, st.1.2.2.2⟩, ⟨h1, fun d hd => ?_⟩, fun d hd => ⟨(h4 d hd).1, fun e he => ?_⟩, fun c hc => ?_, fun c e hc he hne hat => absurd (hidle c hc) hat, st.2.2.2.2.2.1, st.2.2.2.2.2.2⟩, ?_, ?_, ?_⟩, hb91⟩
  · show dv_lev (D d) ≤ dv_lev (D fr)
    rw [eT]
    exact (h4 d hd).2.2.1
  · have he : dv_la (D d) = some e := he
    rw [(h4 d hd).2.1] at he
    cases he
  · obtain ⟨k1, k2, k3, k4⟩ := st.2.2.2.1 c hc
    exact ⟨k1, k2, k3, fun q => absurd (hidle c hc) q⟩
  · have : psum (pt (nR r fr to D)) = 0 := psum_0 (fun c hc => pt_0 (hidle c hc))
    rw [this]
    show to + 0 ≤ 256
    omega
  · intro q
    exfalso
    rcases q with q | ⟨c, hc, q, _⟩
    · apply q
      show dv_th (D fr) = none
      have hx := (h4 fr h1).1.2.2.2.2.1
      exact hx.mp ((h5 fr (Nat.le_refl _) h1).mpr (by omega))
    · have := hidle c hc
      have q : ck_at (rm_ck r c) = 3 := q
      omega
  · have hpd : ∀ L, psum (pd (nR r fr to D) L) = 0 := fun L => psum_0 (fun c hc => pd_0 (Or.inl (hidle c hc)))
    show cnv lev (dv_lev (D fr)) (cnt (nR r fr to D)) (fun L => psum (pd (nR r fr to D) L)) (mh (nR r fr to D))
    rw [eT]
    have ecn : ∀ L, cnt (nR r fr to D) L = cntN (fun d => dv_lev (D d)) L to := fun L => rfl
    refine ⟨h2, Nat.le_refl _, by omega, fun L a b => ?_, fun L a b => by omega, fun L m a hm => ?_, ?_⟩
    · show cnt (nR r fr to D) L + 1 + psum (pd (nR r fr to D) L) ≤ cnt (nR r fr to D) (L - 1)
      rw [ecn, ecn, hpd]
      have := h6 L a b
      omega
    · exfalso
      rcases hm with ⟨d, d1, d2, _⟩ | ⟨c, hc, q, _⟩
      · have := (h4 d d1).2.2.1
        have d2 : dv_lev (D d) = L := d2
        omega
      · have := hidle c hc
        have q : ck_at (rm_ck r c) = 3 := q
        omega
    · show 1 + psum (pd (nR r fr to D) (lev + 1)) ≤ cnt (nR r fr to D) lev
      rw [hpd, ecn, h7]
      omega

/-! 75: how many drawers there are of each level -/
def cntN (f : Nat → Nat) (L : Nat) : Nat → Nat
  | 0 => 0
  | n + 1 => cntN f L n + (if f n = L then 1 else 0)
def cntS (f : Nat → Nat) : Nat → Nat → Nat
  | 0, _ => 0
  | k + 1, n => cntS f k n + cntN f k n
theorem cntN_same {f f' : Nat → Nat} {L : Nat} : ∀ {n : Nat}, (∀ d, d < n → f' d = f d) → cntN f' L n = cntN f L n
  | 0, _ => rfl
  | n + 1, h => by
    rw [cntN, cntN, cntN_same (fun d hd => h d (by omega)), h n (by omega)]
theorem cntS_0 {f : Nat → Nat} : ∀ k, cntS f k 0 = 0
  | 0 => rfl
  | k + 1 => by rw [cntS, cntS_0 k]; rfl
theorem cntS_s {f : Nat → Nat} {n : Nat} : ∀ k, cntS f k (n + 1) = cntS f k n + (if f n < k then 1 else 0)
  | 0 => by
    rw [cntS, cntS, if_neg (by omega)]
  | k + 1 => by
    rw [cntS, cntS, cntS_s k, cntN]
    by_cases h1 : f n < k
    · rw [if_pos h1, if_neg (by omega), if_pos (by omega)]
      omega
    · rw [if_neg h1]
      by_cases h2 : f n = k
      · rw [if_pos h2, if_pos (by omega)]
        omega
      · rw [if_neg h2, if_neg (by omega)]
        omega
theorem cntS_le {f : Nat → Nat} (k : Nat) : ∀ n, cntS f k n ≤ n
  | 0 => by rw [cntS_0]; exact Nat.le_refl _
  | n + 1 => by
    rw [cntS_s]
    have := cntS_le (f := f) k n
    split <;> omega
theorem cntN_pos {f : Nat → Nat} {L : Nat} : ∀ {n d : Nat}, d < n → f d = L → 1 ≤ cntN f L n
  | 0, d, h, _ => absurd h (Nat.not_lt_zero _)
  | n + 1, d, h, e => by
    rw [cntN]
    by_cases q : d = n
    · rw [q] at e
      rw [if_pos e]
      omega
    · have := cntN_pos (n := n) (d := d) (by omega) e
      omega
theorem cntN_none {f : Nat → Nat} {L : Nat} : ∀ {n : Nat}, (∀ d, d < n → f d ≠ L) → cntN f L n = 0
  | 0, _ => rfl
  | n + 1, h => by
    rw [cntN, cntN_none (fun d hd => h d (by omega)), if_neg (h n (by omega))]
/-- different drawers of a level are no more than there are -/
theorem cntN_nd {f : Nat → Nat} {L : Nat} : ∀ (n : Nat) (l : List Nat), l.Nodup → (∀ d ∈ l, d < n ∧ f d = L) → l.length ≤ cntN f L n
  | 0, [], _, _ => Nat.le_refl _
  | 0, d :: l, _, h => absurd (h d List.mem_cons_self).1 (Nat.not_lt_zero _)
  | n + 1, l, hn, h => by
    rw [cntN]
    by_cases q : n ∈ l
    · have e := (h n q).2
      rw [if_pos e]
      have h2 := cntN_nd n (l.erase n) (hn.erase n) (fun d hd => by
        have hd2 := (List.Nodup.mem_erase_iff hn).mp hd
        have := h d hd2.2
        exact ⟨by have := hd2.1; omega, this.2⟩)
      rw [List.length_erase_of_mem q] at h2
      omega
    · have h2 := cntN_nd n l hn (fun d hd => by
        have := h d hd
        refine ⟨?_, this.2⟩
        by_cases z : d = n
        · rw [z] at hd; exact absurd hd q
        · omega)
      omega
def psum (f : Nat → Nat) : Nat := f 0 + f 1 + f 2 + f 3
theorem psum_upd {f f' : Nat → Nat} {c : Nat} (hc : c < 4) (h : ∀ e, e < 4 → e ≠ c → f' e = f e) : psum f' + f c = psum f + f' c := by
  unfold psum
  have hcs : c = 0 ∨ c = 1 ∨ c = 2 ∨ c = 3 := by omega
  rcases hcs with e | e | e | e
  · subst e
    rw [h 1 (by omega) (by omega), h 2 (by omega) (by omega), h 3 (by omega) (by omega)]
    omega
  · subst e
    rw [h 0 (by omega) (by omega), h 2 (by omega) (by omega), h 3 (by omega) (by omega)]
    omega
  · subst e
    rw [h 0 (by omega) (by omega), h 1 (by omega) (by omega), h 3 (by omega) (by omega)]
    omega
  · subst e
    rw [h 0 (by omega) (by omega), h 1 (by omega) (by omega), h 2 (by omega) (by omega)]
    omega
theorem psum_ge {f : Nat → Nat} {c : Nat} (hc : c < 4) : f c ≤ psum f := by
  unfold psum
  have hcs : c = 0 ∨ c = 1 ∨ c = 2 ∨ c = 3 := by omega
  rcases hcs with e | e | e | e <;> subst e <;> omega
theorem psum_0 {f : Nat → Nat} (h : ∀ c, c < 4 → f c = 0) : psum f = 0 := by
  unfold psum
  rw [h 0 (by omega), h 1 (by omega), h 2 (by omega), h 3 (by omega)]
theorem psum_le {f f' : Nat → Nat} (h : ∀ c, c < 4 → f' c ≤ f c) : psum f' ≤ psum f := by
  unfold psum
  have h0 := h 0 (by omega)
  have h1 := h 1 (by omega)
  have h2 := h 2 (by omega)
  have h3 := h 3 (by omega)
  omega
/-- levels and counts -/
def cnv (t T : Nat) (cn pe : Nat → Nat) (mh : Nat → Nat → Prop) : Prop :=
  t ≤ 4 ∧ t ≤ T ∧ T ≤ 11 ∧ (∀ L, 1 ≤ L → L ≤ t → cn L + 1 + pe L ≤ cn (L - 1)) ∧ (∀ L, t < L → L ≤ T → (2 ≤ cn L → cn L + 4 + pe L ≤ cn (L - 1)) ∧ (cn L = 1 → ∀ m, mh L m → m + 1 + pe L ≤ cn (L - 1))) ∧ (∀ L m, t < L → mh L m → 1 ≤ m) ∧ 1 + pe (T + 1) ≤ cn T
theorem cnv_wr {t T : Nat} {cn cn' pe pe' : Nat → Nat} {mh mh' : Nat → Nat → Prop} (h : cnv t T cn pe mh) (hc : ∀ L, cn' L = cn L) (hp : ∀ L, pe' L ≤ pe L) (hm : ∀ L m, mh' L m → L = 0 ∨ ∃ m0, mh L m0 ∧ m0 ≤ m ∧ m + pe' L ≤ m0 + pe L) : cnv t T cn' pe' mh' := by
  obtain ⟨h1, h2, h3, h4, h5, h6, h7⟩ := h
  refine ⟨h1, h2, h3, fun L a b => ?_, fun L a b => ⟨fun q => ?_, fun q m hq => ?_⟩, fun L m a hq => ?_, ?_⟩
  · have := h4 L a b
    have := hp L
    rw [hc, hc]
    omega
  · rw [hc] at q
    have := (h5 L a b).1 q
    have := hp L
    rw [hc, hc]
    omega
  · rw [hc] at q
    rcases hm L m hq with z | ⟨m0, z1, z2, z3⟩
    · omega
    · have := (h5 L a b).2 q m0 z1
      rw [hc]
      omega
  · rcases hm L m hq with z | ⟨m0, z1, z2, z3⟩
    · omega
    · have := h6 L m0 a z1
      omega
  · have := hp (T + 1)
    rw [hc]
    omega
theorem cnv_part {t T L0 : Nat} {cn cn' pe pe' : Nat → Nat} {mh mh' : Nat → Nat → Prop} (h : cnv t T cn pe mh) (hL : L0 ≤ T) (h0 : 1 ≤ cn L0) (hc : ∀ L, cn' L = cn L + (if L = L0 then 1 else 0)) (hp1 : pe' (L0 + 1) ≤ pe (L0 + 1) + 1) (hp0 : 1 ≤ L0 → pe' L0 + 1 ≤ pe L0) (hp : ∀ L, L ≠ L0 → L ≠ L0 + 1 → pe' L ≤ pe L) (hm : ∀ L m, mh' L m → L = 0 ∨ mh L m ∨ (L = L0 ∧ 1 ≤ m)) (hm0 : 1 ≤ L0 → ∃ m0, mh L0 m0 ∧ 4 ≤ m0) : cnv t T cn' pe' mh' := by
  obtain ⟨h1, h2, h3, h4, h5, h6, h7⟩ := h
  have c0 : ∀ L, L ≠ L0 → cn' L = cn L := fun L q => by rw [hc, if_neg q]; rfl
  have c1 : cn' L0 = cn L0 + 1 := by rw [hc, if_pos rfl]
  refine ⟨h1, h2, h3, fun L a b => ?_, fun L a b => ⟨fun q => ?_, fun q m hq => ?_⟩, fun L m a hq => ?_, ?_⟩
  · have q4 := h4 L a b
    by_cases e : L = L0
    · subst e
      have := hp0 a
      rw [c1, c0 (L - 1) (by omega)]
      omega
    · by_cases e2 : L = L0 + 1
      · subst e2
        rw [c0 (L0 + 1) e, show L0 + 1 - 1 = L0 from rfl, c1]
        rw [show L0 + 1 - 1 = L0 from rfl] at q4
        omega
      · have := hp L e e2
        rw [c0 L e, c0 (L - 1) (by omega)]
        omega
  · by_cases e : L = L0
    · subst e
      rw [c1, c0 (L - 1) (by omega)]
      have := hp0 (by omega)
      by_cases z : cn L = 1
      · obtain ⟨m0, z1, z2⟩ := hm0 (by omega)
        have := (h5 L a b).2 z m0 z1
        omega
      · have := (h5 L a b).1 (by omega)
        omega
    · rw [c0 L e] at q
      have q5 := (h5 L a b).1 q
      by_cases e2 : L = L0 + 1
      · subst e2
        rw [c0 (L0 + 1) e, show L0 + 1 - 1 = L0 from rfl, c1]
        rw [show L0 + 1 - 1 = L0 from rfl] at q5
        omega
      · have := hp L e e2
        rw [c0 L e, c0 (L - 1) (by omega)]
        omega
  · by_cases e : L = L0
    · subst e
      rw [c1] at q
      omega
    · rw [c0 L e] at q
      rcases hm L m hq with z | z | ⟨z, _⟩
      · omega
      · have q5 := (h5 L a b).2 q m z
        by_cases e2 : L = L0 + 1
        · subst e2
          rw [show L0 + 1 - 1 = L0 from rfl, c1]
          rw [show L0 + 1 - 1 = L0 from rfl] at q5
          omega
        · have := hp L e e2
          rw [c0 (L - 1) (by omega)]
          omega
      · exact absurd z e
  · rcases hm L m hq with z | z | ⟨_, z⟩
    · omega
    · exact h6 L m a z
    · exact z
  · by_cases e : T = L0
    · subst e
      rw [c1]
      omega
    · have := hp (T + 1) (by omega) (by omega)
      rw [c0 T e]
      omega
theorem cnv_12 {t T M : Nat} {cn pe : Nat → Nat} {mh : Nat → Nat → Prop} (h : cnv t T cn pe mh) (hT : T = 11) (hM : 1 ≤ M) (hM2 : M + 1 ≤ cn T) (hs : cn 0 + cn 1 + cn 2 + cn 3 + cn 4 + cn 5 + cn 6 + cn 7 + cn 8 + cn 9 + cn 10 + cn 11 + 1 ≤ 256) : False := by
  obtain ⟨h1, h2, h3, h4, h5, h6, h7⟩ := h
  subst hT
  have st : ∀ L, 1 ≤ L → L ≤ 11 → 2 ≤ cn L → (if L ≤ t then cn L + 1 else cn L + 4) ≤ cn (L - 1) := by
    intro L a b q
    by_cases e : L ≤ t
    · rw [if_pos e]
      have := h4 L a e
      omega
    · rw [if_neg e]
      have := (h5 L (by omega) b).1 q
      omega
  have i11 := st 11 (by omega) (by omega) (by omega)
  rw [if_neg (by omega), show 11 - 1 = 10 from rfl] at i11
  have i10 := st 10 (by omega) (by omega) (by omega)
  rw [if_neg (by omega), show 10 - 1 = 9 from rfl] at i10
  have i9 := st 9 (by omega) (by omega) (by omega)
  rw [if_neg (by omega), show 9 - 1 = 8 from rfl] at i9
  have i8 := st 8 (by omega) (by omega) (by omega)
  rw [if_neg (by omega), show 8 - 1 = 7 from rfl] at i8
  have i7 := st 7 (by omega) (by omega) (by omega)
  rw [if_neg (by omega), show 7 - 1 = 6 from rfl] at i7
  have i6 := st 6 (by omega) (by omega) (by omega)
  rw [if_neg (by omega), show 6 - 1 = 5 from rfl] at i6
  have i5 := st 5 (by omega) (by omega) (by omega)
  rw [if_neg (by omega), show 5 - 1 = 4 from rfl] at i5
  have i4 := st 4 (by omega) (by omega) (by omega)
  rw [show 4 - 1 = 3 from rfl] at i4
  have g4 : cn 4 + 1 ≤ cn 3 := by
    refine Nat.le_trans ?_ i4
    split <;> omega
  have i3 := st 3 (by omega) (by omega) (by omega)
  rw [show 3 - 1 = 2 from rfl] at i3
  have g3 : cn 3 + 1 ≤ cn 2 := by
    refine Nat.le_trans ?_ i3
    split <;> omega
  have i2 := st 2 (by omega) (by omega) (by omega)
  rw [show 2 - 1 = 1 from rfl] at i2
  have g2 : cn 2 + 1 ≤ cn 1 := by
    refine Nat.le_trans ?_ i2
    split <;> omega
  have i1 := st 1 (by omega) (by omega) (by omega)
  rw [show 1 - 1 = 0 from rfl] at i1
  have g1 : cn 1 + 1 ≤ cn 0 := by
    refine Nat.le_trans ?_ i1
    split <;> omega
  omega
theorem cnv_up {t T M : Nat} {cn cn' pe pe' : Nat → Nat} {mh mh' : Nat → Nat → Prop} (h : cnv t T cn pe mh) (hn : cn (T + 1) = 0) (hc : ∀ L, cn' L = cn L + (if L = T + 1 then 1 else 0)) (hM : 1 ≤ M) (hM2 : M + 1 + pe' (T + 1) ≤ cn T) (hp : ∀ L, pe' L ≤ pe L) (hp2 : pe' (T + 2) = 0) (hm : ∀ L m, mh' L m → L = 0 ∨ (L = T + 1 ∧ m = M) ∨ (L ≤ T ∧ mh L m)) (hs : T = 11 → cn 0 + cn 1 + cn 2 + cn 3 + cn 4 + cn 5 + cn 6 + cn 7 + cn 8 + cn 9 + cn 10 + cn 11 + 1 ≤ 256) : cnv t (T + 1) cn' pe' mh' := by
  have h0 := h
  obtain ⟨h1, h2, h3, h4, h5, h6, h7⟩ := h
  have c0 : ∀ L, L ≠ T + 1 → cn' L = cn L := fun L q => by rw [hc, if_neg q]; rfl
  have c1 : cn' (T + 1) = 1 := by rw [hc, if_pos rfl, hn]
  have hT : T ≠ 11 := fun e => cnv_12 h0 e hM (by omega) (hs e)
  refine ⟨h1, by omega, by omega, fun L a b => ?_, fun L a b => ⟨fun q => ?_, fun q m hq => ?_⟩, fun L m a hq => ?_, ?_⟩
  · have := h4 L a b
    have := hp L
    rw [c0 L (by omega), c0 (L - 1) (by omega)]
    omega
  · by_cases e : L = T + 1
    · subst e
      rw [c1] at q
      omega
    · rw [c0 L e] at q
      have := (h5 L a (by omega)).1 q
      have := hp L
      rw [c0 L e, c0 (L - 1) (by omega)]
      omega
  · by_cases e : L = T + 1
    · subst e
      rw [show T + 1 - 1 = T from rfl, c0 T (by omega)]
      rcases hm _ m hq with z | ⟨_, z⟩ | ⟨z, _⟩
      · omega
      · omega
      · omega
    · rw [c0 L e] at q
      rcases hm L m hq with z | ⟨z, _⟩ | ⟨_, z⟩
      · omega
      · exact absurd z e
      · have := (h5 L a (by omega)).2 q m z
        have := hp L
        rw [c0 (L - 1) (by omega)]
        omega
  · rcases hm L m hq with z | ⟨_, z⟩ | ⟨_, z⟩
    · omega
    · omega
    · exact h6 L m a z
  · rw [c1, show T + 1 + 1 = T + 2 from rfl, hp2]
    exact Nat.le_refl _

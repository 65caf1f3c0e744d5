/-! 97zh: a night, of the reference: clearing, leaves, threads -/
def clr (s s1 : dr_S) (i : Nat) : Prop := s1.2 = s.2 ∧ (∀ a, a ≠ 30 → a ≠ 31 → a ≠ 32 → a ≠ 35 → a ≠ 36 → a ≠ 37 → s1.1 a = s.1 a) ∧ (∀ d, i ≤ d → d < 256 → s1.1 30 d = 0 ∧ s1.1 31 d = 0 ∧ s1.1 32 d = 0 ∧ s1.1 35 d = -1 ∧ s1.1 36 d = -1 ∧ s1.1 37 d = -1) ∧ (∀ d, d < i → s1.1 30 d = s.1 30 d ∧ s1.1 31 d = s.1 31 d ∧ s1.1 32 d = s.1 32 d ∧ s1.1 35 d = s.1 35 d ∧ s1.1 36 d = s.1 36 d ∧ s1.1 37 d = s.1 37 d)
theorem clr_rf (s : dr_S) {i : Nat} (h : 256 ≤ i) : clr s s i := ⟨rfl, fun _ _ _ _ _ _ _ => rfl, fun d h1 h2 => absurd h1 (by omega), fun _ _ => ⟨rfl, rfl, rfl, rfl, rfl, rfl⟩⟩
theorem clr_step {s s1 : dr_S} {i : Nat} (h : clr (dr_put (dr_put (dr_put (dr_put (dr_put (dr_put s 30 i 0) 31 i 0) 32 i 0) 35 i (-1)) 36 i (-1)) 37 i (-1)) s1 (i + 1)) : clr s s1 i := by
  obtain ⟨h1, h2, h3, h4⟩ := h
  refine ⟨h1, fun a x0 x1 x2 x3 x4 x5 => by rw [h2 a x0 x1 x2 x3 x4 x5, q_putO x5, q_putO x4, q_putO x3, q_putO x2, q_putO x1, q_putO x0], fun d a b => ?_, fun d hd => ?_⟩
  · by_cases e : d = i
    · subst e
      obtain ⟨y0, y1, y2, y3, y4, y5⟩ := h4 d (by omega)
      exact ⟨y0.trans (q_updS _ _ _), y1.trans (q_updS _ _ _), y2.trans (q_updS _ _ _), y3.trans (q_updS _ _ _), y4.trans (q_updS _ _ _), y5.trans (q_updS _ _ _)⟩
    · exact h3 d (by omega) b
  · obtain ⟨y0, y1, y2, y3, y4, y5⟩ := h4 d (by omega)
    exact ⟨y0.trans (q_updO (by omega)), y1.trans (q_updO (by omega)), y2.trans (q_updO (by omega)), y3.trans (q_updO (by omega)), y4.trans (q_updO (by omega)), y5.trans (q_updO (by omega))⟩
theorem qm_clear_p {ln : Nat → Nat} {x : Int32} (L : dq_ML ln) : ∀ (k fu i : Nat) (s : dr_S), 256 = i + k → k < fu → ∃ s1, f_X12_night_p36 ln fu x (nI i) s = f_X12_night_p61 ln dr_N x 0 0 0 s1 ∧ clr s s1 i
  | k, 0, _, _, _, q => absurd q (Nat.not_lt_zero _)
  | 0, fu + 1, i, s, hk, hf => by
    rw [f_X12_night_p36, if_pos (show (256 : Int32) ≤ nI i from nI_le (a := 256) (by omega) (by omega))]
    exact ⟨s, rfl, clr_rf s (by omega)⟩
  | k + 1, fu + 1, i, s, hk, hf => by
    rw [f_X12_night_p36, if_neg (show ¬ (256 : Int32) ≤ nI i from nI_ge (b := 256) (by omega) (by omega)), qm_clears L (by omega), q_bv, q_let, nI_1]
    obtain ⟨s1, a1, a2⟩ := qm_clear_p (x := x) L k fu (i + 1) _ (by omega) (by omega)
    exact ⟨s1, a1, clr_step a2⟩
/-- only drawer u changes -/
def mfr (s s' : dr_S) (u : Nat) : Prop := s'.2 = s.2 ∧ (∀ a, (a < 30 ∨ 37 < a) → s'.1 a = s.1 a) ∧ (∀ a d, a ≠ 33 → a ≠ 34 → d ≠ u → s'.1 a d = s.1 a d) ∧ (∀ a p, (a = 33 ∨ a = 34) → (p < 14 * u ∨ 14 * u + 14 ≤ p) → s'.1 a p = s.1 a p)
theorem mfr_rf (s : dr_S) (u : Nat) : mfr s s u := ⟨rfl, fun _ _ => rfl, fun _ _ _ _ _ => rfl, fun _ _ _ _ => rfl⟩
theorem mfr_tr {s s1 s2 : dr_S} {u : Nat} (h1 : mfr s s1 u) (h2 : mfr s1 s2 u) : mfr s s2 u := ⟨h2.1.trans h1.1, fun a h => (h2.2.1 a h).trans (h1.2.1 a h), fun a d x y z => (h2.2.2.1 a d x y z).trans (h1.2.2.1 a d x y z), fun a p x y => (h2.2.2.2 a p x y).trans (h1.2.2.2 a p x y)⟩
theorem mfr_put {s : dr_S} {u a : Nat} {v : Int32} (h1 : 30 ≤ a) (h2 : a ≤ 37) (h3 : a ≠ 33) (h4 : a ≠ 34) : mfr s (dr_put s a u v) u := ⟨rfl, fun b hb => q_putO (by omega), fun b d x y z => by
  by_cases e : b = a
  · rw [e, q_put1, q_updO z]
  · rw [q_putO e], fun b p x y => by rw [q_putO (by omega)]⟩
theorem mfr_row {s : dr_S} {u a p : Nat} {v : Int32} (h : a = 33 ∨ a = 34) (h1 : 14 * u ≤ p) (h2 : p < 14 * u + 14) : mfr s (dr_put s a p v) u := ⟨rfl, fun b hb => q_putO (by omega), fun b d x y z => by rw [q_putO (by omega)], fun b q x y => by
  by_cases e : b = a
  · rw [e, q_put1, q_updO (by omega)]
  · rw [q_putO e]⟩
def mS (s0 s : dr_S) (u : Nat) (D : Nat → sg_D) : Prop := s.2 = s0.2 ∧ (∀ a, (a < 30 ∨ 37 < a) → s.1 a = s0.1 a) ∧ (∀ d, d < 256 → s.1 30 d = (if d < u then 1 else 0) ∧ s.1 37 d = -1) ∧ (∀ d, d < u → (s.1 31 d = nI (dv_lev (D d)) ∧ rp_mrow s 33 34 32 35 36 d (D d)) ∧ rw_ok 5 (D d)) ∧ (∀ d, u ≤ d → d < 256 → s.1 31 d = 0 ∧ s.1 36 d = -1)
theorem mS_cg {s0 s : dr_S} {u : Nat} {D D' : Nat → sg_D} (h : mS s0 s u D) (e : ∀ d, d < u → D' d = D d) : mS s0 s u D' := by
  obtain ⟨h1, h2, h3, h4, h5⟩ := h
  exact ⟨h1, h2, h3, fun d hd => by rw [e d hd]; exact h4 d hd, h5⟩
theorem mS_add {s0 s s' : dr_S} {u : Nat} {D : Nat → sg_D} (h : mS s0 s u D) (hu : u < 256) (F : mfr s s' u) (h30 : s'.1 30 u = 1) (h37 : s'.1 37 u = s.1 37 u) (h31 : s'.1 31 u = nI (dv_lev (D u))) (hrow : rp_mrow s' 33 34 32 35 36 u (D u)) (hrw : rw_ok 5 (D u)) : mS s0 s' (u + 1) D := by
  obtain ⟨h1, h2, h3, h4, h5⟩ := h
  obtain ⟨f1, f2, f3, f4⟩ := F
  refine ⟨f1.trans h1, fun a ha => (f2 a ha).trans (h2 a ha), fun d hd => ?_, fun d hd => ?_, fun d a b => ?_⟩
  · obtain ⟨x1, x2⟩ := h3 d hd
    by_cases e : d = u
    · subst e
      rw [h30, if_pos (by omega), h37]
      exact ⟨rfl, x2⟩
    · rw [f3 30 d (by decide) (by decide) e, f3 37 d (by decide) (by decide) e, x1]
      refine ⟨?_, x2⟩
      by_cases q : d < u
      · rw [if_pos q, if_pos (by omega)]
      · rw [if_neg q, if_neg (by omega)]
  · by_cases e : d = u
    · subst e
      exact ⟨⟨h31, hrow⟩, hrw⟩
    · obtain ⟨⟨x1, x2, x3, x4, x5, x6⟩, x7⟩ := h4 d (by omega)
      obtain ⟨w1, w2⟩ := x7
      refine ⟨⟨by rw [f3 31 d (by decide) (by decide) e]; exact x1, by rw [f3 32 d (by decide) (by decide) e]; exact x2, by rw [f3 35 d (by decide) (by decide) e]; exact x3, by rw [f3 36 d (by decide) (by decide) e]; exact x4, fun k g hk => ?_, fun hl k g hk => ?_⟩, ⟨w1, w2⟩⟩
      · have := (List.getElem?_eq_some_iff.mp hk).1
        rw [f4 33 _ (Or.inl rfl) (Or.inl (by omega))]
        exact x5 k g hk
      · have := (List.getElem?_eq_some_iff.mp hk).1
        rw [f4 34 _ (Or.inr rfl) (Or.inl (by omega))]
        exact x6 hl k g hk
  · obtain ⟨x1, x2⟩ := h5 d (by omega) b
    rw [f3 31 d (by decide) (by decide) (by omega), f3 36 d (by decide) (by decide) (by omega)]
    exact ⟨x1, x2⟩
/-- the cards of a leaf -/
theorem qm_leaf_p {ln : Nat → Nat} {H : List Nat} {f i n base : Nat} {x2 : Int32} {kb : Int32 → Int32 → Int32 → Int32 → dr_S → Option (Int32 × dr_S)} (L : dq_ML ln) (hi : i < 256) (hn : n ≤ 10) (hb : base + n ≤ H.length) (hH : H.length ≤ 120) : ∀ (j fu k : Nat) (s : dr_S), n = k + j → j < fu → s.1 32 i = nI n → (∀ m, m < k → s.1 33 (14 * i + m) = nI (H.getD (base + m) 0)) → (∀ m, m < H.length → s.1 62 m = nI (H.getD m 0)) → ∃ s', f_X12_night_p113 ln kb fu (nI f) x2 (nI i) (nI base) (nI k) s = f_X12_night_p188 ln kb (nI f) x2 (nI i) (nI base) (if n = 0 then -1 else nI (H.getD (base + n - 1) 0)) (nI i) s' ∧ mfr s s' i ∧ (∀ a, a ≠ 33 → s'.1 a = s.1 a) ∧ ∀ m, m < n → s'.1 33 (14 * i + m) = nI (H.getD (base + m) 0)
  | j, 0, _, _, _, q, _, _, _ => absurd q (Nat.not_lt_zero _)
  | 0, fu + 1, k, s, hk, hfu, h32, h33, h62 => by
    have e14 : (14 : Int32) * nI i = nI (14 * i) := by rw [show (14 : Int32) = nI 14 from rfl, pk_mul]
    have e : k = n := by omega
    rw [f_X12_night_p113, m_rdb L 32 256 rfl (by decide) (by decide) hi, h32, if_pos (nI_le (by omega) (by omega)), m_rdb L 32 256 rfl (by decide) (by decide) hi, h32]
    by_cases z : n = 0
    · rw [if_pos (show nI n = (0 : Int32) by rw [z]; rfl), if_pos z]
      exact ⟨s, rfl, mfr_rf s i, fun _ _ => rfl, fun m hm => absurd hm (by omega)⟩
    · rw [if_neg (show ¬ nI n = (0 : Int32) from nI_ne0 (by omega) (by omega)), if_neg z, m_rdb L 32 256 rfl (by decide) (by decide) hi, h32, e14, nI_add, show nI (14 * i + n) - 1 = nI (14 * i + (n - 1)) by rw [show 14 * i + n = (14 * i + (n - 1)) + 1 by omega, nI_pred], m_rdb L 33 3584 rfl (by decide) (by decide) (by omega), h33 (n - 1) (by omega), show base + (n - 1) = base + n - 1 by omega]
      exact ⟨s, rfl, mfr_rf s i, fun _ _ => rfl, fun m hm => h33 m (by omega)⟩
  | j + 1, fu + 1, k, s, hk, hfu, h32, h33, h62 => by
    have e14 : (14 : Int32) * nI i = nI (14 * i) := by rw [show (14 : Int32) = nI 14 from rfl, pk_mul]
    rw [f_X12_night_p113, m_rdb L 32 256 rfl (by decide) (by decide) hi, h32, if_neg (nI_ge (by omega) (by omega)), nI_add, m_rdb L 62 3600 rfl (by decide) (by decide) (by omega), h62 (base + k) (by omega), e14, nI_add, m_wrb L 33 3584 rfl (by decide) (by decide) (by omega), q_let, nI_1]
    obtain ⟨s', a1, a2, a3, a4⟩ := qm_leaf_p (f := f) (x2 := x2) (kb := kb) L hi hn hb hH j fu (k + 1) (dr_put s 33 (14 * i + k) (nI (H.getD (base + k) 0))) (by omega) (by omega) h32 (fun m hm => by
      rw [q_put1]
      by_cases e : m = k
      · rw [e, q_updS]
      · rw [q_updO (by omega)]
        exact h33 m (by omega)) h62
    exact ⟨s', a1, mfr_tr (mfr_row (Or.inl rfl) (by omega) (by omega)) a2, fun a ha => by rw [a3 a ha, q_putO ha], a4⟩
theorem qm_leaves_p {ln : Nat → Nat} {s0 : dr_S} {H : List Nat} {f : Nat} (L : dq_ML ln) (hH : H.length ≤ 120) (hf1 : 2 ≤ f) (hf2 : f ≤ 10) (hc : s0.2 1242 = nI H.length ∧ ∀ m, m < H.length → s0.1 62 m = nI (H.getD m 0)) : ∀ (j fu i : Nat) (s : dr_S), n_nl H.length f = i + j → j < fu → mS s0 s i (yl H f) → ∃ s', f_X12_night_p61 ln fu (nI f) 0 (nI i) (nI (i * f)) s = dr_bndv (f_X12_binds ln 0 (nI (n_nl H.length f)) s') (fun s9 => f_X12_night_p210 ln dr_N (nI f) 0 (nI (n_nl H.length f)) 0 s9) ∧ mS s0 s' (n_nl H.length f) (yl H f)
  | j, 0, _, _, _, q, _ => absurd q (Nat.not_lt_zero _)
  | 0, fu + 1, i, s, hi, hfu, hS => by
    have hg : 1 ≤ f := by omega
    obtain ⟨p1, p2, p3⟩ := nl_p (n := H.length) hg
    have hb2 := nl_b (n := H.length) (g := f) (c := 2) hf1 hg
    have e : i = n_nl H.length f := by omega
    rw [← e] at p2
    have hif : i * f < 2 ^ 31 ∧ 0 < i * f := by
      have h1 : i * f ≤ 60 * 10 := Nat.mul_le_mul (by omega) hf2
      have h2 : 1 * 1 ≤ i * f := Nat.mul_le_mul (by omega) hg
      omega
    rw [f_X12_night_p61, hS.1, hc.1, if_neg (nI_nlt (by omega) (by omega)), if_neg (show ¬ nI (i * f) = (0 : Int32) from nI_ne0 hif.2 hif.1), e]
    rw [e] at hS
    exact ⟨s, rfl, hS⟩
  | j + 1, fu + 1, i, s, hi, hfu, hS => by
    have hg : 1 ≤ f := by omega
    obtain ⟨p1, p2, p3⟩ := nl_p (n := H.length) hg
    have hb2 := nl_b (n := H.length) (g := f) (c := 2) hf1 hg
    have h0 := nl_0 (n := H.length) (g := f) (i := i) hg (by omega)
    have hbase : i * f ≤ H.length := by
      rcases h0 with q | q
      · rw [q, Nat.zero_mul]; omega
      · omega
    have hu : i < 256 := by omega
    have leaf : ∃ s', f_X12_night_p75 ln (f_X12_night_p61 ln fu) (nI f) 0 (nI i) (nI (i * f)) s = dr_bndv (f_X12_binds ln 0 (nI (n_nl H.length f)) s') (fun s9 => f_X12_night_p210 ln dr_N (nI f) 0 (nI (n_nl H.length f)) 0 s9) ∧ mS s0 s' (n_nl H.length f) (yl H f) := by
      unfold f_X12_night_p75
      rw [m_wzb L 30 256 rfl (by decide) (by decide) hu, show (dr_put s 30 i (vp_nar .boolean 1)).2 1242 = nI H.length by rw [q_put2, hS.1]; exact hc.1, pk_sub hbase]
      -- how many
      have fin : ∀ n, n = min f (H.length - i * f) → ∃ s', f_X12_night_p109 ln (f_X12_night_p61 ln fu) (nI f) 0 (nI i) (nI (i * f)) (nI n) (nI i) (dr_put s 30 i (vp_nar .boolean 1)) = dr_bndv (f_X12_binds ln 0 (nI (n_nl H.length f)) s') (fun s9 => f_X12_night_p210 ln dr_N (nI f) 0 (nI (n_nl H.length f)) 0 s9) ∧ mS s0 s' (n_nl H.length f) (yl H f) := by
        intro n hn
        unfold f_X12_night_p109
        rw [m_wrb L 32 256 rfl (by decide) (by decide) hu]
        generalize hs1 : dr_put (dr_put s 30 i (vp_nar .boolean 1)) 32 i (nI n) = s1
        have F1 : mfr s s1 i := by rw [← hs1]; exact mfr_tr (mfr_put (by decide) (by decide) (by decide) (by decide)) (mfr_put (by decide) (by decide) (by decide) (by decide))
        have v32 : s1.1 32 i = nI n := by rw [← hs1, q_put1, q_updS]
        have v30 : s1.1 30 i = 1 := by rw [← hs1, q_putO (by decide), q_put1, q_updS]; rfl
        have o1 : ∀ a, a ≠ 30 → a ≠ 32 → s1.1 a = s.1 a := fun a x y => by rw [← hs1, q_putO y, q_putO x]
        obtain ⟨s2, a1, a2, a3, a4⟩ := qm_leaf_p (ln := ln) (H := H) (f := f) (i := i) (n := n) (base := i * f) (x2 := 0) (kb := f_X12_night_p61 ln fu) L hu (by omega) (by omega) hH n dr_N 0 s1 (by omega) (by unfold dr_N; omega) v32 (fun m hm => absurd hm (Nat.not_lt_zero _)) (fun m hm => by rw [o1 62 (by decide) (by decide), hS.2.1 62 (by omega)]; exact hc.2 m hm)
        rw [show f_X12_night_p113 ln (f_X12_night_p61 ln fu) dr_N (nI f) 0 (nI i) (nI (i * f)) 0 s1 = _ from a1]
        unfold f_X12_night_p188
        rw [m_wrb L 35 256 rfl (by decide) (by decide) hu, q_let, nI_1, q_let, nI_add, show i * f + f = (i + 1) * f by rw [Nat.add_mul, Nat.one_mul]]
        generalize hlast : (if n = 0 then (-1 : Int32) else nI (H.getD (i * f + n - 1) 0)) = v
        have hlen : ((H.drop (i * f)).take f).length = n := by rw [List.length_take, List.length_drop, hn]
        have hst := hS.2.2.2.2 i (Nat.le_refl _) hu
        refine qm_leaves_p L hH hf1 hf2 hc j fu (i + 1) (dr_put s2 35 i v) (by omega) (by omega) (mS_add hS hu (mfr_tr (mfr_tr F1 a2) (mfr_put (by decide) (by decide) (by decide) (by decide))) ?_ ?_ ?_ ⟨?_, ?_, ?_, fun k g hk => ?_, fun q => absurd q (Nat.lt_irrefl _)⟩ ⟨by show ((H.drop (i * f)).take f).length ≤ 2 * 5 + 1; omega, Nat.zero_le _⟩)
        · rw [q_putO (by decide), a3 30 (by decide), v30]
        · rw [q_putO (by decide), a3 37 (by decide), o1 37 (by decide) (by decide)]
        · rw [q_putO (by decide), a3 31 (by decide), o1 31 (by decide) (by decide), hst.1]
          rfl
        · rw [q_putO (by decide), a3 32 (by decide), v32]
          show nI n = nI ((H.drop (i * f)).take f).length
          rw [hlen]
        · rw [q_put1, q_updS, ← hlast]
          show _ = nO ((H.drop (i * f)).take f).getLast?
          by_cases z : n = 0
          · rw [if_pos z, List.getLast?_eq_getElem?, hlen, List.getElem?_eq_none (by omega)]
            rfl
          · rw [if_neg z, List.getLast?_eq_getElem?, hlen, List.getElem?_take_of_lt (by omega), List.getElem?_drop, show i * f + (n - 1) = i * f + n - 1 by omega, List.getElem?_eq_getElem (show i * f + n - 1 < H.length by omega), gDe (show i * f + n - 1 < H.length by omega)]
            rfl
        · rw [q_putO (by decide), a3 36 (by decide), o1 36 (by decide) (by decide), hst.2]
          rfl
        · have hk : ((H.drop (i * f)).take f)[k]? = some g := hk
          have hlt := (List.getElem?_eq_some_iff.mp hk).1
          rw [hlen] at hlt
          rw [List.getElem?_take_of_lt (by omega), List.getElem?_drop] at hk
          rw [q_putO (by decide), a4 k hlt, List.getD_eq_getElem?_getD, hk]
          rfl
      by_cases q : f ≤ H.length - i * f
      · rw [if_pos (nI_le q (by omega))]
        exact fin f (by omega)
      · rw [if_neg (nI_ge (by omega) (by omega))]
        exact fin (H.length - i * f) (by omega)
    rw [f_X12_night_p61, hS.1, hc.1]
    by_cases q : i * f < H.length
    · rw [if_pos (nI_lt q (by omega))]
      exact leaf
    · have e0 : i = 0 := by
        rcases h0 with z | z
        · exact z
        · omega
      rw [if_neg (nI_nlt (by omega) (by omega)), if_pos (show nI (i * f) = (0 : Int32) by rw [e0, Nat.zero_mul]; rfl)]
      exact leaf
theorem qm_binds_p {ln : Nat → Nat} {to : Nat} (L : dq_ML ln) (h0 : 0 < to) (hto : to ≤ 256) : ∀ (j fu d : Nat) (s : dr_S), to = d + j → j < fu → ∃ s', f_X12_binds_p2 ln fu (nI to) (nI d) s = some (0, s') ∧ s'.2 = s.2 ∧ (∀ a, a ≠ 35 → a ≠ 36 → s'.1 a = s.1 a) ∧ (∀ e, s'.1 36 e = if d ≤ e ∧ e < to then nO (if e + 1 < to then some (e + 1) else none) else s.1 36 e) ∧ (∀ e, s'.1 35 e = if e = to - 1 then -1 else s.1 35 e)
  | j, 0, _, _, _, q => absurd q (Nat.not_lt_zero _)
  | 0, fu + 1, d, s, hd, hf => by
    rw [f_X12_binds_p2, if_pos (nI_le (by omega) (by omega)), show nI to - 1 = nI (to - 1) by rw [show to = (to - 1) + 1 by omega, nI_pred, Nat.add_sub_cancel], m_wrb L 35 256 rfl (by decide) (by decide) (by omega)]
    refine ⟨_, rfl, rfl, fun a x y => q_putO x, fun e => ?_, fun e => ?_⟩
    · rw [if_neg (by omega), q_putO (by decide)]
    · rw [q_put1]
      by_cases q : e = to - 1
      · rw [q, q_updS, if_pos rfl]
      · rw [q_updO q, if_neg q]
  | j + 1, fu + 1, d, s, hd, hf => by
    have fin : ∀ v : Int32, v = nO (if d + 1 < to then some (d + 1) else none) → ∃ s', f_X12_binds_p26 ln (f_X12_binds_p2 ln fu) (nI to) (nI d) v (nI d) s = some (0, s') ∧ s'.2 = s.2 ∧ (∀ a, a ≠ 35 → a ≠ 36 → s'.1 a = s.1 a) ∧ (∀ e, s'.1 36 e = if d ≤ e ∧ e < to then nO (if e + 1 < to then some (e + 1) else none) else s.1 36 e) ∧ (∀ e, s'.1 35 e = if e = to - 1 then -1 else s.1 35 e) := by
      intro v hv
      unfold f_X12_binds_p26
      rw [m_wrb L 36 256 rfl (by decide) (by decide) (by omega), q_let, nI_1]
      obtain ⟨s', a1, a2, a3, a4, a5⟩ := qm_binds_p L h0 hto j fu (d + 1) (dr_put s 36 d v) (by omega) (by omega)
      refine ⟨s', a1, a2, fun a x y => by rw [a3 a x y, q_putO y], fun e => ?_, fun e => by rw [a5 e, q_putO (by decide)]⟩
      rw [a4 e, q_put1]
      by_cases q : e = d
      · rw [q, q_updS, if_neg (by omega), if_pos (by omega), hv]
      · rw [q_updO q]
        by_cases z : d + 1 ≤ e ∧ e < to
        · rw [if_pos z, if_pos (show d ≤ e ∧ e < to by omega)]
        · rw [if_neg z, if_neg (show ¬ (d ≤ e ∧ e < to) by omega)]
    rw [f_X12_binds_p2, if_neg (nI_ge (by omega) (by omega)), nI_1]
    by_cases q : d + 1 < to
    · rw [if_neg (nI_ge q (by omega))]
      exact fin _ (by rw [if_pos q]; rfl)
    · rw [if_pos (nI_le (by omega) (by omega))]
      exact fin _ (by rw [if_neg q]; rfl)
theorem mS_bind {ln : Nat → Nat} {s0 s : dr_S} {fr to : Nat} {Y : Nat → sg_D} (L : dq_ML ln) (hf : fr < to) (hto : to ≤ 256) (hS : mS s0 s to Y) : ∃ s', f_X12_binds ln (nI fr) (nI to) s = some (0, s') ∧ mS s0 s' to (fun d => if d < fr then Y d else bd to d (Y d)) := by
  obtain ⟨s', a1, a2, a3, a4, a5⟩ := qm_binds_p L (by omega) hto (to - fr) dr_N fr s (by omega) (by unfold dr_N; omega)
  obtain ⟨h1, h2, h3, h4, h5⟩ := hS
  refine ⟨s', a1, a2.trans h1, fun a ha => (a3 a (by omega) (by omega)).trans (h2 a ha), fun d hd => by rw [a3 30 (by decide) (by decide), a3 37 (by decide) (by decide)]; exact h3 d hd, fun d hd => ?_, fun d x y => ?_⟩
  · obtain ⟨⟨x1, x2, x3, x4, x5, x6⟩, x7⟩ := h4 d hd
    show (s'.1 31 d = nI (dv_lev (if d < fr then Y d else bd to d (Y d))) ∧ rp_mrow s' 33 34 32 35 36 d (if d < fr then Y d else bd to d (Y d))) ∧ rw_ok 5 (if d < fr then Y d else bd to d (Y d))
    unfold rp_mrow
    rw [a3 31 (by decide) (by decide), a3 32 (by decide) (by decide), a3 33 (by decide) (by decide), a3 34 (by decide) (by decide), a4 d, a5 d]
    by_cases q : d < fr
    · rw [if_pos q, if_neg (by omega), if_neg (by omega)]
      exact ⟨⟨x1, x2, x3, x4, x5, x6⟩, x7⟩
    · rw [if_neg q, if_pos (show fr ≤ d ∧ d < to from ⟨by omega, hd⟩)]
      refine ⟨⟨x1, x2, ?_, rfl, x5, x6⟩, x7⟩
      show _ = nO (if d + 1 < to then dv_hi (Y d) else none)
      by_cases z : d + 1 < to
      · rw [if_pos z, if_neg (by omega)]
        exact x3
      · rw [if_neg z, if_pos (by omega)]
        rfl
  · obtain ⟨y1, y2⟩ := h5 d x y
    rw [a3 31 (by decide) (by decide), a4 d, if_neg (by omega)]
    exact ⟨y1, y2⟩

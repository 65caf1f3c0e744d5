/-! 97zj: the first room -/
def r0 (b : Nat) : sg_R := ((b, []), (1, 0, fun _ => (0, [], [], none, none, none)), (fun _ => (0, 0, none, 0, 0, none, (fun _ => none), (0, [], [], none, none, none))), 0, 0, (fun _ => (0, 0, none, 0, none, 0, false)), [])
theorem iv_0 {b : Nat} (hb : 2 ≤ b ∧ b ≤ 5) : iv (r0 b) ∧ iv2 (r0 b) := by
  have hpt : ∀ c, pt (r0 b) c = 0 := fun c => pt_0 rfl
  have hpd : ∀ L, psum (pd (r0 b) L) = 0 := fun L => psum_0 (fun c _ => pd_0 (Or.inl rfl))
  refine ⟨⟨fun d => d, 0, ⟨⟨hb, by show 1 ≤ 256; omega, by show 0 ≤ 120; omega, ⟨Nat.zero_le _, fun i d g h => (by cases h)⟩⟩, ⟨Nat.zero_lt_one, fun d _ => Nat.le_refl _⟩, fun d hd => ⟨⟨rfl, Nat.zero_le _, fun h q => (by cases q), fun g q => (by cases q), ⟨fun _ => rfl, fun _ => rfl⟩, fun t q => (by cases q), fun q => absurd q (Nat.lt_irrefl _), fun _ => ⟨rfl, fun h q => (by cases q)⟩⟩, fun e q => (by cases q)⟩, fun c hc => ⟨Nat.zero_le _, Nat.zero_le _, fun j q => (by cases q), fun q => absurd rfl q⟩, fun c e _ _ _ q => absurd rfl q, ⟨fun j t q => (by cases q), List.nodup_nil, List.Pairwise.nil⟩, fun j hj => absurd hj (Nat.not_lt_zero _)⟩, ?_, ?_, ?_⟩, fun c _ _ => rfl⟩
  · rw [psum_0 (fun c _ => hpt c)]
    show 1 + 0 ≤ 256
    omega
  · intro q
    exfalso
    rcases q with q | ⟨c, hc, q, _⟩
    · exact q rfl
    · have q : (0 : Nat) = 3 := q
      omega
  · refine ⟨by omega, Nat.zero_le _, Nat.zero_le _, fun L a c => by omega, fun L a c => ?_, fun L m a hm => ?_, ?_⟩
    · have c : L ≤ 0 := c
      omega
    · exfalso
      rcases hm with ⟨d, d1, d2, _⟩ | ⟨c, hc, q, _⟩
      · have d2 : (0 : Nat) = L := d2
        omega
      · have q : (0 : Nat) = 3 := q
        omega
    · show 1 + psum (pd (r0 b) (0 + 1)) ≤ cnt (r0 b) 0
      rw [hpd]
      exact Nat.le_refl _
theorem wq_put {ln : Nat → Nat} {s : dr_S} {p : Nat} {v : Int32} (hL : dq_L ln) (hp : p < ln 14) (h4 : s.2 204 = 0) : ∃ s', f_X2_put ln (nI p) v s = some (0, s') ∧ nF s s' ∧ s'.1 14 = upd (s.1 14) p v := by
  have C := q_Cput (s := s) (p := p) (v := v) (by have := hL.1; omega) (Or.inl h4)
  exact ⟨dq_put s p v, q_put hL hp, nF_C ⟨fun _ _ _ _ => rfl, fun _ => rfl⟩ h4 C, C.1⟩
theorem nF_tr {s s1 s2 : dr_S} (h1 : nF s s1) (h2 : nF s1 s2) : nF s s2 := ⟨fun a x y z => (h2.1 a x y z).trans (h1.1 a x y z), fun f => (h2.2 f).trans (h1.2 f)⟩
theorem wq_set4 {ln : Nat → Nat} {s : dr_S} {b k : Nat} {v : Int32} (hL : dq_L ln) (hl : ln 14 = 260 * (4 * b + 8) + 1476) (h3 : s.2 403 = nI (4 * b + 8)) (h4 : s.2 204 = 0) (hk : k < 4 * b + 8) : ∃ s', f_X4_set ln (nI 0) (nI k) v s = some (0, s') ∧ nF s s' ∧ s'.1 14 = upd (s.1 14) (dp b 0 k) v := by
  obtain ⟨s', a1, a2, a3⟩ := wq_put (s := s) (p := 0 * (4 * b + 8) + k) (v := v) hL (by omega) h4
  refine ⟨s', ?_, a2, a3⟩
  unfold f_X4_set
  rw [h3, pk_mul, nI_add, a1]
  rfl
theorem q4_init {ln : Nat → Nat} {s : dr_S} {b : Nat} (hb : 2 ≤ b ∧ b ≤ 5) (hL : dq_L ln) (hl : ln 14 = 260 * (4 * b + 8) + 1476) (h3 : s.2 403 = nI (4 * b + 8)) (h5 : s.2 405 = nI (260 * (4 * b + 8))) (h6 : s.2 406 = nI (260 * (4 * b + 8) + 1)) (h4 : s.2 204 = 0) : ∃ s', f_X4_init ln s = some (0, s') ∧ nF s s' ∧ s'.1 14 = upd (upd (upd (upd (upd (upd (upd (upd (s.1 14) (260 * (4 * b + 8) + 1) 0) (260 * (4 * b + 8) + 1) 1) (dp b 0 0) 0) (dp b 0 1) 0) (dp b 0 2) (-1)) (dp b 0 3) (-1)) (dp b 0 4) (-1)) (260 * (4 * b + 8)) 0 := by
  obtain ⟨s1, a1, a2, a3⟩ := wq_put (s := s) (p := 260 * (4 * b + 8) + 1) (v := 0) hL (by omega) h4
  have g1 : f_X2_get ln (nI (260 * (4 * b + 8) + 1)) s1 = some (0, s1) := by rw [q_get hL (by omega), a3, q_updS]
  obtain ⟨s2, b1, b2, b3⟩ := wq_put (s := s1) (p := 260 * (4 * b + 8) + 1) (v := 1) hL (by omega) (by rw [a2.2]; exact h4)
  have F2 := nF_tr a2 b2
  obtain ⟨s3, c1, c2, c3⟩ := wq_set4 (s := s2) (b := b) (k := 0) (v := 0) hL hl (by rw [F2.2]; exact h3) (by rw [F2.2]; exact h4) (by omega)
  have F3 := nF_tr F2 c2
  obtain ⟨s4, d1, d2, d3⟩ := wq_set4 (s := s3) (b := b) (k := 1) (v := 0) hL hl (by rw [F3.2]; exact h3) (by rw [F3.2]; exact h4) (by omega)
  have F4 := nF_tr F3 d2
  obtain ⟨s5, e1, e2, e3⟩ := wq_set4 (s := s4) (b := b) (k := 2) (v := -1) hL hl (by rw [F4.2]; exact h3) (by rw [F4.2]; exact h4) (by omega)
  have F5 := nF_tr F4 e2
  obtain ⟨s6, f1, f2, f3⟩ := wq_set4 (s := s5) (b := b) (k := 3) (v := -1) hL hl (by rw [F5.2]; exact h3) (by rw [F5.2]; exact h4) (by omega)
  have F6 := nF_tr F5 f2
  obtain ⟨s7, g2, g3, g4⟩ := wq_set4 (s := s6) (b := b) (k := 4) (v := -1) hL hl (by rw [F6.2]; exact h3) (by rw [F6.2]; exact h4) (by omega)
  have F7 := nF_tr F6 g3
  obtain ⟨s8, k1, k2, k3⟩ := wq_put (s := s7) (p := 260 * (4 * b + 8)) (v := 0) hL (by omega) (by rw [F7.2]; exact h4)
  refine ⟨s8, ?_, nF_tr F7 k2, by rw [k3, g4, f3, e3, d3, c3, b3, a3]⟩
  unfold f_X4_init f_X4_clear f_X4_open f_X4_inUse f_X4_setTop
  rw [h6, a1, q_bv, q_bv, a2.2 406, h6, g1, q_bi, q_bi, if_pos (by decide), a2.2 406, h6, show (0 : Int32) + 1 = 1 from rfl, b1, q_bv, show f_X4_set ln 0 0 0 s2 = _ from c1, q_bv, show f_X4_set ln 0 1 0 s3 = _ from d1, q_bv, show f_X4_set ln 0 2 (-1) s4 = _ from e1, q_bv, show f_X4_set ln 0 3 (-1) s5 = _ from f1, q_bv, show f_X4_set ln 0 4 (-1) s6 = _ from g2, q_bv, q_bi, F7.2 405, h5, k1, q_bv, q_bv]
theorem wq_set3 {ln : Nat → Nat} {s : dr_S} {b c k : Nat} {v : Int32} (hL : dq_L ln) (hl : ln 14 = 260 * (4 * b + 8) + 1476) (h3 : s.2 301 = nI (260 * (4 * b + 8) + 2)) (h4 : s.2 204 = 0) (hc : c < 4) (hk : k < 128) : ∃ s', f_X3_set ln (nI c) (nI k) v s = some (0, s') ∧ nF s s' ∧ s'.1 14 = upd (s.1 14) (cp b c k) v := by
  obtain ⟨s', a1, a2, a3⟩ := wq_put (s := s) (p := 260 * (4 * b + 8) + 2 + c * 128 + k) (v := v) hL (by omega) h4
  refine ⟨s', ?_, a2, a3⟩
  unfold f_X3_set
  rw [h3, show (128 : Int32) = nI 128 from rfl, pk_mul, nI_add, nI_add, a1]
  rfl
theorem q3_init_p {ln : Nat → Nat} {b : Nat} (hL : dq_L ln) (hl : ln 14 = 260 * (4 * b + 8) + 1476) : ∀ (k fu i : Nat) (s : dr_S), 4 = i + k → k < fu → s.2 301 = nI (260 * (4 * b + 8) + 2) → s.2 204 = 0 → ∃ s', f_X3_init_p16 ln fu (nI i) s = some (0, s') ∧ nF s s' ∧ (∀ p, (∀ c, i ≤ c → c < 4 → ∀ k, k < 5 → p ≠ cp b c k) → s'.1 14 p = s.1 14 p) ∧ ∀ c, i ≤ c → c < 4 → s'.1 14 (cp b c 0) = 0 ∧ s'.1 14 (cp b c 1) = -1 ∧ s'.1 14 (cp b c 2) = -1 ∧ s'.1 14 (cp b c 3) = -1 ∧ s'.1 14 (cp b c 4) = -1
  | k, 0, _, _, _, q, _, _ => absurd q (Nat.not_lt_zero _)
  | 0, fu + 1, i, s, hk, hf, h3, h4 => by
    rw [f_X3_init_p16, if_pos (show (4 : Int32) ≤ nI i from nI_le (a := 4) (by omega) (by omega))]
    exact ⟨s, rfl, ⟨fun _ _ _ _ => rfl, fun _ => rfl⟩, fun _ _ => rfl, fun c h1 h2 => absurd h1 (by omega)⟩
  | k + 1, fu + 1, i, s, hk, hf, h3, h4 => by
    have hi : i < 4 := by omega
    obtain ⟨s1, a1, a2, a3⟩ := wq_set3 (s := s) (b := b) (c := i) (k := 2) (v := -1) hL hl h3 h4 hi (by omega)
    obtain ⟨s2, b1, b2, b3⟩ := wq_set3 (s := s1) (b := b) (c := i) (k := 0) (v := 0) hL hl (by rw [a2.2]; exact h3) (by rw [a2.2]; exact h4) hi (by omega)
    have F2 := nF_tr a2 b2
    obtain ⟨s3, c1, c2, c3⟩ := wq_set3 (s := s2) (b := b) (c := i) (k := 1) (v := -1) hL hl (by rw [F2.2]; exact h3) (by rw [F2.2]; exact h4) hi (by omega)
    have F3 := nF_tr F2 c2
    obtain ⟨s4, d1, d2, d3⟩ := wq_set3 (s := s3) (b := b) (c := i) (k := 3) (v := -1) hL hl (by rw [F3.2]; exact h3) (by rw [F3.2]; exact h4) hi (by omega)
    have F4 := nF_tr F3 d2
    obtain ⟨s5, e1, e2, e3⟩ := wq_set3 (s := s4) (b := b) (c := i) (k := 4) (v := -1) hL hl (by rw [F4.2]; exact h3) (by rw [F4.2]; exact h4) hi (by omega)
    have F5 := nF_tr F4 e2
    obtain ⟨s6, f1, f2, f3, f4⟩ := q3_init_p hL hl k fu (i + 1) s5 (by omega) (by omega) (by rw [F5.2]; exact h3) (by rw [F5.2]; exact h4)
    have er : f_X3_rest ln (nI i) s1 = some (0, s5) := by
      unfold f_X3_rest
      rw [show f_X3_set ln (nI i) 0 0 s1 = _ from b1, q_bv, show f_X3_set ln (nI i) 1 (-1) s2 = _ from c1, q_bv, show f_X3_set ln (nI i) 3 (-1) s3 = _ from d1, q_bv, show f_X3_set ln (nI i) 4 (-1) s4 = _ from e1, q_bv]
    have v : s5.1 14 = upd (upd (upd (upd (upd (s.1 14) (cp b i 2) (-1)) (cp b i 0) 0) (cp b i 1) (-1)) (cp b i 3) (-1)) (cp b i 4) (-1) := by rw [e3, d3, c3, b3, a3]
    have ne : ∀ x y, x ≠ y → cp b i x ≠ cp b i y := fun x y q z => by unfold cp at z; omega
    refine ⟨s6, ?_, nF_tr F5 f2, fun p hp => ?_, fun c h1 h2 => ?_⟩
    · rw [f_X3_init_p16, if_neg (show ¬ (4 : Int32) ≤ nI i from nI_ge (b := 4) (by omega) (by omega)), show f_X3_set ln (nI i) 2 (-1) s = _ from a1, q_bv, er, q_bv, q_let, nI_1]
      exact f1
    · have hq := hp i (Nat.le_refl _) hi
      rw [f3 p (fun c x y z w => hp c (by omega) y z w), v, q_updO (hq 4 (by omega)), q_updO (hq 3 (by omega)), q_updO (hq 1 (by omega)), q_updO (hq 0 (by omega)), q_updO (hq 2 (by omega))]
    · by_cases e : c = i
      · subst e
        have o : ∀ x, x < 5 → s6.1 14 (cp b c x) = s5.1 14 (cp b c x) := fun x hx => f3 _ (fun d y z w hw q => by unfold cp at q; omega)
        refine ⟨?_, ?_, ?_, ?_, ?_⟩
        · rw [o 0 (by omega), v, q_updO (ne 0 4 (by omega)), q_updO (ne 0 3 (by omega)), q_updO (ne 0 1 (by omega)), q_updS]
        · rw [o 1 (by omega), v, q_updO (ne 1 4 (by omega)), q_updO (ne 1 3 (by omega)), q_updS]
        · rw [o 2 (by omega), v, q_updO (ne 2 4 (by omega)), q_updO (ne 2 3 (by omega)), q_updO (ne 2 1 (by omega)), q_updO (ne 2 0 (by omega)), q_updS]
        · rw [o 3 (by omega), v, q_updO (ne 3 4 (by omega)), q_updS]
        · rw [o 4 (by omega), v, q_updS]
      · exact f4 c (by omega) h2
/-- the reference's -/
theorem qm_init_c {ln : Nat → Nat} (L : dq_ML ln) : ∀ (k fu i : Nat) (s : dr_S), 4 = i + k → k < fu → ∃ s', f_X12_init_p436 ln fu (nI i) s = some (0, s') ∧ s'.2 = s.2 ∧ (∀ a, a ≠ 41 → a ≠ 43 → s'.1 a = s.1 a) ∧ (∀ c, i ≤ c → c < 4 → s'.1 41 c = -1 ∧ s'.1 43 c = -1) ∧ (∀ c, c < i → s'.1 41 c = s.1 41 c ∧ s'.1 43 c = s.1 43 c)
  | k, 0, _, _, _, q => absurd q (Nat.not_lt_zero _)
  | 0, fu + 1, i, s, hk, hf => by
    rw [f_X12_init_p436, if_pos (show (4 : Int32) ≤ nI i from nI_le (a := 4) (by omega) (by omega))]
    exact ⟨s, rfl, rfl, fun _ _ _ => rfl, fun c h1 h2 => absurd h1 (by omega), fun _ _ => ⟨rfl, rfl⟩⟩
  | k + 1, fu + 1, i, s, hk, hf => by
    rw [f_X12_init_p436, if_neg (show ¬ (4 : Int32) ≤ nI i from nI_ge (b := 4) (by omega) (by omega)), m_wrb L 41 4 rfl (by decide) (by decide) (by omega), m_wrb L 43 4 rfl (by decide) (by decide) (by omega), q_let, nI_1]
    obtain ⟨s', a1, a2, a3, a4, a5⟩ := qm_init_c L k fu (i + 1) (dr_put (dr_put s 41 i (-1)) 43 i (-1)) (by omega) (by omega)
    refine ⟨s', a1, a2, fun a x y => by rw [a3 a x y, q_putO y, q_putO x], fun c h1 h2 => ?_, fun c hc => ?_⟩
    · by_cases e : c = i
      · subst e
        obtain ⟨x1, x2⟩ := a5 c (by omega)
        exact ⟨x1.trans (q_updS _ _ _), x2.trans (q_updS _ _ _)⟩
      · exact a4 c (by omega) h2
    · obtain ⟨x1, x2⟩ := a5 c (by omega)
      exact ⟨x1.trans (q_updO (by omega)), x2.trans (q_updO (by omega))⟩
theorem qm_init_p {ln : Nat → Nat} (L : dq_ML ln) : ∀ (k fu i : Nat) (s : dr_S), 256 = i + k → k < fu → ∃ s1, f_X12_init_p409 ln fu (nI i) s = (dr_wz ln s1 30 0 1).bind (fun s1 => f_X12_init_p436 ln dr_N 0 s1) ∧ clr s s1 i
  | k, 0, _, _, _, q => absurd q (Nat.not_lt_zero _)
  | 0, fu + 1, i, s, hk, hf => by
    rw [f_X12_init_p409, if_pos (show (256 : Int32) ≤ nI i from nI_le (a := 256) (by omega) (by omega))]
    exact ⟨s, rfl, clr_rf s (by omega)⟩
  | k + 1, fu + 1, i, s, hk, hf => by
    rw [f_X12_init_p409, if_neg (show ¬ (256 : Int32) ≤ nI i from nI_ge (b := 256) (by omega) (by omega)), qm_clears L (by omega), q_bv, q_let, nI_1]
    obtain ⟨s1, a1, a2⟩ := qm_init_p L k fu (i + 1) _ (by omega) (by omega)
    exact ⟨s1, a1, clr_step a2⟩

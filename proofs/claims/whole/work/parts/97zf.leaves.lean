/-! 97zf: a night, of the class: drawers as they are built, leaves -/
def nF (s0 s : dr_S) : Prop := (∀ a, a ≠ 14 → a ≠ 15 → a ≠ 16 → s.1 a = s0.1 a) ∧ (∀ f, s.2 f = s0.2 f)
theorem nF_C {s0 s s' : dr_S} {g : Nat → Int32} {k : Nat} (F : nF s0 s) (h4 : s.2 204 = 0) (C : dq_C s s' g k) : nF s0 s' := ⟨fun a x y z => (C.2.1 a x y z).trans (F.1 a x y z), fun f => by
  by_cases e : f = 203
  · rw [e, C.2.2.2.2.2 h4]
    exact F.2 203
  · rw [C.2.2.1 f e]
    exact F.2 f⟩
def nS (b : Nat) (ln : Nat → Nat) (s0 s : dr_S) (u : Nat) (D : Nat → sg_D) : Prop := dq_G b ln s ∧ s.2 204 = 0 ∧ nF s0 s ∧ s.1 14 (260 * (4 * b + 8) + 1) = nI u ∧ (∀ d, d < u → (rp_row (s.1 14) b d (D d) ∧ s.1 14 (dp b d 4) = -1) ∧ rw_ok b (D d)) ∧ (∀ p, 256 * (4 * b + 8) ≤ p → p ≠ 260 * (4 * b + 8) → p ≠ 260 * (4 * b + 8) + 1 → s.1 14 p = s0.1 14 p)
def nS2 (b : Nat) (ln : Nat → Nat) (s0 s : dr_S) (u : Nat) (D : Nat → sg_D) (x : sg_D) : Prop := dq_G b ln s ∧ s.2 204 = 0 ∧ nF s0 s ∧ s.1 14 (260 * (4 * b + 8) + 1) = nI (u + 1) ∧ (∀ d, d < u → (rp_row (s.1 14) b d (D d) ∧ s.1 14 (dp b d 4) = -1) ∧ rw_ok b (D d)) ∧ (rp_row (s.1 14) b u x ∧ s.1 14 (dp b u 4) = -1) ∧ (∀ p, 256 * (4 * b + 8) ≤ p → p ≠ 260 * (4 * b + 8) → p ≠ 260 * (4 * b + 8) + 1 → s.1 14 p = s0.1 14 p)
theorem nS_close {b : Nat} {ln : Nat → Nat} {s0 s : dr_S} {u : Nat} {D : Nat → sg_D} {x : sg_D} (h : nS2 b ln s0 s u D x) (e : D u = x) (hx : rw_ok b x) : nS b ln s0 s (u + 1) D := by
  obtain ⟨h1, h2, h3, h4, h5, h6, h7⟩ := h
  refine ⟨h1, h2, h3, h4, fun d hd => ?_, h7⟩
  by_cases q : d = u
  · rw [q, e]
    exact ⟨h6, hx⟩
  · exact h5 d (by omega)
theorem dp_256 {b d k : Nat} (hd : d < 256) (hk : k < 4 * b + 8) : dp b d k < 256 * (4 * b + 8) := by
  have h1 := dp_in (b := b) (d := d) hk
  have h2 : (d + 1) * (4 * b + 8) ≤ 256 * (4 * b + 8) := Nat.mul_le_mul_right _ (by omega)
  omega
theorem nS2_w {b : Nat} {ln : Nat → Nat} {s0 s s' : dr_S} {u k : Nat} {D : Nat → sg_D} {x y : sg_D} {g : Nat → Int32} (h : nS2 b ln s0 s u D x) (hu : u < 256) (C : dq_C s s' g k) (ho : ∀ p, (∀ i, i < 4 * b + 8 → p ≠ dp b u i) → g p = s.1 14 p) (hy : rp_row g b u y) (hla : g (dp b u 4) = -1) : nS2 b ln s0 s' u D y := by
  obtain ⟨h1, h2, h3, h4, h5, h6, h7⟩ := h
  have big : ∀ p, 256 * (4 * b + 8) ≤ p → g p = s.1 14 p := fun p hp => ho p (fun i hi => by
    have := dp_256 (b := b) hu hi
    omega)
  have hb := h1.1
  refine ⟨q_GC h1 C, (C.2.2.1 204 (by decide)).trans h2, nF_C h3 h2 C, ?_, fun d hd => ?_, ?_, fun p a1 a2 a3 => ?_⟩
  · rw [C.1, big _ (by omega)]
    exact h4
  · rw [C.1]
    obtain ⟨⟨r1, r2⟩, r3⟩ := h5 d hd
    have row : ∀ i, i < 4 * b + 8 → g (dp b d i) = s.1 14 (dp b d i) := fun i hi => ho _ (fun j hj => dp_ne (by omega) hi hj)
    exact ⟨⟨rp_row_fr r1 r3 (fun i hi _ => row i hi), (row 4 (by omega)).trans r2⟩, r3⟩
  · rw [C.1]
    exact ⟨hy, hla⟩
  · rw [C.1, big p a1]
    exact h7 p a1 a2 a3
theorem nS_open {b : Nat} {ln : Nat → Nat} {s0 s : dr_S} {u lev : Nat} {D : Nat → sg_D} (h : nS b ln s0 s u D) (hu : u < 256) : ∃ s', f_X4_open ln (nI lev) s = some (nI u, s') ∧ nS2 b ln s0 s' u D (lev, [], [], none, none, none) := by
  obtain ⟨h1, h2, h3, h4, h5, h7⟩ := h
  obtain ⟨s', a1, C⟩ := q4_open (u := u) (lev := nI lev) h1 h4 hu (Or.inl h2)
  have hb := h1.1
  have ne : ∀ i j, i ≠ j → dp b u i ≠ dp b u j := fun i j q z => by unfold dp at z; omega
  have nu : ∀ i, i < 4 * b + 8 → dp b u i ≠ 260 * (4 * b + 8) + 1 := fun i hi z => by have := dp_256 (b := b) hu hi; omega
  have out : ∀ p, (∀ i, i < 4 * b + 8 → p ≠ dp b u i) → p ≠ 260 * (4 * b + 8) + 1 → s'.1 14 p = s.1 14 p := fun p hp q => by
    rw [C.1]
    unfold dq_open
    rw [q_updO (hp 4 (by omega)), q_updO (hp 3 (by omega)), q_updO (hp 2 (by omega)), q_updO (hp 1 (by omega)), q_updO (hp 0 (by omega)), q_updO q]
  refine ⟨s', a1, q_GC h1 C, (C.2.2.1 204 (by decide)).trans h2, nF_C h3 h2 C, ?_, fun d hd => ?_, ⟨⟨?_, ?_, ?_, ?_, fun k g hk => (by cases hk), fun _ k g hk => (by cases hk)⟩, ?_⟩, fun p x y z => ?_⟩
  · rw [C.1]
    unfold dq_open
    rw [q_updO (fun q => nu 4 (by omega) q.symm), q_updO (fun q => nu 3 (by omega) q.symm), q_updO (fun q => nu 2 (by omega) q.symm), q_updO (fun q => nu 1 (by omega) q.symm), q_updO (fun q => nu 0 (by omega) q.symm), q_updS]
  · obtain ⟨⟨r1, r2⟩, r3⟩ := h5 d hd
    have row : ∀ i, i < 4 * b + 8 → s'.1 14 (dp b d i) = s.1 14 (dp b d i) := fun i hi => out _ (fun j hj => dp_ne (by omega) hi hj) (fun q => by have := dp_256 (b := b) (d := d) (by omega) hi; omega)
    exact ⟨⟨rp_row_fr r1 r3 (fun i hi _ => row i hi), (row 4 (by omega)).trans r2⟩, r3⟩
  · rw [C.1]
    unfold dq_open
    rw [q_updO (ne 0 4 (by omega)), q_updO (ne 0 3 (by omega)), q_updO (ne 0 2 (by omega)), q_updO (ne 0 1 (by omega)), q_updS]
    rfl
  · rw [C.1]
    unfold dq_open
    rw [q_updO (ne 1 4 (by omega)), q_updO (ne 1 3 (by omega)), q_updO (ne 1 2 (by omega)), q_updS]
    rfl
  · rw [C.1]
    unfold dq_open
    rw [q_updO (ne 2 4 (by omega)), q_updO (ne 2 3 (by omega)), q_updS]
    rfl
  · rw [C.1]
    unfold dq_open
    rw [q_updO (ne 3 4 (by omega)), q_updS]
    rfl
  · rw [C.1]
    unfold dq_open
    rw [q_updS]
  · rw [out p (fun i hi q => by have := dp_256 (b := b) hu hi; omega) z]
    exact h7 p x y z
theorem nS2_addH {b : Nat} {ln : Nat → Nat} {s0 s : dr_S} {u h : Nat} {D : Nat → sg_D} {x : sg_D} (hS : nS2 b ln s0 s u D x) (hu : u < 256) (hl : (dv_hs x).length ≤ 2 * b) : ∃ s', f_X4_addHeading ln (nI u) (nI h) s = some (0, s') ∧ nS2 b ln s0 s' u D (dv_lev x, dv_hs x ++ [h], dv_cs x, dv_hi x, dv_th x, dv_la x) := by
  obtain ⟨h1, h2, h3, h4, h5, h6, h7⟩ := id hS
  obtain ⟨s', a1, C⟩ := q4_addHeading (d := u) (z := (dv_hs x).length) (v := nI h) h1 (by omega) h6.1.2.1 hl (Or.inl h2)
  refine ⟨s', a1, nS2_w hS hu C (fun p hp => by rw [q_updO (hp 1 (by omega)), q_updO (hp _ (by omega))]) (row_addH h6.1 hl) ?_⟩
  rw [q_updO (fun q => by unfold dp at q; omega), q_updO (fun q => by unfold dp at q; omega)]
  exact h6.2
theorem nS2_addC {b : Nat} {ln : Nat → Nat} {s0 s : dr_S} {u c k : Nat} {D : Nat → sg_D} {x : sg_D} (hS : nS2 b ln s0 s u D x) (hu : u < 256) (hl : (dv_hs x).length ≤ 2 * b + 1) (hk : (dv_cs x).length = k) (hk2 : k ≤ 2 * b + 1) : ∃ s', f_X4_setChild ln (nI u) (nI k) (nI c) s = some (0, s') ∧ nS2 b ln s0 s' u D (dv_lev x, dv_hs x, dv_cs x ++ [c], dv_hi x, dv_th x, dv_la x) := by
  obtain ⟨h1, h2, h3, h4, h5, h6, h7⟩ := id hS
  obtain ⟨s', a1, C⟩ := q4_setChild (d := u) (k := k) (v := nI c) h1 (by omega) hk2 (Or.inl h2)
  refine ⟨s', a1, nS2_w hS hu C (fun p hp => by rw [q_updO (hp _ (by omega))]) (by rw [← hk]; exact row_addC h6.1 hl) ?_⟩
  rw [q_updO (fun q => by unfold dp at q; omega)]
  exact h6.2
theorem nS2_set2 {b : Nat} {ln : Nat → Nat} {s0 s : dr_S} {u : Nat} {D : Nat → sg_D} {x : sg_D} {v : Option Nat} (hS : nS2 b ln s0 s u D x) (hu : u < 256) : ∃ s', f_X4_set ln (nI u) 2 (nO v) s = some (0, s') ∧ nS2 b ln s0 s' u D (dv_lev x, dv_hs x, dv_cs x, v, dv_th x, dv_la x) := by
  obtain ⟨h1, h2, h3, h4, h5, h6, h7⟩ := id hS
  have hb := h1.1
  obtain ⟨s', a1, C⟩ := q4_set (d := u) (k := 2) (v := nO v) h1 (by omega) (by omega) (Or.inl h2)
  obtain ⟨⟨x0, x1, x2, x3, x4, x5⟩, x6⟩ := h6
  have ne : ∀ i, i ≠ 2 → upd (s.1 14) (dp b u 2) (nO v) (dp b u i) = s.1 14 (dp b u i) := fun i hi => q_updO (fun q => by unfold dp at q; omega)
  exact ⟨s', a1, nS2_w hS hu C (fun p hp => q_updO (hp _ (by omega))) ⟨(ne 0 (by omega)).trans x0, (ne 1 (by omega)).trans x1, q_updS _ _ _, (ne 3 (by omega)).trans x3, fun k g hk => (ne _ (by omega)).trans (x4 k g hk), fun hl k g hk => (ne _ (by omega)).trans (x5 hl k g hk)⟩ ((ne 4 (by omega)).trans x6)⟩
theorem nS2_set3 {b : Nat} {ln : Nat → Nat} {s0 s : dr_S} {u : Nat} {D : Nat → sg_D} {x : sg_D} {v : Option Nat} (hS : nS2 b ln s0 s u D x) (hu : u < 256) : ∃ s', f_X4_set ln (nI u) 3 (nO v) s = some (0, s') ∧ nS2 b ln s0 s' u D (dv_lev x, dv_hs x, dv_cs x, dv_hi x, v, dv_la x) := by
  obtain ⟨h1, h2, h3, h4, h5, h6, h7⟩ := id hS
  have hb := h1.1
  obtain ⟨s', a1, C⟩ := q4_set (d := u) (k := 3) (v := nO v) h1 (by omega) (by omega) (Or.inl h2)
  obtain ⟨⟨x0, x1, x2, x3, x4, x5⟩, x6⟩ := h6
  have ne : ∀ i, i ≠ 3 → upd (s.1 14) (dp b u 3) (nO v) (dp b u i) = s.1 14 (dp b u i) := fun i hi => q_updO (fun q => by unfold dp at q; omega)
  exact ⟨s', a1, nS2_w hS hu C (fun p hp => q_updO (hp _ (by omega))) ⟨(ne 0 (by omega)).trans x0, (ne 1 (by omega)).trans x1, (ne 2 (by omega)).trans x2, q_updS _ _ _, fun k g hk => (ne _ (by omega)).trans (x4 k g hk), fun hl k g hk => (ne _ (by omega)).trans (x5 hl k g hk)⟩ ((ne 4 (by omega)).trans x6)⟩
theorem q1_kthS {ln : Nat → Nat} {s0 s : dr_S} {H : List Nat} {j : Nat} (l13 : ln 13 = 120) (hs : srt_C s0 H) (hn : H.length ≤ 120) (F : nF s0 s) (hj : j < H.length) : f_X1_kthSorted ln (nI j) s = some (nI (H.getD j 0), s) := by
  unfold f_X1_kthSorted
  rw [if_neg (nI_pos (by omega)), F.2 103, hs.1, if_neg (nI_ge hj (by omega)), l13, if_neg (show ¬ Int32.ofNat 120 ≤ nI j from nI_ge (b := 120) (by omega) (by omega)), q_rd (by omega) (by omega), Option.bind_some, F.1 13 (by decide) (by decide) (by decide), hs.2 j hj]
/-- the cards of a leaf -/
theorem q0_leaf_p {ln : Nat → Nat} {b : Nat} {s0 : dr_S} {H : List Nat} {f i u base : Nat} {D : Nat → sg_D} {kb : Int32 → Int32 → Int32 → Int32 → dr_S → Option (Int32 × dr_S)} (l13 : ln 13 = 120) (hs : srt_C s0 H) (hn : H.length ≤ 120) (hf : f ≤ 2 * b) (hb : b ≤ 5) (hu : u < 256) : ∀ (j fu k : Nat) (s : dr_S), f = k + j → j < fu → base + k ≤ H.length → nS2 b ln s0 s u D (0, (H.drop base).take k, [], none, none, none) → ∃ s', f_X0_buildLeaves_p36 ln kb fu (nI H.length) (nI f) (nI (base + k)) (nI i) (nI u) (nI k) s = f_X0_buildLeaves_p73 ln kb (nI H.length) (nI f) (nI (min (base + f) H.length)) (nI i) (nI u) s' ∧ nS2 b ln s0 s' u D (0, (H.drop base).take f, [], none, none, none)
  | j, 0, _, _, _, q, _, _ => absurd q (Nat.not_lt_zero _)
  | 0, fu + 1, k, s, hk, hfu, hkn, hS => by
    have e : k = f := by omega
    rw [f_X0_buildLeaves_p36, if_pos (nI_le (by omega) (by omega)), e, show min (base + f) H.length = base + f by omega]
    rw [e] at hS
    exact ⟨s, rfl, hS⟩
  | j + 1, fu + 1, k, s, hk, hfu, hkn, hS => by
    rw [f_X0_buildLeaves_p36, if_neg (nI_ge (by omega) (by omega))]
    by_cases e : base + k = H.length
    · rw [if_pos (nI_le (by omega) (by omega)), show min (base + f) H.length = base + k by omega]
      refine ⟨s, rfl, ?_⟩
      have : (H.drop base).take f = (H.drop base).take k := by
        rw [List.take_of_length_le (by rw [List.length_drop]; omega), List.take_of_length_le (by rw [List.length_drop]; omega)]
      rw [this]
      exact hS
    · rw [if_neg (nI_ge (by omega) (by omega)), q1_kthS l13 hs hn hS.2.2.1 (by omega), q_bi]
      have hlen : (dv_hs (0, (H.drop base).take k, [], none, none, none)).length = k := by
        show ((H.drop base).take k).length = k
        rw [List.length_take, List.length_drop]
        omega
      obtain ⟨s1, a1, a2⟩ := nS2_addH (h := H.getD (base + k) 0) hS hu (by rw [hlen]; omega)
      rw [a1, q_bv, q_let, nI_1, q_let, nI_1]
      have et : (H.drop base).take (k + 1) = (H.drop base).take k ++ [H.getD (base + k) 0] := by
        rw [List.take_succ, List.getElem?_drop, List.getElem?_eq_getElem (show base + k < H.length by omega), gDe (show base + k < H.length by omega)]
        rfl
      have := q0_leaf_p (base := base) (i := i) (D := D) (kb := kb) l13 hs hn hf hb hu j fu (k + 1) s1 (by omega) (by omega) (by omega) (by rw [et]; exact a2)
      rw [← Nat.add_assoc] at this
      exact this
theorem q0_leaves_p {ln : Nat → Nat} {b : Nat} {s0 : dr_S} {H : List Nat} {f : Nat} (l13 : ln 13 = 120) (hs : srt_C s0 H) (hn : H.length ≤ 120) (hb : 2 ≤ b ∧ b ≤ 5) (hf1 : b ≤ f) (hf2 : f ≤ 2 * b) : ∀ (j fu i : Nat) (s : dr_S), n_nl H.length f = i + j → j < fu → nS b ln s0 s i (n_D0 H f) → ∃ s', f_X0_buildLeaves_p5 ln fu (nI H.length) (nI f) (nI (min (i * f) H.length)) (nI i) s = some (nI (n_nl H.length f), s') ∧ nS b ln s0 s' (n_nl H.length f) (n_D0 H f)
  | j, 0, _, _, _, q, _ => absurd q (Nat.not_lt_zero _)
  | 0, fu + 1, i, s, hi, hfu, hS => by
    have hg : 1 ≤ f := by omega
    obtain ⟨p1, p2, p3⟩ := nl_p (n := H.length) hg
    have hb2 := nl_b (n := H.length) (g := f) (c := 2) (by omega) hg
    have e : i = n_nl H.length f := by omega
    rw [← e] at p2
    rw [f_X0_buildLeaves_p5, if_neg (show ¬ (256 : Int32) ≤ nI i from nI_ge (b := 256) (by omega) (by omega)), if_neg (show ¬ nI i = (0 : Int32) from nI_ne0 (by omega) (by omega)), if_pos (nI_le (by omega) (by omega))]
    unfold f_X0_buildLeaves_p118
    rw [q4_inUse hS.1, q_bi, hS.2.2.2.1, e]
    rw [e] at hS
    exact ⟨s, rfl, hS⟩
  | j + 1, fu + 1, i, s, hi, hfu, hS => by
    have hg : 1 ≤ f := by omega
    obtain ⟨p1, p2, p3⟩ := nl_p (n := H.length) hg
    have hb2 := nl_b (n := H.length) (g := f) (c := 2) (by omega) hg
    have h0 := nl_0 (n := H.length) (g := f) (i := i) hg (by omega)
    have hbase : i * f ≤ H.length := by
      rcases h0 with q | q
      · rw [q, Nat.zero_mul]; omega
      · omega
    have hu : i < 256 := by omega
    have nx := fun q => nl_i (n := H.length) (g := f) (i := i) hg q
    have ne := fun q => nl_e (n := H.length) (g := f) (i := i) hg q
    have em : min ((i + 1) * f) H.length = min (i * f + f) H.length := by rw [Nat.add_mul, Nat.one_mul]
    rw [Nat.add_mul, Nat.one_mul] at nx ne
    rw [show min (i * f) H.length = i * f by omega]
    -- the leaf
    have leaf : ∃ s', f_X0_buildLeaves_p23 ln (f_X0_buildLeaves_p5 ln fu) (nI H.length) (nI f) (nI (i * f)) (nI i) s = some (nI (n_nl H.length f), s') ∧ nS b ln s0 s' (n_nl H.length f) (n_D0 H f) := by
      obtain ⟨s1, a1, a2⟩ := nS_open (lev := 0) hS hu
      obtain ⟨s2, b1, b2⟩ := q0_leaf_p (base := i * f) (i := i) (u := i) (D := n_D0 H f) (kb := f_X0_buildLeaves_p5 ln fu) l13 hs hn hf2 hb.2 hu f dr_N 0 s1 (by omega) (by unfold dr_N; omega) (by omega) (by rw [List.take_zero]; exact a2)
      unfold f_X0_buildLeaves_p23
      rw [show f_X4_open ln 0 s = _ from a1, q_bi]
      rw [Nat.add_zero] at b1
      rw [show f_X0_buildLeaves_p36 ln (f_X0_buildLeaves_p5 ln fu) dr_N (nI H.length) (nI f) (nI (i * f)) (nI i) (nI i) 0 s1 = _ from b1]
      unfold f_X0_buildLeaves_p73 f_X0_buildLeaves_p112
      have hrw : ∀ hi th : Option Nat, rw_ok b (0, (H.drop (i * f)).take f, [], hi, th, none) := fun hi th => ⟨by show ((H.drop (i * f)).take f).length ≤ 2 * b + 1; rw [List.length_take]; omega, Nat.zero_le _⟩
      by_cases q : i + 1 < n_nl H.length f
      · have nx := nx q
        rw [show min (i * f + f) H.length = i * f + f by omega] at *
        rw [if_neg (nI_ge (by omega) (by omega)), show nI (i * f + f) - 1 = nI (i * f + f - 1) by rw [show i * f + f = (i * f + f - 1) + 1 by omega, nI_pred, Nat.add_sub_cancel], q1_kthS l13 hs hn b2.2.2.1 (by omega), q_bi]
        obtain ⟨s3, c1, c2⟩ := nS2_set2 (v := some (H.getD (i * f + f - 1) 0)) b2 hu
        obtain ⟨s4, d1, d2⟩ := nS2_set3 (v := some (i + 1)) c2 hu
        rw [show f_X4_set ln (nI i) 2 (nI (H.getD (i * f + f - 1) 0)) s2 = _ from c1, q_bv, nI_1, show f_X4_set ln (nI i) 3 (nI (i + 1)) s3 = _ from d1, q_bv, q_let, ← em]
        have eD : n_D0 H f i = (0, (H.drop (i * f)).take f, [], some (H.getD (i * f + f - 1) 0), some (i + 1), none) := by
          have el : ((H.drop (i * f)).take f).getLast? = some (H.getD (i * f + f - 1) 0) := by
            rw [List.getLast?_eq_getElem?, List.length_take, List.length_drop, show min f (H.length - i * f) - 1 = f - 1 by omega, List.getElem?_take_of_lt (by omega), List.getElem?_drop, show i * f + (f - 1) = i * f + f - 1 by omega, List.getElem?_eq_getElem (show i * f + f - 1 < H.length by omega), gDe (show i * f + f - 1 < H.length by omega)]
          show (0, (H.drop (i * f)).take f, [], (if i + 1 < n_nl H.length f then ((H.drop (i * f)).take f).getLast? else none), (if i + 1 < n_nl H.length f then some (i + 1) else none), none) = _
          rw [if_pos q, if_pos q, el]
        exact q0_leaves_p l13 hs hn hb hf1 hf2 j fu (i + 1) s4 (by omega) (by omega) (nS_close d2 eD (hrw _ _))
      · have ne := ne q
        rw [if_pos (nI_le (by omega) (by omega)), q_let, nI_1, ← em]
        have eD : n_D0 H f i = (0, (H.drop (i * f)).take f, [], none, none, none) := by
          show (0, (H.drop (i * f)).take f, [], (if i + 1 < n_nl H.length f then ((H.drop (i * f)).take f).getLast? else none), (if i + 1 < n_nl H.length f then some (i + 1) else none), none) = _
          rw [if_neg q, if_neg q]
        exact q0_leaves_p l13 hs hn hb hf1 hf2 j fu (i + 1) s2 (by omega) (by omega) (nS_close b2 eD (hrw _ _))
    rw [f_X0_buildLeaves_p5, if_neg (show ¬ (256 : Int32) ≤ nI i from nI_ge (b := 256) (by omega) (by omega))]
    by_cases e0 : i = 0
    · rw [if_pos (show nI i = (0 : Int32) by rw [e0]; rfl)]
      exact leaf
    · rw [if_neg (show ¬ nI i = (0 : Int32) from nI_ne0 (by omega) (by omega)), if_neg (nI_ge (by
        rcases h0 with q | q
        · omega
        · exact q) (by omega))]
      exact leaf

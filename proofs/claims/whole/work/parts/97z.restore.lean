/-! 97z: what was saved comes back -/
def svd (s1 s : dr_S) (nj : Nat) : Prop :=
  (∀ d, d < 256 → s1.1 65 d = vp_nar .boolean (s.1 30 d) ∧ s1.1 66 (5 * d) = s.1 31 d ∧ s1.1 66 (5 * d + 1) = s.1 32 d ∧ s1.1 66 (5 * d + 2) = s.1 35 d ∧ s1.1 66 (5 * d + 3) = s.1 36 d ∧ s1.1 66 (5 * d + 4) = s.1 37 d) ∧
  (∀ d, d < 3584 → s1.1 67 d = s.1 33 d ∧ s1.1 68 d = s.1 34 d) ∧
  (∀ d, d < 4 → s1.1 69 (8 * d) = s.1 39 d ∧ s1.1 69 (8 * d + 1) = s.1 40 d ∧ s1.1 69 (8 * d + 2) = s.1 42 d ∧ s1.1 69 (8 * d + 3) = s.1 43 d ∧ s1.1 69 (8 * d + 4) = s.1 45 d ∧ s1.1 69 (8 * d + 5) = s.1 48 d ∧ s1.1 69 (8 * d + 6) = s.1 49 d) ∧
  (∀ d, d < 256 → s1.1 70 d = s.1 44 d) ∧ (∀ d, d < 56 → s1.1 71 d = s.1 46 d ∧ s1.1 72 d = s.1 47 d) ∧
  (∀ d, d < nj → s1.1 73 (3 * d) = s.1 52 d ∧ s1.1 73 (3 * d + 1) = s.1 54 d ∧ s1.1 73 (3 * d + 2) = s.1 55 d) ∧ (s1.2 1255 = s.2 1204 ∧ s1.2 1256 = s.2 1205 ∧ s1.2 1257 = s.2 1234)
theorem svd_fr {s1 s2 s : dr_S} {nj : Nat} (h : svd s1 s nj) (ha : ∀ a, 65 ≤ a → a ≤ 73 → s2.1 a = s1.1 a) (hf : ∀ f, 1255 ≤ f → s2.2 f = s1.2 f) : svd s2 s nj := by
  unfold svd
  rw [ha 65 (by omega) (by omega), ha 66 (by omega) (by omega), ha 67 (by omega) (by omega), ha 68 (by omega) (by omega), ha 69 (by omega) (by omega), ha 70 (by omega) (by omega), ha 71 (by omega) (by omega), ha 72 (by omega) (by omega), ha 73 (by omega) (by omega), hf 1255 (by omega), hf 1256 (by omega), hf 1257 (by omega)]
  exact h
theorem qm_saves {ln : Nat → Nat} {s : dr_S} {r : sg_R} (hM : rp_M ln s r) (hnj : rm_nj r ≤ 120) : ∃ s1, f_X12_saves ln s = some (0, s1) ∧ (∀ a, (a < 65 ∨ 73 < a) → s1.1 a = s.1 a) ∧ (∀ f, f < 1255 → s1.2 f = s.2 f) ∧ svd s1 s (rm_nj r) := by
  have L := mM_L hM
  obtain ⟨s1, a1, a2, a3, a4, _⟩ := sv_d L 256 dr_N 0 s (by omega) (by unfold dr_N; omega)
  obtain ⟨s2, b1, b2, b3, b4, _⟩ := sv_3584 L 3584 dr_N 0 s1 (by omega) (by unfold dr_N; omega)
  obtain ⟨s3, c1, c2, c3, c4, _⟩ := sv_4 L 4 dr_N 0 s2 (by omega) (by unfold dr_N; omega)
  obtain ⟨s4, d1, d2, d3, d4, _⟩ := sv_256 L 256 dr_N 0 s3 (by omega) (by unfold dr_N; omega)
  obtain ⟨s5, e1, e2, e3, e4, _⟩ := sv_56 L 56 dr_N 0 s4 (by omega) (by unfold dr_N; omega)
  have f5 : s5.2 = s.2 := by rw [e2, d2, c2, b2, a2]
  obtain ⟨s6, g1, g2, g3, g4, g5, _⟩ := sv_j L hnj (rm_nj r) dr_N 0 s5 (by omega) (by unfold dr_N; omega) (by rw [f5]; exact mM_nj hM)
  rw [f5] at g2 g3
  -- the arrays that are read were not written
  have r5 : ∀ a, a < 65 → s5.1 a = s.1 a := fun a h => by rw [e3 a (by omega) (by omega), d3 a (by omega), c3 a (by omega), b3 a (by omega) (by omega), a3 a (by omega) (by omega)]
  have r4 : ∀ a, a < 65 → s4.1 a = s.1 a := fun a h => by rw [d3 a (by omega), c3 a (by omega), b3 a (by omega) (by omega), a3 a (by omega) (by omega)]
  have r3 : ∀ a, a < 65 → s3.1 a = s.1 a := fun a h => by rw [c3 a (by omega), b3 a (by omega) (by omega), a3 a (by omega) (by omega)]
  have r2 : ∀ a, a < 65 → s2.1 a = s.1 a := fun a h => by rw [b3 a (by omega) (by omega), a3 a (by omega) (by omega)]
  have r1 : ∀ a, a < 65 → s1.1 a = s.1 a := fun a h => by rw [a3 a (by omega) (by omega)]
  refine ⟨s6, ?_, fun a h => ?_, fun f h => g2 f (by omega) (by omega) (by omega), fun d hd => ?_, fun d hd => ?_, fun d hd => ?_, fun d hd => ?_, fun d hd => ?_, fun d hd => ?_, g3⟩
  · unfold f_X12_saves
    rw [show f_X12_saves_p2 ln dr_N 0 s = _ from a1, show f_X12_saves_p107 ln dr_N 0 s1 = _ from b1, show f_X12_saves_p146 ln dr_N 0 s2 = _ from c1, show f_X12_saves_p277 ln dr_N 0 s3 = _ from d1, show f_X12_saves_p304 ln dr_N 0 s4 = _ from e1]
    exact g1
  · rw [g4 a (by omega), e3 a (by omega) (by omega), d3 a (by omega), c3 a (by omega), b3 a (by omega) (by omega), a3 a (by omega) (by omega)]
  · have z := a4 d (Nat.zero_le _) hd
    rw [g4 65 (by decide), g4 66 (by decide), e3 65 (by decide) (by decide), e3 66 (by decide) (by decide), d3 65 (by decide), d3 66 (by decide), c3 65 (by decide), c3 66 (by decide), b3 65 (by decide) (by decide), b3 66 (by decide) (by decide)]
    exact z
  · have z := b4 d (Nat.zero_le _) hd
    rw [r1 33 (by decide), r1 34 (by decide)] at z
    rw [g4 67 (by decide), g4 68 (by decide), e3 67 (by decide) (by decide), e3 68 (by decide) (by decide), d3 67 (by decide), d3 68 (by decide), c3 67 (by decide), c3 68 (by decide)]
    exact z
  · have z := c4 d (Nat.zero_le _) hd
    rw [r2 39 (by decide), r2 40 (by decide), r2 42 (by decide), r2 43 (by decide), r2 45 (by decide), r2 48 (by decide), r2 49 (by decide)] at z
    rw [g4 69 (by decide), e3 69 (by decide) (by decide), d3 69 (by decide)]
    exact z
  · have z := d4 d (Nat.zero_le _) hd
    rw [r3 44 (by decide)] at z
    rw [g4 70 (by decide), e3 70 (by decide) (by decide)]
    exact z
  · have z := e4 d (Nat.zero_le _) hd
    rw [r4 46 (by decide), r4 47 (by decide)] at z
    rw [g4 71 (by decide), g4 72 (by decide)]
    exact z
  · have z := g5 d (Nat.zero_le _) hd
    rw [r5 52 (by decide), r5 54 (by decide), r5 55 (by decide)] at z
    exact z
/-- what a row of steps leaves alone -/
def un0 (r r' : sg_R) : Prop := (∀ e, ck_fa (rm_ck r' e) = ck_fa (rm_ck r e) ∧ ck_jo (rm_ck r' e) = ck_jo (rm_ck r e)) ∧ (rm_b r' = rm_b r ∧ rm_ru r' = rm_ru r ∧ rm_nj r' = rm_nj r) ∧ (∀ j, jb_ki (rm_jb r' j) = jb_ki (rm_jb r j) ∧ jb_he (rm_jb r' j) = jb_he (rm_jb r j) ∧ jb_be (rm_jb r' j) = jb_be (rm_jb r j) ∧ jb_lo (rm_jb r' j) = jb_lo (rm_jb r j)) ∧ (∃ l, rm_ch r' = rm_ch r ++ l)
theorem un_rf (r : sg_R) : un0 r r := ⟨fun _ => ⟨rfl, rfl⟩, ⟨rfl, rfl, rfl⟩, fun _ => ⟨rfl, rfl, rfl, rfl⟩, [], (List.append_nil _).symm⟩
theorem un_tr {r r1 r2 : sg_R} (h1 : un0 r r1) (h2 : un0 r1 r2) : un0 r r2 := by
  obtain ⟨a1, ⟨a2, a3, a4⟩, a5, l, a6⟩ := h1
  obtain ⟨b1, ⟨b2, b3, b4⟩, b5, m, b6⟩ := h2
  exact ⟨fun e => ⟨(b1 e).1.trans (a1 e).1, (b1 e).2.trans (a1 e).2⟩, ⟨b2.trans a2, b3.trans a3, b4.trans a4⟩, fun j => ⟨(b5 j).1.trans (a5 j).1, (b5 j).2.1.trans (a5 j).2.1, (b5 j).2.2.1.trans (a5 j).2.2.1, (b5 j).2.2.2.trans (a5 j).2.2.2⟩, l ++ m, by rw [b6, a6, List.append_assoc]⟩
theorem un_step {r : sg_R} {x : Nat} (hat : ck_at (rm_ck r x) ≠ 0) : un0 r (sg_step r x) := by
  obtain ⟨⟨a1, a2, a3, a4, a5⟩, _⟩ := sk_step (c := x) hat
  refine ⟨fun e => ?_, a3, a4, a5⟩
  by_cases q : e = x
  · rw [q]; exact a2
  · rw [a1 e q]
    exact ⟨rfl, rfl⟩
theorem nar_01 {x : Int32} (h : x = 0 ∨ x = 1) : vp_nar .boolean (vp_nar .boolean x) = x := by
  rcases h with z | z <;> subst z <;> rfl
theorem qm_back {ln : Nat → Nat} {s s2 : dr_S} {r r2 : sg_R} (hM : rp_M ln s r) (hM2 : rp_M ln s2 r2) (hu : un0 r r2) (hw : wf_sz r) (hsv : svd s2 s (rm_nj r)) : ∃ s3, f_X12_putsBack ln s2 = some (0, s3) ∧ (∀ a, (a < 28 ∨ 65 ≤ a) → s3.1 a = s2.1 a) ∧ (∀ f, (f < 1200 ∨ 1255 ≤ f) → s3.2 f = s2.2 f) ∧ rp_M ln s3 r := by
  have L := mM_L hM
  obtain ⟨hb, hus, hnj, hdr, hco⟩ := hw
  obtain ⟨u1, ⟨u2, u3, u4⟩, u5, l, u6⟩ := hu
  obtain ⟨v1, v2, v3, v4, v5, v6, v7⟩ := hsv
  obtain ⟨t1, a1, a2, a3, a4, _⟩ := pb_d L 256 dr_N 0 s2 (by omega) (by unfold dr_N; omega)
  obtain ⟨t2, b1, b2, b3, b4, _⟩ := pb_3584 L 3584 dr_N 0 t1 (by omega) (by unfold dr_N; omega)
  obtain ⟨t3, c1, c2, c3, c4, _⟩ := pb_4 L 4 dr_N 0 t2 (by omega) (by unfold dr_N; omega)
  obtain ⟨t4, d1, d2, d3, d4, _⟩ := pb_256 L 256 dr_N 0 t3 (by omega) (by unfold dr_N; omega)
  obtain ⟨t5, e1, e2, e3, e4, _⟩ := pb_56 L 56 dr_N 0 t4 (by omega) (by unfold dr_N; omega)
  have f5 : t5.2 = s2.2 := by rw [e2, d2, c2, b2, a2]
  obtain ⟨t6, g1, g2, g3, g4, g5, g6⟩ := pb_j L hnj (rm_nj r) dr_N 0 t5 (by omega) (by unfold dr_N; omega) (by rw [f5, mM_nj hM2, u4])
  rw [f5] at g2 g3
  have n1 : ∀ a, (a < 30 ∨ 37 < a) → t1.1 a = s2.1 a := fun a h => a3 a (by omega) (by omega) (by omega) (by omega) (by omega) (by omega)
  have n2 : ∀ a, (a < 30 ∨ 37 < a) → t2.1 a = s2.1 a := fun a h => by rw [b3 a (by omega) (by omega), n1 a h]
  have n3 : ∀ a, (a < 30 ∨ 49 < a) → t3.1 a = s2.1 a := fun a h => by rw [c3 a (by omega) (by omega) (by omega) (by omega) (by omega) (by omega) (by omega), n2 a (by omega)]
  have n4 : ∀ a, (a < 30 ∨ 49 < a) → t4.1 a = s2.1 a := fun a h => by rw [d3 a (by omega), n3 a h]
  have n5 : ∀ a, (a < 30 ∨ 49 < a ∨ a = 38 ∨ a = 41) → t5.1 a = s2.1 a := fun a h => by rw [e3 a (by omega) (by omega), d3 a (by omega), c3 a (by omega) (by omega) (by omega) (by omega) (by omega) (by omega) (by omega), n2 a (by omega)]
  have n6 : ∀ a, (a < 30 ∨ 55 < a ∨ a = 38 ∨ a = 41 ∨ a = 50 ∨ a = 51 ∨ a = 53) → t6.1 a = s2.1 a := fun a h => by rw [g4 a (by omega) (by omega) (by omega), n5 a (by omega)]
  -- drawers
  have D : ∀ d, d < 256 → t6.1 30 d = s.1 30 d ∧ t6.1 31 d = s.1 31 d ∧ t6.1 32 d = s.1 32 d ∧ t6.1 35 d = s.1 35 d ∧ t6.1 36 d = s.1 36 d ∧ t6.1 37 d = s.1 37 d := by
    intro d hd
    obtain ⟨x1, x2, x3, x4, x5, x6⟩ := a4 d (Nat.zero_le _) hd
    obtain ⟨y1, y2, y3, y4, y5, y6⟩ := v1 d hd
    have q : ∀ a, (a = 30 ∨ a = 31 ∨ a = 32 ∨ a = 35 ∨ a = 36 ∨ a = 37) → t6.1 a d = t1.1 a d := fun a h => by rw [g4 a (by omega) (by omega) (by omega), e3 a (by omega) (by omega), d3 a (by omega), c3 a (by omega) (by omega) (by omega) (by omega) (by omega) (by omega) (by omega), b3 a (by omega) (by omega)]
    refine ⟨?_, by rw [q 31 (by omega), x2, y2], by rw [q 32 (by omega), x3, y3], by rw [q 35 (by omega), x4, y4], by rw [q 36 (by omega), x5, y5], by rw [q 37 (by omega), x6, y6]⟩
    rw [q 30 (by omega), x1, y1]
    refine nar_01 ?_
    rw [mM_us hM d hd]
    split
    · exact Or.inr rfl
    · exact Or.inl rfl
  have H : ∀ k, k < 3584 → t6.1 33 k = s.1 33 k ∧ t6.1 34 k = s.1 34 k := by
    intro k hk
    obtain ⟨x1, x2⟩ := b4 k (Nat.zero_le _) hk
    obtain ⟨y1, y2⟩ := v2 k hk
    have q : ∀ a, (a = 33 ∨ a = 34) → t6.1 a k = t2.1 a k := fun a h => by rw [g4 a (by omega) (by omega) (by omega), e3 a (by omega) (by omega), d3 a (by omega), c3 a (by omega) (by omega) (by omega) (by omega) (by omega) (by omega) (by omega)]
    rw [q 33 (by omega), q 34 (by omega), x1, x2, n1 67 (by omega), n1 68 (by omega)]
    exact ⟨y1, y2⟩
  have K : ∀ c, c < 4 → t6.1 39 c = s.1 39 c ∧ t6.1 40 c = s.1 40 c ∧ t6.1 42 c = s.1 42 c ∧ t6.1 43 c = s.1 43 c ∧ t6.1 45 c = s.1 45 c ∧ t6.1 48 c = s.1 48 c ∧ t6.1 49 c = s.1 49 c := by
    intro c hc
    obtain ⟨x1, x2, x3, x4, x5, x6, x7⟩ := c4 c (Nat.zero_le _) hc
    obtain ⟨y1, y2, y3, y4, y5, y6, y7⟩ := v3 c hc
    rw [n2 69 (by omega)] at x1 x2 x3 x4 x5 x6 x7
    have q : ∀ a, (a = 39 ∨ a = 40 ∨ a = 42 ∨ a = 43 ∨ a = 45 ∨ a = 48 ∨ a = 49) → t6.1 a c = t3.1 a c := fun a h => by rw [g4 a (by omega) (by omega) (by omega), e3 a (by omega) (by omega), d3 a (by omega)]
    exact ⟨by rw [q 39 (by omega), x1, y1], by rw [q 40 (by omega), x2, y2], by rw [q 42 (by omega), x3, y3], by rw [q 43 (by omega), x4, y4], by rw [q 45 (by omega), x5, y5], by rw [q 48 (by omega), x6, y6], by rw [q 49 (by omega), x7, y7]⟩
  have P : ∀ k, k < 256 → t6.1 44 k = s.1 44 k := by
    intro k hk
    rw [g4 44 (by decide) (by decide) (by decide), e3 44 (by decide) (by decide), d4 k (Nat.zero_le _) hk, n3 70 (by omega)]
    exact v4 k hk
  have Y : ∀ k, k < 56 → t6.1 46 k = s.1 46 k ∧ t6.1 47 k = s.1 47 k := by
    intro k hk
    obtain ⟨x1, x2⟩ := e4 k (Nat.zero_le _) hk
    obtain ⟨y1, y2⟩ := v5 k hk
    rw [g4 46 (by decide) (by decide) (by decide), g4 47 (by decide) (by decide) (by decide), x1, x2, n4 71 (by omega), n4 72 (by omega)]
    exact ⟨y1, y2⟩
  have J : ∀ j, j < rm_nj r → t6.1 52 j = s.1 52 j ∧ t6.1 54 j = s.1 54 j ∧ t6.1 55 j = s.1 55 j := by
    intro j hj
    obtain ⟨x1, x2, x3⟩ := g5 j (Nat.zero_le _) hj
    obtain ⟨y1, y2, y3⟩ := v6 j hj
    rw [x1, x2, x3, n5 73 (by omega)]
    exact ⟨y1, y2, y3⟩
  refine ⟨t6, ?_, fun a h => n6 a (by omega), fun f h => g2 f (by omega) (by omega) (by omega), hM.1, ?_, ?_, ?_, ?_, fun d hd => ?_, fun d hd => ?_, fun d h1 h2 => ?_, fun c hc => ?_, ?_, fun j hj => ?_, fun j h1 h2 => ?_, ?_, fun i j t hi => ?_⟩
  · unfold f_X12_putsBack
    rw [show f_X12_putsBack_p2 ln dr_N 0 s2 = _ from a1, show f_X12_putsBack_p107 ln dr_N 0 t1 = _ from b1, show f_X12_putsBack_p146 ln dr_N 0 t2 = _ from c1, show f_X12_putsBack_p277 ln dr_N 0 t3 = _ from d1, show f_X12_putsBack_p304 ln dr_N 0 t4 = _ from e1]
    exact g1
  · rw [g2 1200 (by decide) (by decide) (by decide), mM_b hM2, u2]
  · have z := mM_ru hM2
    rw [u3] at z
    rw [g2 1201 (by decide) (by decide) (by decide), n6 28 (by omega), n6 29 (by omega)]
    exact z
  · rw [g3.1, v7.1, mM_ti hM]
  · rw [g3.2.1, v7.2.1, mM_to hM]
  · rw [(D d hd).1, mM_us hM d hd]
  · obtain ⟨x1, ⟨x2, x3, x4, x5, x6⟩, x7⟩ := mM_dr hM d hd
    obtain ⟨y1, y2, y3, y4, y5, y6⟩ := D d (by omega)
    obtain ⟨w1, w2⟩ := hdr d hd
    refine ⟨y2.trans x1, ⟨y3.trans x2, y4.trans x3, y5.trans x4, fun k h hk => ?_, fun hl k h hk => ?_⟩, y6.trans x7⟩
    · have hlt := (List.getElem?_eq_some_iff.mp hk).1
      rw [(H (14 * d + k) (by omega)).1]
      exact x5 k h hk
    · have hlt := (List.getElem?_eq_some_iff.mp hk).1
      rw [(H (14 * d + k) (by omega)).2]
      exact x6 hl k h hk
  · rw [(D d h2).2.2.2.2.2]
    exact mM_la hM d h1 h2
  · obtain ⟨m1, m2, m3, m4, m5, m6, m7, m8⟩ := mM_ck hM c hc
    obtain ⟨p1, _, _, p4, _⟩ := mM_ck hM2 c hc
    obtain ⟨k1, k2, k3, k4, k5, k6, k7⟩ := K c hc
    refine ⟨by rw [n6 38 (by omega), p1, (u1 c).1], k1.trans m2, fun q => k2.trans (m3 q), by rw [n6 41 (by omega), p4, (u1 c).2], k4.trans m5, fun q l hl => (P _ (by omega)).trans (m6 q l hl), fun q => ?_, fun q => ?_⟩
    · obtain ⟨x2, x3, x4, x5, x6⟩ := m7 q
      obtain ⟨w1, w2⟩ := hco c hc q
      refine ⟨k5.trans x2, k6.trans x3, k7.trans x4, fun k h hk => ?_, fun hl k h hk => ?_⟩
      · have hlt := (List.getElem?_eq_some_iff.mp hk).1
        rw [(Y (14 * c + k) (by omega)).1]
        exact x5 k h hk
      · have hlt := (List.getElem?_eq_some_iff.mp hk).1
        rw [(Y (14 * c + k) (by omega)).2]
        exact x6 hl k h hk
    · have z := m8 q
      rw [k3]
      exact z
  · rw [g2 1226 (by decide) (by decide) (by decide), mM_nj hM2, u4]
  · obtain ⟨x1, x2, x3, x4, x5, x6, x7⟩ := mM_jb hM j hj
    obtain ⟨y1, y2, _, y4, _, _, y7⟩ := mM_jb hM2 j (by omega)
    obtain ⟨z1, z2, z3⟩ := J j hj
    obtain ⟨w1, w2, w3, w4⟩ := u5 j
    refine ⟨by rw [n6 50 (by omega), y1, w1], by rw [n6 51 (by omega), y2, w2], z1.trans x3, by rw [n6 53 (by omega), y4, w3], z2.trans x5, z3.trans x6, by rw [n6 56 (by omega), y7, w4]⟩
  · obtain ⟨y1, y2⟩ := mM_j2 hM2 j (by omega) h2
    obtain ⟨_, _, x3⟩ := g6 j (Or.inr h1)
    exact ⟨by rw [x3, n5 55 (by omega)]; exact y1, by rw [n6 56 (by omega)]; exact y2⟩
  · rw [g3.2.2, v7.2.2, mM_nc hM]
  · have hlt := (List.getElem?_eq_some_iff.mp hi).1
    obtain ⟨x1, x2, x3⟩ := mM_ch hM2 i j t (by rw [u6, List.getElem?_append_left hlt]; exact hi)
    rw [(u5 j).2.1] at x2
    rw [(u5 j).1] at x3
    rw [n6 57 (by omega), n6 58 (by omega), n6 59 (by omega)]
    exact ⟨x1, x2, x3⟩

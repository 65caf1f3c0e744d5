/-! 97c: a fall, of the class, whole -/
def sg_cr (r : sg_R) : sg_R := if dv_th (rm_dr r (rm_to r)) = none then r else sg_crown r
theorem fall_cr (r : sg_R) : sg_fall r = sg_cr (sg_open (sg_lose4 r)) := rfl
theorem q0_crown {ln : Nat → Nat} {s : dr_S} {r : sg_R} (hC : rp_C ln s r) (hw : wf_sz r) (hto : rm_to r < rm_us r) (hlv : dv_lev (rm_dr r (rm_to r)) < 63) (hth : ∀ d, d < rm_us r → ∀ t, dv_th (rm_dr r d) = some t → t < rm_us r ∧ dv_hi (rm_dr r d) ≠ none) (hu : dv_th (rm_dr r (rm_to r)) ≠ none → rm_us r < 256) (h204 : s.2 204 = 0) : ∃ s', f_X0_crownTheTop ln s = some (0, s') ∧ dc_F s s' ∧ rp_C ln s' (sg_cr r) := by
  have hus := hw.2.1
  have hb := hw.1
  have hm := hC.2.2.2
  have hx := (hm.2.2.1 _ hto).1
  have g3 := q4_get (d := rm_to r) (k := 3) hC.1 (by omega) (by omega)
  have g0 := q4_get (d := rm_to r) (k := 0) hC.1 (by omega) (by omega)
  rw [hx.2.2.2.1] at g3
  rw [hx.1] at g0
  unfold f_X0_crownTheTop sg_cr
  rw [q4_top hC.1, hm.1, q_bi, show f_X4_get ln (nI (rm_to r)) 3 s = _ from g3, q_bi]
  by_cases e : dv_th (rm_dr r (rm_to r)) = none
  · rw [e, if_pos (show nO none = (-1 : Int32) from rfl), if_pos rfl]
    exact ⟨s, rfl, dc_rf s, hC⟩
  · have hu1 := hu e
    obtain ⟨tt, ett⟩ : ∃ t, dv_th (rm_dr r (rm_to r)) = some t := by
      cases hq : dv_th (rm_dr r (rm_to r)) with
      | none => exact absurd hq e
      | some t => exact ⟨t, rfl⟩
    have htt := (hth _ hto tt ett).1
    rw [if_neg e, ett, show nO (some tt) = nI tt from rfl, if_neg (n1_ne (by omega)), show f_X4_get ln (nI (rm_to r)) 0 s = _ from g0, q_bi, nI_1]
    obtain ⟨s1, a1, C1⟩ := q4_open (u := rm_us r) (lev := nI (dv_lev (rm_dr r (rm_to r)) + 1)) hC.1 hm.2.1 hu1 (Or.inl h204)
    have z1 : s1.2 204 = 0 := by rw [C1.2.2.1 204 (by decide)]; exact h204
    have G1 := q_GC hC.1 C1
    have e1 : s1.1 14 = dq_open (rm_b r) (s.1 14) (rm_us r) (nI (dv_lev (rm_dr r (rm_to r)) + 1)) := C1.1
    have h2b : (2 : Int32) * nI (rm_b r) + 1 = nI (2 * rm_b r + 1) := by rw [show (2 : Int32) = nI 2 from rfl, pk_mul, nI_1]
    rw [a1, q_bi, if_neg (n1_ne (by omega)), q4_half G1, q_bi, q_let, h2b]
    have ne : ∀ i k, i ≠ k → dp (rm_b r) (rm_us r) i ≠ dp (rm_b r) (rm_us r) k := fun i k h q => h (by unfold dp at q; omega)
    have nt : ∀ k, k < 4 * rm_b r + 8 → dp (rm_b r) (rm_us r) k ≠ 260 * (4 * rm_b r + 8) + 1 := fun k hk => by
      have := dp_260 (b := rm_b r) (d := rm_us r) (k := k) (by omega) hk
      omega
    have o1 : ∀ p, p ≠ 260 * (4 * rm_b r + 8) + 1 → (∀ i, i < 4 * rm_b r + 8 → p ≠ dp (rm_b r) (rm_us r) i) → s1.1 14 p = s.1 14 p := fun p h1 h2 => by
      rw [e1]
      unfold dq_open
      rw [q_updO (h2 4 (by omega)), q_updO (h2 3 (by omega)), q_updO (h2 2 (by omega)), q_updO (h2 1 (by omega)), q_updO (h2 0 (by omega)), q_updO h1]
    have ou : s1.1 14 (260 * (4 * rm_b r + 8) + 1) = nI (rm_us r + 1) := by
      rw [e1]
      unfold dq_open
      rw [q_updO (fun q => nt 4 (by omega) q.symm), q_updO (fun q => nt 3 (by omega) q.symm), q_updO (fun q => nt 2 (by omega) q.symm), q_updO (fun q => nt 1 (by omega) q.symm), q_updO (fun q => nt 0 (by omega) q.symm), q_updS]
    have o4 : s1.1 14 (dp (rm_b r) (rm_us r) 4) = -1 := by
      rw [e1]
      unfold dq_open
      rw [q_updS]
    have row0 : rp_row (s1.1 14) (rm_b r) (rm_us r) (dv_lev (rm_dr r (rm_to r)) + 1, [], [], none, none, none) := by
      rw [e1]
      unfold dq_open
      refine ⟨?_, ?_, ?_, ?_, fun k g hk => (by cases hk), fun _ k g hk => (by cases hk)⟩
      · rw [q_updO (ne 0 4 (by decide)), q_updO (ne 0 3 (by decide)), q_updO (ne 0 2 (by decide)), q_updO (ne 0 1 (by decide)), q_updS]
        rfl
      · rw [q_updO (ne 1 4 (by decide)), q_updO (ne 1 3 (by decide)), q_updO (ne 1 2 (by decide)), q_updS]
        rfl
      · rw [q_updO (ne 2 4 (by decide)), q_updO (ne 2 3 (by decide)), q_updS]
        rfl
      · rw [q_updO (ne 3 4 (by decide)), q_updS]
        rfl
    have hrow : ∀ d, d < rm_us r → rp_row (s1.1 14) (rm_b r) d (rm_dr r d) := fun d hd => rp_row_fr (hm.2.2.1 d hd).1 (hw.2.2.2.1 d hd) (fun k hk _ => o1 _ (by have := dp_260 (b := rm_b r) (d := d) (k := k) (by omega) hk; omega) (fun i hi => dp_ne (by omega) hk hi))
    obtain ⟨s2, g, n, b1, b2, b3, b4, b5⟩ := q0_crown_p (ln := ln) (lev := dv_lev (rm_dr r (rm_to r)) + 1) (m0 := s1.1 14) hw hu1 hrow hth (2 * rm_b r + 1) dr_N 0 s1 (some (rm_to r)) [] G1 z1 (fun p _ => rfl) row0 o4 rfl (by omega) (by unfold dr_N; omega) (fun d hd => by cases hd; exact hto) (fun d hd => by cases hd) (fun d hd => by cases hd)
    rw [show f_X0_crownTheTop_p65 ln dr_N (nI (rm_to r)) (nI (rm_us r)) (nI (2 * rm_b r + 1)) (-1) 0 s1 = _ from b1]
    have T2 := q_Ctr C1 b2
    have z2 : s2.2 204 = 0 := by rw [b2.2.2.1 204 (by decide)]; exact z1
    obtain ⟨s3, a3, C3⟩ := q4_setTop (v := nI (rm_us r)) (q_GC hC.1 T2) (Or.inl z2)
    unfold f_X0_crownTheTop_p129
    rw [a3, q_bv]
    have T3 := q_Ctr T2 C3
    refine ⟨s3, rfl, dc_C T3 h204, rp_C_of (r' := sg_crown r) hC T3 rfl rfl ?_⟩
    rw [b2.1]
    have big : ∀ p, 260 * (4 * rm_b r + 8) ≤ p → p ≠ 260 * (4 * rm_b r + 8) → p ≠ 260 * (4 * rm_b r + 8) + 1 → upd g (260 * (4 * rm_b r + 8)) (nI (rm_us r)) p = s.1 14 p := fun p h1 h2 h3 => by
      have q : ∀ i, i < 4 * rm_b r + 8 → p ≠ dp (rm_b r) (rm_us r) i := fun i hi => by
        have := dp_260 (b := rm_b r) (d := rm_us r) (k := i) (by omega) hi
        omega
      rw [q_updO h2, b3 p q, o1 p h3 q]
    have row : ∀ d k, d < 260 → d ≠ rm_us r → k < 4 * rm_b r + 8 → upd g (260 * (4 * rm_b r + 8)) (nI (rm_us r)) (dp (rm_b r) d k) = s.1 14 (dp (rm_b r) d k) := fun d k h1 h2 h3 => by
      have := dp_260 (b := rm_b r) (d := d) (k := k) h1 h3
      rw [q_updO (by omega), b3 _ (fun i hi => dp_ne h2 h3 hi), o1 _ (by omega) (fun i hi => dp_ne h2 h3 hi)]
    have Sd : ∀ d, rm_dr (sg_crown r) d = if d = rm_us r then (dv_lev (rm_dr r (rm_to r)) + 1, (sg_chain r (2 * rm_b r + 1) (some (rm_to r))).dropLast.map (fun d => (dv_hi (rm_dr r d)).getD 0), sg_chain r (2 * rm_b r + 1) (some (rm_to r)), none, none, none) else rm_dr r d := fun d => rfl
    refine rp_all hm hw rfl (q_updS _ _ _) ?_ (fun d hd => ?_) (fun c hc => Or.inl ⟨rfl, fun k hk => big _ (by unfold cp; omega) (by unfold cp; omega) (by unfold cp; omega), fun k hk _ => row (256 + c) k (by omega) (by omega) hk⟩) ((big _ (by omega) (by omega) (by omega)).trans hm.2.2.2.2.1) ((big _ (by omega) (by omega) (by omega)).trans hm.2.2.2.2.2.1) (fun j hj => Or.inl ⟨hj, rfl, rfl, fun k hk => big _ (by unfold jp; omega) (by unfold jp; omega) (by unfold jp; omega)⟩)
    · rw [q_updO (by omega), b3 _ (fun i hi => by have := dp_260 (b := rm_b r) (d := rm_us r) (k := i) (by omega) hi; omega), ou]
      rfl
    · have hd : d < rm_us r + 1 := hd
      rw [Sd]
      by_cases e2 : d = rm_us r
      · right
        rw [if_pos e2, e2]
        have cl := chain_len r (2 * rm_b r + 1) (some (rm_to r))
        have tp : ∀ k, k < 4 * rm_b r + 8 → dp (rm_b r) (rm_us r) k ≠ 260 * (4 * rm_b r + 8) := fun k hk => by
          have := dp_260 (b := rm_b r) (d := rm_us r) (k := k) (by omega) hk
          omega
        refine ⟨rp_row_fr b4 ⟨?_, ?_⟩ (fun k hk _ => q_updO (tp k hk)), ?_⟩
        · show (List.map _ _).length ≤ _
          rw [List.length_map, List.length_dropLast]
          omega
        · show (sg_chain r (2 * rm_b r + 1) (some (rm_to r))).length ≤ _
          omega
        · rw [q_updO (tp 4 (by omega)), b5]
          rfl
      · left
        rw [if_neg e2]
        exact ⟨by omega, rfl, fun k hk => row d k (by omega) e2 hk⟩
theorem q11_fall {ln : Nat → Nat} {s : dr_S} {r : sg_R} {rk : Nat → Nat} {t : Nat} (hC : rp_C ln s r) (hiv : iv r) (st : iv_st r rk) (hcn : cnv t (dv_lev (rm_dr r (rm_to r))) (cnt r) (fun L => psum (pd r L)) (mh r)) (h204 : s.2 204 = 0) : ∃ s', f_X11_fall ln s = some (nI (sg_busy r), s') ∧ dc_F s s' ∧ rp_C ln s' (sg_fall r) := by
  have hw := iv_sz st
  obtain ⟨s1, a1, a2, a3⟩ := q11_fall_p (ln := ln) hw (fun c hc => (st.2.2.2.1 c hc).2.1) (fun c hc q => by
    obtain ⟨_, ⟨j, j1, _⟩, _⟩ := (st.2.2.2.1 c hc).2.2.2 q
    exact ⟨j, j1, (st.2.2.2.1 c hc).2.2.1 j j1⟩) 4 dr_N 0 s (by omega) (by unfold dr_N; omega) hC h204
  have hw4 : wf_sz (sg_lose4 r) := loses_wf hw 4
  obtain ⟨s2, b1, b2, b3⟩ := q4_letAllGo a3 hw4 (by rw [a2.2.2.1]; exact h204)
  obtain ⟨⟨rk2, t2, st2, hpt2, hpd2, hcn2⟩, hidle, hus⟩ := iv_open rfl hiv
  have e204 : s2.2 204 = 0 := by rw [b2.2.2.1, a2.2.2.1]; exact h204
  rw [fall_cr]
  generalize sg_open (sg_lose4 r) = R at *
  obtain ⟨s3, c1, c2, c3⟩ := q0_crown b3 (iv_sz st2) st2.2.1.1 (by have := iv_l11 st2 hcn2 st2.2.1.1; omega) (fun d hd t ht => ⟨((st2.2.2.1 d hd).1.2.2.2.2.2.1 t ht).1, fun q => by
    have := (st2.2.2.1 d hd).1.2.2.2.2.1.mp q
    rw [ht] at this
    cases this⟩) hus e204
  refine ⟨s3, ?_, dc_tr a2 (dc_tr b2 c2), c3⟩
  unfold f_X11_fall
  rw [show f_X11_fall_p4 ln dr_N 0 0 s = _ from a1, b1, q_bv, c1, q_bv]

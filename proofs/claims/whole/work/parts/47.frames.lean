/-! 47: what a change of some cells leaves -/
def rw_ok (b : Nat) (x : sg_D) : Prop := (dv_hs x).length ≤ 2 * b + 1 ∧ (dv_cs x).length ≤ 2 * b + 2
def wf_sz (r : sg_R) : Prop := (2 ≤ rm_b r ∧ rm_b r ≤ 5) ∧ rm_us r ≤ 256 ∧ rm_nj r ≤ 120 ∧ (∀ d, d < rm_us r → rw_ok (rm_b r) (rm_dr r d)) ∧ (∀ c, c < 4 → ck_at (rm_ck r c) = 3 → rw_ok (rm_b r) (ck_co (rm_ck r c)))
theorem rp_row_fr {m m' : Nat → Int32} {b d : Nat} {x : sg_D} (h : rp_row m b d x) (ho : rw_ok b x) (he : ∀ k, k < 4 * b + 8 → k ≠ 4 → m' (dp b d k) = m (dp b d k)) : rp_row m' b d x := by
  obtain ⟨h0, h1, h2, h3, h4, h5⟩ := h
  refine ⟨(he 0 (by omega) (by omega)).trans h0, (he 1 (by omega) (by omega)).trans h1, (he 2 (by omega) (by omega)).trans h2, (he 3 (by omega) (by omega)).trans h3, fun k g hk => ?_, fun hl k g hk => ?_⟩
  · have hlt : k < (dv_hs x).length := (List.getElem?_eq_some_iff.mp hk).1
    have := ho.1
    exact (he (5 + k) (by omega) (by omega)).trans (h4 k g hk)
  · have hlt : k < (dv_cs x).length := (List.getElem?_eq_some_iff.mp hk).1
    have := ho.2
    exact (he (2 * b + 6 + k) (by omega) (by omega)).trans (h5 hl k g hk)
theorem dp_in {b d k : Nat} (hk : k < 4 * b + 8) : d * (4 * b + 8) ≤ dp b d k ∧ dp b d k < (d + 1) * (4 * b + 8) := by
  unfold dp
  rw [Nat.add_mul d 1, Nat.one_mul]
  omega
theorem dp_out {b d e : Nat} (h : d < e) : (d + 1) * (4 * b + 8) ≤ e * (4 * b + 8) := Nat.mul_le_mul_right _ h
/-- rows of different drawers are apart -/
theorem dp_ne {b d e k j : Nat} (h : d ≠ e) (hk : k < 4 * b + 8) (hj : j < 4 * b + 8) : dp b d k ≠ dp b e j := by
  have h1 := dp_in (d := d) hk
  have h2 := dp_in (d := e) hj
  rcases Nat.lt_or_gt_of_ne h with q | q
  · have := dp_out (b := b) q
    omega
  · have := dp_out (b := b) q
    omega
theorem dp_260 {b d k : Nat} (hd : d < 260) (hk : k < 4 * b + 8) : dp b d k < 260 * (4 * b + 8) := by
  have h1 := dp_in (b := b) (d := d) hk
  have h2 : (d + 1) * (4 * b + 8) ≤ 260 * (4 * b + 8) := Nat.mul_le_mul_right _ (by omega)
  omega
theorem rp_ck_fr {m m' : Nat → Int32} {b c : Nat} {x : sg_K} (h : rp_ck m b c x) (hco : ck_at x = 3 → rw_ok b (ck_co x)) (he : ∀ k, k < 128 → m' (cp b c k) = m (cp b c k)) (hr : ∀ k, k < 4 * b + 8 → k ≠ 4 → m' (dp b (256 + c) k) = m (dp b (256 + c) k)) : rp_ck m' b c x := by
  obtain ⟨h0, h1, h2, h3, h4, h5, h6, h7⟩ := h
  exact ⟨(he 0 (by omega)).trans h0, (he 1 (by omega)).trans h1, (he 2 (by omega)).trans h2, (he 3 (by omega)).trans h3, (he 4 (by omega)).trans h4, (he 5 (by omega)).trans h5, fun q l hl => (he (6 + l) (by omega)).trans (h6 q l hl), fun q => rp_row_fr (h7 q) (hco q) hr⟩
theorem rp_jb_fr {m m' : Nat → Int32} {b j : Nat} {x : sg_J} {ch : List (Nat × Nat)} (h : rp_jb m b j x ch) (he : ∀ k, k < 8 → m' (jp b j k) = m (jp b j k)) : rp_jb m' b j x ch := by
  obtain ⟨h0, h1, h2, h3, h4, h5, h6, h7⟩ := h
  exact ⟨(he 0 (by omega)).trans h0, (he 1 (by omega)).trans h1, (he 2 (by omega)).trans h2, (he 3 (by omega)).trans h3, (he 4 (by omega)).trans h4, (he 5 (by omega)).trans h5, (he 6 (by omega)).trans h6, (he 7 (by omega)).trans h7⟩
/-- a clerk changes (his cells, his copy) -/
theorem rp_sK {m m' : Nat → Int32} {r : sg_R} {c : Nat} {x : sg_K} (hm : rp_mem m r) (hw : wf_sz r) (hc : c < 4) (ho : ∀ p, (∀ k, k < 128 → p ≠ cp (rm_b r) c k) → (∀ k, k < 4 * rm_b r + 8 → p ≠ dp (rm_b r) (256 + c) k) → m' p = m p) (hx : rp_ck m' (rm_b r) c x) : rp_mem m' (sg_sK r c x) := by
  obtain ⟨h1, h2, h3, h4, h5, h6, h7⟩ := hm
  have hb := hw.1
  have hus := hw.2.1
  have hnj := hw.2.2.1
  have big : ∀ p, 260 * (4 * rm_b r + 8) ≤ p → (p < cp (rm_b r) c 0 ∨ cp (rm_b r) c 128 ≤ p) → m' p = m p := by
    intro p hp hq
    refine ho p (fun k hk e => ?_) (fun k hk e => ?_)
    · unfold cp at hq e
      omega
    · have := dp_260 (b := rm_b r) (d := 256 + c) (k := k) (by omega) hk
      omega
  have row : ∀ d k, d < 260 → d ≠ 256 + c → k < 4 * rm_b r + 8 → m' (dp (rm_b r) d k) = m (dp (rm_b r) d k) := by
    intro d k hd hne hk
    have hl := dp_260 (b := rm_b r) (d := d) (k := k) hd hk
    refine ho _ (fun j hj e => ?_) (fun j hj e => dp_ne hne hk hj e)
    unfold cp at e
    omega
  show m' (260 * (4 * rm_b r + 8)) = nI (rm_to r) ∧ m' (260 * (4 * rm_b r + 8) + 1) = nI (rm_us r) ∧ (∀ d, d < rm_us r → rp_row m' (rm_b r) d (rm_dr r d) ∧ m' (dp (rm_b r) d 4) = nO (dv_la (rm_dr r d))) ∧ (∀ e, e < 4 → rp_ck m' (rm_b r) e (if e = c then x else rm_ck r e)) ∧ m' (260 * (4 * rm_b r + 8) + 1474) = nI (rm_ti r) ∧ m' (260 * (4 * rm_b r + 8) + 1475) = nI (rm_nj r) ∧ (∀ i, i < rm_nj r → rp_jb m' (rm_b r) i (rm_jb r i) (rm_ch r))
  refine ⟨(big _ (by omega) (Or.inl (by unfold cp; omega))).trans h1, (big _ (by omega) (Or.inl (by unfold cp; omega))).trans h2, fun d hd => ?_, fun e he => ?_, (big _ (by omega) (Or.inr (by unfold cp; omega))).trans h5, (big _ (by omega) (Or.inr (by unfold cp; omega))).trans h6, fun j hj => ?_⟩
  · have hd : d < rm_us r := hd
    exact ⟨rp_row_fr (h3 d hd).1 (hw.2.2.2.1 d hd) (fun k hk _ => row d k (by omega) (by omega) hk), (row d 4 (by omega) (by omega) (by omega)).trans (h3 d hd).2⟩
  · show rp_ck m' (rm_b r) e (if e = c then x else rm_ck r e)
    by_cases hec : e = c
    · subst hec
      rw [if_pos rfl]
      exact hx
    · rw [if_neg hec]
      refine rp_ck_fr (h4 e he) (hw.2.2.2.2 e he) (fun k hk => big _ (by unfold cp; omega) ?_) (fun k hk _ => row (256 + e) k (by omega) (by omega) hk)
      unfold cp
      rcases Nat.lt_or_gt_of_ne hec with q | q
      · left; omega
      · right; omega
  · have hj : j < rm_nj r := hj
    exact rp_jb_fr (h7 j hj) (fun k hk => big _ (by unfold jp; omega) (Or.inr (by unfold jp cp; omega)))
/-- a drawer changes -/
theorem rp_sD {m m' : Nat → Int32} {r : sg_R} {d : Nat} {x : sg_D} (hm : rp_mem m r) (hw : wf_sz r) (hd : d < 256) (ho : ∀ p, (∀ k, k < 4 * rm_b r + 8 → p ≠ dp (rm_b r) d k) → m' p = m p) (hx : rp_row m' (rm_b r) d x ∧ m' (dp (rm_b r) d 4) = nO (dv_la x)) : rp_mem m' (sg_sD r d x) := by
  obtain ⟨h1, h2, h3, h4, h5, h6, h7⟩ := hm
  have hb := hw.1
  have hus := hw.2.1
  have big : ∀ p, 260 * (4 * rm_b r + 8) ≤ p → m' p = m p := by
    intro p hp
    refine ho p (fun k hk e => ?_)
    have := dp_260 (b := rm_b r) (d := d) (k := k) (by omega) hk
    omega
  have row : ∀ e k, e ≠ d → k < 4 * rm_b r + 8 → m' (dp (rm_b r) e k) = m (dp (rm_b r) e k) := fun e k hne hk => ho _ (fun j hj q => dp_ne hne hk hj q)
  show m' (260 * (4 * rm_b r + 8)) = nI (rm_to r) ∧ m' (260 * (4 * rm_b r + 8) + 1) = nI (rm_us r) ∧ (∀ q, q < rm_us r → rp_row m' (rm_b r) q (if q = d then x else rm_dr r q) ∧ m' (dp (rm_b r) q 4) = nO (dv_la (if q = d then x else rm_dr r q))) ∧ (∀ e, e < 4 → rp_ck m' (rm_b r) e (rm_ck r e)) ∧ m' (260 * (4 * rm_b r + 8) + 1474) = nI (rm_ti r) ∧ m' (260 * (4 * rm_b r + 8) + 1475) = nI (rm_nj r) ∧ (∀ i, i < rm_nj r → rp_jb m' (rm_b r) i (rm_jb r i) (rm_ch r))
  refine ⟨(big _ (by omega)).trans h1, (big _ (by omega)).trans h2, fun e he => ?_, fun c hc => ?_, (big _ (by omega)).trans h5, (big _ (by omega)).trans h6, fun j hj => ?_⟩
  · have he : e < rm_us r := he
    show rp_row m' (rm_b r) e (if e = d then x else rm_dr r e) ∧ m' (dp (rm_b r) e 4) = nO (dv_la (if e = d then x else rm_dr r e))
    by_cases hed : e = d
    · subst hed
      rw [if_pos rfl]
      exact hx
    · rw [if_neg hed]
      exact ⟨rp_row_fr (h3 e he).1 (hw.2.2.2.1 e he) (fun k hk _ => row e k hed hk), (row e 4 hed (by omega)).trans (h3 e he).2⟩
  · exact rp_ck_fr (h4 c hc) (hw.2.2.2.2 c hc) (fun k hk => big _ (by unfold cp; omega)) (fun k hk _ => row (256 + c) k (by omega) hk)
  · exact rp_jb_fr (h7 j hj) (fun k hk => big _ (by unfold jp; omega))
/-- a job changes -/
theorem rp_sJ {m m' : Nat → Int32} {r : sg_R} {j : Nat} {x : sg_J} (hm : rp_mem m r) (hw : wf_sz r) (hj : j < 120) (ho : ∀ p, (∀ k, k < 8 → p ≠ jp (rm_b r) j k) → m' p = m p) (hx : rp_jb m' (rm_b r) j x (rm_ch r)) : rp_mem m' (sg_sJ r j x) := by
  obtain ⟨h1, h2, h3, h4, h5, h6, h7⟩ := hm
  have hb := hw.1
  have hus := hw.2.1
  have hnj := hw.2.2.1
  have low : ∀ p, (p < jp (rm_b r) j 0 ∨ jp (rm_b r) j 8 ≤ p) → m' p = m p := by
    intro p hq
    refine ho p (fun k hk e => ?_)
    unfold jp at hq e
    omega
  have row : ∀ e k, e < 260 → k < 4 * rm_b r + 8 → m' (dp (rm_b r) e k) = m (dp (rm_b r) e k) := by
    intro e k he hk
    have := dp_260 (b := rm_b r) (d := e) (k := k) he hk
    exact low _ (Or.inl (by unfold jp; omega))
  show m' (260 * (4 * rm_b r + 8)) = nI (rm_to r) ∧ m' (260 * (4 * rm_b r + 8) + 1) = nI (rm_us r) ∧ (∀ d, d < rm_us r → rp_row m' (rm_b r) d (rm_dr r d) ∧ m' (dp (rm_b r) d 4) = nO (dv_la (rm_dr r d))) ∧ (∀ e, e < 4 → rp_ck m' (rm_b r) e (rm_ck r e)) ∧ m' (260 * (4 * rm_b r + 8) + 1474) = nI (rm_ti r) ∧ m' (260 * (4 * rm_b r + 8) + 1475) = nI (rm_nj r) ∧ (∀ i, i < rm_nj r → rp_jb m' (rm_b r) i (if i = j then x else rm_jb r i) (rm_ch r))
  refine ⟨(low _ (Or.inl (by unfold jp; omega))).trans h1, (low _ (Or.inl (by unfold jp; omega))).trans h2, fun e he => ?_, fun c hc => ?_, (low _ (Or.inr (by unfold jp; omega))).trans h5, (low _ (Or.inr (by unfold jp; omega))).trans h6, fun i hi => ?_⟩
  · have he : e < rm_us r := he
    exact ⟨rp_row_fr (h3 e he).1 (hw.2.2.2.1 e he) (fun k hk _ => row e k (by omega) hk), (row e 4 (by omega) (by omega)).trans (h3 e he).2⟩
  · exact rp_ck_fr (h4 c hc) (hw.2.2.2.2 c hc) (fun k hk => low _ (Or.inl (by unfold cp jp; omega))) (fun k hk _ => row (256 + c) k (by omega) hk)
  · show rp_jb m' (rm_b r) i (if i = j then x else rm_jb r i) (rm_ch r)
    by_cases hij : i = j
    · subst hij
      rw [if_pos rfl]
      exact hx
    · rw [if_neg hij]
      refine rp_jb_fr (h7 i hi) (fun k hk => low _ ?_)
      unfold jp
      rcases Nat.lt_or_gt_of_ne hij with q | q
      · left; omega
      · right; omega

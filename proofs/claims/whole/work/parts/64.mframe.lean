/-! 64: frames of the reference -/
theorem m_rd {ln : Nat → Nat} (hL : dq_ML ln) (a n : Nat) (ha : dr_ln 0 a = n) (h28 : 28 ≤ a) (hn : n < 2 ^ 31) {s : dr_S} {i : Nat} (hi : i < n) : dr_rd ln s a (nI i) = some (s.1 a i) := q_rd (by rw [hL a h28, ha]; exact hi) (by rw [hL a h28, ha]; exact hn)
theorem m_rdb {ln : Nat → Nat} (hL : dq_ML ln) (a n : Nat) (ha : dr_ln 0 a = n) (h28 : 28 ≤ a) (hn : n < 2 ^ 31) {s : dr_S} {i : Nat} {Kx : Int32 → Option (Int32 × dr_S)} (hi : i < n) : (dr_rd ln s a (nI i)).bind Kx = Kx (s.1 a i) := by
  rw [m_rd hL a n ha h28 hn hi]
  rfl
theorem m_wrb {ln : Nat → Nat} (hL : dq_ML ln) (a n : Nat) (ha : dr_ln 0 a = n) (h28 : 28 ≤ a) (hn : n < 2 ^ 31) {s : dr_S} {i : Nat} {x : Int32} {Kx : dr_S → Option (Int32 × dr_S)} (hi : i < n) : (dr_wr ln s a (nI i) x).bind Kx = Kx (dr_put s a i x) := by
  rw [q_wr (by rw [hL a h28, ha]; exact hi) (by rw [hL a h28, ha]; exact hn)]
  rfl
theorem m_wzb {ln : Nat → Nat} (hL : dq_ML ln) (a n : Nat) (ha : dr_ln 0 a = n) (h28 : 28 ≤ a) (hn : n < 2 ^ 31) {s : dr_S} {i : Nat} {x : Int32} {Kx : dr_S → Option (Int32 × dr_S)} (hi : i < n) : (dr_wz ln s a (nI i) x).bind Kx = Kx (dr_put s a i (vp_nar .boolean x)) := by
  rw [q_wz (by rw [hL a h28, ha]; exact hi) (by rw [hL a h28, ha]; exact hn)]
  rfl
/-- the class's part stays, and what the reference has saved -/
def dm_F (s s' : dr_S) : Prop := (∀ a, a < 28 → s'.1 a = s.1 a) ∧ (∀ f, f < 1200 → s'.2 f = s.2 f) ∧ (∀ a, 65 ≤ a → s'.1 a = s.1 a) ∧ (∀ f, 1255 ≤ f → s'.2 f = s.2 f)
theorem dm_rf (s : dr_S) : dm_F s s := ⟨fun _ _ => rfl, fun _ _ => rfl, fun _ _ => rfl, fun _ _ => rfl⟩
theorem dm_tr {s s1 s2 : dr_S} (h1 : dm_F s s1) (h2 : dm_F s1 s2) : dm_F s s2 := ⟨fun a h => (h2.1 a h).trans (h1.1 a h), fun a h => (h2.2.1 a h).trans (h1.2.1 a h), fun a h => (h2.2.2.1 a h).trans (h1.2.2.1 a h), fun a h => (h2.2.2.2 a h).trans (h1.2.2.2 a h)⟩
theorem dm_put {s s1 : dr_S} (a i : Nat) (x : Int32) (h1 : dm_F s s1) (h : 28 ≤ a ∧ a < 65) : dm_F s (dr_put s1 a i x) := dm_tr h1 ⟨fun _ q => q_putO (by omega), fun _ _ => rfl, fun _ q => q_putO (by omega), fun _ _ => rfl⟩
theorem dm_pf {s s1 : dr_S} (f : Nat) (x : Int32) (h1 : dm_F s s1) (h : 1200 ≤ f ∧ f < 1255) : dm_F s (dr_pf s1 f x) := dm_tr h1 ⟨fun _ _ => rfl, fun _ q => q_pfO (by omega), fun _ _ => rfl, fun _ q => q_pfO (by omega)⟩
def md_same (s s' : dr_S) (d : Nat) : Prop := s'.1 31 d = s.1 31 d ∧ s'.1 32 d = s.1 32 d ∧ s'.1 35 d = s.1 35 d ∧ s'.1 36 d = s.1 36 d ∧ s'.1 37 d = s.1 37 d ∧ (∀ k, k < 14 → s'.1 33 (14 * d + k) = s.1 33 (14 * d + k)) ∧ (∀ k, k < 14 → s'.1 34 (14 * d + k) = s.1 34 (14 * d + k))
def mk_same (s s' : dr_S) (c : Nat) : Prop := s'.1 38 c = s.1 38 c ∧ s'.1 39 c = s.1 39 c ∧ s'.1 40 c = s.1 40 c ∧ s'.1 41 c = s.1 41 c ∧ s'.1 42 c = s.1 42 c ∧ s'.1 43 c = s.1 43 c ∧ s'.1 45 c = s.1 45 c ∧ s'.1 48 c = s.1 48 c ∧ s'.1 49 c = s.1 49 c ∧ (∀ l, l < 64 → s'.1 44 (64 * c + l) = s.1 44 (64 * c + l)) ∧ (∀ k, k < 14 → s'.1 46 (14 * c + k) = s.1 46 (14 * c + k)) ∧ (∀ k, k < 14 → s'.1 47 (14 * c + k) = s.1 47 (14 * c + k))
def mj_same (s s' : dr_S) (j : Nat) : Prop := s'.1 50 j = s.1 50 j ∧ s'.1 51 j = s.1 51 j ∧ s'.1 52 j = s.1 52 j ∧ s'.1 53 j = s.1 53 j ∧ s'.1 54 j = s.1 54 j ∧ s'.1 55 j = s.1 55 j ∧ s'.1 56 j = s.1 56 j
def rp_md (s : dr_S) (d : Nat) (x : sg_D) : Prop := s.1 31 d = nI (dv_lev x) ∧ rp_mrow s 33 34 32 35 36 d x ∧ s.1 37 d = nO (dv_la x)
def rp_mj (s : dr_S) (j : Nat) (y : sg_J) : Prop := s.1 50 j = nI (jb_ki y) ∧ s.1 51 j = nI (jb_he y) ∧ s.1 52 j = nO (jb_an y) ∧ s.1 53 j = nI (jb_be y) ∧ s.1 54 j = nO (jb_en y) ∧ s.1 55 j = nI (jb_st y) ∧ s.1 56 j = (if jb_lo y then 1 else 0)
def ck_he (r : sg_R) (c : Nat) : Nat := match ck_jo (rm_ck r c) with | none => 0 | some j => jb_he (rm_jb r j)
theorem rp_md_fr {s s' : dr_S} {b d : Nat} {x : sg_D} (h : rp_md s d x) (hb : b ≤ 5) (ho : rw_ok b x) (hs : md_same s s' d) : rp_md s' d x := by
  obtain ⟨h1, ⟨h2, h3, h4, h5, h6⟩, h7⟩ := h
  obtain ⟨e1, e2, e3, e4, e5, e6, e7⟩ := hs
  refine ⟨e1.trans h1, ⟨e2.trans h2, e3.trans h3, e4.trans h4, fun k g hk => ?_, fun hl k g hk => ?_⟩, e5.trans h7⟩
  · have := (List.getElem?_eq_some_iff.mp hk).1
    have := ho.1
    exact (e6 k (by omega)).trans (h5 k g hk)
  · have := (List.getElem?_eq_some_iff.mp hk).1
    have := ho.2
    exact (e7 k (by omega)).trans (h6 hl k g hk)
theorem rp_mck_fr {s s' : dr_S} {b c lev he : Nat} {x : sg_K} (h : rp_mck s c x lev he) (hb : b ≤ 5) (ho : ck_at x = 3 → rw_ok b (ck_co x)) (hs : mk_same s s' c) : rp_mck s' c x lev he := by
  obtain ⟨h1, h2, h3, h4, h5, h6, h7, h8⟩ := h
  obtain ⟨e1, e2, e3, e4, e5, e6, e7, e8, e9, e10, e11, e12⟩ := hs
  refine ⟨e1.trans h1, e2.trans h2, fun q => e3.trans (h3 q), e4.trans h4, e6.trans h5, fun q l hl => (e10 l hl).trans (h6 q l hl), fun q => ?_, fun q => ?_⟩
  · obtain ⟨g1, g2, g3, g4, g5⟩ := h7 q
    refine ⟨e7.trans g1, e8.trans g2, e9.trans g3, fun k g hk => ?_, fun hl k g hk => ?_⟩
    · have := (List.getElem?_eq_some_iff.mp hk).1
      have := (ho q).1
      exact (e11 k (by omega)).trans (g4 k g hk)
    · have := (List.getElem?_eq_some_iff.mp hk).1
      have := (ho q).2
      exact (e12 k (by omega)).trans (g5 hl k g hk)
  · rw [e5]
    exact h8 q
theorem rm_all {ln : Nat → Nat} {s s' : dr_S} {r r' : sg_R} (h : rp_M ln s r) (hw : wf_sz r) (eb : rm_b r' = rm_b r) (eru : rm_ru r' = rm_ru r) (f0 : s'.2 1200 = s.2 1200) (f1 : s'.2 1201 = s.2 1201) (a28 : s'.1 28 = s.1 28) (a29 : s'.1 29 = s.1 29)
    (hti : s'.2 1204 = nI (rm_ti r')) (hto : s'.2 1205 = nI (rm_to r')) (hus : ∀ d, d < 256 → s'.1 30 d = (if d < rm_us r' then 1 else 0))
    (hD : ∀ d, d < rm_us r' → (d < rm_us r ∧ rm_dr r' d = rm_dr r d ∧ md_same s s' d) ∨ rp_md s' d (rm_dr r' d)) (hla : ∀ d, rm_us r' ≤ d → d < 256 → s'.1 37 d = -1)
    (hK : ∀ c, c < 4 → (rm_ck r' c = rm_ck r c ∧ mk_same s s' c ∧ (ck_at (rm_ck r c) ≠ 0 → dv_lev (rm_dr r' (ck_pl (rm_ck r c))) = dv_lev (rm_dr r (ck_pl (rm_ck r c)))) ∧ (ck_at (rm_ck r c) ≠ 0 → ck_he r' c = ck_he r c)) ∨ rp_mck s' c (rm_ck r' c) (dv_lev (rm_dr r' (ck_pl (rm_ck r' c)))) (ck_he r' c))
    (hnj : s'.2 1226 = nI (rm_nj r')) (hJ : ∀ j, j < rm_nj r' → (j < rm_nj r ∧ rm_jb r' j = rm_jb r j ∧ mj_same s s' j) ∨ rp_mj s' j (rm_jb r' j)) (hJ2 : ∀ j, rm_nj r' ≤ j → j < 120 → s'.1 55 j = 0 ∧ s'.1 56 j = 0)
    (hnc : s'.2 1234 = nI (rm_ch r').length) (hC : ∀ (i j t : Nat), (rm_ch r')[i]? = some (j, t) → ((rm_ch r)[i]? = some (j, t) ∧ s'.1 57 i = s.1 57 i ∧ s'.1 58 i = s.1 58 i ∧ s'.1 59 i = s.1 59 i ∧ jb_he (rm_jb r' j) = jb_he (rm_jb r j) ∧ jb_ki (rm_jb r' j) = jb_ki (rm_jb r j)) ∨ (s'.1 57 i = nI t ∧ s'.1 58 i = nI (jb_he (rm_jb r' j)) ∧ s'.1 59 i = (if jb_ki (rm_jb r' j) = 1 then 1 else 0))) : rp_M ln s' r' := by
  obtain ⟨h1, h2, h3, h4, h5, h6, h7, h8, h9, h10, h11, h12, h13, h14⟩ := h
  refine ⟨h1, by rw [f0, eb]; exact h2, by rw [f1, eru, a28, a29]; exact h3, hti, hto, hus, fun d hd => ?_, hla, fun c hc => ?_, hnj, fun j hj => ?_, hJ2, hnc, fun i j t hi => ?_⟩
  · rcases hD d hd with ⟨a1, a2, a3⟩ | q
    · rw [a2]
      exact rp_md_fr (h7 d a1) hw.1.2 (hw.2.2.2.1 d a1) a3
    · exact q
  · rcases hK c hc with ⟨a1, a2, a3, a4⟩ | q
    · have q := rp_mck_fr (h9 c hc) hw.1.2 (hw.2.2.2.2 c hc) a2
      have q : rp_mck s' c (rm_ck r c) (dv_lev (rm_dr r (ck_pl (rm_ck r c)))) (ck_he r c) := q
      show rp_mck s' c (rm_ck r' c) (dv_lev (rm_dr r' (ck_pl (rm_ck r' c)))) (ck_he r' c)
      rw [a1]
      obtain ⟨q1, q2, q3, q4, q5, q6, q7, q8⟩ := q
      refine ⟨q1, q2, q3, q4, q5, q6, q7, fun z => ?_⟩
      rw [a3 z, a4 z]
      exact q8 z
    · exact q
  · rcases hJ j hj with ⟨a1, a2, a3⟩ | q
    · rw [a2]
      obtain ⟨g1, g2, g3, g4, g5, g6, g7⟩ := h11 j a1
      obtain ⟨e1, e2, e3, e4, e5, e6, e7⟩ := a3
      exact ⟨e1.trans g1, e2.trans g2, e3.trans g3, e4.trans g4, e5.trans g5, e6.trans g6, e7.trans g7⟩
    · exact q
  · rcases hC i j t hi with ⟨a1, a2, a3, a4, a5, a6⟩ | q
    · rw [a2, a3, a4, a5, a6]
      exact h14 i j t a1
    · exact q
/-- a clerk changes -/
theorem rm_sK {ln : Nat → Nat} {s s' : dr_S} {r : sg_R} {c : Nat} {x : sg_K} (h : rp_M ln s r) (hw : wf_sz r) (hA : ∀ a, 28 ≤ a → a < 60 → (a < 38 ∨ 49 < a) → s'.1 a = s.1 a) (hF : s'.2 = s.2) (hO : ∀ e, e < 4 → e ≠ c → mk_same s s' e) (hx : rp_mck s' c x (dv_lev (rm_dr r (ck_pl x))) (match ck_jo x with | none => 0 | some j => jb_he (rm_jb r j))) : rp_M ln s' (sg_sK r c x) := by
  have h0 := h
  obtain ⟨h1, h2, h3, h4, h5, h6, h7, h8, h9, h10, h11, h12, h13, h14⟩ := h
  have A := fun a h1 h2 h3 => hA a h1 h2 h3
  refine rm_all h0 hw rfl rfl (by rw [hF]) (by rw [hF]) (A 28 (by decide) (by decide) (by decide)) (A 29 (by decide) (by decide) (by decide)) (by rw [hF]; exact h4) (by rw [hF]; exact h5) (fun d hd => by rw [A 30 (by decide) (by decide) (by decide)]; exact h6 d hd) (fun d hd => Or.inl ⟨hd, rfl, ?_⟩) (fun d h1 h2 => by rw [A 37 (by decide) (by decide) (by decide)]; exact h8 d h1 h2) (fun e he => ?_) (by rw [hF]; exact h10) (fun j hj => Or.inl ⟨hj, rfl, ?_⟩) (fun j h1 h2 => by rw [A 55 (by decide) (by decide) (by decide), A 56 (by decide) (by decide) (by decide)]; exact h12 j h1 h2) (by rw [hF]; exact h13) (fun i j t hi => Or.inl ⟨hi, ?_⟩)
  · unfold md_same
    rw [A 31 (by decide) (by decide) (by decide), A 32 (by decide) (by decide) (by decide), A 33 (by decide) (by decide) (by decide), A 34 (by decide) (by decide) (by decide), A 35 (by decide) (by decide) (by decide), A 36 (by decide) (by decide) (by decide), A 37 (by decide) (by decide) (by decide)]
    exact ⟨rfl, rfl, rfl, rfl, rfl, fun _ _ => rfl, fun _ _ => rfl⟩
  · by_cases hec : e = c
    · right
      subst hec
      have e1 : rm_ck (sg_sK r e x) e = x := by
        show (if e = e then x else _) = x
        rw [if_pos rfl]
      unfold ck_he
      rw [e1]
      exact hx
    · left
      have e1 : rm_ck (sg_sK r c x) e = rm_ck r e := by
        show (if e = c then x else rm_ck r e) = _
        rw [if_neg hec]
      refine ⟨e1, hO e he hec, fun _ => rfl, fun _ => ?_⟩
      unfold ck_he
      rw [e1]
      rfl
  · unfold mj_same
    rw [A 50 (by decide) (by decide) (by decide), A 51 (by decide) (by decide) (by decide), A 52 (by decide) (by decide) (by decide), A 53 (by decide) (by decide) (by decide), A 54 (by decide) (by decide) (by decide), A 55 (by decide) (by decide) (by decide), A 56 (by decide) (by decide) (by decide)]
    exact ⟨rfl, rfl, rfl, rfl, rfl, rfl, rfl⟩
  · rw [A 57 (by decide) (by decide) (by decide), A 58 (by decide) (by decide) (by decide), A 59 (by decide) (by decide) (by decide)]
    exact ⟨rfl, rfl, rfl, rfl, rfl⟩
/-- a drawer changes -/
theorem rm_sD {ln : Nat → Nat} {s s' : dr_S} {r : sg_R} {d : Nat} {x : sg_D} (h : rp_M ln s r) (hw : wf_sz r) (hd : d < rm_us r) (hlv : dv_lev x = dv_lev (rm_dr r d)) (hA : ∀ a, 28 ≤ a → a < 60 → (a < 31 ∨ 37 < a) → s'.1 a = s.1 a) (hF : s'.2 = s.2) (hO : ∀ e, e < 256 → e ≠ d → md_same s s' e) (hx : rp_md s' d x) : rp_M ln s' (sg_sD r d x) := by
  have h0 := h
  have hus := hw.2.1
  obtain ⟨h1, h2, h3, h4, h5, h6, h7, h8, h9, h10, h11, h12, h13, h14⟩ := h
  have A := fun a h1 h2 h3 => hA a h1 h2 h3
  refine rm_all h0 hw rfl rfl (by rw [hF]) (by rw [hF]) (A 28 (by decide) (by decide) (by decide)) (A 29 (by decide) (by decide) (by decide)) (by rw [hF]; exact h4) (by rw [hF]; exact h5) (fun d hd => by rw [A 30 (by decide) (by decide) (by decide)]; exact h6 d hd) (fun q hq => ?_) (fun q h1 h2 => ?_) (fun e he => Or.inl ⟨rfl, ?_, fun _ => ?_, fun _ => rfl⟩) (by rw [hF]; exact h10) (fun j hj => Or.inl ⟨hj, rfl, ?_⟩) (fun j h1 h2 => by rw [A 55 (by decide) (by decide) (by decide), A 56 (by decide) (by decide) (by decide)]; exact h12 j h1 h2) (by rw [hF]; exact h13) (fun i j t hi => Or.inl ⟨hi, ?_⟩)
  · have hq : q < rm_us r := hq
    have ed : rm_dr (sg_sD r d x) q = if q = d then x else rm_dr r q := rfl
    by_cases e : q = d
    · right
      rw [ed, if_pos e, e]
      exact hx
    · left
      rw [ed, if_neg e]
      exact ⟨hq, rfl, hO q (by omega) e⟩
  · have h1 : rm_us r ≤ q := h1
    rw [(hO q h2 (by omega)).2.2.2.2.1]
    exact h8 q h1 h2
  · unfold mk_same
    rw [A 38 (by decide) (by decide) (by decide), A 39 (by decide) (by decide) (by decide), A 40 (by decide) (by decide) (by decide), A 41 (by decide) (by decide) (by decide), A 42 (by decide) (by decide) (by decide), A 43 (by decide) (by decide) (by decide), A 44 (by decide) (by decide) (by decide), A 45 (by decide) (by decide) (by decide), A 46 (by decide) (by decide) (by decide), A 47 (by decide) (by decide) (by decide), A 48 (by decide) (by decide) (by decide), A 49 (by decide) (by decide) (by decide)]
    exact ⟨rfl, rfl, rfl, rfl, rfl, rfl, rfl, rfl, rfl, fun _ _ => rfl, fun _ _ => rfl, fun _ _ => rfl⟩
  · show dv_lev (if ck_pl (rm_ck r e) = d then x else rm_dr r (ck_pl (rm_ck r e))) = _
    by_cases q : ck_pl (rm_ck r e) = d
    · rw [if_pos q, hlv, q]
    · rw [if_neg q]
  · unfold mj_same
    rw [A 50 (by decide) (by decide) (by decide), A 51 (by decide) (by decide) (by decide), A 52 (by decide) (by decide) (by decide), A 53 (by decide) (by decide) (by decide), A 54 (by decide) (by decide) (by decide), A 55 (by decide) (by decide) (by decide), A 56 (by decide) (by decide) (by decide)]
    exact ⟨rfl, rfl, rfl, rfl, rfl, rfl, rfl⟩
  · rw [A 57 (by decide) (by decide) (by decide), A 58 (by decide) (by decide) (by decide), A 59 (by decide) (by decide) (by decide)]
    exact ⟨rfl, rfl, rfl, rfl, rfl⟩
/-- a job changes -/
theorem rm_sJ {ln : Nat → Nat} {s s' : dr_S} {r : sg_R} {j : Nat} {x : sg_J} (h : rp_M ln s r) (hw : wf_sz r) (hj : j < rm_nj r) (hhe : jb_he x = jb_he (rm_jb r j)) (hki : jb_ki x = jb_ki (rm_jb r j)) (hA : ∀ a, 28 ≤ a → a < 60 → (a < 50 ∨ 56 < a) → s'.1 a = s.1 a) (hF : s'.2 = s.2) (hO : ∀ e, e ≠ j → mj_same s s' e) (hx : rp_mj s' j x) : rp_M ln s' (sg_sJ r j x) := by
  have h0 := h
  have hus := hw.2.1
  obtain ⟨h1, h2, h3, h4, h5, h6, h7, h8, h9, h10, h11, h12, h13, h14⟩ := h
  have A := fun a h1 h2 h3 => hA a h1 h2 h3
  have ej : ∀ i, rm_jb (sg_sJ r j x) i = if i = j then x else rm_jb r i := fun i => rfl
  have ehe : ∀ i, jb_he (rm_jb (sg_sJ r j x) i) = jb_he (rm_jb r i) ∧ jb_ki (rm_jb (sg_sJ r j x) i) = jb_ki (rm_jb r i) := by
    intro i
    rw [ej]
    by_cases e : i = j
    · rw [if_pos e, hhe, hki, e]
      exact ⟨rfl, rfl⟩
    · rw [if_neg e]
      exact ⟨rfl, rfl⟩
  refine rm_all h0 hw rfl rfl (by rw [hF]) (by rw [hF]) (A 28 (by decide) (by decide) (by decide)) (A 29 (by decide) (by decide) (by decide)) (by rw [hF]; exact h4) (by rw [hF]; exact h5) (fun d hd => by rw [A 30 (by decide) (by decide) (by decide)]; exact h6 d hd) (fun q hq => Or.inl ⟨hq, rfl, ?_⟩) (fun q h1 h2 => by rw [A 37 (by decide) (by decide) (by decide)]; exact h8 q h1 h2) (fun e he => Or.inl ⟨rfl, ?_, fun _ => rfl, fun _ => ?_⟩) (by rw [hF]; exact h10) (fun i hi => ?_) (fun i h1 h2 => ?_) (by rw [hF]; exact h13) (fun i k t hi => Or.inl ⟨hi, ?_⟩)
  · unfold md_same
    rw [A 31 (by decide) (by decide) (by decide), A 32 (by decide) (by decide) (by decide), A 33 (by decide) (by decide) (by decide), A 34 (by decide) (by decide) (by decide), A 35 (by decide) (by decide) (by decide), A 36 (by decide) (by decide) (by decide), A 37 (by decide) (by decide) (by decide)]
    exact ⟨rfl, rfl, rfl, rfl, rfl, fun _ _ => rfl, fun _ _ => rfl⟩
  · unfold mk_same
    rw [A 38 (by decide) (by decide) (by decide), A 39 (by decide) (by decide) (by decide), A 40 (by decide) (by decide) (by decide), A 41 (by decide) (by decide) (by decide), A 42 (by decide) (by decide) (by decide), A 43 (by decide) (by decide) (by decide), A 44 (by decide) (by decide) (by decide), A 45 (by decide) (by decide) (by decide), A 46 (by decide) (by decide) (by decide), A 47 (by decide) (by decide) (by decide), A 48 (by decide) (by decide) (by decide), A 49 (by decide) (by decide) (by decide)]
    exact ⟨rfl, rfl, rfl, rfl, rfl, rfl, rfl, rfl, rfl, fun _ _ => rfl, fun _ _ => rfl, fun _ _ => rfl⟩
  · unfold ck_he
    show (match ck_jo (rm_ck r e) with | none => 0 | some i => jb_he (rm_jb (sg_sJ r j x) i)) = (match ck_jo (rm_ck r e) with | none => 0 | some i => jb_he (rm_jb r i))
    cases ck_jo (rm_ck r e) with
    | none => rfl
    | some i => exact (ehe i).1
  · rw [ej]
    by_cases e : i = j
    · right
      rw [if_pos e, e]
      exact hx
    · left
      rw [if_neg e]
      exact ⟨hi, rfl, hO i e⟩
  · have h1 : rm_nj r ≤ i := h1
    have := hO i (by omega)
    rw [this.2.2.2.2.2.1, this.2.2.2.2.2.2]
    exact h12 i h1 h2
  · rw [A 57 (by decide) (by decide) (by decide), A 58 (by decide) (by decide) (by decide), A 59 (by decide) (by decide) (by decide)]
    exact ⟨rfl, rfl, rfl, (ehe k).1, (ehe k).2⟩

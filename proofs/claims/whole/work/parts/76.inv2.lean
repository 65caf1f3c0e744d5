/-! 76: the invariant whole; what a step needs follows from it -/
def pd (r : sg_R) (L c : Nat) : Nat := if (ck_at (rm_ck r c) = 4 ∧ dv_lev (rm_dr r (ck_pl (rm_ck r c))) + 1 = L) ∨ ((ck_at (rm_ck r c) = 2 ∨ ck_at (rm_ck r c) = 3) ∧ dv_lev (rm_dr r (ck_pl (rm_ck r c))) = L ∧ 1 ≤ L) then 1 else 0
def pt (r : sg_R) (c : Nat) : Nat := if ck_at (rm_ck r c) = 0 ∨ jb_ki (rm_jb r (ck_job (rm_ck r c))) ≠ 1 then 0 else if ck_at (rm_ck r c) = 4 then 12 - dv_lev (rm_dr r (ck_pl (rm_ck r c))) else if ck_at (rm_ck r c) = 1 then 13 else 13 - dv_lev (rm_dr r (ck_pl (rm_ck r c)))
def mh (r : sg_R) (L m : Nat) : Prop := (∃ d, d < rm_us r ∧ dv_lev (rm_dr r d) = L ∧ (dv_hs (rm_dr r d)).length = m) ∨ (∃ c, c < 4 ∧ ck_at (rm_ck r c) = 3 ∧ dv_lev (rm_dr r (ck_pl (rm_ck r c))) = L ∧ (dv_hs (ck_co (rm_ck r c))).length = m)
def iv_T (r : sg_R) : Prop := (dv_th (rm_dr r (rm_to r)) ≠ none ∨ ∃ c, c < 4 ∧ ck_at (rm_ck r c) = 3 ∧ ck_pl (rm_ck r c) = rm_to r ∧ dv_th (ck_co (rm_ck r c)) ≠ none) → ∃ c, c < 4 ∧ ck_at (rm_ck r c) = 4 ∧ ck_pl (rm_ck r c) = rm_to r
def cnt (r : sg_R) (L : Nat) : Nat := cntN (fun d => dv_lev (rm_dr r d)) L (rm_us r)
def iv (r : sg_R) : Prop := ∃ rk t, iv_st r rk ∧ rm_us r + psum (pt r) ≤ 256 ∧ iv_T r ∧ cnv t (dv_lev (rm_dr r (rm_to r))) (cnt r) (fun L => psum (pd r L)) (mh r)
theorem look_nm {j : Nat} : ∀ (l : List (Nat × Nat)), l.lookup j = none → j ∉ l.map Prod.fst
  | [], _ => List.not_mem_nil
  | w :: v, hl => by
    have hl : List.lookup j ((w.1, w.2) :: v) = none := hl
    by_cases ej : j = w.1
    · subst ej
      simp [List.lookup] at hl
    · have e2 : (j == w.1) = false := by simpa using ej
      simp only [List.lookup, e2] at hl
      intro q
      rcases List.mem_cons.mp q with z | z
      · exact ej z
      · exact look_nm v hl z
theorem cntN_le {f : Nat → Nat} {L : Nat} : ∀ n, cntN f L n ≤ n
  | 0 => Nat.le_refl _
  | n + 1 => by
    rw [cntN]
    have := cntN_le (f := f) (L := L) n
    split <;> omega
theorem nodup_lt {l : List Nat} {n : Nat} (h : l.Nodup) (hl : ∀ d ∈ l, d < n) : l.length ≤ n := Nat.le_trans (cntN_nd (f := fun _ => 0) (L := 0) n l h (fun d hd => ⟨hl d hd, rfl⟩)) (cntN_le n)
theorem iv_rw {r : sg_R} {rk : Nat → Nat} {d : Nat} {x : sg_D} (h : iv_x r rk d x) : rw_ok (rm_b r) x := by
  obtain ⟨h1, h2, h3, h4, h5, h6, h7, h8⟩ := h
  refine ⟨by omega, ?_⟩
  by_cases e : 0 < dv_lev x
  · have := (h7 e).1
    omega
  · rw [(h8 (by omega)).1]
    exact Nat.zero_le _
theorem iv_hs {r : sg_R} {rk : Nat → Nat} {d : Nat} {x : sg_D} (h : iv_x r rk d x) : hs_ok (rm_b r) x := ⟨by have := h.2.1; omega, h.2.2.1, h.2.2.2.1⟩
theorem iv_sz {r : sg_R} {rk : Nat → Nat} (h : iv_st r rk) : wf_sz r := by
  obtain ⟨⟨h1, h2, h3, h4⟩, h5, h6, h7, h8, h9, h10⟩ := h
  exact ⟨h1, h2, h3, fun d hd => iv_rw (h6 d hd).1, fun c hc q => iv_rw (((h7 c hc).2.2.2 (by rw [q]; decide)).2.2.2.2.2 q)⟩
theorem iv_l11 {r : sg_R} {rk : Nat → Nat} {t : Nat} (h : iv_st r rk) (hc : cnv t (dv_lev (rm_dr r (rm_to r))) (cnt r) (fun L => psum (pd r L)) (mh r)) {d : Nat} (hd : d < rm_us r) : dv_lev (rm_dr r d) ≤ 11 := Nat.le_trans (h.2.1.2 d hd) hc.2.2.1
theorem iv_us {r : sg_R} {rk : Nat → Nat} {t c j : Nat} (h : iv_st r rk) (hp : rm_us r + psum (pt r) ≤ 256) (hcn : cnv t (dv_lev (rm_dr r (rm_to r))) (cnt r) (fun L => psum (pd r L)) (mh r)) (hc : c < 4) (hat : ck_at (rm_ck r c) ≠ 0) (hj : ck_jo (rm_ck r c) = some j) (hk : jb_ki (rm_jb r j) = 1) : rm_us r < 256 := by
  have hpl := ((h.2.2.2.1 c hc).2.2.2 hat).1.1
  have hl := iv_l11 h hcn hpl
  have hg := psum_ge (f := pt r) hc
  have : 1 ≤ pt r c := by
    unfold pt
    rw [if_neg (by
      intro q
      rcases q with q | q
      · exact hat q
      · apply q
        rw [show ck_job (rm_ck r c) = j from by unfold ck_job; rw [hj]; rfl]
        exact hk)]
    split
    · omega
    · split <;> omega
  omega
theorem iv_step_wf {r : sg_R} {rk : Nat → Nat} {t c : Nat} (h : iv_st r rk) (hcn : cnv t (dv_lev (rm_dr r (rm_to r))) (cnt r) (fun L => psum (pd r L)) (mh r)) (hc : c < 4) : wf_step r c := by
  have h0 := h
  obtain ⟨⟨h1, h2, h3, h4⟩, h5, h6, h7, h8, h9, h10⟩ := h
  refine ⟨iv_sz h0, h4, fun e he => ?_, fun d hd => ?_, hc⟩
  · obtain ⟨k1, k2, k3, k4⟩ := h7 e he
    refine ⟨k1, k2, fun q => ?_⟩
    obtain ⟨⟨p1, p2⟩, ⟨j, j1, j2, j3, j4, j5, j6⟩, _⟩ := k4 q
    exact ⟨p1, p2, j, j1, k3 j j1, j2⟩
  · obtain ⟨x1, x2⟩ := h6 d hd
    have hl := iv_l11 h0 hcn hd
    refine ⟨⟨iv_hs x1, by omega, x2, fun t ht => (x1.2.2.2.2.2.1 t ht).1, x1.2.2.2.2.1⟩, fun q => ?_⟩
    obtain ⟨a1, a2⟩ := x1.2.2.2.2.2.2.1 q
    exact ⟨a1, fun k hk => (a2 k hk).1⟩
theorem iv_one {r : sg_R} {c : Nat} (h : iv r) (hc : c < 4) (hat : ck_at (rm_ck r c) ≠ 0) : wf_one r c := by
  obtain ⟨rk, t, h, hp, hT, hcn⟩ := h
  have h0 := h
  obtain ⟨⟨h1, h2, h3, h4⟩, h5, h6, h7, h8, h9, h10⟩ := h
  obtain ⟨k1, k2, k3, k4⟩ := h7 c hc
  obtain ⟨⟨p1, p2⟩, ⟨j, j1, j2, j3, j4, j5, j6⟩, q3, q4, q5, q6⟩ := k4 hat
  have hjb : ck_job (rm_ck r c) = j := by unfold ck_job; rw [j1]; rfl
  refine ⟨⟨iv_step_wf h0 hcn hc, ⟨h5.1, fun q => ⟨?_, ?_, fun l p hp => (q3 l p hp).1⟩⟩, fun q => ?_, hat⟩, ⟨fun d t hd ht => ?_, fun _ => q3⟩, fun d hd => ⟨?_, fun q => ?_⟩, fun q1 q2 => ?_⟩
  · obtain ⟨n, n1, n2, n3⟩ := q4 q
    exact ⟨n, n1, n2⟩
  · exact iv_us h0 hp hcn hc hat j1 (j5 (Or.inl q))
  · have x := q6 q
    refine ⟨x.1, iv_hs x, x.2.1, fun z => ?_, fun z => ?_, fun z => ?_⟩
    · have z2 : 0 < dv_lev (rm_dr r (ck_pl (rm_ck r c))) := by rw [← x.1]; exact z
      obtain ⟨n, n1, n2, n3⟩ := q5 (Or.inr q) z2
      exact ⟨(x.2.2.2.2.2.2.1 z).1, n, n1⟩
    · rw [hjb] at z
      refine iv_us h0 hp hcn hc hat j1 ?_
      rcases z with z | z
      · exact z
      · exact j5 (Or.inr ⟨by rw [q]; decide, by rw [← x.1]; exact z⟩)
    · rw [hjb]
      exact (j6 (Or.inr ⟨by rw [q]; decide, by rw [← x.1]; exact z⟩)).2
  · obtain ⟨a1, a2, a3⟩ := (h6 d hd).1.2.2.2.2.2.1 t ht
    refine ⟨fun z => ?_, a2⟩
    rw [z] at a3
    exact Nat.lt_irrefl _ a3
  · have := iv_l11 h0 hcn hd
    omega
  · obtain ⟨a1, a2⟩ := (h6 d hd).1.2.2.2.2.2.2.1 q
    exact fun k hk => (a2 k hk).2
  · have hn := look_nm _ (j6 (Or.inr ⟨by rw [q1]; decide, q2⟩)).2
    have hl := nodup_lt (n := rm_nj r) (List.nodup_cons.mpr ⟨hn, h9.2.1⟩) (fun d hd => by
      rcases List.mem_cons.mp hd with z | z
      · rw [z]; exact k3 j j1
      · obtain ⟨p, hp1, hp2⟩ := List.mem_map.mp z
        rw [← hp2]
        exact (h9.1 p.1 p.2 hp1).1)
    rw [List.length_cons, List.length_map] at hl
    omega
/-- what letting go or latching leaves -/
theorem la_all (r : sg_R) (c d : Nat) (v : Option Nat) : rm_to (sg_la r c d v) = rm_to r ∧ rm_ti (sg_la r c d v) = rm_ti r ∧ rm_ch (sg_la r c d v) = rm_ch r ∧ (∀ e, iv_sm (rm_dr (sg_la r c d v) e) (rm_dr r e)) ∧ (∀ e, dv_la (rm_dr (sg_la r c d v) e) = dv_la (rm_dr r e) ∨ dv_la (rm_dr (sg_la r c d v) e) = v) := by
  unfold sg_la
  split
  · exact ⟨rfl, rfl, rfl, fun e => ⟨rfl, rfl, rfl, rfl, rfl⟩, fun e => Or.inl rfl⟩
  · refine ⟨rfl, rfl, rfl, fun e => ?_, fun e => ?_⟩
    · show iv_sm (if e = d then _ else rm_dr r e) (rm_dr r e)
      by_cases q : e = d
      · rw [if_pos q, q]
        exact ⟨rfl, rfl, rfl, rfl, rfl⟩
      · rw [if_neg q]
        exact ⟨rfl, rfl, rfl, rfl, rfl⟩
    · show dv_la (if e = d then _ else rm_dr r e) = dv_la (rm_dr r e) ∨ dv_la (if e = d then _ else rm_dr r e) = v
      by_cases q : e = d
      · rw [if_pos q]
        exact Or.inr rfl
      · rw [if_neg q]
        exact Or.inl rfl
theorem sm_rf (x : sg_D) : iv_sm x x := ⟨rfl, rfl, rfl, rfl, rfl⟩
theorem sm_tr {x y z : sg_D} (h1 : iv_sm x y) (h2 : iv_sm y z) : iv_sm x z := ⟨h1.1.trans h2.1, h1.2.1.trans h2.2.1, h1.2.2.1.trans h2.2.2.1, h1.2.2.2.1.trans h2.2.2.2.1, h1.2.2.2.2.trans h2.2.2.2.2⟩
/-- how the sums change when one clerk does -/
theorem pd_sum {r r' : sg_R} {c : Nat} (hc : c < 4) (hK : ∀ e, e ≠ c → rm_ck r' e = rm_ck r e) (hl : ∀ e, e < 4 → ck_at (rm_ck r e) ≠ 0 → dv_lev (rm_dr r' (ck_pl (rm_ck r e))) = dv_lev (rm_dr r (ck_pl (rm_ck r e)))) (L : Nat) : psum (pd r' L) + pd r L c = psum (pd r L) + pd r' L c := by
  refine psum_upd hc (fun e he hne => ?_)
  unfold pd
  rw [hK e hne]
  by_cases q : ck_at (rm_ck r e) = 0
  · rw [if_neg (by omega), if_neg (by omega)]
  · rw [hl e he q]
theorem pt_sum {r r' : sg_R} {c : Nat} (hc : c < 4) (hK : ∀ e, e ≠ c → rm_ck r' e = rm_ck r e) (hl : ∀ e, e < 4 → ck_at (rm_ck r e) ≠ 0 → dv_lev (rm_dr r' (ck_pl (rm_ck r e))) = dv_lev (rm_dr r (ck_pl (rm_ck r e)))) (hk : ∀ e, e < 4 → ck_at (rm_ck r e) ≠ 0 → jb_ki (rm_jb r' (ck_job (rm_ck r e))) = jb_ki (rm_jb r (ck_job (rm_ck r e)))) : psum (pt r') + pt r c = psum (pt r) + pt r' c := by
  refine psum_upd hc (fun e he hne => ?_)
  unfold pt
  rw [hK e hne]
  by_cases q : ck_at (rm_ck r e) = 0
  · rw [if_pos (Or.inl q), if_pos (Or.inl q)]
  · rw [hl e he q, hk e he q]

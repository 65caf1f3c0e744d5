/-! 83: every step keeps the invariant -/
theorem mem_ins {l : List Nat} {k v h : Nat} (hh : h ∈ sg_ins l k v) : h = v ∨ h ∈ l := by
  unfold sg_ins at hh
  rcases List.mem_append.mp hh with q | q
  · exact Or.inr (List.mem_of_mem_take q)
  · rcases List.mem_cons.mp q with z | z
    · exact Or.inl z
    · exact Or.inr (List.mem_of_mem_drop z)
theorem iv_done {r r2 : sg_R} {rk : Nat → Nat} {t c j : Nat} {X : sg_D} (st : iv_st r rk) (hp : rm_us r + psum (pt r) ≤ 256) (hT : iv_T r) (hcn : cnv t (dv_lev (rm_dr r (rm_to r))) (cnt r) (fun L => psum (pd r L)) (mh r)) (hc : c < 4) (hat : ck_at (rm_ck r c) = 3) (hj : ck_jo (rm_ck r c) = some j) (hb : iv_bw r j (ck_pl (rm_ck r c)) X r2)
    (hch : rm_ch r2 = rm_ch r ∨ (rm_ch r2 = rm_ch r ++ [(j, rm_ti r + 1)] ∧ (rm_ch r).lookup j = none ∧ jb_ki (rm_jb r j) ≠ 0)) (hX : iv_y r rk (ck_pl (rm_ck r c)) X) (hki : (dv_hs X).length = 2 * rm_b r + 1 → jb_ki (rm_jb r j) = 1) (hla : dv_la X = dv_la (rm_dr r (ck_pl (rm_ck r c)))) (hth : dv_th X = dv_th (ck_co (rm_ck r c))) (hlen : 0 < dv_lev X → (dv_hs (ck_co (rm_ck r c))).length ≤ (dv_hs X).length ∧ (dv_hs X).length ≤ (dv_hs (ck_co (rm_ck r c))).length + 1) : iv (sg_done r2 c (ck_pl (rm_ck r c))) := by
  have hnw : rm_dr r2 (ck_pl (rm_ck r c)) = X := by rw [hb.2.2.2, if_pos rfl]
  unfold sg_done
  rw [hnw, hb.1.1, hb.1.2.2.1]
  by_cases e : (dv_hs X).length ≤ 2 * rm_b r
  · rw [if_pos e]
    exact iv_wr_end st hp hT hcn hc hat hj hb hch (iv_yx hX e) hla hth hlen
  · have hl := hX.2.1
    rw [if_neg e]
    exact iv_wr_part st hp hT hcn hc hat hj hb hch hX (by omega) (hki (by omega)) hla (fun q => (hlen q).2)
theorem iv_write {r : sg_R} {c j : Nat} (h : iv r) (hc : c < 4) (hat : ck_at (rm_ck r c) = 3) (hj : ck_jo (rm_ck r c) = some j) : iv (sg_write (sg_pass r j) c) := by
  have hat0 : ck_at (rm_ck r c) ≠ 0 := by rw [hat]; decide
  have h0 := h
  obtain ⟨rk, t, st, hp, hT, hcn⟩ := h
  obtain ⟨k1, k2, k3, k4⟩ := st.2.2.2.1 c hc
  obtain ⟨⟨p1, p2⟩, ⟨j', j1, j2, j3, j4, j5, j6⟩, p3, p4, p5, p6⟩ := k4 hat0
  have ejj : j' = j := by rw [hj] at j1; cases j1; rfl
  subst ejj
  have hjn := k3 j' j1
  have hy := p6 hat
  have hy0 := hy
  obtain ⟨y1, y2, y3, y4, y5, y6, y7, y8⟩ := hy
  have hb2 := st.1.1
  have wl := sg_way_le (rm_ru r) (ck_so (rm_ck r c)) (dv_hs (ck_co (rm_ck r c)))
  have hjb : ck_job (rm_ck (sg_pass r j') c) = j' := by unfold ck_job; rw [show rm_ck (sg_pass r j') c = rm_ck r c from rfl, hj]; rfl
  rw [sg_write_eq, hjb, show rm_ck (sg_pass r j') = rm_ck r from rfl, show rm_dr (sg_pass r j') = rm_dr r from rfl, show rm_ru (sg_pass r j') = rm_ru r from rfl, show rm_ch (sg_pass r j') = rm_ch r from rfl, show rm_ti (sg_pass r j') = rm_ti r + 1 from rfl, (pass_jb r j' j').1]
  by_cases hl0 : dv_lev (rm_dr r (ck_pl (rm_ck r c))) = 0
  · rw [if_pos hl0]
    obtain ⟨f1, f2⟩ := j6 (Or.inr ⟨by rw [hat]; decide, hl0⟩)
    have hk0 := j4 (by rw [hat]; decide)
    have hyl : dv_lev (ck_co (rm_ck r c)) = 0 := by rw [y1, hl0]
    obtain ⟨z1, z2⟩ := y8 hyl
    split
    · exact iv_endK h0 hc hat0 hj (ba_la (ba_pass r c j') (Or.inl rfl)) (by omega) (fun q => by rw [hat] at q; exact absurd q.1 (by decide))
    · next hne =>
      have go : ∀ hs' : List Nat, hs'.length ≤ 2 * rm_b r + 1 → (∀ h ∈ hs', h < 10000 ∧ ∃ j, j < rm_nj r ∧ jb_ki (rm_jb r j) = 1 ∧ jb_he (rm_jb r j) = h) → (hs'.length = 2 * rm_b r + 1 → jb_ki (rm_jb r j') = 1) → iv (sg_done (sg_sC (sg_sD (sg_pass r j') (ck_pl (rm_ck r c)) (0, hs', dv_cs (ck_co (rm_ck r c)), dv_hi (ck_co (rm_ck r c)), dv_th (ck_co (rm_ck r c)), dv_la (rm_dr r (ck_pl (rm_ck r c))))) (rm_ch r ++ [(j', rm_ti r + 1)])) c (ck_pl (rm_ck r c))) := by
        intro hs' a1 a2 a3
        refine iv_done (X := (0, hs', dv_cs (ck_co (rm_ck r c)), dv_hi (ck_co (rm_ck r c)), dv_th (ck_co (rm_ck r c)), dv_la (rm_dr r (ck_pl (rm_ck r c))))) st hp hT hcn hc hat hj ⟨⟨rfl, rfl, rfl, rfl, rfl, rfl⟩, rfl, rfl, fun e => rfl⟩ (Or.inr ⟨rfl, f2, hk0⟩) ⟨hl0.symm, a1, fun h hh => (a2 h hh).1, y4, y5, fun t ht => ?_, fun q => absurd (show 0 < 0 from q) (by decide), fun _ => ⟨z1, fun h hh => (a2 h hh).2⟩⟩ a3 rfl rfl (fun q => absurd (show 0 < 0 from q) (by decide))
        obtain ⟨b1, b2, b3⟩ := y6 t ht
        exact ⟨b1, b2.trans hyl, b3⟩
      cases hpos : sg_pos (dv_hs (ck_co (rm_ck r c))) (ck_so (rm_ck r c)) with
      | none =>
        have hk1 : jb_ki (rm_jb r j') = 1 := by
          by_cases e : jb_ki (rm_jb r j') = 1
          · exact e
          · rw [hpos] at hne
            exact absurd (decide_eq_false e) hne
        have hl := sg_ins_len (v := ck_so (rm_ck r c)) wl
        dsimp only
        refine go _ (by omega) (fun h hh => ?_) (fun _ => hk1)
        rcases mem_ins hh with q | q
        · rw [q]
          exact ⟨p2, j', hjn, hk1, f1⟩
        · exact ⟨y3 h q, z2 h q⟩
      | some i =>
        have hl := List.length_eraseIdx_le (dv_hs (ck_co (rm_ck r c))) i
        dsimp only
        refine go _ (by omega) (fun h hh => ?_) (fun q => by omega)
        have q := (List.eraseIdx_sublist (dv_hs (ck_co (rm_ck r c))) i).subset hh
        exact ⟨y3 h q, z2 h q⟩
  · rw [if_neg hl0]
    have hyl : 0 < dv_lev (ck_co (rm_ck r c)) := by rw [y1]; exact Nat.pos_of_ne_zero hl0
    have hk1 := j5 (Or.inr ⟨by rw [hat]; decide, Nat.pos_of_ne_zero hl0⟩)
    obtain ⟨z1, z2⟩ := y7 hyl
    obtain ⟨n, n1, n2, n3⟩ := p5 (Or.inr hat) (Nat.pos_of_ne_zero hl0)
    rw [show (ck_ri (rm_ck r c)).getD 0 = n from by rw [n1]; rfl]
    have go : ∀ hs' cs' : List Nat, (dv_hs (ck_co (rm_ck r c))).length ≤ hs'.length → hs'.length ≤ (dv_hs (ck_co (rm_ck r c))).length + 1 → cs'.length = hs'.length + 1 → (∀ h ∈ hs', h < 10000) → (∀ k ∈ cs', k = n ∨ k ∈ dv_cs (ck_co (rm_ck r c))) → iv (sg_done (sg_sD (sg_pass r j') (ck_pl (rm_ck r c)) (dv_lev (rm_dr r (ck_pl (rm_ck r c))), hs', cs', dv_hi (ck_co (rm_ck r c)), dv_th (ck_co (rm_ck r c)), dv_la (rm_dr r (ck_pl (rm_ck r c))))) c (ck_pl (rm_ck r c))) := by
      intro hs' cs' a1 a2 a3 a4 a5
      refine iv_done (X := (dv_lev (rm_dr r (ck_pl (rm_ck r c))), hs', cs', dv_hi (ck_co (rm_ck r c)), dv_th (ck_co (rm_ck r c)), dv_la (rm_dr r (ck_pl (rm_ck r c))))) st hp hT hcn hc hat hj ⟨⟨rfl, rfl, rfl, rfl, rfl, rfl⟩, rfl, rfl, fun e => rfl⟩ (Or.inl rfl) ⟨rfl, by show hs'.length ≤ _; omega, a4, y4, y5, fun t ht => ?_, fun _ => ⟨a3, fun k hk => ?_⟩, fun q => absurd (show dv_lev (rm_dr r (ck_pl (rm_ck r c))) = 0 from q) hl0⟩ (fun _ => hk1) rfl rfl (fun _ => ⟨a1, a2⟩)
      · obtain ⟨b1, b2, b3⟩ := y6 t ht
        exact ⟨b1, b2.trans y1, b3⟩
      · show k < rm_us r ∧ dv_lev (rm_dr r k) + 1 = dv_lev (rm_dr r (ck_pl (rm_ck r c)))
        rcases a5 k hk with q | q
        · rw [q]; exact ⟨n2, n3⟩
        · obtain ⟨b1, b2⟩ := z2 k q
          exact ⟨b1, b2.trans y1⟩
    cases hpos : sg_pos (dv_hs (ck_co (rm_ck r c))) (ck_so (rm_ck r c)) with
    | none =>
      have hl := sg_ins_len (v := ck_so (rm_ck r c)) wl
      have hl2 := sg_ins_len (l := dv_cs (ck_co (rm_ck r c))) (k := sg_way (rm_ru r) (dv_hs (ck_co (rm_ck r c))) (ck_so (rm_ck r c)) + 1) (v := n) (by omega)
      dsimp only
      refine go _ _ (by omega) (by omega) (by omega) (fun h hh => ?_) (fun k hk => mem_ins hk)
      rcases mem_ins hh with q | q
      · rw [q]; exact p2
      · exact y3 h q
    | some i =>
      dsimp only
      refine go _ _ (Nat.le_refl _) (Nat.le_succ _) (by rw [List.length_set]; exact z1) y3 (fun k hk => ?_)
      rcases List.mem_or_eq_of_mem_set hk with q | q
      · exact Or.inr q
      · exact Or.inl q
theorem iv_step {r : sg_R} {c : Nat} (h : iv r) (hc : c < 4) (hat : ck_at (rm_ck r c) ≠ 0) : iv (sg_step r c) := by
  have h0 := h
  obtain ⟨rk, t, st, hp, hT, hcn⟩ := h
  obtain ⟨k1, k2, k3, k4⟩ := st.2.2.2.1 c hc
  obtain ⟨_, ⟨j, j1, _⟩, _⟩ := k4 hat
  have hjb : ck_job (rm_ck r c) = j := by unfold ck_job; rw [j1]; rfl
  rw [sg_step_eq, hjb]
  rcases at_cases hat k2 with e | e | e | e
  · rw [e, if_pos rfl]
    exact iv_read h0 hc e j1
  · rw [e, if_neg (by decide), if_pos rfl]
    exact iv_hold h0 hc e j1
  · rw [e, if_neg (by decide), if_neg (by decide), if_pos rfl]
    exact iv_write h0 hc e j1
  · rw [e, if_neg (by decide), if_neg (by decide), if_neg (by decide), if_pos rfl]
    exact iv_rise h0 hc e j1

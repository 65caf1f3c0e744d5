/-! 67: a step of holding, of the reference -/
theorem la_comm {r : sg_R} {c d t : Nat} {u v : Option Nat} (h : t ≠ d) : sg_la (sg_la r c t v) c d u = sg_la (sg_la r c d u) c t v := by
  by_cases e : ck_fa (rm_ck r c) = 2
  · have q : ∀ x y, sg_la r c x y = r := fun x y => by unfold sg_la; rw [if_pos e]
    simp only [q]
  · have q : ∀ x y, sg_la r c x y = sg_sD r x (dv_lev (rm_dr r x), dv_hs (rm_dr r x), dv_cs (rm_dr r x), dv_hi (rm_dr r x), dv_th (rm_dr r x), y) := fun x y => by unfold sg_la; rw [if_neg e]
    have q2 : ∀ x y z w, sg_la (sg_sD r x w) c y z = sg_sD (sg_sD r x w) y (dv_lev (rm_dr (sg_sD r x w) y), dv_hs (rm_dr (sg_sD r x w) y), dv_cs (rm_dr (sg_sD r x w) y), dv_hi (rm_dr (sg_sD r x w) y), dv_th (rm_dr (sg_sD r x w) y), z) := fun x y z w => by unfold sg_la; rw [if_neg (show ¬ ck_fa (rm_ck (sg_sD r x w) c) = 2 from e)]
    rw [q, q, q2, q2]
    have e1 : ∀ x y w, y ≠ x → rm_dr (sg_sD r x w) y = rm_dr r y := fun x y w hne => by
      show (if y = x then w else rm_dr r y) = _
      rw [if_neg hne]
    rw [e1 t d _ (fun z => h z.symm), e1 d t _ h]
    unfold sg_sD
    dsimp only
    congr 4
    funext i
    by_cases i1 : i = t
    · subst i1
      rw [if_neg h, if_pos rfl, if_pos rfl]
    · rw [if_neg i1, if_neg i1]
theorem qm_shift {ln : Nat → Nat} {s : dr_S} {r : sg_R} {c d t : Nat} (hr : rp_M ln s r) (hw : wf_sz r) (hc : c < 4) (hf : ck_fa (rm_ck r c) ≤ 2) (hd : d < rm_us r) (ht : t < rm_us r) (htd : t ≠ d) : ∃ s1 s2, f_X12_latches ln (nI c) (nI t) s = some (0, s1) ∧ f_X12_letsGo ln (nI c) (nI d) s1 = some (0, s2) ∧ dm_F s s2 ∧ rp_M ln s2 (sg_la (sg_la r c d none) c t (some c)) := by
  obtain ⟨s1, e1, F1, m1⟩ := qm_latches (d := t) hr hw hc hf ht
  have K := ck_la r c t (some c)
  obtain ⟨s2, e2, F2, m2⟩ := qm_letsGo (c := c) (d := d) m1 (wf_la hw ht) hc (by rw [K.1]; exact hf) (by rw [K.2.2.1]; exact hd)
  rw [la_comm htd] at m2
  exact ⟨s1, s2, e1, e2, dm_tr F1 F2, m2⟩
theorem qm_cp_p {ln : Nat → Nat} {c d : Nat} (L : dq_ML ln) (hc : c < 4) (hd : d < 256) : ∀ (fu i : Nat) (s : dr_S), i ≤ 14 → 14 - i < fu → ∃ s1, f_X12_holds_p77 ln fu (nI c) (nI d) (nI i) s = f_X12_holds_p77 ln 1 (nI c) (nI d) (nI 14) s1 ∧ dm_F s s1 ∧ s1.2 = s.2 ∧ (∀ a, a ≠ 46 → a ≠ 47 → s1.1 a = s.1 a) ∧ (∀ p, s1.1 46 p = if 14 * c + i ≤ p ∧ p < 14 * c + 14 then s.1 33 (14 * d + (p - 14 * c)) else s.1 46 p) ∧ (∀ p, s1.1 47 p = if 14 * c + i ≤ p ∧ p < 14 * c + 14 then s.1 34 (14 * d + (p - 14 * c)) else s.1 47 p)
  | 0, _, _, _, q => absurd q (Nat.not_lt_zero _)
  | fu + 1, i, s, hi, hf => by
    by_cases h : i = 14
    · subst h
      refine ⟨s, ?_, dm_rf s, rfl, fun _ _ _ => rfl, fun p => ?_, fun p => ?_⟩
      · rw [f_X12_holds_p77, f_X12_holds_p77, if_pos (show (14 : Int32) ≤ nI 14 by decide), if_pos (show (14 : Int32) ≤ nI 14 by decide)]
      · rw [if_neg (by omega)]
      · rw [if_neg (by omega)]
    · rw [f_X12_holds_p77, if_neg (show ¬ (14 : Int32) ≤ nI i from nI_ge (a := i) (b := 14) (by omega) (by omega)), show (14 : Int32) * nI d = nI (14 * d) from by rw [show (14 : Int32) = nI 14 from rfl, pk_mul], show (14 : Int32) * nI c = nI (14 * c) from by rw [show (14 : Int32) = nI 14 from rfl, pk_mul], nI_add, nI_add, m_rdb L 33 3584 rfl (by decide) (by decide) (by omega), m_wrb L 46 56 rfl (by decide) (by decide) (by omega), m_rdb L 34 3584 rfl (by decide) (by decide) (by omega), m_wrb L 47 56 rfl (by decide) (by decide) (by omega), q_let, nI_1]
      obtain ⟨s1, a1, a2, a3, a4, a5, a6⟩ := qm_cp_p L hc hd fu (i + 1) (dr_put (dr_put s 46 (14 * c + i) (s.1 33 (14 * d + i))) 47 (14 * c + i) (s.1 34 (14 * d + i))) (by omega) (by omega)
      refine ⟨s1, a1, dm_tr (dm_put _ _ _ (dm_put _ _ _ (dm_rf s) (by decide)) (by decide)) a2, a3, fun a h1 h2 => by rw [a4 a h1 h2, q_putO h2, q_putO h1], fun p => ?_, fun p => ?_⟩
      · rw [a5]
        show (if _ then s.1 33 _ else upd (s.1 46) (14 * c + i) (s.1 33 (14 * d + i)) p) = _
        by_cases hp : p = 14 * c + i
        · subst hp
          rw [if_neg (by omega), if_pos (by omega), q_updS, show 14 * c + i - 14 * c = i by omega]
        · rw [q_updO hp]
          by_cases hq : 14 * c + (i + 1) ≤ p ∧ p < 14 * c + 14
          · rw [if_pos hq, if_pos (by omega)]
          · rw [if_neg hq, if_neg (by omega)]
      · rw [a6]
        show (if _ then s.1 34 _ else upd (s.1 47) (14 * c + i) (s.1 34 (14 * d + i)) p) = _
        by_cases hp : p = 14 * c + i
        · subst hp
          rw [if_neg (by omega), if_pos (by omega), q_updS, show 14 * c + i - 14 * c = i by omega]
        · rw [q_updO hp]
          by_cases hq : 14 * c + (i + 1) ≤ p ∧ p < 14 * c + 14
          · rw [if_pos hq, if_pos (by omega)]
          · rw [if_neg hq, if_neg (by omega)]
theorem sg_hold_eq (r : sg_R) (c : Nat) : sg_hold r c = (if sg_must r c (ck_pl (rm_ck r c)) (ck_so (rm_ck r c)) then sg_move r c (dv_th (rm_dr r (ck_pl (rm_ck r c)))) else sg_sK r c (3, ck_pl (rm_ck r c), ck_jo (rm_ck r c), ck_fa (rm_ck r c), ck_so (rm_ck r c), ck_ri (rm_ck r c), ck_pa (rm_ck r c), rm_dr r (ck_pl (rm_ck r c)))) := rfl
theorem sg_move_eq (r : sg_R) (c t : Nat) : sg_move r c (some t) = (if sg_free r c t then sg_sK (sg_la (sg_la r c (ck_pl (rm_ck r c)) none) c t (some c)) c (ck_put (rm_ck r c) 2 t (ck_so (rm_ck r c)) (ck_ri (rm_ck r c))) else r) := rfl
theorem la_lev (r : sg_R) (c d e : Nat) (v : Option Nat) : dv_lev (rm_dr (sg_la r c d v) e) = dv_lev (rm_dr r e) := by
  unfold sg_la
  split
  · rfl
  · show dv_lev (if e = d then _ else rm_dr r e) = _
    by_cases q : e = d
    · rw [if_pos q, q]
      rfl
    · rw [if_neg q]
theorem qm_holds {ln : Nat → Nat} {s : dr_S} {r : sg_R} {c : Nat} (hr : rp_M ln s r) (hs : wf_step r c) (hm : wf_md r c) (hat : ck_at (rm_ck r c) = 2) : ∃ s', f_X12_holds ln (nI c) s = some (0, s') ∧ dm_F s s' ∧ rp_M ln s' (sg_hold r c) := by
  obtain ⟨hw, hok, hck, hdr, hc⟩ := hs
  have hat0 : ck_at (rm_ck r c) ≠ 0 := by rw [hat]; decide
  obtain ⟨hf, hat4, hck3⟩ := hck c hc
  obtain ⟨hpl, hso, j, hj, hjn, hki⟩ := hck3 hat0
  have hus := hw.2.1
  have hnj := hw.2.2.1
  have hb := hw.1
  have L := mM_L hr
  obtain ⟨k1, k2, k3, k4, k5, k6, k7, k8⟩ := mM_ck hr c hc
  have k9 := k8 hat0
  clear k8
  obtain ⟨⟨ho, hlv, hla, htl, -⟩, hcs⟩ := hdr _ hpl
  obtain ⟨d1, d2, d3⟩ := mM_dr hr _ hpl
  rw [sg_hold_eq]
  unfold f_X12_holds
  rw [m_rdb L 40 4 rfl (by decide) (by decide) hc, k3 hat0, qm_looksFor hr hw hc hat0 hat4 hpl hlv hj hjn, q_bi, qm_covered hr hw hok hc hf hpl ho hso, q_bi]
  cases hmu : sg_must r c (ck_pl (rm_ck r c)) (ck_so (rm_ck r c)) with
  | true =>
    rw [if_pos (show bI (!true) = (0 : Int32) from rfl), if_pos rfl, m_rdb L 36 256 rfl (by decide) (by decide) (by omega), d2.2.2.1]
    cases ht : dv_th (rm_dr r (ck_pl (rm_ck r c))) with
    | none =>
      rw [if_pos (show nO none = (-1 : Int32) from rfl)]
      exact ⟨s, rfl, dm_rf s, hr⟩
    | some t =>
      have htt := htl t ht
      obtain ⟨htd, htv⟩ := hm.1 _ t hpl ht
      rw [show nO (some t) = nI t from rfl, if_neg (n1_ne (by omega)), qm_isOthers hr hw hc hf htt (hdr t htt).1.2.2.1, q_bi, sg_move_eq]
      cases hfr : sg_free r c t with
      | true =>
        rw [if_pos (show bI (!true) = (0 : Int32) from rfl), if_pos rfl]
        obtain ⟨s1, s2, e1, e2, F2, m2⟩ := qm_shift (c := c) (d := ck_pl (rm_ck r c)) (t := t) hr hw hc hf hpl htt htd
        rw [e1, q_bv, e2, q_bv, m_wrb L 40 4 rfl (by decide) (by decide) hc]
        refine ⟨_, rfl, dm_put _ _ _ F2 (by decide), ?_⟩
        have K := ck_la r c (ck_pl (rm_ck r c)) none
        have K2 := ck_la (sg_la r c (ck_pl (rm_ck r c)) none) c t (some c)
        have kk : rm_ck (sg_la (sg_la r c (ck_pl (rm_ck r c)) none) c t (some c)) = rm_ck r := K2.1.trans K.1
        have kj : rm_jb (sg_la (sg_la r c (ck_pl (rm_ck r c)) none) c t (some c)) = rm_jb r := K2.2.2.2.2.2.trans K.2.2.2.2.2
        obtain ⟨l1, l2, l3, l4, l5, l6, l7, l8⟩ := mM_ck m2 c hc
        have q := rm_ckput (s' := dr_put s2 40 c (nI t)) m2 (wf_la (wf_la hw hpl) (by rw [K.2.2.1]; exact htt)) hc (by rw [kk]; exact hat0) 2 t (by decide) (by
          rw [q_upd_id (by rw [l2, kk, hat])]
          rfl) rfl (fun k h1 h2 h3 h4 => q_putO h4) rfl (by
          have l9 := l8 (by rw [kk]; exact hat0)
          rw [kk, la_lev, la_lev, hat] at l9
          rw [la_lev, la_lev, htv, kk]
          exact l9)
        rw [kk] at q
        exact q
      | false =>
        rw [if_neg (show ¬ bI (!false) = (0 : Int32) by decide), if_neg (by decide)]
        exact ⟨s, rfl, dm_rf s, hr⟩
  | false =>
    rw [if_neg (show ¬ bI (!false) = (0 : Int32) by decide), if_neg (by decide), m_rdb L 32 256 rfl (by decide) (by decide) (by omega), d2.1, m_wrb L 45 4 rfl (by decide) (by decide) hc]
    obtain ⟨s1, a1, a2, a3, a4, a5, a6⟩ := qm_cp_p (c := c) (d := ck_pl (rm_ck r c)) L hc (by omega) dr_N 0 (dr_put s 45 c (nI (dv_hs (rm_dr r (ck_pl (rm_ck r c)))).length)) (by omega) (by unfold dr_N; omega)
    rw [show f_X12_holds_p77 ln dr_N (nI c) (nI (ck_pl (rm_ck r c))) 0 _ = _ from a1, f_X12_holds_p77, if_pos (show (14 : Int32) ≤ nI 14 by decide), m_rdb L 35 256 rfl (by decide) (by decide) (by omega), m_wrb L 48 4 rfl (by decide) (by decide) hc, m_rdb L 36 256 rfl (by decide) (by decide) (by omega), m_wrb L 49 4 rfl (by decide) (by decide) hc, m_wrb L 39 4 rfl (by decide) (by decide) hc]
    refine ⟨_, rfl, dm_put _ _ _ (dm_put _ _ _ (dm_put _ _ _ (dm_tr (dm_put _ _ _ (dm_rf s) (by decide)) a2) (by decide)) (by decide)) (by decide), ?_⟩
    have b4 : ∀ a, a ≠ 45 → a ≠ 46 → a ≠ 47 → s1.1 a = s.1 a := fun a h1 h2 h3 => (a4 a h2 h3).trans (q_putO h1)
    have b45 : s1.1 45 = upd (s.1 45) c (nI (dv_hs (rm_dr r (ck_pl (rm_ck r c)))).length) := (a4 45 (by decide) (by decide)).trans (q_put1 _ _ _ _)
    have b35 : s1.1 35 = s.1 35 := b4 35 (by decide) (by decide) (by decide)
    have b36 : s1.1 36 = s.1 36 := b4 36 (by decide) (by decide) (by decide)
    refine rm_sK hr hw (fun a h1 h2 h3 => by rw [q_putO (by omega), q_putO (by omega), q_putO (by omega)]; exact b4 a (by omega) (by omega) (by omega)) a3 (fun e he hne => ⟨?_, ?_, ?_, ?_, ?_, ?_, ?_, ?_, ?_, fun l hl => ?_, fun k hk => ?_, fun k hk => ?_⟩) ⟨?_, ?_, fun _ => ?_, ?_, ?_, fun _ l hl => ?_, fun _ => ⟨?_, ?_, ?_, fun k h hk => ?_, fun hl k h hk => ?_⟩, fun _ => ?_⟩
    · show s1.1 38 e = _; rw [b4 38 (by decide) (by decide) (by decide)]
    · show upd (s1.1 39) c 3 e = _; rw [q_updO hne, b4 39 (by decide) (by decide) (by decide)]
    · show s1.1 40 e = _; rw [b4 40 (by decide) (by decide) (by decide)]
    · show s1.1 41 e = _; rw [b4 41 (by decide) (by decide) (by decide)]
    · show s1.1 42 e = _; rw [b4 42 (by decide) (by decide) (by decide)]
    · show s1.1 43 e = _; rw [b4 43 (by decide) (by decide) (by decide)]
    · show s1.1 45 e = _; rw [b45, q_updO hne]
    · show upd (s1.1 48) c _ e = _; rw [q_updO hne, b4 48 (by decide) (by decide) (by decide)]
    · show upd (s1.1 49) c _ e = _; rw [q_updO hne, b4 49 (by decide) (by decide) (by decide)]
    · show s1.1 44 _ = _; rw [b4 44 (by decide) (by decide) (by decide)]
    · show s1.1 46 _ = _; rw [a5, if_neg (by omega)]; rfl
    · show s1.1 47 _ = _; rw [a6, if_neg (by omega)]; rfl
    · show s1.1 38 c = _; rw [b4 38 (by decide) (by decide) (by decide)]; exact k1
    · show upd (s1.1 39) c 3 c = _; rw [q_updS]; rfl
    · show s1.1 40 c = _; rw [b4 40 (by decide) (by decide) (by decide)]; exact k3 hat0
    · show s1.1 41 c = _; rw [b4 41 (by decide) (by decide) (by decide)]; exact k4
    · show s1.1 43 c = _; rw [b4 43 (by decide) (by decide) (by decide)]; exact k5
    · show s1.1 44 _ = _; rw [b4 44 (by decide) (by decide) (by decide)]; exact k6 hat0 l hl
    · show s1.1 45 c = _; rw [b45, q_updS]; rfl
    · show upd (s1.1 48) c (s1.1 35 (ck_pl (rm_ck r c))) c = _; rw [q_updS, b35]; exact d2.2.1
    · show upd (s1.1 49) c (s1.1 36 (ck_pl (rm_ck r c))) c = _; rw [q_updS, b36]; exact d2.2.2.1
    · have hk : (dv_hs (rm_dr r (ck_pl (rm_ck r c))))[k]? = some h := hk
      have hlt := (List.getElem?_eq_some_iff.mp hk).1
      have := ho.1
      show s1.1 46 _ = _
      rw [a5, if_pos (by omega), show 14 * c + k - 14 * c = k by omega]
      exact d2.2.2.2.1 k h hk
    · have hk : (dv_cs (rm_dr r (ck_pl (rm_ck r c))))[k]? = some h := hk
      have hl : 0 < dv_lev (rm_dr r (ck_pl (rm_ck r c))) := hl
      have hlt := (List.getElem?_eq_some_iff.mp hk).1
      have := ho.1
      have := (hcs hl).1
      show s1.1 47 _ = _
      rw [a6, if_pos (by omega), show 14 * c + k - 14 * c = k by omega]
      exact d2.2.2.2.2 hl k h hk
    · show if (3 : Nat) = 1 ∨ ((3 : Nat) ≠ 4 ∧ dv_lev (rm_dr r (ck_pl (rm_ck r c))) = 0) then ck_he r c = ck_so (rm_ck r c) else s1.1 42 c = nI (ck_so (rm_ck r c))
      rw [b4 42 (by decide) (by decide) (by decide)]
      rw [hat] at k9
      by_cases e0 : dv_lev (rm_dr r (ck_pl (rm_ck r c))) = 0
      · rw [if_pos (Or.inr ⟨by decide, e0⟩)] at k9 ⊢
        exact k9
      · rw [if_neg (by omega)] at k9 ⊢
        exact k9

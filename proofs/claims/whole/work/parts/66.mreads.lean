/-! 66: a step of reading, of the reference -/
theorem drop_at {l : List Nat} {i g : Nat} (h : l[i]? = some g) : l.drop i = g :: l.drop (i + 1) := by
  have hlt := (List.getElem?_eq_some_iff.mp h).1
  rw [List.drop_eq_getElem_cons hlt]
  rw [List.getElem?_eq_getElem hlt] at h
  rw [Option.some.inj h]
theorem at_some {l : List Nat} {i : Nat} (h : i < l.length) : ∃ g, l[i]? = some g := ⟨_, List.getElem?_eq_getElem h⟩
theorem qm_hasCard_p {ln : Nat → Nat} {s : dr_S} {d h : Nat} {x : sg_D} (L : dq_ML ln) (hd : d < 256) (hx : rp_mrow s 33 34 32 35 36 d x) (hn : (dv_hs x).length ≤ 11) (ho : ∀ g ∈ dv_hs x, g < 10000) (hh : h < 10000) : ∀ (fu i : Nat), i ≤ (dv_hs x).length → (dv_hs x).length - i < fu → f_X12_hasCard_p2 ln fu (nI d) (nI h) (nI i) s = some (bI (sg_pos ((dv_hs x).drop i) h).isSome, s)
  | 0, _, _, q => absurd q (Nat.not_lt_zero _)
  | fu + 1, i, hi, hf => by
    rw [f_X12_hasCard_p2, m_rdb L 32 256 rfl (by decide) (by decide) hd, hx.1]
    by_cases hq : i = (dv_hs x).length
    · rw [hq, if_pos (nI_le (Nat.le_refl _) (by omega)), List.drop_length]
      rfl
    · have hlt : i < (dv_hs x).length := by omega
      obtain ⟨g, he⟩ := at_some hlt
      have hg : g < 10000 := ho g (List.mem_of_getElem? he)
      rw [if_neg (nI_ge hlt (by omega)), show (14 : Int32) = nI 14 from rfl, pk_mul, nI_add, m_rdb L 33 3584 rfl (by decide) (by decide) (by omega), hx.2.2.2.1 i g he, drop_at he, sg_pos]
      by_cases e : g = h
      · rw [e, if_pos rfl, if_pos rfl]
        rfl
      · rw [if_neg (nI_lit (by omega) (by omega) e), if_neg e, q_let, nI_1, qm_hasCard_p L hd hx hn ho hh fu (i + 1) (by omega) (by omega)]
        cases sg_pos ((dv_hs x).drop (i + 1)) h <;> rfl
theorem qm_hasCard {ln : Nat → Nat} {s : dr_S} {d h : Nat} {x : sg_D} (L : dq_ML ln) (hd : d < 256) (hx : rp_mrow s 33 34 32 35 36 d x) (hn : (dv_hs x).length ≤ 11) (ho : ∀ g ∈ dv_hs x, g < 10000) (hh : h < 10000) : f_X12_hasCard ln (nI d) (nI h) s = some (bI (sg_pos (dv_hs x) h).isSome, s) := qm_hasCard_p L hd hx hn ho hh dr_N 0 (Nat.zero_le _) (by unfold dr_N; omega)
theorem rm_ckput {ln : Nat → Nat} {s s' : dr_S} {r : sg_R} {c : Nat} (hr : rp_M ln s r) (hw : wf_sz r) (hc : c < 4) (hat : ck_at (rm_ck r c) ≠ 0) (a p : Nat) (ha3 : a ≠ 3) (h39 : s'.1 39 = upd (s.1 39) c (nI a)) (h40 : s'.1 40 = upd (s.1 40) c (nI p)) (hA : ∀ k, 28 ≤ k → k < 60 → k ≠ 39 → k ≠ 40 → s'.1 k = s.1 k) (hF : s'.2 = s.2) (hcond : if a = 1 ∨ (a ≠ 4 ∧ dv_lev (rm_dr r p) = 0) then ck_he r c = ck_so (rm_ck r c) else s.1 42 c = nI (ck_so (rm_ck r c))) : rp_M ln s' (sg_sK r c (ck_put (rm_ck r c) a p (ck_so (rm_ck r c)) (ck_ri (rm_ck r c)))) := by
  have A := fun k h1 h2 h3 h4 => hA k h1 h2 h3 h4
  obtain ⟨k1, k2, k3, k4, k5, k6, k7, k8⟩ := mM_ck hr c hc
  refine rm_sK hr hw (fun a h1 h2 h3 => hA a h1 h2 (by omega) (by omega)) hF (fun e he hne => ?_) ⟨?_, ?_, fun _ => ?_, ?_, ?_, fun _ l hl => ?_, fun q => absurd (show a = 3 from q) ha3, fun _ => ?_⟩
  · unfold mk_same
    rw [h39, h40, A 38 (by decide) (by decide) (by decide) (by decide), A 41 (by decide) (by decide) (by decide) (by decide), A 42 (by decide) (by decide) (by decide) (by decide), A 43 (by decide) (by decide) (by decide) (by decide), A 44 (by decide) (by decide) (by decide) (by decide), A 45 (by decide) (by decide) (by decide) (by decide), A 46 (by decide) (by decide) (by decide) (by decide), A 47 (by decide) (by decide) (by decide) (by decide), A 48 (by decide) (by decide) (by decide) (by decide), A 49 (by decide) (by decide) (by decide) (by decide), q_updO hne, q_updO hne]
    exact ⟨rfl, rfl, rfl, rfl, rfl, rfl, rfl, rfl, rfl, fun _ _ => rfl, fun _ _ => rfl, fun _ _ => rfl⟩
  · rw [A 38 (by decide) (by decide) (by decide) (by decide)]; exact k1
  · rw [h39, q_updS]; rfl
  · rw [h40, q_updS]; rfl
  · rw [A 41 (by decide) (by decide) (by decide) (by decide)]; exact k4
  · rw [A 43 (by decide) (by decide) (by decide) (by decide)]; exact k5
  · rw [A 44 (by decide) (by decide) (by decide) (by decide)]; exact k6 hat l hl
  · rw [A 42 (by decide) (by decide) (by decide) (by decide)]
    exact hcond
/-- what the reference's step needs besides -/
def wf_md (r : sg_R) (c : Nat) : Prop := (∀ d t, d < rm_us r → dv_th (rm_dr r d) = some t → t ≠ d ∧ dv_lev (rm_dr r t) = dv_lev (rm_dr r d)) ∧ (ck_at (rm_ck r c) ≠ 0 → ∀ l p, ck_pa (rm_ck r c) l = some p → p < rm_us r ∧ dv_lev (rm_dr r p) = l)
theorem sg_read_eq (r : sg_R) (c : Nat) : sg_read r c = (if sg_must r c (ck_pl (rm_ck r c)) (ck_so (rm_ck r c)) then (match dv_th (rm_dr r (ck_pl (rm_ck r c))) with | none => r | some t => sg_sK r c (ck_put (rm_ck r c) 1 t (ck_so (rm_ck r c)) (ck_ri (rm_ck r c))))
  else if 0 < dv_lev (rm_dr r (ck_pl (rm_ck r c))) then sg_sK r c (1, (dv_cs (rm_dr r (ck_pl (rm_ck r c)))).getD (sg_way (rm_ru r) (dv_hs (rm_dr r (ck_pl (rm_ck r c)))) (ck_so (rm_ck r c))) 0, ck_jo (rm_ck r c), ck_fa (rm_ck r c), ck_so (rm_ck r c), ck_ri (rm_ck r c), (fun l => if l = dv_lev (rm_dr r (ck_pl (rm_ck r c))) then some (ck_pl (rm_ck r c)) else ck_pa (rm_ck r c) l), ck_co (rm_ck r c))
  else if jb_ki (rm_jb r (ck_job (rm_ck r c))) = 0 then sg_end r c (if (sg_pos (dv_hs (rm_dr r (ck_pl (rm_ck r c)))) (ck_so (rm_ck r c))).isSome then 1 else 0)
  else if sg_free r c (ck_pl (rm_ck r c)) then sg_sK (sg_la r c (ck_pl (rm_ck r c)) (some c)) c (ck_put (rm_ck r c) 2 (ck_pl (rm_ck r c)) (ck_so (rm_ck r c)) (ck_ri (rm_ck r c))) else r) := rfl
theorem qm_reads {ln : Nat → Nat} {s : dr_S} {r : sg_R} {c : Nat} (hr : rp_M ln s r) (hs : wf_step r c) (hat : ck_at (rm_ck r c) = 1) : ∃ s', f_X12_reads ln (nI c) s = some (0, s') ∧ dm_F s s' ∧ rp_M ln s' (sg_read r c) := by
  obtain ⟨hw, hok, hck, hdr, hc⟩ := hs
  have hat0 : ck_at (rm_ck r c) ≠ 0 := by rw [hat]; decide
  obtain ⟨hf, -, hck3⟩ := hck c hc
  obtain ⟨hpl, hso, j, hj, hjn, hki⟩ := hck3 hat0
  have hus := hw.2.1
  have hnj := hw.2.2.1
  have hb := hw.1
  have L := mM_L hr
  have hjb : ck_job (rm_ck r c) = j := by unfold ck_job; rw [hj]; rfl
  obtain ⟨k1, k2, k3, k4, k5, k6, k7, k8⟩ := mM_ck hr c hc
  have k9 := k8 hat0
  clear k8
  rw [if_pos (Or.inl hat)] at k9
  have ehe : ck_he r c = jb_he (rm_jb r j) := by unfold ck_he; rw [hj]
  have e41 : s.1 41 c = nI j := by
    rw [k4, hj]
    rfl
  have e51 : s.1 51 j = nI (ck_so (rm_ck r c)) := by rw [(mM_jb hr j hjn).2.1, ← ehe, k9]
  obtain ⟨⟨ho, hlv, hla, htl, -⟩, hcs⟩ := hdr _ hpl
  obtain ⟨d1, d2, d3⟩ := mM_dr hr _ hpl
  rw [sg_read_eq, hjb]
  unfold f_X12_reads
  rw [m_rdb L 40 4 rfl (by decide) (by decide) hc, k3 hat0, m_rdb L 41 4 rfl (by decide) (by decide) hc, e41, m_rdb L 51 120 rfl (by decide) (by decide) (by omega), e51, qm_covered hr hw hok hc hf hpl ho hso, q_bi]
  generalize hpp : ck_pl (rm_ck r c) = d at *
  cases hm : sg_must r c d (ck_so (rm_ck r c)) with
  | true =>
    rw [if_pos (show bI (!true) = (0 : Int32) from rfl), if_pos rfl, m_rdb L 36 256 rfl (by decide) (by decide) (by omega), d2.2.2.1]
    cases ht : dv_th (rm_dr r d) with
    | none =>
      rw [if_pos (show nO none = (-1 : Int32) from rfl)]
      exact ⟨s, rfl, dm_rf s, hr⟩
    | some t =>
      have htt := htl t ht
      rw [show nO (some t) = nI t from rfl, if_neg (n1_ne (by omega)), m_rdb L 36 256 rfl (by decide) (by decide) (by omega), d2.2.2.1, ht, m_wrb L 40 4 rfl (by decide) (by decide) hc]
      refine ⟨_, rfl, dm_put _ _ _ (dm_rf s) (by decide), ?_⟩
      refine rm_ckput hr hw hc hat0 1 t (by decide) ?_ rfl (fun k h1 h2 h3 h4 => q_putO h4) rfl ?_
      · rw [q_upd_id (by rw [k2, hat])]
        rfl
      · rw [if_pos (Or.inl rfl)]
        exact k9
  | false =>
    rw [if_neg (show ¬ bI (!false) = (0 : Int32) by decide), if_neg (by decide), m_rdb L 31 256 rfl (by decide) (by decide) (by omega), d1]
    by_cases h0 : 0 < dv_lev (rm_dr r d)
    · rw [if_neg (show ¬ nI (dv_lev (rm_dr r d)) ≤ 0 from nI_ge (a := 0) h0 (by omega)), if_pos h0, m_rdb L 31 256 rfl (by decide) (by decide) (by omega), d1, show (64 : Int32) = nI 64 from rfl, pk_mul, nI_add, m_wrb L 44 256 rfl (by decide) (by decide) (by omega)]
      have wl := sg_way_le (rm_ru r) (ck_so (rm_ck r c)) (dv_hs (rm_dr r d))
      obtain ⟨ch, hch⟩ := at_some (l := dv_cs (rm_dr r d)) (i := sg_way (rm_ru r) (dv_hs (rm_dr r d)) (ck_so (rm_ck r c))) (by have := (hcs h0).1; omega)
      have hgd : (dv_cs (rm_dr r d)).getD (sg_way (rm_ru r) (dv_hs (rm_dr r d)) (ck_so (rm_ck r c))) 0 = ch := by
        rw [List.getD_eq_getElem?_getD, hch]
        rfl
      have mr : rp_mru (dr_put s 44 (64 * c + dv_lev (rm_dr r d)) (nI d)) (rm_ru r) := by
        have q := mM_ru hr
        exact ⟨q.1, q.2⟩
      rw [qm_way (s := dr_put s 44 (64 * c + dv_lev (rm_dr r d)) (nI d)) L mr hok hb.2 (by omega) d2 ho hso h0 hch, q_bi, m_wrb L 40 4 rfl (by decide) (by decide) hc, hgd]
      refine ⟨_, rfl, dm_put _ _ _ (dm_put _ _ _ (dm_rf s) (by decide)) (by decide), ?_⟩
      refine rm_sK hr hw (fun a h1 h2 h3 => by rw [q_putO (by omega), q_putO (by omega)]) rfl (fun e he hne => ⟨rfl, rfl, ?_, rfl, rfl, rfl, rfl, rfl, rfl, fun l hl => ?_, fun _ _ => rfl, fun _ _ => rfl⟩) ⟨k1, ?_, fun _ => ?_, k4, k5, fun _ l hl => ?_, fun q => absurd (show (1 : Nat) = 3 from q) (by decide), fun _ => ?_⟩
      · show upd (s.1 40) c (nI ch) e = _
        rw [q_updO hne]
      · show upd (s.1 44) _ (nI d) _ = _
        rw [q_updO (by omega)]
      · rw [← hat]; exact k2
      · show upd (s.1 40) c (nI ch) c = _
        rw [q_updS]
        rfl
      · show upd (s.1 44) (64 * c + dv_lev (rm_dr r d)) (nI d) (64 * c + l) = nO (if l = dv_lev (rm_dr r d) then some d else ck_pa (rm_ck r c) l)
        by_cases e : l = dv_lev (rm_dr r d)
        · rw [if_pos e, e, q_updS]
          rfl
        · rw [if_neg e, q_updO (by omega)]
          exact k6 hat0 l hl
      · exact Eq.mpr (if_pos (Or.inl (show (1 : Nat) = 1 from rfl))) k9
    · have h00 : dv_lev (rm_dr r d) = 0 := by omega
      rw [if_pos (show nI (dv_lev (rm_dr r d)) ≤ 0 by rw [h00]; decide), if_neg h0, m_rdb L 41 4 rfl (by decide) (by decide) hc, e41, m_rdb L 50 120 rfl (by decide) (by decide) (by omega), (mM_jb hr j hjn).1]
      by_cases hk : jb_ki (rm_jb r j) = 0
      · rw [hk, if_pos (show nI 0 = (0 : Int32) from rfl), if_pos rfl, qm_hasCard L (by omega) d2 (by have := ho.1; omega) ho.2.1 hso, q_bi]
        unfold f_X12_reads_p125
        cases hp : (sg_pos (dv_hs (rm_dr r d)) (ck_so (rm_ck r c))).isSome with
        | true =>
          rw [if_neg (show ¬ bI true = (0 : Int32) by decide), if_pos rfl]
          obtain ⟨s1, e1, F1, m1⟩ := qm_ends (a := 1) hr hw hc hj hjn
          exact ⟨s1, by rw [show f_X12_ends ln (nI c) 1 s = _ from e1, q_bv], F1, m1⟩
        | false =>
          rw [if_pos (show bI false = (0 : Int32) from rfl), if_neg (by decide)]
          obtain ⟨s1, e1, F1, m1⟩ := qm_ends (a := 0) hr hw hc hj hjn
          exact ⟨s1, by rw [show f_X12_ends ln (nI c) 0 s = _ from e1, q_bv], F1, m1⟩
      · rw [if_neg (show ¬ nI (jb_ki (rm_jb r j)) = (0 : Int32) from nI_lit (k := 0) (by omega) (by omega) hk), if_neg hk, qm_isOthers hr hw hc hf hpl hla, q_bi]
        cases hfr : sg_free r c d with
        | true =>
          rw [if_pos (show bI (!true) = (0 : Int32) from rfl), if_pos rfl]
          obtain ⟨s1, e1, F1, m1⟩ := qm_latches (d := d) hr hw hc hf hpl
          rw [e1, q_bv, m_wrb L 39 4 rfl (by decide) (by decide) hc]
          refine ⟨_, rfl, dm_put _ _ _ F1 (by decide), ?_⟩
          have K := ck_la r c d (some c)
          have q := rm_ckput (s' := dr_put s1 39 c 2) m1 (wf_la hw hpl) hc (by rw [K.1]; exact hat0) 2 d (by decide) rfl (by
            rw [q_upd_id (by rw [(mM_ck m1 c hc).2.2.1 (by rw [K.1]; exact hat0), K.1, hpp])]
            rfl) (fun k h1 h2 h3 h4 => q_putO h3) rfl (by
            have hlev : dv_lev (rm_dr (sg_la r c d (some c)) d) = 0 := by
              unfold sg_la
              split
              · exact h00
              · show dv_lev (if d = d then _ else _) = 0
                rw [if_pos rfl]
                exact h00
            rw [if_pos (Or.inr ⟨by decide, hlev⟩)]
            unfold ck_he at k9 ⊢
            rw [K.1, K.2.2.2.2.2]
            exact k9)
          rw [K.1] at q
          exact q
        | false =>
          rw [if_neg (show ¬ bI (!false) = (0 : Int32) by decide), if_neg (by decide)]
          exact ⟨s, rfl, dm_rf s, hr⟩

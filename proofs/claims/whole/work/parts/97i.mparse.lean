/-! 97i: reading a rule's text, of the reference -/
def ps_let (st : Option (Option Nat)) : Int32 := match st with | some (some d) => nI d | _ => -1
def ps_ov (st : Option (Option Nat)) : Int32 := match st with | none => 1 | _ => 0
theorem qm_rule_p {ln : Nat → Nat} {n : Nat} {a b c d e : Int32} (L : dq_ML ln) (hn : n ≤ 20) : ∀ (k fu i : Nat) (s : dr_S) (st : Option (Option Nat)) (ru : List (Nat × Bool)), n = i + k → k < fu → ps_ok st ru → rl_M s ru → ∃ s1, rl_F s s1 ∧ rl_M s1 (sg_ps (sg_by (sg_w5 a b c d e)) k i st ru).2 ∧ f_X12_rule_p27 ln fu (nI n) a b c d e (ps_let st) (ps_ov st) (nI i) s = (match (sg_ps (sg_by (sg_w5 a b c d e)) k i st ru).1 with | some p => some (nI p, s1) | none => (if (s1.2 1226) ≤ 0 then dr_letS (dr_pf s1 1201 (s1.2 1240)) (fun s4 => (f_X12_rule_p219 ln dr_N 0 s4)) else some ((-1), s1)))
  | k, 0, _, _, _, _, _, q, _, _ => absurd q (Nat.not_lt_zero _)
  | 0, fu + 1, i, s, st, ru, hk, hf, hp, hr => by
    refine ⟨s, rl_rf s, hr, ?_⟩
    rw [f_X12_rule_p27, if_pos (nI_le (by omega) (by omega)), sg_ps]
    cases st with
    | none =>
      rw [if_neg (show ¬ ps_ov none = (0 : Int32) by decide)]
      rfl
    | some st =>
      have e0 : ps_ov (some st) = 0 := by cases st <;> rfl
      rw [if_pos e0, if_neg (by intro q; cases q), show n = i by omega]
  | k + 1, fu + 1, i, s, st, ru, hk, hf, hp, hr => by
    have hb := (by_in (sg_w5 a b c d e) (k := i) (by omega)).2
    obtain ⟨hl, hl2⟩ := ps_len hp
    rw [f_X12_rule_p27, if_neg (nI_ge (by omega) (by omega)), qm_byteOf (by omega), q_bi, sg_ps_s]
    unfold f_X12_rule_p186 f_X12_rule_p89 f_X12_rule_p120 f_X12_rule_p186
    generalize sg_by (sg_w5 a b c d e) i = v at *
    have cmp : ∀ m, m < 2 ^ 31 → (nI v = nI m ↔ v = m) := fun m hm => nI_eq (by omega) hm
    by_cases h32 : v = 32
    · rw [if_pos (show nI v = 32 from (cmp 32 (by omega)).mpr h32), if_pos h32, q_let, nI_1]
      exact qm_rule_p L hn k fu (i + 1) s st ru (by omega) (by omega) hp hr
    · rw [if_neg (show ¬ nI v = 32 from fun q => h32 ((cmp 32 (by omega)).mp q)), if_neg h32]
      cases st with
      | none =>
        rw [if_neg (show ¬ ps_ov none = (0 : Int32) by decide)]
        exact ⟨s, rl_rf s, hr, rfl⟩
      | some st =>
        cases st with
        | none =>
          rw [if_pos (show ps_ov (some none) = (0 : Int32) from rfl), if_pos (show ps_let (some none) = (-1 : Int32) from rfl)]
          dsimp only
          by_cases h59 : v = 59
          · rw [if_pos (show nI v = 59 from (cmp 59 (by omega)).mpr h59), if_pos h59, q_let, nI_1]
            exact qm_rule_p L hn k fu (i + 1) s none ru (by omega) (by omega) ⟨hp.1, hp.2.1, fun d hd => by cases hd⟩ hr
          · rw [if_neg (show ¬ nI v = 59 from fun q => h59 ((cmp 59 (by omega)).mp q)), if_neg h59]
            by_cases h97 : v < 97
            · rw [if_pos (show nI v < 97 from nI_lt (b := 97) h97 (by omega)), if_neg (by omega)]
              exact ⟨s, rl_rf s, hr, rfl⟩
            · rw [if_neg (show ¬ nI v < 97 from nI_nlt (a := v) (b := 97) (by omega) (by omega))]
              by_cases h100 : 100 < v
              · rw [if_pos (show (100 : Int32) < nI v from nI_lt (a := 100) h100 (by omega)), if_neg (by omega)]
                exact ⟨s, rl_rf s, hr, rfl⟩
              · have ev : nI v - 97 = nI (v - 97) := by rw [show (97 : Int32) = nI 97 from rfl, pk_sub (by omega)]
                have hrd := qm_isRead_p (d := v - 97) L hl (by omega) hp.2.1 hr ru.length dr_N 0 (by omega) (by unfold dr_N; omega)
                rw [List.drop_zero] at hrd
                rw [if_neg (show ¬ (100 : Int32) < nI v from nI_nlt (b := v) (a := 100) (by omega) (by omega)), ev]
                unfold f_X12_isRead
                rw [show f_X12_isRead_p2 ln dr_N (nI (v - 97)) 0 s = _ from hrd, q_bi]
                by_cases hin : v - 97 ∈ ru.map Prod.fst
                · rw [decide_eq_true hin, if_neg (show ¬ bI true = (0 : Int32) by decide), if_neg (fun q => q.2.2 hin)]
                  exact ⟨s, rl_rf s, hr, rfl⟩
                · rw [decide_eq_false hin, if_pos (show bI false = (0 : Int32) from rfl), if_pos ⟨by omega, by omega, hin⟩, q_let, q_let, nI_1]
                  exact qm_rule_p L hn k fu (i + 1) s (some (some (v - 97))) ru (by omega) (by omega) ⟨hp.1, hp.2.1, fun d hd => by cases hd; exact ⟨by omega, hin⟩⟩ hr
        | some x =>
          obtain ⟨hx4, hxn⟩ := hp.2.2 x rfl
          have hlt := hl2 x rfl
          rw [if_pos (show ps_ov (some (some x)) = (0 : Int32) from rfl), if_neg (show ¬ ps_let (some (some x)) = (-1 : Int32) from n1_ne (by omega))]
          dsimp only
          have okn : ∀ g : Bool, ps_ok (some none) (ru ++ [(x, g)]) := fun g => by
            refine ⟨?_, fun y hy => ?_, fun z hz => by cases hz⟩
            · rw [List.map_append]
              refine List.nodup_append.mpr ⟨hp.1, List.nodup_cons.mpr ⟨List.not_mem_nil, List.nodup_nil⟩, fun p hp1 q hq => ?_⟩
              have hq : q ∈ [x] := hq
              rw [List.mem_singleton.mp hq]
              intro z
              rw [z] at hp1
              exact hxn hp1
            · rcases List.mem_append.mp hy with z | z
              · exact hp.2.1 y z
              · rw [List.mem_singleton.mp z]; exact hx4
          have go : ∀ (g : Bool) (z : Int32), z = (if g then 1 else 0) → ∃ s1, rl_F s s1 ∧ rl_M s1 (ru ++ [(x, g)]) ∧ ∀ Kx : dr_S → Option (Int32 × dr_S), (dr_wr ln s 60 (s.2 1240) (nI x)).bind (fun s11 => (dr_wz ln s11 61 (s11.2 1240) z).bind (fun s12 => dr_letS (dr_pf s12 1240 ((s12.2 1240) + 1)) Kx)) = Kx s1 := by
            intro g z hz
            refine ⟨dr_pf (dr_put (dr_put s 60 ru.length (nI x)) 61 ru.length (if g then 1 else 0)) 1240 (nI (ru.length + 1)), ⟨fun a h1 h2 => by rw [q_pf1, q_putO h2, q_putO h1], fun f hf => by rw [q_pfO hf]; rfl⟩, ⟨by rw [q_pf2, List.length_append]; rfl, fun j y w hj => ?_⟩, fun Kx => ?_⟩
            · rw [q_pf1]
              show upd (s.1 60) ru.length (nI x) j = _ ∧ upd (s.1 61) ru.length (if g then 1 else 0) j = _
              by_cases e : j < ru.length
              · rw [List.getElem?_append_left e] at hj
                rw [q_updO (by omega), q_updO (by omega)]
                exact hr.2 j y w hj
              · have hlt2 := (List.getElem?_eq_some_iff.mp hj).1
                rw [List.length_append] at hlt2
                have hlt2 : j < ru.length + 1 := hlt2
                have ej : j = ru.length := by omega
                subst ej
                rw [List.getElem?_append_right (Nat.le_refl _), Nat.sub_self] at hj
                cases hj
                rw [q_updS, q_updS]
                exact ⟨rfl, rfl⟩
            · rw [hr.1, m_wrb L 60 4 rfl (by decide) (by decide) hlt, show (dr_put s 60 ru.length (nI x)).2 1240 = nI ru.length from hr.1, m_wzb L 61 4 rfl (by decide) (by decide) hlt, show (dr_put (dr_put s 60 ru.length (nI x)) 61 ru.length (vp_nar .boolean z)).2 1240 = nI ru.length from hr.1, nI_1, hz]
              cases g <;> rfl
          by_cases h43 : v = 43
          · rw [if_pos (show nI v = 43 from (cmp 43 (by omega)).mpr h43), if_pos (Or.inl h43), decide_eq_false (show ¬ v = 45 by omega)]
            have n45 : ¬ nI v = (45 : Int32) := fun q => by have := (cmp 45 (by omega)).mp q; omega
            simp only [if_neg n45]
            obtain ⟨s1, F1, M1, K1⟩ := go false 0 rfl
            obtain ⟨s2, F2, M2, K2⟩ := qm_rule_p (a := a) (b := b) (c := c) (d := d) (e := e) L hn k fu (i + 1) s1 (some none) (ru ++ [(x, false)]) (by omega) (by omega) (okn false) M1
            refine ⟨s2, rl_tr F1 F2, M2, ?_⟩
            refine Eq.trans (K1 _) ?_
            rw [q_let, nI_1]
            exact K2
          · rw [if_neg (show ¬ nI v = 43 from fun q => h43 ((cmp 43 (by omega)).mp q))]
            by_cases h45 : v = 45
            · rw [if_pos (show nI v = 45 from (cmp 45 (by omega)).mpr h45), if_pos (Or.inr h45), decide_eq_true h45]
              obtain ⟨s1, F1, M1, K1⟩ := go true 1 rfl
              obtain ⟨s2, F2, M2, K2⟩ := qm_rule_p (a := a) (b := b) (c := c) (d := d) (e := e) L hn k fu (i + 1) s1 (some none) (ru ++ [(x, true)]) (by omega) (by omega) (okn true) M1
              refine ⟨s2, rl_tr F1 F2, M2, ?_⟩
              have y45 : nI v = (45 : Int32) := (cmp 45 (by omega)).mpr h45
              simp only [if_pos y45]
              refine Eq.trans (K1 _) ?_
              rw [q_let, nI_1]
              exact K2
            · rw [if_neg (show ¬ nI v = 45 from fun q => h45 ((cmp 45 (by omega)).mp q)), if_neg (by omega)]
              exact ⟨s, rl_rf s, hr, rfl⟩

/-! 96: there -/
def th_in (r : sg_R) (fr to h : Nat) : Bool := !(sg_ah (rm_ru r) h fr) && !(sg_ah (rm_ru r) to h)
/-- as the reference counts -/
def sg_th (r : sg_R) (fr to T : Nat) : List (Nat × Nat) → Nat
  | [] => 0
  | e :: q => (if decide (jb_ki (rm_jb r e.1) = 1) && (decide (e.2 ≤ T) && (th_in r fr to (jb_he (rm_jb r e.1)) && q.all (fun z => decide (jb_he (rm_jb r z.1) ≠ jb_he (rm_jb r e.1)) || decide (T < z.2)))) then 1 else 0) + sg_th r fr to T q
/-- as the class does: no later change of the same heading by then -/
def th_o (r : sg_R) (j t T o : Nat) : Bool := decide (jb_he (rm_jb r o) ≠ jb_he (rm_jb r j)) || (match (rm_ch r).lookup o with | none => true | some u => decide (u ≤ t) || decide (T < u))
def th_l (r : sg_R) (j t T : Nat) : Nat → Nat → Bool
  | 0, _ => true
  | k + 1, i => th_o r j t T i && th_l r j t T k (i + 1)
theorem th_l_iff {r : sg_R} {j t T : Nat} : ∀ (k i : Nat), th_l r j t T k i = true ↔ ∀ o, i ≤ o → o < i + k → th_o r j t T o = true
  | 0, i => ⟨fun _ o h1 h2 => by omega, fun _ => rfl⟩
  | k + 1, i => by
    rw [th_l, Bool.and_eq_true, th_l_iff k (i + 1)]
    constructor
    · intro h o h1 h2
      by_cases e : o = i
      · rw [e]; exact h.1
      · exact h.2 o (by omega) (by omega)
    · intro h
      exact ⟨h i (by omega) (by omega), fun o h1 h2 => h o (by omega) (by omega)⟩
def th_P (r : sg_R) (fr to T j : Nat) : Bool := th_in r fr to (jb_he (rm_jb r j)) && (decide (jb_ki (rm_jb r j) = 1) && (match (rm_ch r).lookup j with | none => false | some t => decide (t ≤ T) && th_l r j t T (rm_nj r) 0))
/-- look-ups in the list of changes -/
theorem look_mem {ch : List (Nat × Nat)} {j t : Nat} : (ch.map Prod.fst).Nodup → (j, t) ∈ ch → ch.lookup j = some t := by
  induction ch with
  | nil => intro _ h; cases h
  | cons w v ih =>
    intro hn h
    show List.lookup j ((w.1, w.2) :: v) = some t
    have hn2 := List.nodup_cons.mp hn
    rcases List.mem_cons.mp h with q | q
    · have e1 : w.1 = j := by rw [← q]
      have e2 : w.2 = t := by rw [← q]
      rw [e1, e2]
      simp [List.lookup]
    · have hne : (j == w.1) = false := by
        have : j ≠ w.1 := fun z => hn2.1 (by rw [← z]; exact List.mem_map.mpr ⟨(j, t), q, rfl⟩)
        simpa using this
      simp only [List.lookup, hne]
      exact ih hn2.2 q
theorem mem_look {ch : List (Nat × Nat)} {j t : Nat} : ch.lookup j = some t → (j, t) ∈ ch := by
  induction ch with
  | nil => intro h; cases h
  | cons w v ih =>
    intro h
    have h : List.lookup j ((w.1, w.2) :: v) = some t := h
    by_cases e : j = w.1
    · subst e
      simp [List.lookup] at h
      rw [← h]
      exact List.mem_cons_self
    · have hne : (j == w.1) = false := by simpa using e
      simp only [List.lookup, hne] at h
      exact List.mem_cons_of_mem _ (ih h)
theorem th_eq {r : sg_R} {fr to T : Nat} (hc : iv_ch r) : ∀ (q p : List (Nat × Nat)), rm_ch r = p ++ q → sg_th r fr to T q = (q.map Prod.fst).countP (th_P r fr to T)
  | [], p, h => rfl
  | e :: q, p, h => by
    have ih := th_eq (fr := fr) (to := to) (T := T) hc q (p ++ [e]) (by rw [List.append_assoc]; exact h)
    rw [sg_th, ih, List.map_cons, List.countP_cons, Nat.add_comm]
    congr 1
    have hm : e ∈ rm_ch r := by rw [h]; exact List.mem_append_right _ List.mem_cons_self
    have hl : (rm_ch r).lookup e.1 = some e.2 := look_mem hc.2.1 hm
    have key : (decide (e.2 ≤ T) && q.all (fun z => decide (jb_he (rm_jb r z.1) ≠ jb_he (rm_jb r e.1)) || decide (T < z.2))) = (decide (e.2 ≤ T) && th_l r e.1 e.2 T (rm_nj r) 0) := by
      by_cases hT : e.2 ≤ T
      · rw [decide_eq_true hT, Bool.true_and, Bool.true_and, Bool.eq_iff_iff, List.all_eq_true, th_l_iff]
        constructor
        · intro a o _ ho
          unfold th_o
          cases hlo : (rm_ch r).lookup o with
          | none => exact Bool.or_true _
          | some u =>
            show (decide (jb_he (rm_jb r o) ≠ jb_he (rm_jb r e.1)) || (decide (u ≤ e.2) || decide (T < u))) = true
            by_cases hu : u ≤ e.2
            · rw [decide_eq_true hu, Bool.true_or, Bool.or_true]
            · have hmo := mem_look hlo
              rw [h] at hmo
              have hq : (o, u) ∈ q := by
                rcases List.mem_append.mp hmo with z | z
                · exfalso
                  have hp := hc.2.2
                  rw [h] at hp
                  have := (List.pairwise_append.mp hp).2.2 (o, u) z e List.mem_cons_self
                  have : u < e.2 := this
                  omega
                · rcases List.mem_cons.mp z with y | y
                  · rw [← y] at hu
                    exact absurd (Nat.le_refl _) hu
                  · exact y
              have := a (o, u) hq
              rw [Bool.or_eq_true] at this ⊢
              rcases this with z | z
              · exact Or.inl z
              · right
                rw [Bool.or_eq_true]
                exact Or.inr z
        · intro a z hz
          have hz2 : z ∈ rm_ch r := by rw [h]; exact List.mem_append_right _ (List.mem_cons_of_mem _ hz)
          have := a z.1 (Nat.zero_le _) (by rw [Nat.zero_add]; exact (hc.1 z.1 z.2 hz2).1)
          unfold th_o at this
          rw [look_mem hc.2.1 (show (z.1, z.2) ∈ rm_ch r from hz2)] at this
          have this : (decide (jb_he (rm_jb r z.1) ≠ jb_he (rm_jb r e.1)) || (decide (z.2 ≤ e.2) || decide (T < z.2))) = true := this
          have hp := hc.2.2
          rw [h] at hp
          have hlt := (List.pairwise_cons.mp (List.pairwise_append.mp hp).2.1).1 z hz
          rw [decide_eq_false (show ¬ z.2 ≤ e.2 by omega), Bool.false_or] at this
          exact this
      · rw [decide_eq_false hT, Bool.false_and, Bool.false_and]
    unfold th_P
    rw [hl]
    show (if (decide (jb_ki (rm_jb r e.1) = 1) && (decide (e.2 ≤ T) && (th_in r fr to (jb_he (rm_jb r e.1)) && q.all _))) = true then 1 else 0) = (if (th_in r fr to (jb_he (rm_jb r e.1)) && (decide (jb_ki (rm_jb r e.1) = 1) && (decide (e.2 ≤ T) && th_l r e.1 e.2 T (rm_nj r) 0))) = true then 1 else 0)
    rw [← key]
    generalize decide (jb_ki (rm_jb r e.1) = 1) = x1
    generalize decide (e.2 ≤ T) = x2
    generalize th_in r fr to (jb_he (rm_jb r e.1)) = x3
    generalize q.all (fun z => decide (jb_he (rm_jb r z.1) ≠ jb_he (rm_jb r e.1)) || decide (T < z.2)) = x4
    cases x1 <;> cases x2 <;> cases x3 <;> cases x4 <;> rfl
theorem nbz_list {P : Nat → Bool} : ∀ (n : Nat) (l : List Nat), l.Nodup → (∀ d ∈ l, d < n) → (∀ d, d < n → P d = true → d ∈ l) → nbz P n = l.countP P
  | 0, [], _, _, _ => rfl
  | 0, d :: l, _, h, _ => absurd (h d List.mem_cons_self) (Nat.not_lt_zero _)
  | n + 1, l, hn, h, hp => by
    rw [nbz]
    by_cases q : n ∈ l
    · have ih := nbz_list (P := P) n (l.erase n) (hn.erase n) (fun d hd => by
        have hd2 := (List.Nodup.mem_erase_iff hn).mp hd
        have := h d hd2.2
        have := hd2.1
        omega) (fun d hd hpd => (List.Nodup.mem_erase_iff hn).mpr ⟨by omega, hp d (by omega) hpd⟩)
      rw [ih, (List.perm_cons_erase q).countP_eq, List.countP_cons]
    · have ih := nbz_list (P := P) n l hn (fun d hd => by
        have := h d hd
        by_cases z : d = n
        · rw [z] at hd; exact absurd hd q
        · omega) (fun d hd hpd => hp d (by omega) hpd)
      rw [ih, if_neg (fun z => q (hp n (by omega) z))]
      rfl
theorem th_both {r : sg_R} {fr to T : Nat} (hc : iv_ch r) : sg_th r fr to T (rm_ch r) = nbz (th_P r fr to T) (rm_nj r) := by
  rw [th_eq hc (rm_ch r) [] rfl]
  refine (nbz_list (rm_nj r) _ hc.2.1 (fun d hd => ?_) (fun d hd hp => ?_)).symm
  · obtain ⟨p, hp1, hp2⟩ := List.mem_map.mp hd
    rw [← hp2]
    exact (hc.1 p.1 p.2 hp1).1
  · unfold th_P at hp
    cases hl : (rm_ch r).lookup d with
    | none =>
      rw [hl] at hp
      exfalso
      generalize th_in r fr to (jb_he (rm_jb r d)) = a at hp
      generalize decide (jb_ki (rm_jb r d) = 1) = b at hp
      cases a <;> cases b <;> cases hp
    | some t => exact List.mem_map.mpr ⟨(d, t), mem_look hl, rfl⟩

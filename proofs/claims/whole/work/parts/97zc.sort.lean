/-! 97zc: the cards once each and in order, as mathematics -/
theorem ah_irr : ∀ (ru : List (Nat × Bool)) (x : Nat), sg_ah ru x x = false
  | [], x => by
    rw [sg_ah]
    exact decide_eq_false (by omega)
  | (d, g) :: r, x => by
    rw [sg_ah, if_pos rfl]
    exact ah_irr r x
theorem ah_tot : ∀ (ru : List (Nat × Bool)) (x y : Nat), x ≠ y → sg_ah ru x y = true ∨ sg_ah ru y x = true
  | [], x, y, h => by
    rw [sg_ah, sg_ah]
    rcases Nat.lt_or_gt_of_ne h with q | q
    · exact Or.inl (decide_eq_true q)
    · exact Or.inr (decide_eq_true q)
  | (d, g) :: r, x, y, h => by
    rw [sg_ah, sg_ah]
    by_cases e : sg_dig x d = sg_dig y d
    · rw [if_pos e, if_pos e.symm]
      exact ah_tot r x y h
    · rw [if_neg e, if_neg (show ¬ sg_dig y d = sg_dig x d from fun q => e q.symm)]
      cases g with
      | true =>
        rw [if_pos rfl, if_pos rfl]
        rcases Nat.lt_or_gt_of_ne e with q | q
        · exact Or.inr (decide_eq_true q)
        · exact Or.inl (decide_eq_true q)
      | false =>
        rw [if_neg (by decide), if_neg (by decide)]
        rcases Nat.lt_or_gt_of_ne e with q | q
        · exact Or.inl (decide_eq_true q)
        · exact Or.inr (decide_eq_true q)
def ct (ru : List (Nat × Bool)) (l : List Nat) (h : Nat) : Nat → Nat
  | 0 => 0
  | i + 1 => if sg_ah ru h (l.getD i 0) = true then ct ru l h i else i + 1
theorem ct_le {ru : List (Nat × Bool)} {l : List Nat} {h : Nat} : ∀ i, ct ru l h i ≤ i
  | 0 => Nat.le_refl _
  | i + 1 => by
    rw [ct]
    have := ct_le (ru := ru) (l := l) (h := h) i
    split <;> omega
theorem ct_hi {ru : List (Nat × Bool)} {l : List Nat} {h : Nat} : ∀ i k, ct ru l h i ≤ k → k < i → sg_ah ru h (l.getD k 0) = true
  | 0, k, _, q => absurd q (Nat.not_lt_zero _)
  | i + 1, k, h1, h2 => by
    rw [ct] at h1
    split at h1
    · rename_i q
      by_cases e : k = i
      · rw [e]; exact q
      · exact ct_hi i k h1 (by omega)
    · omega
theorem ct_lo {ru : List (Nat × Bool)} {l : List Nat} {h : Nat} : ∀ i, 0 < ct ru l h i → sg_ah ru h (l.getD (ct ru l h i - 1) 0) = false
  | 0, q => absurd q (Nat.not_lt_zero _)
  | i + 1, q => by
    rw [ct] at q ⊢
    split at q
    · rename_i z
      rw [if_pos z]
      exact ct_lo i q
    · rename_i z
      rw [if_neg z]
      cases hz : sg_ah ru h (l.getD (i + 1 - 1) 0)
      · rfl
      · exact absurd hz z
def s_in (ru : List (Nat × Bool)) (l : List Nat) (h : Nat) : List Nat := if 0 < ct ru l h l.length ∧ l.getD (ct ru l h l.length - 1) 0 = h then l else sg_ins l (ct ru l h l.length) h
theorem gDe {l : List Nat} {k : Nat} (h : k < l.length) : l.getD k 0 = l[k] := by
  rw [List.getD_eq_getElem?_getD, List.getElem?_eq_getElem h]
  rfl
theorem ins_len {l : List Nat} {i h : Nat} (hi : i ≤ l.length) : (sg_ins l i h).length = l.length + 1 := by
  unfold sg_ins
  rw [List.length_append, List.length_take, List.length_cons, List.length_drop]
  omega
theorem ins_get {l : List Nat} {i h : Nat} (hi : i ≤ l.length) (k : Nat) : (sg_ins l i h).getD k 0 = if k < i then l.getD k 0 else if k = i then h else l.getD (k - 1) 0 := by
  unfold sg_ins
  have hl : (l.take i).length = i := by rw [List.length_take]; omega
  rw [List.getD_eq_getElem?_getD]
  by_cases h1 : k < i
  · rw [if_pos h1, List.getElem?_append_left (by omega), List.getElem?_take_of_lt h1, ← List.getD_eq_getElem?_getD]
  · rw [if_neg h1, List.getElem?_append_right (by omega), hl]
    by_cases h2 : k = i
    · rw [if_pos h2, h2, Nat.sub_self]
      rfl
    · rw [if_neg h2, show k - i = (k - i - 1) + 1 by omega, List.getElem?_cons_succ, List.getElem?_drop, show i + (k - i - 1) = k - 1 by omega, ← List.getD_eq_getElem?_getD]
/-- a heading that a job filed -/
def hf (r : sg_R) (h : Nat) : Prop := h < 10000 ∧ ∃ j, j < rm_nj r ∧ jb_ki (rm_jb r j) = 1 ∧ jb_he (rm_jb r j) = h
def s_ok (r : sg_R) (l : List Nat) : Prop := l.Pairwise (fun x y => sg_ah (rm_ru r) x y = true) ∧ ∀ h ∈ l, hf r h
theorem s_nd {r : sg_R} {l : List Nat} (h : s_ok r l) : l.Nodup := h.1.imp (fun {x y} q e => by
  rw [e, ah_irr] at q
  cases q)
theorem s_len {r : sg_R} {l : List Nat} (h : s_ok r l) : l.length ≤ rm_nj r := by
  have hc : ∀ x : Nat, ∃ j, x ∈ l → j < rm_nj r ∧ jb_he (rm_jb r j) = x := by
    intro x
    by_cases q : x ∈ l
    · obtain ⟨_, j, j1, _, j3⟩ := h.2 x q
      exact ⟨j, fun _ => ⟨j1, j3⟩⟩
    · exact ⟨0, fun z => absurd z q⟩
  obtain ⟨f, hf⟩ := Classical.axiomOfChoice hc
  have nd : (l.map f).Nodup := by
    refine List.pairwise_map.mpr ?_
    refine List.Pairwise.imp_of_mem ?_ (s_nd h)
    intro x y hx hy hne e
    apply hne
    rw [← (hf x hx).2, ← (hf y hy).2, e]
  have := nodup_lt (n := rm_nj r) nd (fun d hd => by
    obtain ⟨x, hx, ex⟩ := List.mem_map.mp hd
    rw [← ex]
    exact (hf x hx).1)
  rw [List.length_map] at this
  exact this
theorem s_ok_in {r : sg_R} {l : List Nat} {h : Nat} (hl : s_ok r l) (hh : hf r h) : s_ok r (s_in (rm_ru r) l h) := by
  unfold s_in
  split
  · exact hl
  · rename_i nt
    have hi := ct_le (ru := rm_ru r) (l := l) (h := h) l.length
    generalize hc : ct (rm_ru r) l h l.length = i at *
    have lo : ∀ k (hk : k < i), sg_ah (rm_ru r) (l[k]'(by omega)) h = true := by
      intro k hk
      have h1 := ct_lo (ru := rm_ru r) (l := l) (h := h) l.length (by rw [hc]; omega)
      rw [hc, gDe (show i - 1 < l.length by omega)] at h1
      have h2 : l[i - 1] ≠ h := fun q => nt ⟨by omega, by rw [gDe (show i - 1 < l.length by omega)]; exact q⟩
      have h3 : sg_ah (rm_ru r) (l[i - 1]'(by omega)) h = true := by
        rcases ah_tot (rm_ru r) (l[i - 1]'(by omega)) h h2 with q | q
        · exact q
        · rw [h1] at q; cases q
      by_cases e : k = i - 1
      · subst e
        exact h3
      · exact sg_ah_tr _ _ _ _ ((List.pairwise_iff_getElem.mp hl.1) k (i - 1) (by omega) (by omega) (by omega)) h3
    have hi2 : ∀ k (hk : k < l.length), i ≤ k → sg_ah (rm_ru r) h (l[k]'hk) = true := by
      intro k hk hik
      have := ct_hi (ru := rm_ru r) (l := l) (h := h) l.length k (by rw [hc]; exact hik) hk
      rw [gDe hk] at this
      exact this
    have take_lo : ∀ x ∈ l.take i, sg_ah (rm_ru r) x h = true := by
      intro x hx
      obtain ⟨k, hk, e⟩ := List.mem_take_iff_getElem.mp hx
      rw [← e]
      exact lo k (by omega)
    have drop_hi : ∀ y ∈ l.drop i, sg_ah (rm_ru r) h y = true := by
      intro y hy
      obtain ⟨k, hk, e⟩ := List.mem_drop_iff_getElem.mp hy
      rw [← e]
      exact hi2 _ _ (by omega)
    refine ⟨?_, fun x hx => ?_⟩
    · unfold sg_ins
      refine List.pairwise_append.mpr ⟨List.Pairwise.sublist (List.take_sublist i l) hl.1, List.pairwise_cons.mpr ⟨drop_hi, List.Pairwise.sublist (List.drop_sublist i l) hl.1⟩, fun x hx y hy => ?_⟩
      rcases List.mem_cons.mp hy with q | q
      · rw [q]
        exact take_lo x hx
      · exact sg_ah_tr _ _ _ _ (take_lo x hx) (drop_hi y q)
    · unfold sg_ins at hx
      rcases List.mem_append.mp hx with q | q
      · exact hl.2 x (List.mem_of_mem_take q)
      · rcases List.mem_cons.mp q with z | z
        · rw [z]; exact hh
        · exact hl.2 x (List.mem_of_mem_drop z)
theorem s_ok_fold {r : sg_R} : ∀ (q l : List Nat), s_ok r l → (∀ h ∈ q, hf r h) → s_ok r (q.foldl (s_in (rm_ru r)) l)
  | [], l, hl, _ => hl
  | h :: q, l, hl, hq => s_ok_fold q _ (s_ok_in hl (hq h List.mem_cons_self)) (fun x hx => hq x (List.mem_cons_of_mem _ hx))
def s_srt (r : sg_R) : List Nat := (sg_cards r).foldl (s_in (rm_ru r)) []
theorem hc_hf {r : sg_R} {rk : Nat → Nat} (st : iv_st r rk) : ∀ (n : Nat) (o : Option Nat), (∀ d, o = some d → d < rm_us r ∧ dv_lev (rm_dr r d) = 0) → ∀ h ∈ sg_hc r n o, hf r h
  | 0, o, _, h, hh => by
    rw [hc_0] at hh
    cases hh
  | n + 1, none, _, h, hh => by
    rw [hc_n] at hh
    cases hh
  | n + 1, some d, ho, h, hh => by
    obtain ⟨d1, d2⟩ := ho d rfl
    rw [hc_s] at hh
    have hx := (st.2.2.1 d d1).1
    rcases List.mem_append.mp hh with q | q
    · exact ⟨hx.2.2.1 h q, (hx.2.2.2.2.2.2.2 d2).2 h q⟩
    · exact hc_hf st n _ (fun t ht => by
        obtain ⟨t1, t2, t3⟩ := hx.2.2.2.2.2.1 t ht
        exact ⟨t1, by rw [t2]; exact d2⟩) h q
theorem srt_ok {r : sg_R} {rk : Nat → Nat} {t : Nat} (st : iv_st r rk) (hcn : cnv t (dv_lev (rm_dr r (rm_to r))) (cnt r) (fun L => psum (pd r L)) (mh r)) : s_ok r (s_srt r) ∧ ∀ h ∈ sg_cards r, hf r h := by
  have hh : ∀ h ∈ sg_cards r, hf r h := hc_hf st 256 (sg_first r 0) (fun d hd => iv_fst st hcn d hd)
  exact ⟨s_ok_fold _ _ ⟨List.Pairwise.nil, fun h q => (by cases q)⟩ hh, hh⟩

theorem W_mono {p : Program} {l : Launch} {e : Env} {R : Room} {s : State} {m : MethodId} {args : Array Value} {below : List Frame} {meth : Method} {c : Code} {H : Heap} {locs : List Loc} {cells slots : Nat} {Q1 Q2 : State → Prop} {g : JFrame} (h : ∀ t, Q1 t → Q2 t) (k : W p l e R s m args below meth c H locs cells slots Q1 g) : W p l e R s m args below meth c H locs cells slots Q2 g := by
  intro T hT X
  obtain ⟨t, a, b⟩ := k T hT X
  exact ⟨t, a, h t b⟩
theorem dr_MQmono {below : List Frame} {Q1 Q2 : Array Value → State → Outcome → State → Prop} {a : Array Value} {s : State} {mc ms : Nat} {free : Addr → Prop} (h : ∀ o t, Q1 a s o t → Q2 a s o t) : ∀ t, MQ below Q1 a s mc ms free t → MQ below Q2 a s mc ms free t := by
  intro t ht
  obtain ⟨o, h1, h2, h3, h4⟩ := ht
  exact ⟨o, h1, h2, h o t h3, h4⟩
section DC
variable {p : Program} {l : Launch} {e : Env} {R : Room} {s0 : State} {m : MethodId} {args : Array Value} {below : List Frame} {meth : Method} {c : Code} {A : Nat → Prop} {H0 : Heap} {D : va_G} {cI cZ : ClassId} {ad : Nat → Nat} {cc : ByteArray} {nL : Nat} {own : String} {ret : Option FieldType} {Q : State → Prop}
variable {cells slots pc : Nat} {lv : List (Nat × Value)} {st : List Value} {ws : va_W}

theorem k_cSi (E : dr_E p R s0 m args meth c 0 0 A H0 D cI cZ ad [] cc nL own ret) {ln : Nat → Nat} {s s1 : dr_S} {r1 : Int32} {stk : List Value} {index n : Nat} {y : MethodName} {bytes : ByteArray} {maxL d : Nat} {ret2 : Option FieldType} (As : List Value) (hst : stk = As.reverse ++ st) (hM : dr_Mi l D cI cZ ad ln [] y bytes maxL ret2 d As s (some (r1, s1))) (hst2 : Cond.static y ∈ dr_tbl) (hmw : dr_mw y bytes maxL ret2 n) (hn : As.length = n) (hlink : Cond.methodLink own index y ∈ dr_tbl) (hR : d + 1 ≤ R.frames ∧ 8 + (maxL + 11) + 64 * d ≤ R.locals) (hroom : (st.map fun v => v.category).sum ≤ 8) (hcs : cells ≤ R.cells ∧ slots ≤ R.slots) (hdg : decode cc pc = .ok (.invokestatic index, 3)) (kk : dr_C p l e R s0 m args below meth c A H0 D nL Q cells slots (pc + 3) lv (.int r1 :: st) ws) : dr_C p l e R s0 m args below meth c A H0 D nL Q cells slots pc lv stk ws := by
  intro H locs ls hP hD hS hl
  subst hst
  have hts := E.2.2.2.2.2.2.1
  have hA1 : ∀ q, dr_A ad [] H.size q → A q := by
    intro q h
    rcases h with ⟨id, h1, rfl⟩ | h
    · cases h1
    · exact E.2.2.2.2.2.2.2.2.2.2.1 q (Nat.le_trans hS.1 h)
  have cb := callB_of (own := own) (index := index) (R := R) (rm := dr_rm d) (mc := 0) (ms := 0) n hts (dr_goodC hmw.1) rfl rfl rfl (hts _ hmw.2.1) (hts _ hlink) hmw.2.2 hR
  refine va_calli (va_runS (As := As) (rest := st) ⟨E.1, E.2.1, E.2.2.1, E.2.2.2.2.2.1, hts⟩ (hM r1 s1 rfl H.size) ⟨cb, hts _ hst2⟩ ⟨dr_frb, fun U hU hW => ⟨rfl, by rw [hU], (fun k q h => by cases h), va_K.moved hW.alike E.2.2.2.2.2.2.2.1⟩⟩ rfl hn hl.1 rfl (lv_room hroom) hdg hcs) hS (fun q _ h => hA1 q h) hA1 (fun r2 u t H1 locs1 ht hvm hw2 hB hz1 hk1 hS1 => ?_)
  obtain ⟨rfl, rfl⟩ := hw2
  refine kk H1 locs1 ls (hP.kept (fun k q hq => hk1 q.1 ((hP k q hq).lt) (fun h => ?_))) hD hS1 hl
  rcases h with ⟨id, h1, _⟩ | h
  · cases h1
  · exact absurd ((hP k q hq).lt) (Nat.not_lt.mpr h)
theorem k_toG (E : dr_E p R s0 m args meth c 0 0 A s0.heap D cI cZ ad [] cc nL own none) {ln : Nat → Nat} {L : List Nat} {ad2 : Nat → Nat} {s1 s2 : dr_S} {F : Option (Int32 × dr_S)} {r : Int32} (hap : dr_ap ad2 L) (hA : ∀ id, id ∈ L → A (ad2 id)) (hws : ws = dr_w cI cZ ad2 ln L s1) (hF : F = some (r, s2)) (hcs : cells = 0 ∧ slots = 0) (hRc : R.cells = 0 ∧ R.slots = 0) (g : dr_E p R s0 m args meth c 0 0 A s0.heap D cI cZ ad2 L cc nL own none → dr_G p l e R s0 m args below meth c 0 0 A s0.heap D cI cZ ad2 ln L nL (dr_Zv D cI cZ ad2 ln L A below args s0 0 0) pc lv st s1 F) : dr_C p l e R s0 m args below meth c A s0.heap D nL (MQ below (va_Qv (fun u : dr_S => u = s2) (fun u t => va_P D vwCl (dr_w cI cZ ad2 ln L u) t.heap ∧ va_D A (dr_w cI cZ ad2 ln L u)) A) args s0 R.cells R.slots A) cells slots pc lv st ws := by
  obtain ⟨rfl, rfl⟩ := hcs
  intro H locs ls hP hD hS hl
  subst hws
  have E2 : dr_E p R s0 m args meth c 0 0 A s0.heap D cI cZ ad2 L cc nL own none := ⟨E.1, E.2.1, E.2.2.1, E.2.2.2.1, E.2.2.2.2.1, E.2.2.2.2.2.1, E.2.2.2.2.2.2.1, E.2.2.2.2.2.2.2.1, hap, hA, E.2.2.2.2.2.2.2.2.2.2.1, Nat.zero_le _, Nat.zero_le _⟩
  rw [hRc.1, hRc.2]
  refine W_mono (dr_MQmono (fun o t h => ?_)) (g E2 r s2 hF H locs ls hP hS hl)
  obtain ⟨⟨u, h1, h2, h3⟩, h4⟩ := h
  exact ⟨⟨u, h1, h2, h3, dr_wD u hap hA⟩, h4⟩
end DC
section
variable {p : Program} {l : Launch} {e : Env} {s0 : State} {m : MethodId} {args : Array Value} {below : List Frame} {meth : Method} {c : Code} {A : Nat → Prop} {D : va_G} {cI cZ : ClassId} {ad ln : Nat → Nat} {L : List Nat}
set_option maxHeartbeats 4000000 in
set_option maxRecDepth 20000 in
theorem c0_X4_widthFor (hap : dr_ap ad L) (x0 : Int32) (s : dr_S) : dr_Mi l D cI cZ ad ln L yX4_widthFor cX4_widthFor 1 (some .int) 0 [.int x0] s (f_X4_widthFor ln x0 s) := by
  refine dr_meti (own := RX4) (by decide) rfl (Nat.le_of_ble_eq_true rfl) hap ?_
  intro p e s0 m args below meth c A E
  unfold f_X4_widthFor
  refine g_eqL (lv' := [(0, .int x0)]) rfl ?_
  refine g_iconst E (v := 5) dX4_widthFor_0 (by decide) ?_
  refine g_iconst E (v := 2) dX4_widthFor_1 (by decide) ?_
  refine g_iload_n E dX4_widthFor_2 0 rfl ?_
  refine g_imul E dX4_widthFor_3 ?_
  refine g_iconst E (v := 1) dX4_widthFor_4 (by decide) ?_
  refine g_iadd E dX4_widthFor_5 ?_
  refine g_iadd E dX4_widthFor_6 ?_
  refine g_iconst E (v := 2) dX4_widthFor_7 (by decide) ?_
  refine g_iload_n E dX4_widthFor_8 0 rfl ?_
  refine g_imul E dX4_widthFor_9 ?_
  refine g_iconst E (v := 2) dX4_widthFor_10 (by decide) ?_
  refine g_iadd E dX4_widthFor_11 ?_
  refine g_iadd E dX4_widthFor_12 ?_
  exact g_iret E dX4_widthFor_13
end

section
variable {p : Program} {l : Launch} {e : Env} {s0 : State} {m : MethodId} {args : Array Value} {below : List Frame} {meth : Method} {c : Code} {A : Nat → Prop} {D : va_G} {cI cZ : ClassId} {ad ln : Nat → Nat} {L : List Nat}
set_option maxHeartbeats 4000000 in
set_option maxRecDepth 20000 in
theorem c0_X4_cellsFor (hap : dr_ap ad L) (x0 : Int32) (s : dr_S) : dr_Mi l D cI cZ ad ln L yX4_cellsFor cX4_cellsFor 1 (some .int) 1 [.int x0] s (f_X4_cellsFor ln x0 s) := by
  refine dr_meti (own := RX4) (by decide) rfl (Nat.le_of_ble_eq_true rfl) hap ?_
  intro p e s0 m args below meth c A E
  unfold f_X4_cellsFor
  refine g_eqL (lv' := [(0, .int x0)]) rfl ?_
  refine g_sipush E (v := 260) dX4_cellsFor_0 (by decide) ?_
  refine g_iload_n E dX4_cellsFor_3 0 rfl ?_
  refine g_cSi E [.int x0] rfl (c0_X4_widthFor hap x0 s) ms_X4_widthFor mw_X4_widthFor rfl ml_4_23 ⟨Nat.le_of_ble_eq_true rfl, Nat.le_of_ble_eq_true rfl⟩ (Nat.le_of_ble_eq_true rfl) dX4_cellsFor_4 (fun r2 s1 => ?_)
  refine g_imul E dX4_cellsFor_7 ?_
  refine g_iconst E (v := 2) dX4_cellsFor_8 (by decide) ?_
  refine g_iadd E dX4_cellsFor_9 ?_
  exact g_iret E dX4_cellsFor_10
end


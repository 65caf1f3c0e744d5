/-- the words that stay, out of the tables -/
def dr_tbl : List Cond := lw_tbl.filter goodWord
theorem dr_in {w : Cond} {i : Nat} (h : lw_tbl[i]? = some w) (hg : goodWord w = true) : w ∈ dr_tbl := List.mem_filter.mpr ⟨List.mem_of_getElem? h, hg⟩
/-! the state as pure data: int arrays by id, int fields by id -/
abbrev dr_S : Type := (Nat → Nat → Int32) × (Nat → Int32)
def dr_put (s : dr_S) (id i : Nat) (x : Int32) : dr_S := (fun a => if a = id then upd (s.1 id) i x else s.1 a, s.2)
def dr_pf (s : dr_S) (f : Nat) (x : Int32) : dr_S := (s.1, fun g => if g = f then x else s.2 g)
def dr_set (s : dr_S) (id : Nat) (g : Nat → Int32) : dr_S := (fun a => if a = id then g else s.1 a, s.2)
def dr_rd (ln : Nat → Nat) (s : dr_S) (id : Nat) (i : Int32) : Option Int32 := if i < 0 ∨ ln id ≤ i.toNatClampNeg then none else some (s.1 id i.toNatClampNeg)
def dr_wr (ln : Nat → Nat) (s : dr_S) (id : Nat) (i x : Int32) : Option dr_S := if i < 0 ∨ ln id ≤ i.toNatClampNeg then none else some (dr_put s id i.toNatClampNeg x)
def dr_wz (ln : Nat → Nat) (s : dr_S) (id : Nat) (i x : Int32) : Option dr_S := if i < 0 ∨ ln id ≤ i.toNatClampNeg then none else some (dr_put s id i.toNatClampNeg (vp_nar .boolean x))
def dr_let (x : Int32) (K : Int32 → Option (Int32 × dr_S)) : Option (Int32 × dr_S) := K x
def dr_letS (s : dr_S) (K : dr_S → Option (Int32 × dr_S)) : Option (Int32 × dr_S) := K s
def dr_nz (y : Int32) (F : Option (Int32 × dr_S)) : Option (Int32 × dr_S) := if y = 0 then none else F
def dr_rz (v : Int32) (s : dr_S) : Option (Int32 × dr_S) := if v = 0 ∨ v = 1 then some (v, s) else none
def dr_cp (ln : Nat → Nat) (s : dr_S) (a0 a1 : Nat) (sp dp n : Int32) : Option dr_S := if sp < 0 ∨ dp < 0 ∨ n < 0 ∨ ln a0 < sp.toNatClampNeg + n.toNatClampNeg ∨ ln a1 < dp.toNatClampNeg + n.toNatClampNeg then none else some (dr_set s a1 (va_cpy (s.1 a0) (s.1 a1) sp.toNatClampNeg dp.toNatClampNeg n.toNatClampNeg))
def dr_sw (x : Int32) (lo hi : Int) (Fs : List (Option (Int32 × dr_S))) (Fd : Option (Int32 × dr_S)) : Option (Int32 × dr_S) := if x.toInt < lo ∨ hi < x.toInt then Fd else Fs.getD (x.toInt - lo).toNat none
def dr_rm (d : Nat) : Room := { frames := d, cells := 0, slots := 0, locals := 64 * d }
/-! the world -/
/-- the fields of the object of class c -/
def dr_fs (ad : Nat → Nat) (s : dr_S) : Nat → List Value := fun c => match c with
  | 0 => [.ref (ad 4), .ref (ad 1)]
  | 1 => [.ref (ad 4), .ref (ad 5), .ref (ad 13), .int (s.2 103)]
  | 2 => [.ref (ad 14), .ref (ad 15), .ref (ad 16), .int (s.2 203), .int (s.2 204)]
  | 3 => [.ref (ad 2), .int (s.2 301)]
  | 4 => [.ref (ad 2), .ref (ad 5), .int (s.2 402), .int (s.2 403), .int (s.2 404), .int (s.2 405), .int (s.2 406)]
  | 5 => [.ref (ad 17), .ref (ad 18), .ref (ad 19), .int (s.2 503), .int (s.2 504)]
  | 6 => [.ref (ad 2), .int (s.2 601), .int (s.2 602), .int (s.2 603)]
  | 7 => [.ref (ad 6), .ref (ad 20), .ref (ad 21), .ref (ad 22), .ref (ad 23), .ref (ad 24), .ref (ad 25), .ref (ad 26), .int (s.2 708)]
  | 8 => [.ref (ad 2), .ref (ad 3), .ref (ad 6), .ref (ad 10), .ref (ad 7), .ref (ad 9), .ref (ad 27), .int (s.2 807), .int (s.2 808)]
  | 9 => [.ref (ad 4), .ref (ad 5)]
  | 10 => [.ref (ad 4), .ref (ad 3), .ref (ad 6)]
  | 11 => [.ref (ad 5), .ref (ad 4), .ref (ad 3), .ref (ad 6), .ref (ad 10), .ref (ad 1), .ref (ad 7), .ref (ad 9), .ref (ad 8), .ref (ad 0)]
  | 12 => [.int (s.2 1200), .int (s.2 1201), .ref (ad 28), .ref (ad 29), .int (s.2 1204), .int (s.2 1205), .ref (ad 30), .ref (ad 31), .ref (ad 32), .ref (ad 33), .ref (ad 34), .ref (ad 35), .ref (ad 36), .ref (ad 37), .ref (ad 38), .ref (ad 39), .ref (ad 40), .ref (ad 41), .ref (ad 42), .ref (ad 43), .ref (ad 44), .ref (ad 45), .ref (ad 46), .ref (ad 47), .ref (ad 48), .ref (ad 49), .int (s.2 1226), .ref (ad 50), .ref (ad 51), .ref (ad 52), .ref (ad 53), .ref (ad 54), .ref (ad 55), .ref (ad 56), .int (s.2 1234), .ref (ad 57), .ref (ad 58), .ref (ad 59), .ref (ad 60), .ref (ad 61), .int (s.2 1240), .ref (ad 62), .int (s.2 1242), .ref (ad 63), .int (s.2 1244), .ref (ad 64), .ref (ad 65), .ref (ad 66), .ref (ad 67), .ref (ad 68), .ref (ad 69), .ref (ad 70), .ref (ad 71), .ref (ad 72), .ref (ad 73), .int (s.2 1255), .int (s.2 1256), .int (s.2 1257), .ref (ad 74)]
  | _ => []
def dr_z (id : Nat) : Bool := ([29, 30, 56, 59, 61, 64, 65] : List Nat).contains id
def dr_e (cI cZ : ClassId) (ad ln : Nat → Nat) (s : dr_S) (id : Nat) : va_E := if id < 13 then .inr (id, dr_fs ad s id) else .inl (if dr_z id = true then cZ else cI, ln id, .inl (s.1 id))
def dr_w (cI cZ : ClassId) (ad ln : Nat → Nat) (L : List Nat) (s : dr_S) : va_W := L.map (fun id => (ad id, dr_e cI cZ ad ln s id))
def dr_ap (ad : Nat → Nat) (L : List Nat) : Prop := L.Nodup ∧ ∀ i ∈ L, ∀ j ∈ L, ad i = ad j → i = j
def dr_A (ad : Nat → Nat) (L : List Nat) (sz : Nat) : Nat → Prop := fun q => (∃ id, id ∈ L ∧ q = ad id) ∨ sz ≤ q
abbrev dr_tys (cI cZ : ClassId) : List (ClassId × FieldType) := [(cI, .int), (cZ, .boolean)]
theorem dr_eI {cI cZ : ClassId} {ad ln : Nat → Nat} {s : dr_S} {id : Nat} (h : 13 ≤ id) (hz : dr_z id = false) : dr_e cI cZ ad ln s id = .inl (cI, ln id, .inl (s.1 id)) := by
  unfold dr_e
  rw [if_neg (by omega), hz]
  rfl
theorem dr_eZ {cI cZ : ClassId} {ad ln : Nat → Nat} {s : dr_S} {id : Nat} (h : 13 ≤ id) (hz : dr_z id = true) : dr_e cI cZ ad ln s id = .inl (cZ, ln id, .inl (s.1 id)) := by
  unfold dr_e
  rw [if_neg (by omega), hz]
  rfl
theorem dr_eO {cI cZ : ClassId} {ad ln : Nat → Nat} {s : dr_S} {id : Nat} (h : id < 13) : dr_e cI cZ ad ln s id = .inr (id, dr_fs ad s id) := by
  unfold dr_e
  rw [if_pos h]
theorem dr_wget {cI cZ : ClassId} {ad ln : Nat → Nat} {L : List Nat} {s : dr_S} {q id : Nat} (h : L[q]? = some id) : (dr_w cI cZ ad ln L s)[q]? = some (ad id, dr_e cI cZ ad ln s id) := by
  unfold dr_w
  rw [List.getElem?_map, h]
  rfl
theorem dr_wset {cI cZ : ClassId} {ad ln : Nat → Nat} {L : List Nat} {s s' : dr_S} {q id : Nat} (hn : L.Nodup) (h : L[q]? = some id) (hs : ∀ j, j ∈ L → j ≠ id → dr_e cI cZ ad ln s j = dr_e cI cZ ad ln s' j) : (dr_w cI cZ ad ln L s).set q (ad id, dr_e cI cZ ad ln s' id) = dr_w cI cZ ad ln L s' := by
  apply List.ext_getElem?
  intro k
  have hq : q < L.length := (List.getElem?_eq_some_iff.mp h).1
  rw [List.getElem?_set]
  by_cases hk : q = k
  · subst hk
    rw [if_pos rfl, if_pos (by unfold dr_w; rw [List.length_map]; exact hq), dr_wget h]
  · rw [if_neg hk]
    unfold dr_w
    rw [List.getElem?_map, List.getElem?_map]
    cases hL : L[k]? with
    | none => rfl
    | some j =>
      have hne : j ≠ id := by
        intro e
        subst e
        have hk2 : k < L.length := (List.getElem?_eq_some_iff.mp hL).1
        have e1 := (List.getElem?_eq_some_iff.mp hL).2
        have e2 := (List.getElem?_eq_some_iff.mp h).2
        exact hk ((List.getElem_inj hn).mp (e2.trans e1.symm))
      show some (ad j, dr_e cI cZ ad ln s j) = some (ad j, dr_e cI cZ ad ln s' j)
      rw [hs j (List.mem_of_getElem? hL) hne]
theorem dr_wD {cI cZ : ClassId} {ad ln : Nat → Nat} {L : List Nat} {A : Nat → Prop} (s : dr_S) (h : dr_ap ad L) (hA : ∀ id, id ∈ L → A (ad id)) : va_D A (dr_w cI cZ ad ln L s) := by
  refine ⟨fun i j p q hp hq e => ?_, fun k q hk => ?_⟩
  · unfold dr_w at hp hq
    rw [List.getElem?_map] at hp hq
    cases hi : L[i]? with
    | none => rw [hi] at hp; cases hp
    | some x =>
      cases hj : L[j]? with
      | none => rw [hj] at hq; cases hq
      | some y =>
        rw [hi] at hp
        rw [hj] at hq
        cases hp
        cases hq
        have hxy := h.2 x (List.mem_of_getElem? hi) y (List.mem_of_getElem? hj) e
        subst hxy
        have e1 := (List.getElem?_eq_some_iff.mp hi).2
        have e2 := (List.getElem?_eq_some_iff.mp hj).2
        exact (List.getElem_inj h.1).mp (e1.trans e2.symm)
  · unfold dr_w at hk
    rw [List.getElem?_map] at hk
    cases hi : L[k]? with
    | none => rw [hi] at hk; cases hk
    | some x =>
      rw [hi] at hk
      cases hk
      exact hA x (List.mem_of_getElem? hi)
theorem dr_put_e {cI cZ : ClassId} {ad ln : Nat → Nat} {s : dr_S} {id i : Nat} {x : Int32} : ∀ j, j ≠ id → dr_e cI cZ ad ln s j = dr_e cI cZ ad ln (dr_put s id i x) j := by
  intro j hj
  unfold dr_e
  by_cases h : j < 13
  · rw [if_pos h, if_pos h]
    rfl
  · rw [if_neg h, if_neg h]
    simp only [dr_put, if_neg hj]
theorem dr_set_e {cI cZ : ClassId} {ad ln : Nat → Nat} {s : dr_S} {id : Nat} {g : Nat → Int32} : ∀ j, j ≠ id → dr_e cI cZ ad ln s j = dr_e cI cZ ad ln (dr_set s id g) j := by
  intro j hj
  unfold dr_e
  by_cases h : j < 13
  · rw [if_pos h, if_pos h]
    rfl
  · rw [if_neg h, if_neg h]
    simp only [dr_set, if_neg hj]
/-! the environment of an activation, and the judgement -/
def dr_E (p : Program) (R : Room) (s0 : State) (m : MethodId) (args : Array Value) (meth : Method) (c : Code) (cells slots : Nat) (A : Nat → Prop) (H0 : Heap) (D : va_G) (cI cZ : ClassId) (ad : Nat → Nat) (L : List Nat) (cc : ByteArray) (nL : Nat) (own : String) (ret : Option FieldType) : Prop :=
  p.tables.exec = Jvm.exec ∧ c.code = cc ∧ c.maxLocals = nL ∧ meth.sig.returnType = ret ∧ meth.locks = false ∧ s0.vm.findClass own = some m.cls ∧ (∀ w ∈ dr_tbl, w.before args s0 = true) ∧ va_K D vwCl (dr_tys cI cZ) s0 ∧ dr_ap ad L ∧ (∀ id, id ∈ L → A (ad id)) ∧ (∀ q, H0.size ≤ q → A q) ∧ cells ≤ R.cells ∧ slots ≤ R.slots
def dr_G (p : Program) (l : Launch) (e : Env) (R : Room) (s0 : State) (m : MethodId) (args : Array Value) (below : List Frame) (meth : Method) (c : Code) (cells slots : Nat) (A : Nat → Prop) (H0 : Heap) (D : va_G) (cI cZ : ClassId) (ad ln : Nat → Nat) (L : List Nat) (nL : Nat) (Z : Int32 → dr_S → State → Prop) (pc : Nat) (lv : List (Nat × Value)) (st : List Value) (s : dr_S) (F : Option (Int32 × dr_S)) : Prop :=
  ∀ (r : Int32) (s' : dr_S), F = some (r, s') → ∀ (H : Heap) (locs : List Loc) (ls : Array Slot), va_P D vwCl (dr_w cI cZ ad ln L s) H → va_S A H0 H locs → lv_has ls nL lv → W p l e R s0 m args below meth c H locs cells slots (Z r s') (F0 m pc ls st)
def dr_Zi (D : va_G) (cI cZ : ClassId) (ad ln : Nat → Nat) (L : List Nat) (A : Nat → Prop) (below : List Frame) (args : Array Value) (s0 : State) (cells slots : Nat) (r : Int32) (s' : dr_S) : State → Prop := MQ below (va_Qi (fun (r2 : Int32) (u : dr_S) => r2 = r ∧ u = s') (fun u t => va_P D vwCl (dr_w cI cZ ad ln L u) t.heap) A) args s0 cells slots A
def dr_Zv (D : va_G) (cI cZ : ClassId) (ad ln : Nat → Nat) (L : List Nat) (A : Nat → Prop) (below : List Frame) (args : Array Value) (s0 : State) (cells slots : Nat) (_ : Int32) (s' : dr_S) : State → Prop := MQ below (va_Qv (fun (u : dr_S) => u = s') (fun u t => va_P D vwCl (dr_w cI cZ ad ln L u) t.heap) A) args s0 cells slots A
/-- a method's contract: it answers as the function F does; dr_Mi of an int or a boolean, dr_Mv of none -/
def dr_Pc (D : va_G) (cI cZ : ClassId) (ad ln : Nat → Nat) (L : List Nat) (av : List Value) (s : dr_S) (sz : Nat) : Array Value → State → Prop := va_Pc av (fun U => U.heap.size = sz ∧ va_P D vwCl (dr_w cI cZ ad ln L s) U.heap ∧ va_K D vwCl (dr_tys cI cZ) U)
def dr_Mi (l : Launch) (D : va_G) (cI cZ : ClassId) (ad ln : Nat → Nat) (L : List Nat) (y : MethodName) (cc : ByteArray) (nL : Nat) (ret : Option FieldType) (d : Nat) (av : List Value) (s : dr_S) (F : Option (Int32 × dr_S)) : Prop :=
  ∀ (r : Int32) (s' : dr_S), F = some (r, s') → ∀ sz : Nat, Met l y (.code y cc nL ret :: dr_tbl) (dr_rm d) (dr_Pc D cI cZ ad ln L av s sz) (va_Qi (fun (r2 : Int32) (u : dr_S) => r2 = r ∧ u = s') (fun u t => va_P D vwCl (dr_w cI cZ ad ln L u) t.heap) (dr_A ad L sz)) 0 0 (dr_A ad L sz)
def dr_Mv (l : Launch) (D : va_G) (cI cZ : ClassId) (ad ln : Nat → Nat) (L : List Nat) (y : MethodName) (cc : ByteArray) (nL : Nat) (d : Nat) (av : List Value) (s : dr_S) (F : Option (Int32 × dr_S)) : Prop :=
  ∀ (r : Int32) (s' : dr_S), F = some (r, s') → ∀ sz : Nat, Met l y (.code y cc nL none :: dr_tbl) (dr_rm d) (dr_Pc D cI cZ ad ln L av s sz) (va_Qv (fun (u : dr_S) => u = s') (fun u t => va_P D vwCl (dr_w cI cZ ad ln L u) t.heap) (dr_A ad L sz)) 0 0 (dr_A ad L sz)

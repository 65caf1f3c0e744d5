def dr_min (x y : Int32) : Int32 := if y < x then y else x
def dr_max (x y : Int32) : Int32 := if x < y then y else x
def dr_abs (x : Int32) : Int32 := if 0 ≤ x then x else 0 - x
theorem w_mmin : Cond.static Lib.Math.min.name ∈ dr_tbl ∧ Cond.initialized "java/lang/Math" ∈ dr_tbl ∧ Cond.code Lib.Math.min.name Lib.Math.min.code 2 (some .int) ∈ dr_tbl := ⟨dr_in (i := 92) (by decide +kernel) (by decide +kernel), dr_in (i := 68) (by decide +kernel) (by decide +kernel), dr_in (i := 93) (by decide +kernel) (by decide +kernel)⟩
theorem w_mmax : Cond.static Lib.Math.max.name ∈ dr_tbl ∧ Cond.initialized "java/lang/Math" ∈ dr_tbl ∧ Cond.code Lib.Math.max.name Lib.Math.max.code 2 (some .int) ∈ dr_tbl := ⟨dr_in (i := 95) (by decide +kernel) (by decide +kernel), dr_in (i := 68) (by decide +kernel) (by decide +kernel), dr_in (i := 96) (by decide +kernel) (by decide +kernel)⟩
theorem w_mabs : Cond.static Lib.Math.abs.name ∈ dr_tbl ∧ Cond.initialized "java/lang/Math" ∈ dr_tbl ∧ Cond.code Lib.Math.abs.name Lib.Math.abs.code 1 (some .int) ∈ dr_tbl := ⟨dr_in (i := 430) (by decide +kernel) (by decide +kernel), dr_in (i := 68) (by decide +kernel) (by decide +kernel), dr_in (i := 431) (by decide +kernel) (by decide +kernel)⟩
theorem dr_fn {P : Option (Int32 × dr_S) → Nat → Prop} {ts : List Nat} : ∀ (j : Nat) (Fj : Option (Int32 × dr_S)) (t : Nat), ([] : List (Option (Int32 × dr_S)))[j]? = some Fj → ts[j]? = some t → P Fj t := fun j Fj t h _ => by simp at h
theorem dr_fc {P : Option (Int32 × dr_S) → Nat → Prop} {Fs : List (Option (Int32 × dr_S))} {ts : List Nat} {F0 : Option (Int32 × dr_S)} {t0 : Nat} (h0 : P F0 t0) (h : ∀ (j : Nat) (Fj : Option (Int32 × dr_S)) (t : Nat), Fs[j]? = some Fj → ts[j]? = some t → P Fj t) : ∀ (j : Nat) (Fj : Option (Int32 × dr_S)) (t : Nat), (F0 :: Fs)[j]? = some Fj → (t0 :: ts)[j]? = some t → P Fj t := by
  intro j Fj t h1 h2
  cases j with
  | zero =>
    rw [List.getElem?_cons_zero] at h1 h2
    cases h1
    cases h2
    exact h0
  | succ j =>
    rw [List.getElem?_cons_succ] at h1 h2
    exact h j Fj t h1 h2
section DR
variable {p : Program} {l : Launch} {e : Env} {R : Room} {s0 : State} {m : MethodId} {args : Array Value} {below : List Frame} {meth : Method} {c : Code} {cells slots : Nat} {A : Nat → Prop} {H0 : Heap} {D : va_G} {cI cZ : ClassId} {ad ln : Nat → Nat} {L : List Nat} {cc : ByteArray} {nL : Nat} {own : String} {ret : Option FieldType} {Z : Int32 → dr_S → State → Prop}
variable {pc : Nat} {lv : List (Nat × Value)} {st : List Value} {s : dr_S} {F F1 F2 : Option (Int32 × dr_S)}

theorem g_mmin (E : dr_E p R s0 m args meth c cells slots A H0 D cI cZ ad L cc nL own ret) {index : Nat} {x y : Int32} (hlink : Cond.methodLink own index Lib.Math.min.name ∈ dr_tbl) (hR : 1 ≤ R.frames ∧ (st.map fun v => v.category).sum + 13 ≤ R.locals) (hdg : decode cc pc = .ok (.invokestatic index, 3)) (kk : dr_G p l e R s0 m args below meth c cells slots A H0 D cI cZ ad ln L nL Z (pc + 3) lv (.int (dr_min x y) :: st) s F) : dr_G p l e R s0 m args below meth c cells slots A H0 D cI cZ ad ln L nL Z pc lv (.int y :: .int x :: st) s F := fun r s' hF H locs ls hP hS hl => va_mmin E.1 E.2.1 (E.2.2.1.trans hl.1.symm) E.2.2.2.2.2.1 (E.2.2.2.2.2.2.1 _ hlink) (E.2.2.2.2.2.2.1 _ w_mmin.1) (E.2.2.2.2.2.2.1 _ w_mmin.2.1) (E.2.2.2.2.2.2.1 _ w_mmin.2.2) hR.1 hR.2 E.2.2.2.2.2.2.2.2.2.2.2.1 E.2.2.2.2.2.2.2.2.2.2.2.2 hdg (kk r s' hF H locs ls hP hS hl)
theorem g_mmax (E : dr_E p R s0 m args meth c cells slots A H0 D cI cZ ad L cc nL own ret) {index : Nat} {x y : Int32} (hlink : Cond.methodLink own index Lib.Math.max.name ∈ dr_tbl) (hR : 1 ≤ R.frames ∧ (st.map fun v => v.category).sum + 13 ≤ R.locals) (hdg : decode cc pc = .ok (.invokestatic index, 3)) (kk : dr_G p l e R s0 m args below meth c cells slots A H0 D cI cZ ad ln L nL Z (pc + 3) lv (.int (dr_max x y) :: st) s F) : dr_G p l e R s0 m args below meth c cells slots A H0 D cI cZ ad ln L nL Z pc lv (.int y :: .int x :: st) s F := fun r s' hF H locs ls hP hS hl => va_mmax E.1 E.2.1 (E.2.2.1.trans hl.1.symm) E.2.2.2.2.2.1 (E.2.2.2.2.2.2.1 _ hlink) (E.2.2.2.2.2.2.1 _ w_mmax.1) (E.2.2.2.2.2.2.1 _ w_mmax.2.1) (E.2.2.2.2.2.2.1 _ w_mmax.2.2) hR.1 hR.2 E.2.2.2.2.2.2.2.2.2.2.2.1 E.2.2.2.2.2.2.2.2.2.2.2.2 hdg (kk r s' hF H locs ls hP hS hl)
theorem g_mabs (E : dr_E p R s0 m args meth c cells slots A H0 D cI cZ ad L cc nL own ret) {index : Nat} {x : Int32} (hlink : Cond.methodLink own index Lib.Math.abs.name ∈ dr_tbl) (hR : 1 ≤ R.frames ∧ (st.map fun v => v.category).sum + 13 ≤ R.locals) (hdg : decode cc pc = .ok (.invokestatic index, 3)) (kk : dr_G p l e R s0 m args below meth c cells slots A H0 D cI cZ ad ln L nL Z (pc + 3) lv (.int (dr_abs x) :: st) s F) : dr_G p l e R s0 m args below meth c cells slots A H0 D cI cZ ad ln L nL Z pc lv (.int x :: st) s F := fun r s' hF H locs ls hP hS hl => va_mabs E.1 E.2.1 (E.2.2.1.trans hl.1.symm) E.2.2.2.2.2.1 (E.2.2.2.2.2.2.1 _ hlink) (E.2.2.2.2.2.2.1 _ w_mabs.1) (E.2.2.2.2.2.2.1 _ w_mabs.2.1) (E.2.2.2.2.2.2.1 _ w_mabs.2.2) hR.1 hR.2 E.2.2.2.2.2.2.2.2.2.2.2.1 E.2.2.2.2.2.2.2.2.2.2.2.2 hdg (kk r s' hF H locs ls hP hS hl)
end DR

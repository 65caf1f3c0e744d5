/-! 46: what the calls do and answer, as mathematics -/
def sg_sD (r : sg_R) (d : Nat) (x : sg_D) : sg_R := (r.1, (r.2.1.1, r.2.1.2.1, fun i => if i = d then x else r.2.1.2.2 i), r.2.2)
def sg_sU (r : sg_R) (u : Nat) : sg_R := (r.1, (u, r.2.1.2.1, r.2.1.2.2), r.2.2)
def sg_sT (r : sg_R) (t : Nat) : sg_R := (r.1, (r.2.1.1, t, r.2.1.2.2), r.2.2)
def sg_sK (r : sg_R) (c : Nat) (x : sg_K) : sg_R := (r.1, r.2.1, (fun i => if i = c then x else r.2.2.1 i), r.2.2.2)
def sg_sJ (r : sg_R) (j : Nat) (x : sg_J) : sg_R := (r.1, r.2.1, r.2.2.1, r.2.2.2.1, r.2.2.2.2.1, (fun i => if i = j then x else r.2.2.2.2.2.1 i), r.2.2.2.2.2.2)
def sg_sN (r : sg_R) (t n : Nat) : sg_R := (r.1, r.2.1, r.2.2.1, t, n, r.2.2.2.2.2.1, r.2.2.2.2.2.2)
def sg_sC (r : sg_R) (ch : List (Nat × Nat)) : sg_R := (r.1, r.2.1, r.2.2.1, r.2.2.2.1, r.2.2.2.2.1, r.2.2.2.2.2.1, ch)
def sg_sR (r : sg_R) (ru : List (Nat × Bool)) : sg_R := ((r.1.1, ru), r.2)
def ck_job (x : sg_K) : Nat := (ck_jo x).getD 0
/-- a clerk may take a drawer -/
def sg_free (r : sg_R) (c d : Nat) : Bool := decide (ck_fa (rm_ck r c) = 2) || (dv_la (rm_dr r d)).isNone || decide (dv_la (rm_dr r d) = some c)
def sg_la (r : sg_R) (c d : Nat) (v : Option Nat) : sg_R := if ck_fa (rm_ck r c) = 2 then r else sg_sD r d (dv_lev (rm_dr r d), dv_hs (rm_dr r d), dv_cs (rm_dr r d), dv_hi (rm_dr r d), dv_th (rm_dr r d), v)
def ck_put (x : sg_K) (a p so : Nat) (ri : Option Nat) : sg_K := (a, p, ck_jo x, ck_fa x, so, ri, ck_pa x, ck_co x)
def sg_end (r : sg_R) (c a : Nat) : sg_R :=
  let x := rm_ck r c
  let j := ck_job x
  let y := rm_jb r j
  sg_sK (sg_sJ r j (jb_ki y, jb_he y, some a, jb_be y, some (rm_ti r), jb_st y, jb_lo y)) c (ck_put x 0 (ck_pl x) (ck_so x) none)
def sg_must (r : sg_R) (c d h : Nat) : Bool := decide (ck_fa (rm_ck r c) ≠ 1) && !(sg_cov (rm_ru r) (rm_dr r d) h)
def sg_read (r : sg_R) (c : Nat) : sg_R :=
  let x := rm_ck r c
  let d := ck_pl x
  let h := ck_so x
  let y := rm_dr r d
  if sg_must r c d h then (match dv_th y with | none => r | some t => sg_sK r c (ck_put x 1 t h (ck_ri x)))
  else if 0 < dv_lev y then sg_sK r c (1, (dv_cs y).getD (sg_way (rm_ru r) (dv_hs y) h) 0, ck_jo x, ck_fa x, h, ck_ri x, (fun l => if l = dv_lev y then some d else ck_pa x l), ck_co x)
  else if jb_ki (rm_jb r (ck_job x)) = 0 then sg_end r c (if (sg_pos (dv_hs y) h).isSome then 1 else 0)
  else if sg_free r c d then sg_sK (sg_la r c d (some c)) c (ck_put x 2 d h (ck_ri x)) else r
/-- he holds another drawer than now, if no other clerk latched it -/
def sg_move (r : sg_R) (c : Nat) (t : Option Nat) : sg_R :=
  let x := rm_ck r c
  match t with
  | none => r
  | some t => if sg_free r c t then sg_sK (sg_la (sg_la r c (ck_pl x) none) c t (some c)) c (ck_put x 2 t (ck_so x) (ck_ri x)) else r
def sg_hold (r : sg_R) (c : Nat) : sg_R :=
  let x := rm_ck r c
  if sg_must r c (ck_pl x) (ck_so x) then sg_move r c (dv_th (rm_dr r (ck_pl x)))
  else sg_sK r c (3, ck_pl x, ck_jo x, ck_fa x, ck_so x, ck_ri x, ck_pa x, rm_dr r (ck_pl x))
def sg_ins (l : List Nat) (k v : Nat) : List Nat := l.take k ++ v :: l.drop k
/-- parts drawer d, which has 2 B + 1 headings: the new one is the next -/
def sg_part (r : sg_R) (d : Nat) : sg_R :=
  let y := rm_dr r d
  let b := rm_b r
  let u := rm_us r
  sg_sU (sg_sD (sg_sD r u (dv_lev y, (dv_hs y).drop (b + 1), (dv_cs y).drop (b + 1), dv_hi y, dv_th y, none)) d (dv_lev y, (dv_hs y).take (if 0 < dv_lev y then b else b + 1), (dv_cs y).take (b + 1), some ((dv_hs y).getD b 0), some u, dv_la y)) (u + 1)
/-- behind the writing of drawer d -/
def sg_done (r : sg_R) (c d : Nat) : sg_R :=
  if (dv_hs (rm_dr r d)).length ≤ 2 * rm_b r then sg_end (sg_la r c d none) c 1
  else sg_sK (sg_part r d) c (ck_put (rm_ck r c) 4 d ((dv_hs (rm_dr r d)).getD (rm_b r) 0) (some (rm_us r)))
def sg_write (r : sg_R) (c : Nat) : sg_R :=
  let x := rm_ck r c
  let d := ck_pl x
  let h := ck_so x
  let y := ck_co x
  let z := rm_dr r d
  let p := sg_pos (dv_hs y) h
  let k := sg_way (rm_ru r) (dv_hs y) h
  if dv_lev z = 0 then
    if decide (jb_ki (rm_jb r (ck_job x)) = 1) = p.isSome then sg_end (sg_la r c d none) c 0
    else sg_done (sg_sC (sg_sD r d (0, (match p with | none => sg_ins (dv_hs y) k h | some i => (dv_hs y).eraseIdx i), dv_cs y, dv_hi y, dv_th y, dv_la z)) (rm_ch r ++ [(ck_job x, rm_ti r)])) c d
  else sg_done (sg_sD r d (dv_lev z, (match p with | none => sg_ins (dv_hs y) k h | some _ => dv_hs y), (match p with | none => sg_ins (dv_cs y) (k + 1) ((ck_ri x).getD 0) | some i => (dv_cs y).set (i + 1) ((ck_ri x).getD 0)), dv_hi y, dv_th y, dv_la z)) c d
def sg_fst (r : sg_R) (lev : Nat) : Nat → Nat → Option Nat
  | 0, d => if dv_lev (rm_dr r d) = lev then some d else none
  | n + 1, d => if lev < dv_lev (rm_dr r d) then sg_fst r lev n ((dv_cs (rm_dr r d)).getD 0 0) else if dv_lev (rm_dr r d) = lev then some d else none
def sg_first (r : sg_R) (lev : Nat) : Option Nat := sg_fst r lev 256 (rm_to r)
def sg_rise (r : sg_R) (c : Nat) : sg_R :=
  let x := rm_ck r c
  let d := ck_pl x
  let lev := dv_lev (rm_dr r d)
  let u := rm_us r
  if d = rm_to r then sg_end (sg_la (sg_sT (sg_sU (sg_sD r u (lev + 1, [ck_so x], [d, (ck_ri x).getD 0], none, none, none)) (u + 1)) u) c d none) c 1
  else sg_move r c (match ck_pa x (lev + 1) with | none => sg_first r (lev + 1) | some p => some p)
/-- one step of a clerk -/
def sg_step (r : sg_R) (c : Nat) : sg_R :=
  let j := ck_job (rm_ck r c)
  let y := rm_jb r j
  let r1 := sg_sJ (sg_sN r (rm_ti r + 1) (rm_nj r)) j (jb_ki y, jb_he y, jb_an y, jb_be y, jb_en y, jb_st y + 1, jb_lo y)
  if ck_at (rm_ck r c) = 1 then sg_read r1 c else if ck_at (rm_ck r c) = 2 then sg_hold r1 c else if ck_at (rm_ck r c) = 3 then sg_write r1 c else if ck_at (rm_ck r c) = 4 then sg_rise r1 c else r1
def sg_steps (r : sg_R) (c : Nat) : Nat → Nat × sg_R
  | 0 => (0, r)
  | n + 1 => if ck_at (rm_ck r c) = 0 then (0, r) else ((sg_steps (sg_step r c) c n).1 + 1, (sg_steps (sg_step r c) c n).2)
def sg_begin (r : sg_R) (c kind h : Nat) : sg_R :=
  let x := rm_ck r c
  sg_sK (sg_sJ (sg_sN r (rm_ti r) (rm_nj r + 1)) (rm_nj r) (kind, h, none, rm_ti r, none, 0, false)) c (1, rm_to r, some (rm_nj r), ck_fa x, h, none, (fun _ => none), ck_co x)
/-- the cards -/
def sg_chain (r : sg_R) : Nat → Option Nat → List Nat
  | 0, _ => []
  | _ + 1, none => []
  | n + 1, some d => d :: sg_chain r n (dv_th (rm_dr r d))
def sg_cards (r : sg_R) : List Nat := ((sg_chain r 256 (sg_first r 0)).map (fun d => dv_hs (rm_dr r d))).flatten
/-- how many headings were there -/
def sg_there (r : sg_R) (fr to t : Nat) : List (Nat × Nat) → Nat
  | [] => 0
  | (j, tm) :: q => (if jb_ki (rm_jb r j) = 1 ∧ tm ≤ t ∧ sg_ah (rm_ru r) (jb_he (rm_jb r j)) fr = false ∧ sg_ah (rm_ru r) to (jb_he (rm_jb r j)) = false ∧ q.all (fun z => decide (jb_he (rm_jb r z.1) ≠ jb_he (rm_jb r j)) || decide (t < z.2)) = true then 1 else 0) + sg_there r fr to t q
/-- the jobs of a heading, whether they can be asked, and the first order in which their answers are right -/
def sg_jobs (r : sg_R) (h : Nat) : List Nat := (List.range (rm_nj r)).filter (fun j => decide (jb_he (rm_jb r j) = h))
def sg_can (r : sg_R) (h : Nat) : Bool := decide ((sg_jobs r h).length ≤ 9) && (sg_jobs r h).all (fun j => (jb_en (rm_jb r j)).isSome)
def sg_right (r : sg_R) (there : Bool) (j : Nat) : Bool := decide (jb_an (rm_jb r j) = some 1) == (if jb_ki (rm_jb r j) = 1 then !there else there)
def sg_may (r : sg_R) (rem : List Nat) (there : Bool) (j : Nat) : Bool := rem.all (fun o => decide (jb_be (rm_jb r j) < (jb_en (rm_jb r o)).getD 0)) && sg_right r there j
def sg_turn (r : sg_R) (there : Bool) (j : Nat) : Bool := if jb_an (rm_jb r j) = some 1 ∧ jb_ki (rm_jb r j) ≠ 0 then !there else there
def sg_line (r : sg_R) : Nat → List Nat → Bool → Option (List Nat)
  | 0, _, _ => some []
  | n + 1, rem, there => rem.findSome? (fun j => if sg_may r rem there j then (sg_line r n (rem.filter (fun o => decide (o ≠ j))) (sg_turn r there j)).map (j :: ·) else none)
def sg_order (r : sg_R) (h : Nat) : Option (List Nat) := sg_line r (sg_jobs r h).length (sg_jobs r h) false
/-- a bad drawer -/
def sg_sorted (ru : List (Nat × Bool)) : List Nat → Bool
  | [] => true
  | [_] => true
  | x :: y :: q => sg_ah ru x y && sg_sorted ru (y :: q)
def sg_bad (r : sg_R) (d : Nat) : Bool :=
  let y := rm_dr r d
  decide (2 * rm_b r < (dv_hs y).length) || !(sg_sorted (rm_ru r) (dv_hs y)) || !((dv_hs y).all (fun h => sg_cov (rm_ru r) y h)) || (decide (0 < dv_lev y) && !((List.range ((dv_hs y).length + 1)).all (fun k =>
    let c := (dv_cs y).getD k 0
    decide (c < rm_us r) && decide (dv_lev (rm_dr r c) + 1 = dv_lev y) && (decide (k = (dv_hs y).length) || (match dv_hi (rm_dr r c) with | none => false | some g => !(sg_ah (rm_ru r) ((dv_hs y).getD k 0) g))))))
def sg_shape (r : sg_R) : Option Nat := (List.range (rm_us r)).find? (fun d => sg_bad r d)
/-- rows of steps that show it -/
def sg_wrong (r : sg_R) (h1 h2 : Nat) : Bool := (sg_shape r).isSome || (sg_can r h1 && (sg_order r h1).isNone) || (sg_can r h2 && (sg_order r h2).isNone)
def sg_srch (a c h1 h2 : Nat) : Nat → sg_R → Option (List (Option Nat))
  | 0, r => if sg_wrong r h1 h2 then some [] else none
  | n + 1, r => if ck_at (rm_ck r a) = 0 ∧ ck_at (rm_ck r c) = 0 then (sg_srch a c h1 h2 n r).map (none :: ·)
    else match (if ck_at (rm_ck r a) = 0 then none else (sg_srch a c h1 h2 n (sg_step r a)).map (some a :: ·)) with
      | some l => some l
      | none => if ck_at (rm_ck r c) = 0 then none else (sg_srch a c h1 h2 n (sg_step r c)).map (some c :: ·)
/-- a fall -/
def sg_idle (x : sg_K) : sg_K := ck_put x 0 (ck_pl x) (ck_so x) none
def sg_lose (r : sg_R) (c : Nat) : sg_R :=
  let j := ck_job (rm_ck r c)
  let y := rm_jb r j
  if ck_at (rm_ck r c) = 0 then r else sg_sK (sg_sJ r j (jb_ki y, jb_he y, jb_an y, jb_be y, jb_en y, jb_st y, true)) c (sg_idle (rm_ck r c))
def sg_fall (r : sg_R) : sg_R :=
  let r1 := sg_lose (sg_lose (sg_lose (sg_lose r 0) 1) 2) 3
  let r2 : sg_R := (r1.1, (rm_us r1, rm_to r1, fun d => (dv_lev (rm_dr r1 d), dv_hs (rm_dr r1 d), dv_cs (rm_dr r1 d), dv_hi (rm_dr r1 d), dv_th (rm_dr r1 d), none)), r1.2.2)
  let t := rm_to r2
  if dv_th (rm_dr r2 t) = none then r2
  else
    let l := sg_chain r2 (2 * rm_b r2 + 1) (some t)
    let u := rm_us r2
    sg_sT (sg_sU (sg_sD r2 u (dv_lev (rm_dr r2 t) + 1, l.dropLast.map (fun d => (dv_hi (rm_dr r2 d)).getD 0), l, none, none, none)) (u + 1)) u
/-- a night: the cards once each and in order, cut into rows of f; then guides of f + 1 children -/
def sg_cut (ru : List (Nat × Bool)) (l : List Nat) (h : Nat) : Nat := l.length - (l.reverse.takeWhile (fun x => sg_ah ru h x)).length
def sg_sin (ru : List (Nat × Bool)) (l : List Nat) (h : Nat) : List Nat := if 0 < sg_cut ru l h ∧ l[sg_cut ru l h - 1]? = some h then l else sg_ins l (sg_cut ru l h) h
def sg_sort (ru : List (Nat × Bool)) (l : List Nat) : List Nat := l.foldl (sg_sin ru) []

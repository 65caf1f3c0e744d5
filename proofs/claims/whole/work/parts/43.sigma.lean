/-! 43: the room as mathematics, and how both sides hold it -/
/-- a drawer: its level, headings, children, high, thread, latch -/
abbrev sg_D : Type := Nat × List Nat × List Nat × Option Nat × Option Nat × Option Nat
def dv_lev (x : sg_D) : Nat := x.1
def dv_hs (x : sg_D) : List Nat := x.2.1
def dv_cs (x : sg_D) : List Nat := x.2.2.1
def dv_hi (x : sg_D) : Option Nat := x.2.2.2.1
def dv_th (x : sg_D) : Option Nat := x.2.2.2.2.1
def dv_la (x : sg_D) : Option Nat := x.2.2.2.2.2
/-- a clerk: what he is at, the drawer, his job, his fault, what he looks for, the child that rises, his path, his copy -/
abbrev sg_K : Type := Nat × Nat × Option Nat × Nat × Nat × Option Nat × (Nat → Option Nat) × sg_D
def ck_at (x : sg_K) : Nat := x.1
def ck_pl (x : sg_K) : Nat := x.2.1
def ck_jo (x : sg_K) : Option Nat := x.2.2.1
def ck_fa (x : sg_K) : Nat := x.2.2.2.1
def ck_so (x : sg_K) : Nat := x.2.2.2.2.1
def ck_ri (x : sg_K) : Option Nat := x.2.2.2.2.2.1
def ck_pa (x : sg_K) : Nat → Option Nat := x.2.2.2.2.2.2.1
def ck_co (x : sg_K) : sg_D := x.2.2.2.2.2.2.2
/-- a job: kind, heading, answer, began, ended, steps, lost -/
abbrev sg_J : Type := Nat × Nat × Option Nat × Nat × Option Nat × Nat × Bool
def jb_ki (x : sg_J) : Nat := x.1
def jb_he (x : sg_J) : Nat := x.2.1
def jb_an (x : sg_J) : Option Nat := x.2.2.1
def jb_be (x : sg_J) : Nat := x.2.2.2.1
def jb_en (x : sg_J) : Option Nat := x.2.2.2.2.1
def jb_st (x : sg_J) : Nat := x.2.2.2.2.2.1
def jb_lo (x : sg_J) : Bool := x.2.2.2.2.2.2
/-- the room: B, the rule's parts (digit, whether the greater first); how many drawers are in use, the top, the drawers; the clerks; the time, how many jobs, the jobs, the changes (job, step) in their order -/
abbrev sg_R : Type := (Nat × List (Nat × Bool)) × (Nat × Nat × (Nat → sg_D)) × (Nat → sg_K) × (Nat × Nat × (Nat → sg_J) × List (Nat × Nat))
def rm_b (r : sg_R) : Nat := r.1.1
def rm_ru (r : sg_R) : List (Nat × Bool) := r.1.2
def rm_us (r : sg_R) : Nat := r.2.1.1
def rm_to (r : sg_R) : Nat := r.2.1.2.1
def rm_dr (r : sg_R) : Nat → sg_D := r.2.1.2.2
def rm_ck (r : sg_R) : Nat → sg_K := r.2.2.1
def rm_ti (r : sg_R) : Nat := r.2.2.2.1
def rm_nj (r : sg_R) : Nat := r.2.2.2.2.1
def rm_jb (r : sg_R) : Nat → sg_J := r.2.2.2.2.2.1
def rm_ch (r : sg_R) : List (Nat × Nat) := r.2.2.2.2.2.2
/-- a number or none, as an int -/
def nO : Option Nat → Int32
  | none => -1
  | some n => nI n
/-- the digit k (0: thousands) of a heading -/
def sg_dig (h k : Nat) : Nat := if k = 0 then h / 1000 else if k = 1 then h / 100 % 10 else if k = 2 then h / 10 % 10 else h % 10
/-- whether a heading is ahead of another one -/
def sg_ah : List (Nat × Bool) → Nat → Nat → Bool
  | [], x, y => decide (x < y)
  | (d, g) :: r, x, y => if sg_dig x d = sg_dig y d then sg_ah r x y else if g then decide (sg_dig y d < sg_dig x d) else decide (sg_dig x d < sg_dig y d)
def sg_wor (k : Nat) : Nat := if k = 0 then 1000 else if k = 1 then 100 else if k = 2 then 10 else 1
/-- a drawer's row (or a copy's) in the row of numbers, but for the latch -/
def rp_row (m : Nat → Int32) (b r : Nat) (x : sg_D) : Prop :=
  m (dp b r 0) = nI (dv_lev x) ∧ m (dp b r 1) = nI (dv_hs x).length ∧ m (dp b r 2) = nO (dv_hi x) ∧ m (dp b r 3) = nO (dv_th x) ∧ (∀ (k h : Nat), (dv_hs x)[k]? = some h → m (dp b r (5 + k)) = nI h) ∧ (0 < dv_lev x → ∀ (k c : Nat), (dv_cs x)[k]? = some c → m (dp b r (2 * b + 6 + k)) = nI c)
def rp_ck (m : Nat → Int32) (b c : Nat) (x : sg_K) : Prop :=
  m (cp b c 0) = nI (ck_at x) ∧ m (cp b c 1) = (if ck_at x = 0 then -1 else nI (ck_pl x)) ∧ m (cp b c 2) = nO (ck_jo x) ∧ m (cp b c 3) = (if ck_at x = 0 then -1 else nI (ck_so x)) ∧ m (cp b c 4) = nO (ck_ri x) ∧ m (cp b c 5) = nI (ck_fa x) ∧ (ck_at x ≠ 0 → ∀ l, l < 122 → m (cp b c (6 + l)) = nO (ck_pa x l)) ∧ (ck_at x = 3 → rp_row m b (256 + c) (ck_co x))
def rp_jb (m : Nat → Int32) (b j : Nat) (x : sg_J) (ch : List (Nat × Nat)) : Prop :=
  m (jp b j 0) = nI (jb_ki x) ∧ m (jp b j 1) = nI (jb_he x) ∧ m (jp b j 2) = nO (jb_an x) ∧ m (jp b j 3) = nI (jb_be x) ∧ m (jp b j 4) = nO (jb_en x) ∧ m (jp b j 5) = nI (jb_st x) ∧ m (jp b j 6) = (if jb_lo x then 1 else 0) ∧ m (jp b j 7) = nO (ch.lookup j)
/-- the row of numbers holds the room -/
def rp_mem (m : Nat → Int32) (r : sg_R) : Prop :=
  m (260 * (4 * rm_b r + 8)) = nI (rm_to r) ∧ m (260 * (4 * rm_b r + 8) + 1) = nI (rm_us r) ∧ (∀ d, d < rm_us r → rp_row m (rm_b r) d (rm_dr r d) ∧ m (dp (rm_b r) d 4) = nO (dv_la (rm_dr r d))) ∧ (∀ c, c < 4 → rp_ck m (rm_b r) c (rm_ck r c)) ∧ m (260 * (4 * rm_b r + 8) + 1474) = nI (rm_ti r) ∧ m (260 * (4 * rm_b r + 8) + 1475) = nI (rm_nj r) ∧ (∀ j, j < rm_nj r → rp_jb m (rm_b r) j (rm_jb r j) (rm_ch r))
def rp_rule (s : dr_S) (ru : List (Nat × Bool)) : Prop :=
  s.2 503 = nI ru.length ∧ ∀ (i d : Nat) (g : Bool), ru[i]? = some (d, g) → s.1 18 i = (if g then -nI (sg_wor d) else nI (sg_wor d))
/-- the class holds the room -/
def rp_C (ln : Nat → Nat) (s : dr_S) (r : sg_R) : Prop := dq_G (rm_b r) ln s ∧ (ln 18 = 4 ∧ ln 13 = 120 ∧ ln 17 = 5 ∧ ln 19 = 4 ∧ (∀ i, 20 ≤ i → i ≤ 25 → ln i = 9) ∧ ln 26 = 16 ∧ ln 27 = 8) ∧ rp_rule s (rm_ru r) ∧ rp_mem (s.1 14) r
/-- the reference holds the room -/
def rp_mrow (s : dr_S) (hd cd mn hi th d : Nat) (x : sg_D) : Prop :=
  s.1 mn d = nI (dv_hs x).length ∧ s.1 hi d = nO (dv_hi x) ∧ s.1 th d = nO (dv_th x) ∧ (∀ (k h : Nat), (dv_hs x)[k]? = some h → s.1 hd (14 * d + k) = nI h) ∧ (0 < dv_lev x → ∀ (k c : Nat), (dv_cs x)[k]? = some c → s.1 cd (14 * d + k) = nI c)
def rp_mck (s : dr_S) (c : Nat) (x : sg_K) (lev he : Nat) : Prop :=
  s.1 38 c = nI (ck_fa x) ∧ s.1 39 c = nI (ck_at x) ∧ (ck_at x ≠ 0 → s.1 40 c = nI (ck_pl x)) ∧ s.1 41 c = nO (ck_jo x) ∧ s.1 43 c = nO (ck_ri x) ∧ (ck_at x ≠ 0 → ∀ l, l < 64 → s.1 44 (64 * c + l) = nO (ck_pa x l)) ∧ (ck_at x = 3 → rp_mrow s 46 47 45 48 49 c (ck_co x)) ∧ (ck_at x ≠ 0 → if ck_at x = 1 ∨ (ck_at x ≠ 4 ∧ lev = 0) then he = ck_so x else s.1 42 c = nI (ck_so x))
def rp_M (ln : Nat → Nat) (s : dr_S) (r : sg_R) : Prop :=
  (∀ i, 28 ≤ i → ln i = dr_ln 0 i) ∧ s.2 1200 = nI (rm_b r) ∧ (s.2 1201 = nI (rm_ru r).length ∧ ∀ (i d : Nat) (g : Bool), (rm_ru r)[i]? = some (d, g) → s.1 28 i = nI d ∧ s.1 29 i = (if g then 1 else 0)) ∧ s.2 1204 = nI (rm_ti r) ∧ s.2 1205 = nI (rm_to r) ∧
  (∀ d, d < 256 → s.1 30 d = (if d < rm_us r then 1 else 0)) ∧ (∀ d, d < rm_us r → s.1 31 d = nI (dv_lev (rm_dr r d)) ∧ rp_mrow s 33 34 32 35 36 d (rm_dr r d) ∧ s.1 37 d = nO (dv_la (rm_dr r d))) ∧ (∀ d, rm_us r ≤ d → d < 256 → s.1 37 d = -1) ∧
  (∀ c, c < 4 → rp_mck s c (rm_ck r c) (dv_lev (rm_dr r (ck_pl (rm_ck r c)))) (match ck_jo (rm_ck r c) with | none => 0 | some j => jb_he (rm_jb r j))) ∧
  s.2 1226 = nI (rm_nj r) ∧ (∀ j, j < rm_nj r → s.1 50 j = nI (jb_ki (rm_jb r j)) ∧ s.1 51 j = nI (jb_he (rm_jb r j)) ∧ s.1 52 j = nO (jb_an (rm_jb r j)) ∧ s.1 53 j = nI (jb_be (rm_jb r j)) ∧ s.1 54 j = nO (jb_en (rm_jb r j)) ∧ s.1 55 j = nI (jb_st (rm_jb r j)) ∧ s.1 56 j = (if jb_lo (rm_jb r j) then 1 else 0)) ∧
  (∀ j, rm_nj r ≤ j → j < 120 → s.1 55 j = 0 ∧ s.1 56 j = 0) ∧ s.2 1234 = nI (rm_ch r).length ∧ (∀ (i j t : Nat), (rm_ch r)[i]? = some (j, t) → s.1 57 i = nI t ∧ s.1 58 i = nI (jb_he (rm_jb r j)) ∧ s.1 59 i = (if jb_ki (rm_jb r j) = 1 then 1 else 0))

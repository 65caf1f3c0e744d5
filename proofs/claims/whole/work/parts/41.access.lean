/-! 41: where things stand in the row; reading and writing them -/
def dq_G (b : Nat) (ln : Nat → Nat) (s : dr_S) : Prop := (2 ≤ b ∧ b ≤ 5) ∧ (ln 14 = 260 * (4 * b + 8) + 1476 ∧ ln 15 = 1024 ∧ ln 16 = 1024) ∧ s.2 402 = nI b ∧ s.2 403 = nI (4 * b + 8) ∧ s.2 404 = nI (2 * b + 6) ∧ s.2 405 = nI (260 * (4 * b + 8)) ∧ s.2 406 = nI (260 * (4 * b + 8) + 1) ∧ s.2 301 = nI (260 * (4 * b + 8) + 2) ∧ s.2 601 = nI (260 * (4 * b + 8) + 514) ∧ s.2 602 = nI (260 * (4 * b + 8) + 1474) ∧ s.2 603 = nI (260 * (4 * b + 8) + 1475)
theorem q_GL {b : Nat} {ln : Nat → Nat} {s : dr_S} (h : dq_G b ln s) : dq_L ln := ⟨by have := h.1; have := h.2.1.1; omega, h.2.1.2.1, h.2.1.2.2⟩
theorem q_GC {b : Nat} {ln : Nat → Nat} {s s' : dr_S} {g : Nat → Int32} {k : Nat} (h : dq_G b ln s) (hC : dq_C s s' g k) : dq_G b ln s' := by
  obtain ⟨h1, h2, h3, h4, h5, h6, h7, h8, h9, h10, h11⟩ := h
  have hf := hC.2.2.1
  exact ⟨h1, h2, (hf 402 (by decide)).trans h3, (hf 403 (by decide)).trans h4, (hf 404 (by decide)).trans h5, (hf 405 (by decide)).trans h6, (hf 406 (by decide)).trans h7, (hf 301 (by decide)).trans h8, (hf 601 (by decide)).trans h9, (hf 602 (by decide)).trans h10, (hf 603 (by decide)).trans h11⟩
/-- places: of a drawer (or a clerk's copy, 256 + c), of a clerk, of a job -/
def dp (b d k : Nat) : Nat := d * (4 * b + 8) + k
def cp (b c k : Nat) : Nat := 260 * (4 * b + 8) + 2 + c * 128 + k
def jp (b j k : Nat) : Nat := 260 * (4 * b + 8) + 514 + j * 8 + k
theorem dp_lt {b d k : Nat} (hb : 2 ≤ b ∧ b ≤ 5) (hd : d < 260) (hk : k < 4 * b + 8) : dp b d k < 260 * (4 * b + 8) := by
  unfold dp
  have h : (d + 1) * (4 * b + 8) ≤ 260 * (4 * b + 8) := Nat.mul_le_mul_right _ (by omega)
  rw [Nat.succ_mul] at h
  omega
theorem q4_get {b : Nat} {ln : Nat → Nat} {s : dr_S} {d k : Nat} (hG : dq_G b ln s) (hd : d < 260) (hk : k < 4 * b + 8) : f_X4_get ln (nI d) (nI k) s = some (s.1 14 (dp b d k), s) := by
  have hl := dp_lt hG.1 hd hk
  unfold f_X4_get
  rw [hG.2.2.2.1, pk_mul, nI_add, q_get (q_GL hG) (p := d * (4 * b + 8) + k) (by rw [hG.2.1.1]; unfold dp at hl; omega)]
  rfl
theorem q4_set {b : Nat} {ln : Nat → Nat} {s : dr_S} {d k : Nat} {v : Int32} (hG : dq_G b ln s) (hd : d < 260) (hk : k < 4 * b + 8) (hB : dq_B s 1) : ∃ s', f_X4_set ln (nI d) (nI k) v s = some (0, s') ∧ dq_C s s' (upd (s.1 14) (dp b d k) v) 1 := by
  have hl := dp_lt hG.1 hd hk
  refine ⟨dq_put s (dp b d k) v, ?_, q_Cput (by have := hG.1; omega) hB⟩
  unfold f_X4_set
  rw [hG.2.2.2.1, pk_mul, nI_add, q_put (q_GL hG) (p := d * (4 * b + 8) + k) (by rw [hG.2.1.1]; unfold dp at hl; omega)]
  rfl
theorem q4_top {b : Nat} {ln : Nat → Nat} {s : dr_S} (hG : dq_G b ln s) : f_X4_top ln s = some (s.1 14 (260 * (4 * b + 8)), s) := by
  unfold f_X4_top
  rw [hG.2.2.2.2.2.1, q_get (q_GL hG) (by rw [hG.2.1.1]; omega)]
  rfl
theorem q4_inUse {b : Nat} {ln : Nat → Nat} {s : dr_S} (hG : dq_G b ln s) : f_X4_inUse ln s = some (s.1 14 (260 * (4 * b + 8) + 1), s) := by
  unfold f_X4_inUse
  rw [hG.2.2.2.2.2.2.1, q_get (q_GL hG) (by rw [hG.2.1.1]; omega)]
  rfl
theorem q4_setTop {b : Nat} {ln : Nat → Nat} {s : dr_S} {v : Int32} (hG : dq_G b ln s) (hB : dq_B s 1) : ∃ s', f_X4_setTop ln v s = some (0, s') ∧ dq_C s s' (upd (s.1 14) (260 * (4 * b + 8)) v) 1 := by
  refine ⟨dq_put s (260 * (4 * b + 8)) v, ?_, q_Cput (by have := hG.1; omega) hB⟩
  unfold f_X4_setTop
  rw [hG.2.2.2.2.2.1, q_put (q_GL hG) (by rw [hG.2.1.1]; omega)]
  rfl
theorem q4_clear {b : Nat} {ln : Nat → Nat} {s : dr_S} (hG : dq_G b ln s) (hB : dq_B s 1) : ∃ s', f_X4_clear ln s = some (0, s') ∧ dq_C s s' (upd (s.1 14) (260 * (4 * b + 8) + 1) 0) 1 := by
  refine ⟨dq_put s (260 * (4 * b + 8) + 1) 0, ?_, q_Cput (by have := hG.1; omega) hB⟩
  unfold f_X4_clear
  rw [hG.2.2.2.2.2.2.1, q_put (q_GL hG) (by rw [hG.2.1.1]; omega)]
  rfl
theorem q4_half {b : Nat} {ln : Nat → Nat} {s : dr_S} (hG : dq_G b ln s) : f_X4_half ln s = some (nI b, s) := by
  unfold f_X4_half
  rw [hG.2.2.1]
theorem q3_get {b : Nat} {ln : Nat → Nat} {s : dr_S} {c k : Nat} (hG : dq_G b ln s) (hc : c < 4) (hk : k < 128) : f_X3_get ln (nI c) (nI k) s = some (s.1 14 (cp b c k), s) := by
  unfold f_X3_get
  rw [hG.2.2.2.2.2.2.2.1, show (128 : Int32) = nI 128 from rfl, pk_mul, nI_add, nI_add, q_get (q_GL hG) (p := 260 * (4 * b + 8) + 2 + c * 128 + k) (by rw [hG.2.1.1]; omega)]
  rfl
theorem q3_set {b : Nat} {ln : Nat → Nat} {s : dr_S} {c k : Nat} {v : Int32} (hG : dq_G b ln s) (hc : c < 4) (hk : k < 128) (hB : dq_B s 1) : ∃ s', f_X3_set ln (nI c) (nI k) v s = some (0, s') ∧ dq_C s s' (upd (s.1 14) (cp b c k) v) 1 := by
  refine ⟨dq_put s (cp b c k) v, ?_, q_Cput (by unfold cp; have := hG.1; omega) hB⟩
  unfold f_X3_set
  rw [hG.2.2.2.2.2.2.2.1, show (128 : Int32) = nI 128 from rfl, pk_mul, nI_add, nI_add, q_put (q_GL hG) (p := 260 * (4 * b + 8) + 2 + c * 128 + k) (by rw [hG.2.1.1]; omega)]
  rfl
theorem q6_get {b : Nat} {ln : Nat → Nat} {s : dr_S} {c k : Nat} (hG : dq_G b ln s) (hc : c < 120) (hk : k < 8) : f_X6_get ln (nI c) (nI k) s = some (s.1 14 (jp b c k), s) := by
  unfold f_X6_get
  rw [hG.2.2.2.2.2.2.2.2.1, show (8 : Int32) = nI 8 from rfl, pk_mul, nI_add, nI_add, q_get (q_GL hG) (p := 260 * (4 * b + 8) + 514 + c * 8 + k) (by rw [hG.2.1.1]; omega)]
  rfl
theorem q6_set {b : Nat} {ln : Nat → Nat} {s : dr_S} {c k : Nat} {v : Int32} (hG : dq_G b ln s) (hc : c < 120) (hk : k < 8) (hB : dq_B s 1) : ∃ s', f_X6_set ln (nI c) (nI k) v s = some (0, s') ∧ dq_C s s' (upd (s.1 14) (jp b c k) v) 1 := by
  refine ⟨dq_put s (jp b c k) v, ?_, q_Cput (by unfold jp; have := hG.1; omega) hB⟩
  unfold f_X6_set
  rw [hG.2.2.2.2.2.2.2.2.1, show (8 : Int32) = nI 8 from rfl, pk_mul, nI_add, nI_add, q_put (q_GL hG) (p := 260 * (4 * b + 8) + 514 + c * 8 + k) (by rw [hG.2.1.1]; omega)]
  rfl
theorem q6_time {b : Nat} {ln : Nat → Nat} {s : dr_S} (hG : dq_G b ln s) : f_X6_time ln s = some (s.1 14 (260 * (4 * b + 8) + 1474), s) := by
  unfold f_X6_time
  rw [hG.2.2.2.2.2.2.2.2.2.1, q_get (q_GL hG) (by rw [hG.2.1.1]; omega)]
  rfl
theorem q6_begun {b : Nat} {ln : Nat → Nat} {s : dr_S} (hG : dq_G b ln s) : f_X6_begun ln s = some (s.1 14 (260 * (4 * b + 8) + 1475), s) := by
  unfold f_X6_begun
  rw [hG.2.2.2.2.2.2.2.2.2.2, q_get (q_GL hG) (by rw [hG.2.1.1]; omega)]
  rfl
theorem q3_isIdle {b : Nat} {ln : Nat → Nat} {s : dr_S} {c : Nat} (hG : dq_G b ln s) (hc : c < 4) : f_X3_isIdle ln (nI c) s = some (if s.1 14 (cp b c 0) = 0 then 1 else 0, s) := by
  unfold f_X3_isIdle
  rw [show (0 : Int32) = nI 0 from rfl, q3_get hG hc (by omega)]
  show (if s.1 14 (cp b c 0) = nI 0 then some (1, s) else some (nI 0, s)) = _
  by_cases h : s.1 14 (cp b c 0) = nI 0
  · rw [if_pos h, if_pos h]
  · rw [if_neg h, if_neg h]
theorem q4_heading {b : Nat} {ln : Nat → Nat} {s : dr_S} {d k z : Nat} (hG : dq_G b ln s) (hd : d < 260) (hz : s.1 14 (dp b d 1) = nI z) (hzb : z ≤ 2 * b + 1) (hk : k < 2 ^ 31) : f_X4_heading ln (nI d) (nI k) s = some (if k < z then s.1 14 (dp b d (5 + k)) else -1, s) := by
  unfold f_X4_heading
  rw [if_neg (nI_pos hk), show (1 : Int32) = nI 1 from rfl, q4_get hG hd (by omega), hz]
  show (if nI z ≤ nI k then some ((-1), s) else _) = _
  by_cases h : k < z
  · have hb := hG.1
    rw [if_neg (nI_ge h (by omega)), if_pos h]
    have hl := dp_lt (k := 5 + k) hG.1 hd (by omega)
    rw [hG.2.2.2.1, show (5 : Int32) = nI 5 from rfl, pk_mul, nI_add, nI_add, q_get (q_GL hG) (p := d * (4 * b + 8) + 5 + k) (by rw [hG.2.1.1]; unfold dp at hl; omega)]
    unfold dp
    rw [show d * (4 * b + 8) + (5 + k) = d * (4 * b + 8) + 5 + k by omega]
    rfl
  · rw [if_pos (nI_le (by omega) hk), if_neg h]
    rfl
theorem q4_headingN {ln : Nat → Nat} {s : dr_S} {x y : Int32} (h : y < 0) : f_X4_heading ln x y s = some (-1, s) := by
  unfold f_X4_heading
  rw [if_pos h]

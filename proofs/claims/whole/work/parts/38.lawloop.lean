abbrev nd_L : List Nat := [11, 3, 4, 2, 14, 15, 16, 5, 17, 18, 19, 6, 10, 1, 13, 7, 20, 21, 22, 23, 24, 25, 26, 9, 8, 27, 0, 12, 28, 29, 30, 31, 32, 33, 34, 35, 36, 37, 38, 39, 40, 41, 42, 43, 44, 45, 46, 47, 48, 49, 50, 51, 52, 53, 54, 55, 56, 57, 58, 59, 60, 61, 62, 63, 64, 65, 66, 67, 68, 69, 70, 71, 72, 73, 74]
theorem ns_11_L : ∀ x ∈ nd_11, x ∈ nd_L := by decide
theorem ns_11f_L : ∀ x ∈ nd_11f, x ∈ nd_L := by decide
theorem ns_12_L : ∀ x ∈ nd_12, x ∈ nd_L := by decide
def f_L_law_p757 (ln : Nat → Nat) (Lx : Nat) (xs : Nat → Int32) (kb28 : Int32 → dr_S → Option (Int32 × dr_S)) (x3 : Int32) (s : dr_S) : Option (Int32 × dr_S) := dr_let (x3 + 7) (fun y143 => (kb28 y143 s))
def f_L_law_p499 (ln : Nat → Nat) (Lx : Nat) (xs : Nat → Int32) (kb28 : Int32 → dr_S → Option (Int32 × dr_S)) (x3 : Int32) (z0 : Int32) (z1 : Int32) (z2 : Int32) (z4 : Int32) (s : dr_S) : Option (Int32 × dr_S) := dr_bnd (f_X12_at ln z2 z1 z0 s) (fun r150 s149 => (if z4 = r150 then (f_L_law_p757 ln Lx xs kb28 x3 s149) else none))
def f_L_law_p472 (ln : Nat → Nat) (Lx : Nat) (xs : Nat → Int32) (kb28 : Int32 → dr_S → Option (Int32 × dr_S)) (x3 : Int32) (z0 : Int32) (z1 : Int32) (z2 : Int32) (s : dr_S) : Option (Int32 × dr_S) := dr_bnd (f_X11_at ln z2 z1 z0 s) (fun r145 s144 => (dr_rds Lx xs (x3 + 1)).bind (fun v146 => (dr_rds Lx xs (x3 + 2)).bind (fun v147 => (dr_rds Lx xs (x3 + 3)).bind (fun v148 => (if v148 = 0 then (f_L_law_p499 ln Lx xs kb28 x3 0 v147 v146 r145 s144) else (f_L_law_p499 ln Lx xs kb28 x3 1 v147 v146 r145 s144))))))
def f_L_law_p28 (ln : Nat → Nat) (Lx : Nat) (xs : Nat → Int32) : Nat → Int32 → dr_S → Option (Int32 × dr_S)
  | 0, _, _ => none
  | n + 1, x3, s => (if ((Int32.ofNat Lx) - 7) < x3 then some (1, s) else (dr_rds Lx xs x3).bind (fun v1 => dr_sw (v1 &&& 31) 0 18 [((dr_rds Lx xs (x3 + 1)).bind (fun v2 => (dr_rds Lx xs (x3 + 2)).bind (fun v3 => (dr_rds Lx xs (x3 + 3)).bind (fun v4 => (dr_rds Lx xs (x3 + 4)).bind (fun v5 => (dr_rds Lx xs (x3 + 5)).bind (fun v6 => (dr_rds Lx xs (x3 + 6)).bind (fun v7 => dr_bnd (f_X11_rule ln v2 v3 v4 v5 v6 v7 s) (fun r9 s8 => (dr_rds Lx xs (x3 + 1)).bind (fun v10 => (dr_rds Lx xs (x3 + 2)).bind (fun v11 => (dr_rds Lx xs (x3 + 3)).bind (fun v12 => (dr_rds Lx xs (x3 + 4)).bind (fun v13 => (dr_rds Lx xs (x3 + 5)).bind (fun v14 => (dr_rds Lx xs (x3 + 6)).bind (fun v15 => dr_bnd (f_X12_rule ln v10 v11 v12 v13 v14 v15 s8) (fun r17 s16 => (if r9 = r17 then (f_L_law_p757 ln Lx xs (f_L_law_p28 ln Lx xs n) x3 s16) else none)))))))))))))))), ((dr_rds Lx xs (x3 + 1)).bind (fun v18 => (dr_rds Lx xs (x3 + 2)).bind (fun v19 => dr_bnd (f_X11_ahead ln v18 v19 s) (fun r21 s20 => (dr_rds Lx xs (x3 + 1)).bind (fun v22 => (dr_rds Lx xs (x3 + 2)).bind (fun v23 => dr_bnd (f_X12_ahead ln v22 v23 s20) (fun r25 s24 => (if r21 = r25 then (f_L_law_p757 ln Lx xs (f_L_law_p28 ln Lx xs n) x3 s24) else none)))))))), ((dr_rds Lx xs (x3 + 1)).bind (fun v26 => (dr_rds Lx xs (x3 + 2)).bind (fun v27 => dr_bnd (f_X11_fault ln v26 v27 s) (fun r29 s28 => (dr_rds Lx xs (x3 + 1)).bind (fun v30 => (dr_rds Lx xs (x3 + 2)).bind (fun v31 => dr_bnd (f_X12_fault ln v30 v31 s28) (fun r33 s32 => (if r29 = r33 then (f_L_law_p757 ln Lx xs (f_L_law_p28 ln Lx xs n) x3 s32) else none)))))))), ((dr_rds Lx xs (x3 + 1)).bind (fun v34 => (dr_rds Lx xs (x3 + 2)).bind (fun v35 => (dr_rds Lx xs (x3 + 3)).bind (fun v36 => dr_bnd (f_X11_begin ln v34 v35 v36 s) (fun r38 s37 => (dr_rds Lx xs (x3 + 1)).bind (fun v39 => (dr_rds Lx xs (x3 + 2)).bind (fun v40 => (dr_rds Lx xs (x3 + 3)).bind (fun v41 => dr_bnd (f_X12_begin ln v39 v40 v41 s37) (fun r43 s42 => (if r38 = r43 then (f_L_law_p757 ln Lx xs (f_L_law_p28 ln Lx xs n) x3 s42) else none)))))))))), ((dr_rds Lx xs (x3 + 1)).bind (fun v44 => (dr_rds Lx xs (x3 + 2)).bind (fun v45 => dr_bnd (f_X11_step ln v44 v45 s) (fun r47 s46 => (dr_rds Lx xs (x3 + 1)).bind (fun v48 => (dr_rds Lx xs (x3 + 2)).bind (fun v49 => dr_bnd (f_X12_step ln v48 v49 s46) (fun r51 s50 => (if r47 = r51 then (f_L_law_p757 ln Lx xs (f_L_law_p28 ln Lx xs n) x3 s50) else none)))))))), ((dr_rds Lx xs (x3 + 1)).bind (fun v52 => (dr_rds Lx xs (x3 + 2)).bind (fun v53 => dr_bnd (f_X11_clerk ln v52 v53 s) (fun r55 s54 => (dr_rds Lx xs (x3 + 1)).bind (fun v56 => (dr_rds Lx xs (x3 + 2)).bind (fun v57 => dr_bnd (f_X12_clerk ln v56 v57 s54) (fun r59 s58 => (if r55 = r59 then (f_L_law_p757 ln Lx xs (f_L_law_p28 ln Lx xs n) x3 s58) else none)))))))), ((dr_rds Lx xs (x3 + 1)).bind (fun v60 => (dr_rds Lx xs (x3 + 2)).bind (fun v61 => dr_bnd (f_X11_job ln v60 v61 s) (fun r63 s62 => (dr_rds Lx xs (x3 + 1)).bind (fun v64 => (dr_rds Lx xs (x3 + 2)).bind (fun v65 => dr_bnd (f_X12_job ln v64 v65 s62) (fun r67 s66 => (if r63 = r67 then (f_L_law_p757 ln Lx xs (f_L_law_p28 ln Lx xs n) x3 s66) else none)))))))), ((dr_rds Lx xs (x3 + 1)).bind (fun v68 => (dr_rds Lx xs (x3 + 2)).bind (fun v69 => dr_bnd (f_X11_drawer ln v68 v69 s) (fun r71 s70 => (dr_rds Lx xs (x3 + 1)).bind (fun v72 => (dr_rds Lx xs (x3 + 2)).bind (fun v73 => dr_bnd (f_X12_drawer ln v72 v73 s70) (fun r75 s74 => (if r71 = r75 then (f_L_law_p757 ln Lx xs (f_L_law_p28 ln Lx xs n) x3 s74) else none)))))))), ((dr_rds Lx xs (x3 + 1)).bind (fun v76 => (dr_rds Lx xs (x3 + 2)).bind (fun v77 => (dr_rds Lx xs (x3 + 3)).bind (fun v78 => (if v78 = 0 then (f_L_law_p472 ln Lx xs (f_L_law_p28 ln Lx xs n) x3 0 v77 v76 s) else (f_L_law_p472 ln Lx xs (f_L_law_p28 ln Lx xs n) x3 1 v77 v76 s)))))), ((dr_rds Lx xs (x3 + 1)).bind (fun v79 => dr_bnd (f_X11_nth ln v79 s) (fun r81 s80 => (dr_rds Lx xs (x3 + 1)).bind (fun v82 => dr_bnd (f_X12_nth ln v82 s80) (fun r84 s83 => (if r81 = r84 then (f_L_law_p757 ln Lx xs (f_L_law_p28 ln Lx xs n) x3 s83) else none)))))), ((dr_rds Lx xs (x3 + 1)).bind (fun v85 => dr_bnd (f_X11_rank ln v85 s) (fun r87 s86 => (dr_rds Lx xs (x3 + 1)).bind (fun v88 => dr_bnd (f_X12_rank ln v88 s86) (fun r90 s89 => (if r87 = r90 then (f_L_law_p757 ln Lx xs (f_L_law_p28 ln Lx xs n) x3 s89) else none)))))), ((dr_rds Lx xs (x3 + 1)).bind (fun v91 => (dr_rds Lx xs (x3 + 2)).bind (fun v92 => (dr_rds Lx xs (x3 + 3)).bind (fun v93 => dr_bnd (f_X11_there ln v91 v92 v93 s) (fun r95 s94 => (dr_rds Lx xs (x3 + 1)).bind (fun v96 => (dr_rds Lx xs (x3 + 2)).bind (fun v97 => (dr_rds Lx xs (x3 + 3)).bind (fun v98 => dr_bnd (f_X12_there ln v96 v97 v98 s94) (fun r100 s99 => (if r95 = r100 then (f_L_law_p757 ln Lx xs (f_L_law_p28 ln Lx xs n) x3 s99) else none)))))))))), ((dr_rds Lx xs (x3 + 1)).bind (fun v101 => dr_bnd (f_X11_line ln v101 s) (fun r103 s102 => (dr_rds Lx xs (x3 + 1)).bind (fun v104 => dr_bnd (f_X12_line ln v104 s102) (fun r106 s105 => (if r103 = r106 then (f_L_law_p757 ln Lx xs (f_L_law_p28 ln Lx xs n) x3 s105) else none)))))), ((dr_rds Lx xs (x3 + 1)).bind (fun v107 => (dr_rds Lx xs (x3 + 2)).bind (fun v108 => dr_bnd (f_X11_order ln v107 v108 s) (fun r110 s109 => (dr_rds Lx xs (x3 + 1)).bind (fun v111 => (dr_rds Lx xs (x3 + 2)).bind (fun v112 => dr_bnd (f_X12_order ln v111 v112 s109) (fun r114 s113 => (if r110 = r114 then (f_L_law_p757 ln Lx xs (f_L_law_p28 ln Lx xs n) x3 s113) else none)))))))), (dr_bnd (f_X11_shape ln  s) (fun r116 s115 => dr_bnd (f_X12_shape ln  s115) (fun r118 s117 => (if r116 = r118 then (f_L_law_p757 ln Lx xs (f_L_law_p28 ln Lx xs n) x3 s117) else none)))), ((dr_rds Lx xs (x3 + 1)).bind (fun v119 => (dr_rds Lx xs (x3 + 2)).bind (fun v120 => dr_bnd (f_X11_found ln v119 v120 s) (fun r122 s121 => (dr_rds Lx xs (x3 + 1)).bind (fun v123 => (dr_rds Lx xs (x3 + 2)).bind (fun v124 => dr_bnd (f_X12_found ln v123 v124 s121) (fun r126 s125 => (if r122 = r126 then (f_L_law_p757 ln Lx xs (f_L_law_p28 ln Lx xs n) x3 s125) else none)))))))), (dr_bnd (f_X11_fall ln  s) (fun r128 s127 => dr_bnd (f_X12_fall ln  s127) (fun r130 s129 => (if r128 = r130 then (f_L_law_p757 ln Lx xs (f_L_law_p28 ln Lx xs n) x3 s129) else none)))), ((dr_rds Lx xs (x3 + 1)).bind (fun v131 => dr_bnd (f_X11_night ln v131 s) (fun r133 s132 => (dr_rds Lx xs (x3 + 1)).bind (fun v134 => dr_bnd (f_X12_night ln v134 s132) (fun r136 s135 => (if r133 = r136 then (f_L_law_p757 ln Lx xs (f_L_law_p28 ln Lx xs n) x3 s135) else none)))))), ((dr_rds Lx xs (x3 + 1)).bind (fun v137 => dr_bnd (f_X11_count ln v137 s) (fun r139 s138 => (dr_rds Lx xs (x3 + 1)).bind (fun v140 => dr_bnd (f_X12_count ln v140 s138) (fun r142 s141 => (if r139 = r142 then (f_L_law_p757 ln Lx xs (f_L_law_p28 ln Lx xs n) x3 s141) else none))))))] ((f_L_law_p757 ln Lx xs (f_L_law_p28 ln Lx xs n) x3 s))))
section
variable {p : Program} {l : Launch} {e : Env} {s0 : State} {m : MethodId} {below : List Frame} {meth : Method} {c : Code} {cells slots : Nat} {D : va_G} {cI cZ : ClassId} {ad ln : Nat → Nat} {L : List Nat} {b Lx : Nat} {xs : Nat → Int32}
set_option maxHeartbeats 4000000 in
set_option maxRecDepth 40000 in
theorem w_L_law_p757 {kb28 : Int32 → dr_S → Option (Int32 × dr_S)} (E : dr_E p room_1 s0 m #[Value.ref b] meth c cells slots (fun q : Nat => s0.heap.size ≤ q) s0.heap D cI cZ ad L code 4 RL ret) (hap : dr_ap ad L) (hN : ∀ x ∈ nd_L, x ∈ L) (hNw : ∀ U : State, s0.WarmedH U.vm → va_Nw (.methodLinkNest RX11 200 yX8_goesWrong RX11) U) (hcs : cells ≤ 600000 ∧ slots ≤ 7302250) (hX : va_X b Lx xs s0 s0.heap) (hbl : b < s0.heap.size) (hbA : ¬ s0.heap.size ≤ b) (hkb28 : ∀ (x3 : Int32) (s : dr_S), dr_G p l e room_1 s0 m #[Value.ref b] below meth c cells slots (fun q : Nat => s0.heap.size ≤ q) s0.heap D cI cZ ad ln L 4 (fun _ _ => lw_Z below #[Value.ref b] s0) 28 [(0, .ref b), (1, .ref (ad 11)), (2, .ref (ad 12)), (3, .int x3)] [] s (kb28 x3 s)) : ∀ (x3 : Int32) (s : dr_S), dr_G p l e room_1 s0 m #[Value.ref b] below meth c cells slots (fun q : Nat => s0.heap.size ≤ q) s0.heap D cI cZ ad ln L 4 (fun _ _ => lw_Z below #[Value.ref b] s0) 757 [(0, .ref b), (1, .ref (ad 11)), (2, .ref (ad 12)), (3, .int x3)] [] s (f_L_law_p757 ln Lx xs kb28 x3 s) := by
  intro x3 s
  unfold f_L_law_p757
  refine g_iinc E (lv' := []) (lv'' := fun y143 => [(3, .int y143), (0, .ref b), (1, .ref (ad 11)), (2, .ref (ad 12))]) (v := 7) dL_law_757 3 rfl (by decide) (by decide) (fun _ => rfl) (fun y143 => ?_)
  refine g_goto E 28 dL_law_760 (by decide) ?_
  refine g_sub [1, 2, 3, 0] rfl ?_
  exact hkb28 y143 s
set_option maxHeartbeats 4000000 in
set_option maxRecDepth 40000 in
theorem w_L_law_p499 {kb28 : Int32 → dr_S → Option (Int32 × dr_S)} (E : dr_E p room_1 s0 m #[Value.ref b] meth c cells slots (fun q : Nat => s0.heap.size ≤ q) s0.heap D cI cZ ad L code 4 RL ret) (hap : dr_ap ad L) (hN : ∀ x ∈ nd_L, x ∈ L) (hNw : ∀ U : State, s0.WarmedH U.vm → va_Nw (.methodLinkNest RX11 200 yX8_goesWrong RX11) U) (hcs : cells ≤ 600000 ∧ slots ≤ 7302250) (hX : va_X b Lx xs s0 s0.heap) (hbl : b < s0.heap.size) (hbA : ¬ s0.heap.size ≤ b) (hkb28 : ∀ (x3 : Int32) (s : dr_S), dr_G p l e room_1 s0 m #[Value.ref b] below meth c cells slots (fun q : Nat => s0.heap.size ≤ q) s0.heap D cI cZ ad ln L 4 (fun _ _ => lw_Z below #[Value.ref b] s0) 28 [(0, .ref b), (1, .ref (ad 11)), (2, .ref (ad 12)), (3, .int x3)] [] s (kb28 x3 s)) : ∀ (x3 : Int32) (z0 : Int32) (z1 : Int32) (z2 : Int32) (z4 : Int32) (s : dr_S), dr_G p l e room_1 s0 m #[Value.ref b] below meth c cells slots (fun q : Nat => s0.heap.size ≤ q) s0.heap D cI cZ ad ln L 4 (fun _ _ => lw_Z below #[Value.ref b] s0) 499 [(0, .ref b), (1, .ref (ad 11)), (2, .ref (ad 12)), (3, .int x3)] [.int z0, .int z1, .int z2, .ref (ad 12), .int z4] s (f_L_law_p499 ln Lx xs kb28 x3 z0 z1 z2 z4 s) := by
  intro x3 z0 z1 z2 z4 s
  unfold f_L_law_p499
  refine g_cVi E [.int z2, .int z1, .int z0] rfl (c_X12_at hap (fun x h => hN x (ns_12_L x h)) z2 z1 z0 s) (hN 12 (by decide)) (by decide) rfl rfl mi_X12_at msl_X12_at mw_X12_at rfl ml_L_61 ⟨Nat.le_of_ble_eq_true rfl, Nat.le_of_ble_eq_true rfl⟩ (Nat.le_of_ble_eq_true rfl) dL_law_499 (fun r150 s149 => ?_)
  refine g_icmp_eq E 757 dL_law_502 (by decide) ?_ ?_
  · refine g_sub [0, 1, 2, 3] rfl ?_
    exact w_L_law_p757 E hap hN hNw hcs hX hbl hbA hkb28 x3 s149
  · refine g_iconst E (v := 0) dL_law_505 (by decide) ?_
    exact g_none
set_option maxHeartbeats 4000000 in
set_option maxRecDepth 40000 in
theorem w_L_law_p472 {kb28 : Int32 → dr_S → Option (Int32 × dr_S)} (E : dr_E p room_1 s0 m #[Value.ref b] meth c cells slots (fun q : Nat => s0.heap.size ≤ q) s0.heap D cI cZ ad L code 4 RL ret) (hap : dr_ap ad L) (hN : ∀ x ∈ nd_L, x ∈ L) (hNw : ∀ U : State, s0.WarmedH U.vm → va_Nw (.methodLinkNest RX11 200 yX8_goesWrong RX11) U) (hcs : cells ≤ 600000 ∧ slots ≤ 7302250) (hX : va_X b Lx xs s0 s0.heap) (hbl : b < s0.heap.size) (hbA : ¬ s0.heap.size ≤ b) (hkb28 : ∀ (x3 : Int32) (s : dr_S), dr_G p l e room_1 s0 m #[Value.ref b] below meth c cells slots (fun q : Nat => s0.heap.size ≤ q) s0.heap D cI cZ ad ln L 4 (fun _ _ => lw_Z below #[Value.ref b] s0) 28 [(0, .ref b), (1, .ref (ad 11)), (2, .ref (ad 12)), (3, .int x3)] [] s (kb28 x3 s)) : ∀ (x3 : Int32) (z0 : Int32) (z1 : Int32) (z2 : Int32) (s : dr_S), dr_G p l e room_1 s0 m #[Value.ref b] below meth c cells slots (fun q : Nat => s0.heap.size ≤ q) s0.heap D cI cZ ad ln L 4 (fun _ _ => lw_Z below #[Value.ref b] s0) 472 [(0, .ref b), (1, .ref (ad 11)), (2, .ref (ad 12)), (3, .int x3)] [.int z0, .int z1, .int z2, .ref (ad 11)] s (f_L_law_p472 ln Lx xs kb28 x3 z0 z1 z2 s) := by
  intro x3 z0 z1 z2 s
  unfold f_L_law_p472
  refine g_cVi E [.int z2, .int z1, .int z0] rfl (c_X11_at hap (fun x h => hN x (ns_11_L x h)) z2 z1 z0 s) (hN 11 (by decide)) (by decide) rfl rfl mi_X11_at msl_X11_at mw_X11_at rfl ml_L_57 ⟨Nat.le_of_ble_eq_true rfl, Nat.le_of_ble_eq_true rfl⟩ (Nat.le_of_ble_eq_true rfl) dL_law_472 (fun r145 s144 => ?_)
  refine g_aload_n E dL_law_475 2 rfl ?_
  refine g_aload_n E dL_law_476 0 rfl ?_
  refine g_iload_n E dL_law_477 3 rfl ?_
  refine g_iconst E (v := 1) dL_law_478 (by decide) ?_
  refine g_iadd E dL_law_479 ?_
  refine g_sld E hX hbl hbA dL_law_480 (fun v146 => ?_)
  refine g_aload_n E dL_law_481 0 rfl ?_
  refine g_iload_n E dL_law_482 3 rfl ?_
  refine g_iconst E (v := 2) dL_law_483 (by decide) ?_
  refine g_iadd E dL_law_484 ?_
  refine g_sld E hX hbl hbA dL_law_485 (fun v147 => ?_)
  refine g_aload_n E dL_law_486 0 rfl ?_
  refine g_iload_n E dL_law_487 3 rfl ?_
  refine g_iconst E (v := 3) dL_law_488 (by decide) ?_
  refine g_iadd E dL_law_489 ?_
  refine g_sld E hX hbl hbA dL_law_490 (fun v148 => ?_)
  refine g_if_eq E 498 dL_law_491 (by decide) ?_ ?_
  · refine g_iconst E (v := 0) dL_law_498 (by decide) ?_
    refine g_sub [0, 1, 2, 3] rfl ?_
    exact w_L_law_p499 E hap hN hNw hcs hX hbl hbA hkb28 x3 0 v147 v146 r145 s144
  · refine g_iconst E (v := 1) dL_law_494 (by decide) ?_
    refine g_goto E 499 dL_law_495 (by decide) ?_
    refine g_sub [0, 1, 2, 3] rfl ?_
    exact w_L_law_p499 E hap hN hNw hcs hX hbl hbA hkb28 x3 1 v147 v146 r145 s144
set_option maxHeartbeats 4000000 in
set_option maxRecDepth 40000 in
theorem w_L_law_p28 (E : dr_E p room_1 s0 m #[Value.ref b] meth c cells slots (fun q : Nat => s0.heap.size ≤ q) s0.heap D cI cZ ad L code 4 RL ret) (hap : dr_ap ad L) (hN : ∀ x ∈ nd_L, x ∈ L) (hNw : ∀ U : State, s0.WarmedH U.vm → va_Nw (.methodLinkNest RX11 200 yX8_goesWrong RX11) U) (hcs : cells ≤ 600000 ∧ slots ≤ 7302250) (hX : va_X b Lx xs s0 s0.heap) (hbl : b < s0.heap.size) (hbA : ¬ s0.heap.size ≤ b) : ∀ (n : Nat) (x3 : Int32) (s : dr_S), dr_G p l e room_1 s0 m #[Value.ref b] below meth c cells slots (fun q : Nat => s0.heap.size ≤ q) s0.heap D cI cZ ad ln L 4 (fun _ _ => lw_Z below #[Value.ref b] s0) 28 [(0, .ref b), (1, .ref (ad 11)), (2, .ref (ad 12)), (3, .int x3)] [] s (f_L_law_p28 ln Lx xs n x3 s) := by
  intro n
  induction n with
  | zero =>
    intro x3 s
    rw [f_L_law_p28]
    exact g_none
  | succ n hkb28 =>
    intro x3 s
    rw [f_L_law_p28]
    refine g_iload_n E dL_law_28 3 rfl ?_
    refine g_aload_n E dL_law_29 0 rfl ?_
    refine g_slen E hX hbl hbA dL_law_30 ?_
    refine g_bipush E (v := 7) dL_law_31 (by decide) ?_
    refine g_isub E dL_law_33 ?_
    refine g_icmp_gt E 763 dL_law_34 (by decide) ?_ ?_
    · refine g_iconst E (v := 1) dL_law_763 (by decide) ?_
      exact g_lawret E hcs dL_law_764
    · refine g_aload_n E dL_law_37 0 rfl ?_
      refine g_iload_n E dL_law_38 3 rfl ?_
      refine g_sld E hX hbl hbA dL_law_39 (fun v1 => ?_)
      refine g_bipush E (v := 31) dL_law_40 (by decide) ?_
      refine g_iand E dL_law_42 ?_
      refine g_tsw E _ _ [132, 207, 240, 273, 316, 349, 382, 415, 448, 507, 530, 553, 596, 619, 652, 665, 698, 711, 734] 757 dL_law_43 (by decide) (by decide) (by decide) ?_ ?_
      · refine g_sub [0, 1, 2, 3] rfl ?_
        exact w_L_law_p757 E hap hN hNw hcs hX hbl hbA hkb28 x3 s
      · refine dr_fc ?_ (dr_fc ?_ (dr_fc ?_ (dr_fc ?_ (dr_fc ?_ (dr_fc ?_ (dr_fc ?_ (dr_fc ?_ (dr_fc ?_ (dr_fc ?_ (dr_fc ?_ (dr_fc ?_ (dr_fc ?_ (dr_fc ?_ (dr_fc ?_ (dr_fc ?_ (dr_fc ?_ (dr_fc ?_ (dr_fc ?_ dr_fn))))))))))))))))))
        · refine g_aload_n E dL_law_132 1 rfl ?_
          refine g_aload_n E dL_law_133 0 rfl ?_
          refine g_iload_n E dL_law_134 3 rfl ?_
          refine g_iconst E (v := 1) dL_law_135 (by decide) ?_
          refine g_iadd E dL_law_136 ?_
          refine g_sld E hX hbl hbA dL_law_137 (fun v2 => ?_)
          refine g_aload_n E dL_law_138 0 rfl ?_
          refine g_iload_n E dL_law_139 3 rfl ?_
          refine g_iconst E (v := 2) dL_law_140 (by decide) ?_
          refine g_iadd E dL_law_141 ?_
          refine g_sld E hX hbl hbA dL_law_142 (fun v3 => ?_)
          refine g_aload_n E dL_law_143 0 rfl ?_
          refine g_iload_n E dL_law_144 3 rfl ?_
          refine g_iconst E (v := 3) dL_law_145 (by decide) ?_
          refine g_iadd E dL_law_146 ?_
          refine g_sld E hX hbl hbA dL_law_147 (fun v4 => ?_)
          refine g_aload_n E dL_law_148 0 rfl ?_
          refine g_iload_n E dL_law_149 3 rfl ?_
          refine g_iconst E (v := 4) dL_law_150 (by decide) ?_
          refine g_iadd E dL_law_151 ?_
          refine g_sld E hX hbl hbA dL_law_152 (fun v5 => ?_)
          refine g_aload_n E dL_law_153 0 rfl ?_
          refine g_iload_n E dL_law_154 3 rfl ?_
          refine g_iconst E (v := 5) dL_law_155 (by decide) ?_
          refine g_iadd E dL_law_156 ?_
          refine g_sld E hX hbl hbA dL_law_157 (fun v6 => ?_)
          refine g_aload_n E dL_law_158 0 rfl ?_
          refine g_iload_n E dL_law_159 3 rfl ?_
          refine g_bipush E (v := 6) dL_law_160 (by decide) ?_
          refine g_iadd E dL_law_162 ?_
          refine g_sld E hX hbl hbA dL_law_163 (fun v7 => ?_)
          refine g_cVi E [.int v2, .int v3, .int v4, .int v5, .int v6, .int v7] rfl (c_X11_rule hap (fun x h => hN x (ns_11_L x h)) v2 v3 v4 v5 v6 v7 s) (hN 11 (by decide)) (by decide) rfl rfl mi_X11_rule msl_X11_rule mw_X11_rule rfl ml_L_21 ⟨Nat.le_of_ble_eq_true rfl, Nat.le_of_ble_eq_true rfl⟩ (Nat.le_of_ble_eq_true rfl) dL_law_164 (fun r9 s8 => ?_)
          refine g_aload_n E dL_law_167 2 rfl ?_
          refine g_aload_n E dL_law_168 0 rfl ?_
          refine g_iload_n E dL_law_169 3 rfl ?_
          refine g_iconst E (v := 1) dL_law_170 (by decide) ?_
          refine g_iadd E dL_law_171 ?_
          refine g_sld E hX hbl hbA dL_law_172 (fun v10 => ?_)
          refine g_aload_n E dL_law_173 0 rfl ?_
          refine g_iload_n E dL_law_174 3 rfl ?_
          refine g_iconst E (v := 2) dL_law_175 (by decide) ?_
          refine g_iadd E dL_law_176 ?_
          refine g_sld E hX hbl hbA dL_law_177 (fun v11 => ?_)
          refine g_aload_n E dL_law_178 0 rfl ?_
          refine g_iload_n E dL_law_179 3 rfl ?_
          refine g_iconst E (v := 3) dL_law_180 (by decide) ?_
          refine g_iadd E dL_law_181 ?_
          refine g_sld E hX hbl hbA dL_law_182 (fun v12 => ?_)
          refine g_aload_n E dL_law_183 0 rfl ?_
          refine g_iload_n E dL_law_184 3 rfl ?_
          refine g_iconst E (v := 4) dL_law_185 (by decide) ?_
          refine g_iadd E dL_law_186 ?_
          refine g_sld E hX hbl hbA dL_law_187 (fun v13 => ?_)
          refine g_aload_n E dL_law_188 0 rfl ?_
          refine g_iload_n E dL_law_189 3 rfl ?_
          refine g_iconst E (v := 5) dL_law_190 (by decide) ?_
          refine g_iadd E dL_law_191 ?_
          refine g_sld E hX hbl hbA dL_law_192 (fun v14 => ?_)
          refine g_aload_n E dL_law_193 0 rfl ?_
          refine g_iload_n E dL_law_194 3 rfl ?_
          refine g_bipush E (v := 6) dL_law_195 (by decide) ?_
          refine g_iadd E dL_law_197 ?_
          refine g_sld E hX hbl hbA dL_law_198 (fun v15 => ?_)
          refine g_cVi E [.int v10, .int v11, .int v12, .int v13, .int v14, .int v15] rfl (c_X12_rule hap (fun x h => hN x (ns_12_L x h)) v10 v11 v12 v13 v14 v15 s8) (hN 12 (by decide)) (by decide) rfl rfl mi_X12_rule msl_X12_rule mw_X12_rule rfl ml_L_25 ⟨Nat.le_of_ble_eq_true rfl, Nat.le_of_ble_eq_true rfl⟩ (Nat.le_of_ble_eq_true rfl) dL_law_199 (fun r17 s16 => ?_)
          refine g_icmp_eq E 757 dL_law_202 (by decide) ?_ ?_
          · refine g_sub [0, 1, 2, 3] rfl ?_
            exact w_L_law_p757 E hap hN hNw hcs hX hbl hbA hkb28 x3 s16
          · refine g_iconst E (v := 0) dL_law_205 (by decide) ?_
            exact g_none
        · refine g_aload_n E dL_law_207 1 rfl ?_
          refine g_aload_n E dL_law_208 0 rfl ?_
          refine g_iload_n E dL_law_209 3 rfl ?_
          refine g_iconst E (v := 1) dL_law_210 (by decide) ?_
          refine g_iadd E dL_law_211 ?_
          refine g_sld E hX hbl hbA dL_law_212 (fun v18 => ?_)
          refine g_aload_n E dL_law_213 0 rfl ?_
          refine g_iload_n E dL_law_214 3 rfl ?_
          refine g_iconst E (v := 2) dL_law_215 (by decide) ?_
          refine g_iadd E dL_law_216 ?_
          refine g_sld E hX hbl hbA dL_law_217 (fun v19 => ?_)
          refine g_cVi E [.int v18, .int v19] rfl (c_X11_ahead hap (fun x h => hN x (ns_11_L x h)) v18 v19 s) (hN 11 (by decide)) (by decide) rfl rfl mi_X11_ahead msl_X11_ahead mw_X11_ahead rfl ml_L_26 ⟨Nat.le_of_ble_eq_true rfl, Nat.le_of_ble_eq_true rfl⟩ (Nat.le_of_ble_eq_true rfl) dL_law_218 (fun r21 s20 => ?_)
          refine g_aload_n E dL_law_221 2 rfl ?_
          refine g_aload_n E dL_law_222 0 rfl ?_
          refine g_iload_n E dL_law_223 3 rfl ?_
          refine g_iconst E (v := 1) dL_law_224 (by decide) ?_
          refine g_iadd E dL_law_225 ?_
          refine g_sld E hX hbl hbA dL_law_226 (fun v22 => ?_)
          refine g_aload_n E dL_law_227 0 rfl ?_
          refine g_iload_n E dL_law_228 3 rfl ?_
          refine g_iconst E (v := 2) dL_law_229 (by decide) ?_
          refine g_iadd E dL_law_230 ?_
          refine g_sld E hX hbl hbA dL_law_231 (fun v23 => ?_)
          refine g_cVi E [.int v22, .int v23] rfl (c_X12_ahead hap (fun x h => hN x (ns_12_L x h)) v22 v23 s20) (hN 12 (by decide)) (by decide) rfl rfl mi_X12_ahead msl_X12_ahead mw_X12_ahead rfl ml_L_30 ⟨Nat.le_of_ble_eq_true rfl, Nat.le_of_ble_eq_true rfl⟩ (Nat.le_of_ble_eq_true rfl) dL_law_232 (fun r25 s24 => ?_)
          refine g_icmp_eq E 757 dL_law_235 (by decide) ?_ ?_
          · refine g_sub [0, 1, 2, 3] rfl ?_
            exact w_L_law_p757 E hap hN hNw hcs hX hbl hbA hkb28 x3 s24
          · refine g_iconst E (v := 0) dL_law_238 (by decide) ?_
            exact g_none
        · refine g_aload_n E dL_law_240 1 rfl ?_
          refine g_aload_n E dL_law_241 0 rfl ?_
          refine g_iload_n E dL_law_242 3 rfl ?_
          refine g_iconst E (v := 1) dL_law_243 (by decide) ?_
          refine g_iadd E dL_law_244 ?_
          refine g_sld E hX hbl hbA dL_law_245 (fun v26 => ?_)
          refine g_aload_n E dL_law_246 0 rfl ?_
          refine g_iload_n E dL_law_247 3 rfl ?_
          refine g_iconst E (v := 2) dL_law_248 (by decide) ?_
          refine g_iadd E dL_law_249 ?_
          refine g_sld E hX hbl hbA dL_law_250 (fun v27 => ?_)
          refine g_cVi E [.int v26, .int v27] rfl (c_X11_fault hap (fun x h => hN x (ns_11_L x h)) v26 v27 s) (hN 11 (by decide)) (by decide) rfl rfl mi_X11_fault msl_X11_fault mw_X11_fault rfl ml_L_31 ⟨Nat.le_of_ble_eq_true rfl, Nat.le_of_ble_eq_true rfl⟩ (Nat.le_of_ble_eq_true rfl) dL_law_251 (fun r29 s28 => ?_)
          refine g_aload_n E dL_law_254 2 rfl ?_
          refine g_aload_n E dL_law_255 0 rfl ?_
          refine g_iload_n E dL_law_256 3 rfl ?_
          refine g_iconst E (v := 1) dL_law_257 (by decide) ?_
          refine g_iadd E dL_law_258 ?_
          refine g_sld E hX hbl hbA dL_law_259 (fun v30 => ?_)
          refine g_aload_n E dL_law_260 0 rfl ?_
          refine g_iload_n E dL_law_261 3 rfl ?_
          refine g_iconst E (v := 2) dL_law_262 (by decide) ?_
          refine g_iadd E dL_law_263 ?_
          refine g_sld E hX hbl hbA dL_law_264 (fun v31 => ?_)
          refine g_cVi E [.int v30, .int v31] rfl (c_X12_fault hap (fun x h => hN x (ns_12_L x h)) v30 v31 s28) (hN 12 (by decide)) (by decide) rfl rfl mi_X12_fault msl_X12_fault mw_X12_fault rfl ml_L_35 ⟨Nat.le_of_ble_eq_true rfl, Nat.le_of_ble_eq_true rfl⟩ (Nat.le_of_ble_eq_true rfl) dL_law_265 (fun r33 s32 => ?_)
          refine g_icmp_eq E 757 dL_law_268 (by decide) ?_ ?_
          · refine g_sub [0, 1, 2, 3] rfl ?_
            exact w_L_law_p757 E hap hN hNw hcs hX hbl hbA hkb28 x3 s32
          · refine g_iconst E (v := 0) dL_law_271 (by decide) ?_
            exact g_none
        · refine g_aload_n E dL_law_273 1 rfl ?_
          refine g_aload_n E dL_law_274 0 rfl ?_
          refine g_iload_n E dL_law_275 3 rfl ?_
          refine g_iconst E (v := 1) dL_law_276 (by decide) ?_
          refine g_iadd E dL_law_277 ?_
          refine g_sld E hX hbl hbA dL_law_278 (fun v34 => ?_)
          refine g_aload_n E dL_law_279 0 rfl ?_
          refine g_iload_n E dL_law_280 3 rfl ?_
          refine g_iconst E (v := 2) dL_law_281 (by decide) ?_
          refine g_iadd E dL_law_282 ?_
          refine g_sld E hX hbl hbA dL_law_283 (fun v35 => ?_)
          refine g_aload_n E dL_law_284 0 rfl ?_
          refine g_iload_n E dL_law_285 3 rfl ?_
          refine g_iconst E (v := 3) dL_law_286 (by decide) ?_
          refine g_iadd E dL_law_287 ?_
          refine g_sld E hX hbl hbA dL_law_288 (fun v36 => ?_)
          refine g_cVi E [.int v34, .int v35, .int v36] rfl (c_X11_begin hap (fun x h => hN x (ns_11_L x h)) v34 v35 v36 s) (hN 11 (by decide)) (by decide) rfl rfl mi_X11_begin msl_X11_begin mw_X11_begin rfl ml_L_36 ⟨Nat.le_of_ble_eq_true rfl, Nat.le_of_ble_eq_true rfl⟩ (Nat.le_of_ble_eq_true rfl) dL_law_289 (fun r38 s37 => ?_)
          refine g_aload_n E dL_law_292 2 rfl ?_
          refine g_aload_n E dL_law_293 0 rfl ?_
          refine g_iload_n E dL_law_294 3 rfl ?_
          refine g_iconst E (v := 1) dL_law_295 (by decide) ?_
          refine g_iadd E dL_law_296 ?_
          refine g_sld E hX hbl hbA dL_law_297 (fun v39 => ?_)
          refine g_aload_n E dL_law_298 0 rfl ?_
          refine g_iload_n E dL_law_299 3 rfl ?_
          refine g_iconst E (v := 2) dL_law_300 (by decide) ?_
          refine g_iadd E dL_law_301 ?_
          refine g_sld E hX hbl hbA dL_law_302 (fun v40 => ?_)
          refine g_aload_n E dL_law_303 0 rfl ?_
          refine g_iload_n E dL_law_304 3 rfl ?_
          refine g_iconst E (v := 3) dL_law_305 (by decide) ?_
          refine g_iadd E dL_law_306 ?_
          refine g_sld E hX hbl hbA dL_law_307 (fun v41 => ?_)
          refine g_cVi E [.int v39, .int v40, .int v41] rfl (c_X12_begin hap (fun x h => hN x (ns_12_L x h)) v39 v40 v41 s37) (hN 12 (by decide)) (by decide) rfl rfl mi_X12_begin msl_X12_begin mw_X12_begin rfl ml_L_40 ⟨Nat.le_of_ble_eq_true rfl, Nat.le_of_ble_eq_true rfl⟩ (Nat.le_of_ble_eq_true rfl) dL_law_308 (fun r43 s42 => ?_)
          refine g_icmp_eq E 757 dL_law_311 (by decide) ?_ ?_
          · refine g_sub [0, 1, 2, 3] rfl ?_
            exact w_L_law_p757 E hap hN hNw hcs hX hbl hbA hkb28 x3 s42
          · refine g_iconst E (v := 0) dL_law_314 (by decide) ?_
            exact g_none
        · refine g_aload_n E dL_law_316 1 rfl ?_
          refine g_aload_n E dL_law_317 0 rfl ?_
          refine g_iload_n E dL_law_318 3 rfl ?_
          refine g_iconst E (v := 1) dL_law_319 (by decide) ?_
          refine g_iadd E dL_law_320 ?_
          refine g_sld E hX hbl hbA dL_law_321 (fun v44 => ?_)
          refine g_aload_n E dL_law_322 0 rfl ?_
          refine g_iload_n E dL_law_323 3 rfl ?_
          refine g_iconst E (v := 2) dL_law_324 (by decide) ?_
          refine g_iadd E dL_law_325 ?_
          refine g_sld E hX hbl hbA dL_law_326 (fun v45 => ?_)
          refine g_cVi E [.int v44, .int v45] rfl (c_X11_step hap (fun x h => hN x (ns_11_L x h)) v44 v45 s) (hN 11 (by decide)) (by decide) rfl rfl mi_X11_step msl_X11_step mw_X11_step rfl ml_L_41 ⟨Nat.le_of_ble_eq_true rfl, Nat.le_of_ble_eq_true rfl⟩ (Nat.le_of_ble_eq_true rfl) dL_law_327 (fun r47 s46 => ?_)
          refine g_aload_n E dL_law_330 2 rfl ?_
          refine g_aload_n E dL_law_331 0 rfl ?_
          refine g_iload_n E dL_law_332 3 rfl ?_
          refine g_iconst E (v := 1) dL_law_333 (by decide) ?_
          refine g_iadd E dL_law_334 ?_
          refine g_sld E hX hbl hbA dL_law_335 (fun v48 => ?_)
          refine g_aload_n E dL_law_336 0 rfl ?_
          refine g_iload_n E dL_law_337 3 rfl ?_
          refine g_iconst E (v := 2) dL_law_338 (by decide) ?_
          refine g_iadd E dL_law_339 ?_
          refine g_sld E hX hbl hbA dL_law_340 (fun v49 => ?_)
          refine g_cVi E [.int v48, .int v49] rfl (c_X12_step hap (fun x h => hN x (ns_12_L x h)) v48 v49 s46) (hN 12 (by decide)) (by decide) rfl rfl mi_X12_step msl_X12_step mw_X12_step rfl ml_L_44 ⟨Nat.le_of_ble_eq_true rfl, Nat.le_of_ble_eq_true rfl⟩ (Nat.le_of_ble_eq_true rfl) dL_law_341 (fun r51 s50 => ?_)
          refine g_icmp_eq E 757 dL_law_344 (by decide) ?_ ?_
          · refine g_sub [0, 1, 2, 3] rfl ?_
            exact w_L_law_p757 E hap hN hNw hcs hX hbl hbA hkb28 x3 s50
          · refine g_iconst E (v := 0) dL_law_347 (by decide) ?_
            exact g_none
        · refine g_aload_n E dL_law_349 1 rfl ?_
          refine g_aload_n E dL_law_350 0 rfl ?_
          refine g_iload_n E dL_law_351 3 rfl ?_
          refine g_iconst E (v := 1) dL_law_352 (by decide) ?_
          refine g_iadd E dL_law_353 ?_
          refine g_sld E hX hbl hbA dL_law_354 (fun v52 => ?_)
          refine g_aload_n E dL_law_355 0 rfl ?_
          refine g_iload_n E dL_law_356 3 rfl ?_
          refine g_iconst E (v := 2) dL_law_357 (by decide) ?_
          refine g_iadd E dL_law_358 ?_
          refine g_sld E hX hbl hbA dL_law_359 (fun v53 => ?_)
          refine g_cVi E [.int v52, .int v53] rfl (c_X11_clerk hap (fun x h => hN x (ns_11_L x h)) v52 v53 s) (hN 11 (by decide)) (by decide) rfl rfl mi_X11_clerk msl_X11_clerk mw_X11_clerk rfl ml_L_45 ⟨Nat.le_of_ble_eq_true rfl, Nat.le_of_ble_eq_true rfl⟩ (Nat.le_of_ble_eq_true rfl) dL_law_360 (fun r55 s54 => ?_)
          refine g_aload_n E dL_law_363 2 rfl ?_
          refine g_aload_n E dL_law_364 0 rfl ?_
          refine g_iload_n E dL_law_365 3 rfl ?_
          refine g_iconst E (v := 1) dL_law_366 (by decide) ?_
          refine g_iadd E dL_law_367 ?_
          refine g_sld E hX hbl hbA dL_law_368 (fun v56 => ?_)
          refine g_aload_n E dL_law_369 0 rfl ?_
          refine g_iload_n E dL_law_370 3 rfl ?_
          refine g_iconst E (v := 2) dL_law_371 (by decide) ?_
          refine g_iadd E dL_law_372 ?_
          refine g_sld E hX hbl hbA dL_law_373 (fun v57 => ?_)
          refine g_cVi E [.int v56, .int v57] rfl (c_X12_clerk hap (fun x h => hN x (ns_12_L x h)) v56 v57 s54) (hN 12 (by decide)) (by decide) rfl rfl mi_X12_clerk msl_X12_clerk mw_X12_clerk rfl ml_L_48 ⟨Nat.le_of_ble_eq_true rfl, Nat.le_of_ble_eq_true rfl⟩ (Nat.le_of_ble_eq_true rfl) dL_law_374 (fun r59 s58 => ?_)
          refine g_icmp_eq E 757 dL_law_377 (by decide) ?_ ?_
          · refine g_sub [0, 1, 2, 3] rfl ?_
            exact w_L_law_p757 E hap hN hNw hcs hX hbl hbA hkb28 x3 s58
          · refine g_iconst E (v := 0) dL_law_380 (by decide) ?_
            exact g_none
        · refine g_aload_n E dL_law_382 1 rfl ?_
          refine g_aload_n E dL_law_383 0 rfl ?_
          refine g_iload_n E dL_law_384 3 rfl ?_
          refine g_iconst E (v := 1) dL_law_385 (by decide) ?_
          refine g_iadd E dL_law_386 ?_
          refine g_sld E hX hbl hbA dL_law_387 (fun v60 => ?_)
          refine g_aload_n E dL_law_388 0 rfl ?_
          refine g_iload_n E dL_law_389 3 rfl ?_
          refine g_iconst E (v := 2) dL_law_390 (by decide) ?_
          refine g_iadd E dL_law_391 ?_
          refine g_sld E hX hbl hbA dL_law_392 (fun v61 => ?_)
          refine g_cVi E [.int v60, .int v61] rfl (c_X11_job hap (fun x h => hN x (ns_11_L x h)) v60 v61 s) (hN 11 (by decide)) (by decide) rfl rfl mi_X11_job msl_X11_job mw_X11_job rfl ml_L_49 ⟨Nat.le_of_ble_eq_true rfl, Nat.le_of_ble_eq_true rfl⟩ (Nat.le_of_ble_eq_true rfl) dL_law_393 (fun r63 s62 => ?_)
          refine g_aload_n E dL_law_396 2 rfl ?_
          refine g_aload_n E dL_law_397 0 rfl ?_
          refine g_iload_n E dL_law_398 3 rfl ?_
          refine g_iconst E (v := 1) dL_law_399 (by decide) ?_
          refine g_iadd E dL_law_400 ?_
          refine g_sld E hX hbl hbA dL_law_401 (fun v64 => ?_)
          refine g_aload_n E dL_law_402 0 rfl ?_
          refine g_iload_n E dL_law_403 3 rfl ?_
          refine g_iconst E (v := 2) dL_law_404 (by decide) ?_
          refine g_iadd E dL_law_405 ?_
          refine g_sld E hX hbl hbA dL_law_406 (fun v65 => ?_)
          refine g_cVi E [.int v64, .int v65] rfl (c_X12_job hap (fun x h => hN x (ns_12_L x h)) v64 v65 s62) (hN 12 (by decide)) (by decide) rfl rfl mi_X12_job msl_X12_job mw_X12_job rfl ml_L_52 ⟨Nat.le_of_ble_eq_true rfl, Nat.le_of_ble_eq_true rfl⟩ (Nat.le_of_ble_eq_true rfl) dL_law_407 (fun r67 s66 => ?_)
          refine g_icmp_eq E 757 dL_law_410 (by decide) ?_ ?_
          · refine g_sub [0, 1, 2, 3] rfl ?_
            exact w_L_law_p757 E hap hN hNw hcs hX hbl hbA hkb28 x3 s66
          · refine g_iconst E (v := 0) dL_law_413 (by decide) ?_
            exact g_none
        · refine g_aload_n E dL_law_415 1 rfl ?_
          refine g_aload_n E dL_law_416 0 rfl ?_
          refine g_iload_n E dL_law_417 3 rfl ?_
          refine g_iconst E (v := 1) dL_law_418 (by decide) ?_
          refine g_iadd E dL_law_419 ?_
          refine g_sld E hX hbl hbA dL_law_420 (fun v68 => ?_)
          refine g_aload_n E dL_law_421 0 rfl ?_
          refine g_iload_n E dL_law_422 3 rfl ?_
          refine g_iconst E (v := 2) dL_law_423 (by decide) ?_
          refine g_iadd E dL_law_424 ?_
          refine g_sld E hX hbl hbA dL_law_425 (fun v69 => ?_)
          refine g_cVi E [.int v68, .int v69] rfl (c_X11_drawer hap (fun x h => hN x (ns_11_L x h)) v68 v69 s) (hN 11 (by decide)) (by decide) rfl rfl mi_X11_drawer msl_X11_drawer mw_X11_drawer rfl ml_L_53 ⟨Nat.le_of_ble_eq_true rfl, Nat.le_of_ble_eq_true rfl⟩ (Nat.le_of_ble_eq_true rfl) dL_law_426 (fun r71 s70 => ?_)
          refine g_aload_n E dL_law_429 2 rfl ?_
          refine g_aload_n E dL_law_430 0 rfl ?_
          refine g_iload_n E dL_law_431 3 rfl ?_
          refine g_iconst E (v := 1) dL_law_432 (by decide) ?_
          refine g_iadd E dL_law_433 ?_
          refine g_sld E hX hbl hbA dL_law_434 (fun v72 => ?_)
          refine g_aload_n E dL_law_435 0 rfl ?_
          refine g_iload_n E dL_law_436 3 rfl ?_
          refine g_iconst E (v := 2) dL_law_437 (by decide) ?_
          refine g_iadd E dL_law_438 ?_
          refine g_sld E hX hbl hbA dL_law_439 (fun v73 => ?_)
          refine g_cVi E [.int v72, .int v73] rfl (c_X12_drawer hap (fun x h => hN x (ns_12_L x h)) v72 v73 s70) (hN 12 (by decide)) (by decide) rfl rfl mi_X12_drawer msl_X12_drawer mw_X12_drawer rfl ml_L_56 ⟨Nat.le_of_ble_eq_true rfl, Nat.le_of_ble_eq_true rfl⟩ (Nat.le_of_ble_eq_true rfl) dL_law_440 (fun r75 s74 => ?_)
          refine g_icmp_eq E 757 dL_law_443 (by decide) ?_ ?_
          · refine g_sub [0, 1, 2, 3] rfl ?_
            exact w_L_law_p757 E hap hN hNw hcs hX hbl hbA hkb28 x3 s74
          · refine g_iconst E (v := 0) dL_law_446 (by decide) ?_
            exact g_none
        · refine g_aload_n E dL_law_448 1 rfl ?_
          refine g_aload_n E dL_law_449 0 rfl ?_
          refine g_iload_n E dL_law_450 3 rfl ?_
          refine g_iconst E (v := 1) dL_law_451 (by decide) ?_
          refine g_iadd E dL_law_452 ?_
          refine g_sld E hX hbl hbA dL_law_453 (fun v76 => ?_)
          refine g_aload_n E dL_law_454 0 rfl ?_
          refine g_iload_n E dL_law_455 3 rfl ?_
          refine g_iconst E (v := 2) dL_law_456 (by decide) ?_
          refine g_iadd E dL_law_457 ?_
          refine g_sld E hX hbl hbA dL_law_458 (fun v77 => ?_)
          refine g_aload_n E dL_law_459 0 rfl ?_
          refine g_iload_n E dL_law_460 3 rfl ?_
          refine g_iconst E (v := 3) dL_law_461 (by decide) ?_
          refine g_iadd E dL_law_462 ?_
          refine g_sld E hX hbl hbA dL_law_463 (fun v78 => ?_)
          refine g_if_eq E 471 dL_law_464 (by decide) ?_ ?_
          · refine g_iconst E (v := 0) dL_law_471 (by decide) ?_
            refine g_sub [0, 1, 2, 3] rfl ?_
            exact w_L_law_p472 E hap hN hNw hcs hX hbl hbA hkb28 x3 0 v77 v76 s
          · refine g_iconst E (v := 1) dL_law_467 (by decide) ?_
            refine g_goto E 472 dL_law_468 (by decide) ?_
            refine g_sub [0, 1, 2, 3] rfl ?_
            exact w_L_law_p472 E hap hN hNw hcs hX hbl hbA hkb28 x3 1 v77 v76 s
        · refine g_aload_n E dL_law_507 1 rfl ?_
          refine g_aload_n E dL_law_508 0 rfl ?_
          refine g_iload_n E dL_law_509 3 rfl ?_
          refine g_iconst E (v := 1) dL_law_510 (by decide) ?_
          refine g_iadd E dL_law_511 ?_
          refine g_sld E hX hbl hbA dL_law_512 (fun v79 => ?_)
          refine g_cVi E [.int v79] rfl (c_X11_nth hap (fun x h => hN x (ns_11_L x h)) v79 s) (hN 11 (by decide)) (by decide) rfl rfl mi_X11_nth msl_X11_nth mw_X11_nth rfl ml_L_62 ⟨Nat.le_of_ble_eq_true rfl, Nat.le_of_ble_eq_true rfl⟩ (Nat.le_of_ble_eq_true rfl) dL_law_513 (fun r81 s80 => ?_)
          refine g_aload_n E dL_law_516 2 rfl ?_
          refine g_aload_n E dL_law_517 0 rfl ?_
          refine g_iload_n E dL_law_518 3 rfl ?_
          refine g_iconst E (v := 1) dL_law_519 (by decide) ?_
          refine g_iadd E dL_law_520 ?_
          refine g_sld E hX hbl hbA dL_law_521 (fun v82 => ?_)
          refine g_cVi E [.int v82] rfl (c_X12_nth hap (fun x h => hN x (ns_12_L x h)) v82 s80) (hN 12 (by decide)) (by decide) rfl rfl mi_X12_nth msl_X12_nth mw_X12_nth rfl ml_L_66 ⟨Nat.le_of_ble_eq_true rfl, Nat.le_of_ble_eq_true rfl⟩ (Nat.le_of_ble_eq_true rfl) dL_law_522 (fun r84 s83 => ?_)
          refine g_icmp_eq E 757 dL_law_525 (by decide) ?_ ?_
          · refine g_sub [0, 1, 2, 3] rfl ?_
            exact w_L_law_p757 E hap hN hNw hcs hX hbl hbA hkb28 x3 s83
          · refine g_iconst E (v := 0) dL_law_528 (by decide) ?_
            exact g_none
        · refine g_aload_n E dL_law_530 1 rfl ?_
          refine g_aload_n E dL_law_531 0 rfl ?_
          refine g_iload_n E dL_law_532 3 rfl ?_
          refine g_iconst E (v := 1) dL_law_533 (by decide) ?_
          refine g_iadd E dL_law_534 ?_
          refine g_sld E hX hbl hbA dL_law_535 (fun v85 => ?_)
          refine g_cVi E [.int v85] rfl (c_X11_rank hap (fun x h => hN x (ns_11_L x h)) v85 s) (hN 11 (by decide)) (by decide) rfl rfl mi_X11_rank msl_X11_rank mw_X11_rank rfl ml_L_67 ⟨Nat.le_of_ble_eq_true rfl, Nat.le_of_ble_eq_true rfl⟩ (Nat.le_of_ble_eq_true rfl) dL_law_536 (fun r87 s86 => ?_)
          refine g_aload_n E dL_law_539 2 rfl ?_
          refine g_aload_n E dL_law_540 0 rfl ?_
          refine g_iload_n E dL_law_541 3 rfl ?_
          refine g_iconst E (v := 1) dL_law_542 (by decide) ?_
          refine g_iadd E dL_law_543 ?_
          refine g_sld E hX hbl hbA dL_law_544 (fun v88 => ?_)
          refine g_cVi E [.int v88] rfl (c_X12_rank hap (fun x h => hN x (ns_12_L x h)) v88 s86) (hN 12 (by decide)) (by decide) rfl rfl mi_X12_rank msl_X12_rank mw_X12_rank rfl ml_L_70 ⟨Nat.le_of_ble_eq_true rfl, Nat.le_of_ble_eq_true rfl⟩ (Nat.le_of_ble_eq_true rfl) dL_law_545 (fun r90 s89 => ?_)
          refine g_icmp_eq E 757 dL_law_548 (by decide) ?_ ?_
          · refine g_sub [0, 1, 2, 3] rfl ?_
            exact w_L_law_p757 E hap hN hNw hcs hX hbl hbA hkb28 x3 s89
          · refine g_iconst E (v := 0) dL_law_551 (by decide) ?_
            exact g_none
        · refine g_aload_n E dL_law_553 1 rfl ?_
          refine g_aload_n E dL_law_554 0 rfl ?_
          refine g_iload_n E dL_law_555 3 rfl ?_
          refine g_iconst E (v := 1) dL_law_556 (by decide) ?_
          refine g_iadd E dL_law_557 ?_
          refine g_sld E hX hbl hbA dL_law_558 (fun v91 => ?_)
          refine g_aload_n E dL_law_559 0 rfl ?_
          refine g_iload_n E dL_law_560 3 rfl ?_
          refine g_iconst E (v := 2) dL_law_561 (by decide) ?_
          refine g_iadd E dL_law_562 ?_
          refine g_sld E hX hbl hbA dL_law_563 (fun v92 => ?_)
          refine g_aload_n E dL_law_564 0 rfl ?_
          refine g_iload_n E dL_law_565 3 rfl ?_
          refine g_iconst E (v := 3) dL_law_566 (by decide) ?_
          refine g_iadd E dL_law_567 ?_
          refine g_sld E hX hbl hbA dL_law_568 (fun v93 => ?_)
          refine g_cVi E [.int v91, .int v92, .int v93] rfl (c_X11_there hap (fun x h => hN x (ns_11_L x h)) v91 v92 v93 s) (hN 11 (by decide)) (by decide) rfl rfl mi_X11_there msl_X11_there mw_X11_there rfl ml_L_71 ⟨Nat.le_of_ble_eq_true rfl, Nat.le_of_ble_eq_true rfl⟩ (Nat.le_of_ble_eq_true rfl) dL_law_569 (fun r95 s94 => ?_)
          refine g_aload_n E dL_law_572 2 rfl ?_
          refine g_aload_n E dL_law_573 0 rfl ?_
          refine g_iload_n E dL_law_574 3 rfl ?_
          refine g_iconst E (v := 1) dL_law_575 (by decide) ?_
          refine g_iadd E dL_law_576 ?_
          refine g_sld E hX hbl hbA dL_law_577 (fun v96 => ?_)
          refine g_aload_n E dL_law_578 0 rfl ?_
          refine g_iload_n E dL_law_579 3 rfl ?_
          refine g_iconst E (v := 2) dL_law_580 (by decide) ?_
          refine g_iadd E dL_law_581 ?_
          refine g_sld E hX hbl hbA dL_law_582 (fun v97 => ?_)
          refine g_aload_n E dL_law_583 0 rfl ?_
          refine g_iload_n E dL_law_584 3 rfl ?_
          refine g_iconst E (v := 3) dL_law_585 (by decide) ?_
          refine g_iadd E dL_law_586 ?_
          refine g_sld E hX hbl hbA dL_law_587 (fun v98 => ?_)
          refine g_cVi E [.int v96, .int v97, .int v98] rfl (c_X12_there hap (fun x h => hN x (ns_12_L x h)) v96 v97 v98 s94) (hN 12 (by decide)) (by decide) rfl rfl mi_X12_there msl_X12_there mw_X12_there rfl ml_L_74 ⟨Nat.le_of_ble_eq_true rfl, Nat.le_of_ble_eq_true rfl⟩ (Nat.le_of_ble_eq_true rfl) dL_law_588 (fun r100 s99 => ?_)
          refine g_icmp_eq E 757 dL_law_591 (by decide) ?_ ?_
          · refine g_sub [0, 1, 2, 3] rfl ?_
            exact w_L_law_p757 E hap hN hNw hcs hX hbl hbA hkb28 x3 s99
          · refine g_iconst E (v := 0) dL_law_594 (by decide) ?_
            exact g_none
        · refine g_aload_n E dL_law_596 1 rfl ?_
          refine g_aload_n E dL_law_597 0 rfl ?_
          refine g_iload_n E dL_law_598 3 rfl ?_
          refine g_iconst E (v := 1) dL_law_599 (by decide) ?_
          refine g_iadd E dL_law_600 ?_
          refine g_sld E hX hbl hbA dL_law_601 (fun v101 => ?_)
          refine g_cVi E [.int v101] rfl (c_X11_line hap (fun x h => hN x (ns_11_L x h)) v101 s) (hN 11 (by decide)) (by decide) rfl rfl mi_X11_line msl_X11_line mw_X11_line rfl ml_L_75 ⟨Nat.le_of_ble_eq_true rfl, Nat.le_of_ble_eq_true rfl⟩ (Nat.le_of_ble_eq_true rfl) dL_law_602 (fun r103 s102 => ?_)
          refine g_aload_n E dL_law_605 2 rfl ?_
          refine g_aload_n E dL_law_606 0 rfl ?_
          refine g_iload_n E dL_law_607 3 rfl ?_
          refine g_iconst E (v := 1) dL_law_608 (by decide) ?_
          refine g_iadd E dL_law_609 ?_
          refine g_sld E hX hbl hbA dL_law_610 (fun v104 => ?_)
          refine g_cVi E [.int v104] rfl (c_X12_line hap (fun x h => hN x (ns_12_L x h)) v104 s102) (hN 12 (by decide)) (by decide) rfl rfl mi_X12_line msl_X12_line mw_X12_line rfl ml_L_78 ⟨Nat.le_of_ble_eq_true rfl, Nat.le_of_ble_eq_true rfl⟩ (Nat.le_of_ble_eq_true rfl) dL_law_611 (fun r106 s105 => ?_)
          refine g_icmp_eq E 757 dL_law_614 (by decide) ?_ ?_
          · refine g_sub [0, 1, 2, 3] rfl ?_
            exact w_L_law_p757 E hap hN hNw hcs hX hbl hbA hkb28 x3 s105
          · refine g_iconst E (v := 0) dL_law_617 (by decide) ?_
            exact g_none
        · refine g_aload_n E dL_law_619 1 rfl ?_
          refine g_aload_n E dL_law_620 0 rfl ?_
          refine g_iload_n E dL_law_621 3 rfl ?_
          refine g_iconst E (v := 1) dL_law_622 (by decide) ?_
          refine g_iadd E dL_law_623 ?_
          refine g_sld E hX hbl hbA dL_law_624 (fun v107 => ?_)
          refine g_aload_n E dL_law_625 0 rfl ?_
          refine g_iload_n E dL_law_626 3 rfl ?_
          refine g_iconst E (v := 2) dL_law_627 (by decide) ?_
          refine g_iadd E dL_law_628 ?_
          refine g_sld E hX hbl hbA dL_law_629 (fun v108 => ?_)
          refine g_cVi E [.int v107, .int v108] rfl (c_X11_order hap (fun x h => hN x (ns_11_L x h)) v107 v108 s) (hN 11 (by decide)) (by decide) rfl rfl mi_X11_order msl_X11_order mw_X11_order rfl ml_L_79 ⟨Nat.le_of_ble_eq_true rfl, Nat.le_of_ble_eq_true rfl⟩ (Nat.le_of_ble_eq_true rfl) dL_law_630 (fun r110 s109 => ?_)
          refine g_aload_n E dL_law_633 2 rfl ?_
          refine g_aload_n E dL_law_634 0 rfl ?_
          refine g_iload_n E dL_law_635 3 rfl ?_
          refine g_iconst E (v := 1) dL_law_636 (by decide) ?_
          refine g_iadd E dL_law_637 ?_
          refine g_sld E hX hbl hbA dL_law_638 (fun v111 => ?_)
          refine g_aload_n E dL_law_639 0 rfl ?_
          refine g_iload_n E dL_law_640 3 rfl ?_
          refine g_iconst E (v := 2) dL_law_641 (by decide) ?_
          refine g_iadd E dL_law_642 ?_
          refine g_sld E hX hbl hbA dL_law_643 (fun v112 => ?_)
          refine g_cVi E [.int v111, .int v112] rfl (c_X12_order hap (fun x h => hN x (ns_12_L x h)) v111 v112 s109) (hN 12 (by decide)) (by decide) rfl rfl mi_X12_order msl_X12_order mw_X12_order rfl ml_L_82 ⟨Nat.le_of_ble_eq_true rfl, Nat.le_of_ble_eq_true rfl⟩ (Nat.le_of_ble_eq_true rfl) dL_law_644 (fun r114 s113 => ?_)
          refine g_icmp_eq E 757 dL_law_647 (by decide) ?_ ?_
          · refine g_sub [0, 1, 2, 3] rfl ?_
            exact w_L_law_p757 E hap hN hNw hcs hX hbl hbA hkb28 x3 s113
          · refine g_iconst E (v := 0) dL_law_650 (by decide) ?_
            exact g_none
        · refine g_aload_n E dL_law_652 1 rfl ?_
          refine g_cVi E [] rfl (c_X11_shape hap (fun x h => hN x (ns_11_L x h))  s) (hN 11 (by decide)) (by decide) rfl rfl mi_X11_shape msl_X11_shape mw_X11_shape rfl ml_L_83 ⟨Nat.le_of_ble_eq_true rfl, Nat.le_of_ble_eq_true rfl⟩ (Nat.le_of_ble_eq_true rfl) dL_law_653 (fun r116 s115 => ?_)
          refine g_aload_n E dL_law_656 2 rfl ?_
          refine g_cVi E [] rfl (c_X12_shape hap (fun x h => hN x (ns_12_L x h))  s115) (hN 12 (by decide)) (by decide) rfl rfl mi_X12_shape msl_X12_shape mw_X12_shape rfl ml_L_87 ⟨Nat.le_of_ble_eq_true rfl, Nat.le_of_ble_eq_true rfl⟩ (Nat.le_of_ble_eq_true rfl) dL_law_657 (fun r118 s117 => ?_)
          refine g_icmp_eq E 757 dL_law_660 (by decide) ?_ ?_
          · refine g_sub [0, 1, 2, 3] rfl ?_
            exact w_L_law_p757 E hap hN hNw hcs hX hbl hbA hkb28 x3 s117
          · refine g_iconst E (v := 0) dL_law_663 (by decide) ?_
            exact g_none
        · refine g_aload_n E dL_law_665 1 rfl ?_
          refine g_aload_n E dL_law_666 0 rfl ?_
          refine g_iload_n E dL_law_667 3 rfl ?_
          refine g_iconst E (v := 1) dL_law_668 (by decide) ?_
          refine g_iadd E dL_law_669 ?_
          refine g_sld E hX hbl hbA dL_law_670 (fun v119 => ?_)
          refine g_aload_n E dL_law_671 0 rfl ?_
          refine g_iload_n E dL_law_672 3 rfl ?_
          refine g_iconst E (v := 2) dL_law_673 (by decide) ?_
          refine g_iadd E dL_law_674 ?_
          refine g_sld E hX hbl hbA dL_law_675 (fun v120 => ?_)
          refine g_cVM E [.int v119, .int v120] rfl (c_X11_found hap (fun x h => hN x (ns_11f_L x h)) v119 v120 s) (hN 11 (by decide)) (by decide) rfl rfl mi_X11_found msl_X11_found mw_X11_found rfl ml_L_88 rfl hNw ⟨Nat.le_of_ble_eq_true rfl, Nat.le_of_ble_eq_true rfl⟩ (Nat.le_of_ble_eq_true rfl) dL_law_676 (fun r122 s121 => ?_)
          refine g_aload_n E dL_law_679 2 rfl ?_
          refine g_aload_n E dL_law_680 0 rfl ?_
          refine g_iload_n E dL_law_681 3 rfl ?_
          refine g_iconst E (v := 1) dL_law_682 (by decide) ?_
          refine g_iadd E dL_law_683 ?_
          refine g_sld E hX hbl hbA dL_law_684 (fun v123 => ?_)
          refine g_aload_n E dL_law_685 0 rfl ?_
          refine g_iload_n E dL_law_686 3 rfl ?_
          refine g_iconst E (v := 2) dL_law_687 (by decide) ?_
          refine g_iadd E dL_law_688 ?_
          refine g_sld E hX hbl hbA dL_law_689 (fun v124 => ?_)
          refine g_cVi E [.int v123, .int v124] rfl (c_X12_found hap (fun x h => hN x (ns_12_L x h)) v123 v124 s121) (hN 12 (by decide)) (by decide) rfl rfl mi_X12_found msl_X12_found mw_X12_found rfl ml_L_91 ⟨Nat.le_of_ble_eq_true rfl, Nat.le_of_ble_eq_true rfl⟩ (Nat.le_of_ble_eq_true rfl) dL_law_690 (fun r126 s125 => ?_)
          refine g_icmp_eq E 757 dL_law_693 (by decide) ?_ ?_
          · refine g_sub [0, 1, 2, 3] rfl ?_
            exact w_L_law_p757 E hap hN hNw hcs hX hbl hbA hkb28 x3 s125
          · refine g_iconst E (v := 0) dL_law_696 (by decide) ?_
            exact g_none
        · refine g_aload_n E dL_law_698 1 rfl ?_
          refine g_cVi E [] rfl (c_X11_fall hap (fun x h => hN x (ns_11_L x h))  s) (hN 11 (by decide)) (by decide) rfl rfl mi_X11_fall msl_X11_fall mw_X11_fall rfl ml_L_92 ⟨Nat.le_of_ble_eq_true rfl, Nat.le_of_ble_eq_true rfl⟩ (Nat.le_of_ble_eq_true rfl) dL_law_699 (fun r128 s127 => ?_)
          refine g_aload_n E dL_law_702 2 rfl ?_
          refine g_cVi E [] rfl (c_X12_fall hap (fun x h => hN x (ns_12_L x h))  s127) (hN 12 (by decide)) (by decide) rfl rfl mi_X12_fall msl_X12_fall mw_X12_fall rfl ml_L_95 ⟨Nat.le_of_ble_eq_true rfl, Nat.le_of_ble_eq_true rfl⟩ (Nat.le_of_ble_eq_true rfl) dL_law_703 (fun r130 s129 => ?_)
          refine g_icmp_eq E 757 dL_law_706 (by decide) ?_ ?_
          · refine g_sub [0, 1, 2, 3] rfl ?_
            exact w_L_law_p757 E hap hN hNw hcs hX hbl hbA hkb28 x3 s129
          · refine g_iconst E (v := 0) dL_law_709 (by decide) ?_
            exact g_none
        · refine g_aload_n E dL_law_711 1 rfl ?_
          refine g_aload_n E dL_law_712 0 rfl ?_
          refine g_iload_n E dL_law_713 3 rfl ?_
          refine g_iconst E (v := 1) dL_law_714 (by decide) ?_
          refine g_iadd E dL_law_715 ?_
          refine g_sld E hX hbl hbA dL_law_716 (fun v131 => ?_)
          refine g_cVi E [.int v131] rfl (c_X11_night hap (fun x h => hN x (ns_11_L x h)) v131 s) (hN 11 (by decide)) (by decide) rfl rfl mi_X11_night msl_X11_night mw_X11_night rfl ml_L_96 ⟨Nat.le_of_ble_eq_true rfl, Nat.le_of_ble_eq_true rfl⟩ (Nat.le_of_ble_eq_true rfl) dL_law_717 (fun r133 s132 => ?_)
          refine g_aload_n E dL_law_720 2 rfl ?_
          refine g_aload_n E dL_law_721 0 rfl ?_
          refine g_iload_n E dL_law_722 3 rfl ?_
          refine g_iconst E (v := 1) dL_law_723 (by decide) ?_
          refine g_iadd E dL_law_724 ?_
          refine g_sld E hX hbl hbA dL_law_725 (fun v134 => ?_)
          refine g_cVi E [.int v134] rfl (c_X12_night hap (fun x h => hN x (ns_12_L x h)) v134 s132) (hN 12 (by decide)) (by decide) rfl rfl mi_X12_night msl_X12_night mw_X12_night rfl ml_L_99 ⟨Nat.le_of_ble_eq_true rfl, Nat.le_of_ble_eq_true rfl⟩ (Nat.le_of_ble_eq_true rfl) dL_law_726 (fun r136 s135 => ?_)
          refine g_icmp_eq E 757 dL_law_729 (by decide) ?_ ?_
          · refine g_sub [0, 1, 2, 3] rfl ?_
            exact w_L_law_p757 E hap hN hNw hcs hX hbl hbA hkb28 x3 s135
          · refine g_iconst E (v := 0) dL_law_732 (by decide) ?_
            exact g_none
        · refine g_aload_n E dL_law_734 1 rfl ?_
          refine g_aload_n E dL_law_735 0 rfl ?_
          refine g_iload_n E dL_law_736 3 rfl ?_
          refine g_iconst E (v := 1) dL_law_737 (by decide) ?_
          refine g_iadd E dL_law_738 ?_
          refine g_sld E hX hbl hbA dL_law_739 (fun v137 => ?_)
          refine g_cVi E [.int v137] rfl (c_X11_count hap (fun x h => hN x (ns_11_L x h)) v137 s) (hN 11 (by decide)) (by decide) rfl rfl mi_X11_count msl_X11_count mw_X11_count rfl ml_L_100 ⟨Nat.le_of_ble_eq_true rfl, Nat.le_of_ble_eq_true rfl⟩ (Nat.le_of_ble_eq_true rfl) dL_law_740 (fun r139 s138 => ?_)
          refine g_aload_n E dL_law_743 2 rfl ?_
          refine g_aload_n E dL_law_744 0 rfl ?_
          refine g_iload_n E dL_law_745 3 rfl ?_
          refine g_iconst E (v := 1) dL_law_746 (by decide) ?_
          refine g_iadd E dL_law_747 ?_
          refine g_sld E hX hbl hbA dL_law_748 (fun v140 => ?_)
          refine g_cVi E [.int v140] rfl (c_X12_count hap (fun x h => hN x (ns_12_L x h)) v140 s138) (hN 12 (by decide)) (by decide) rfl rfl mi_X12_count msl_X12_count mw_X12_count rfl ml_L_103 ⟨Nat.le_of_ble_eq_true rfl, Nat.le_of_ble_eq_true rfl⟩ (Nat.le_of_ble_eq_true rfl) dL_law_749 (fun r142 s141 => ?_)
          refine g_icmp_eq E 757 dL_law_752 (by decide) ?_ ?_
          · refine g_sub [0, 1, 2, 3] rfl ?_
            exact w_L_law_p757 E hap hN hNw hcs hX hbl hbA hkb28 x3 s141
          · refine g_iconst E (v := 0) dL_law_755 (by decide) ?_
            exact g_none
end

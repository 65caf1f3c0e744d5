theorem dX1_sortIn_0 : decode cX1_sortIn 0 = .ok (.aload_n 0, 1) := by decide +kernel
theorem dX1_sortIn_1 : decode cX1_sortIn 1 = .ok (.getfield 15, 3) := by decide +kernel
theorem dX1_sortIn_4 : decode cX1_sortIn 4 = .ok (.ifCond .lt 15, 3) := by decide +kernel
theorem dX1_sortIn_7 : decode cX1_sortIn 7 = .ok (.aload_n 0, 1) := by decide +kernel
theorem dX1_sortIn_8 : decode cX1_sortIn 8 = .ok (.getfield 15, 3) := by decide +kernel
theorem dX1_sortIn_11 : decode cX1_sortIn 11 = .ok (.aload_n 0, 1) := by decide +kernel
theorem dX1_sortIn_12 : decode cX1_sortIn 12 = .ok (.getfield 9, 3) := by decide +kernel
theorem dX1_sortIn_15 : decode cX1_sortIn 15 = .ok (.arraylength, 1) := by decide +kernel
theorem dX1_sortIn_16 : decode cX1_sortIn 16 = .ok (.if_icmp .lt 4, 3) := by decide +kernel
theorem dX1_sortIn_19 : decode cX1_sortIn 19 = .ok (.return_, 1) := by decide +kernel
theorem dX1_sortIn_20 : decode cX1_sortIn 20 = .ok (.aload_n 0, 1) := by decide +kernel
theorem dX1_sortIn_21 : decode cX1_sortIn 21 = .ok (.getfield 15, 3) := by decide +kernel
theorem dX1_sortIn_24 : decode cX1_sortIn 24 = .ok (.istore_n 2, 1) := by decide +kernel
theorem dX1_sortIn_25 : decode cX1_sortIn 25 = .ok (.iload_n 2, 1) := by decide +kernel
theorem dX1_sortIn_26 : decode cX1_sortIn 26 = .ok (.ifCond .le 28, 3) := by decide +kernel
theorem dX1_sortIn_29 : decode cX1_sortIn 29 = .ok (.aload_n 0, 1) := by decide +kernel
theorem dX1_sortIn_30 : decode cX1_sortIn 30 = .ok (.getfield 23, 3) := by decide +kernel
theorem dX1_sortIn_33 : decode cX1_sortIn 33 = .ok (.iload_n 1, 1) := by decide +kernel
theorem dX1_sortIn_34 : decode cX1_sortIn 34 = .ok (.aload_n 0, 1) := by decide +kernel
theorem dX1_sortIn_35 : decode cX1_sortIn 35 = .ok (.getfield 9, 3) := by decide +kernel
theorem dX1_sortIn_38 : decode cX1_sortIn 38 = .ok (.iload_n 2, 1) := by decide +kernel
theorem dX1_sortIn_39 : decode cX1_sortIn 39 = .ok (.iconst 1, 1) := by decide +kernel
theorem dX1_sortIn_40 : decode cX1_sortIn 40 = .ok (.isub, 1) := by decide +kernel
theorem dX1_sortIn_41 : decode cX1_sortIn 41 = .ok (.iaload, 1) := by decide +kernel
theorem dX1_sortIn_42 : decode cX1_sortIn 42 = .ok (.invokevirtual 40, 3) := by decide +kernel
theorem dX1_sortIn_45 : decode cX1_sortIn 45 = .ok (.ifCond .eq 9, 3) := by decide +kernel
theorem dX1_sortIn_48 : decode cX1_sortIn 48 = .ok (.iinc 2 (-1), 3) := by decide +kernel
theorem dX1_sortIn_51 : decode cX1_sortIn 51 = .ok (.goto (-26), 3) := by decide +kernel
theorem dX1_sortIn_54 : decode cX1_sortIn 54 = .ok (.iload_n 2, 1) := by decide +kernel
theorem dX1_sortIn_55 : decode cX1_sortIn 55 = .ok (.ifCond .le 16, 3) := by decide +kernel
theorem dX1_sortIn_58 : decode cX1_sortIn 58 = .ok (.aload_n 0, 1) := by decide +kernel
theorem dX1_sortIn_59 : decode cX1_sortIn 59 = .ok (.getfield 9, 3) := by decide +kernel
theorem dX1_sortIn_62 : decode cX1_sortIn 62 = .ok (.iload_n 2, 1) := by decide +kernel
theorem dX1_sortIn_63 : decode cX1_sortIn 63 = .ok (.iconst 1, 1) := by decide +kernel
theorem dX1_sortIn_64 : decode cX1_sortIn 64 = .ok (.isub, 1) := by decide +kernel
theorem dX1_sortIn_65 : decode cX1_sortIn 65 = .ok (.iaload, 1) := by decide +kernel
theorem dX1_sortIn_66 : decode cX1_sortIn 66 = .ok (.iload_n 1, 1) := by decide +kernel
theorem dX1_sortIn_67 : decode cX1_sortIn 67 = .ok (.if_icmp .ne 4, 3) := by decide +kernel
theorem dX1_sortIn_70 : decode cX1_sortIn 70 = .ok (.return_, 1) := by decide +kernel
theorem dX1_sortIn_71 : decode cX1_sortIn 71 = .ok (.aload_n 0, 1) := by decide +kernel
theorem dX1_sortIn_72 : decode cX1_sortIn 72 = .ok (.getfield 15, 3) := by decide +kernel
theorem dX1_sortIn_75 : decode cX1_sortIn 75 = .ok (.istore_n 3, 1) := by decide +kernel
theorem dX1_sortIn_76 : decode cX1_sortIn 76 = .ok (.iload_n 3, 1) := by decide +kernel
theorem dX1_sortIn_77 : decode cX1_sortIn 77 = .ok (.iload_n 2, 1) := by decide +kernel
theorem dX1_sortIn_78 : decode cX1_sortIn 78 = .ok (.if_icmp .le 23, 3) := by decide +kernel
theorem dX1_sortIn_81 : decode cX1_sortIn 81 = .ok (.aload_n 0, 1) := by decide +kernel
theorem dX1_sortIn_82 : decode cX1_sortIn 82 = .ok (.getfield 9, 3) := by decide +kernel
theorem dX1_sortIn_85 : decode cX1_sortIn 85 = .ok (.iload_n 3, 1) := by decide +kernel
theorem dX1_sortIn_86 : decode cX1_sortIn 86 = .ok (.aload_n 0, 1) := by decide +kernel
theorem dX1_sortIn_87 : decode cX1_sortIn 87 = .ok (.getfield 9, 3) := by decide +kernel
theorem dX1_sortIn_90 : decode cX1_sortIn 90 = .ok (.iload_n 3, 1) := by decide +kernel
theorem dX1_sortIn_91 : decode cX1_sortIn 91 = .ok (.iconst 1, 1) := by decide +kernel
theorem dX1_sortIn_92 : decode cX1_sortIn 92 = .ok (.isub, 1) := by decide +kernel
theorem dX1_sortIn_93 : decode cX1_sortIn 93 = .ok (.iaload, 1) := by decide +kernel
theorem dX1_sortIn_94 : decode cX1_sortIn 94 = .ok (.iastore, 1) := by decide +kernel
theorem dX1_sortIn_95 : decode cX1_sortIn 95 = .ok (.iinc 3 (-1), 3) := by decide +kernel
theorem dX1_sortIn_98 : decode cX1_sortIn 98 = .ok (.goto (-22), 3) := by decide +kernel
theorem dX1_sortIn_101 : decode cX1_sortIn 101 = .ok (.aload_n 0, 1) := by decide +kernel
theorem dX1_sortIn_102 : decode cX1_sortIn 102 = .ok (.getfield 9, 3) := by decide +kernel
theorem dX1_sortIn_105 : decode cX1_sortIn 105 = .ok (.iload_n 2, 1) := by decide +kernel
theorem dX1_sortIn_106 : decode cX1_sortIn 106 = .ok (.iload_n 1, 1) := by decide +kernel
theorem dX1_sortIn_107 : decode cX1_sortIn 107 = .ok (.iastore, 1) := by decide +kernel
theorem dX1_sortIn_108 : decode cX1_sortIn 108 = .ok (.aload_n 0, 1) := by decide +kernel
theorem dX1_sortIn_109 : decode cX1_sortIn 109 = .ok (.dup, 1) := by decide +kernel
theorem dX1_sortIn_110 : decode cX1_sortIn 110 = .ok (.getfield 15, 3) := by decide +kernel
theorem dX1_sortIn_113 : decode cX1_sortIn 113 = .ok (.iconst 1, 1) := by decide +kernel
theorem dX1_sortIn_114 : decode cX1_sortIn 114 = .ok (.iadd, 1) := by decide +kernel
theorem dX1_sortIn_115 : decode cX1_sortIn 115 = .ok (.putfield 15, 3) := by decide +kernel
theorem dX1_sortIn_118 : decode cX1_sortIn 118 = .ok (.return_, 1) := by decide +kernel
def f_X1_sortIn_p76 (ln : Nat → Nat) : Nat → Int32 → Int32 → Int32 → dr_S → Option (Int32 × dr_S)
  | 0, _, _, _, _ => none
  | n + 1, x1, x2, x3, s => (if x3 ≤ x2 then (dr_wr ln s 13 x2 x1).bind (fun s8 => dr_letS (dr_pf s8 103 ((s8.2 103) + 1)) (fun s9 => some (0, s9))) else (dr_rd ln s 13 (x3 - 1)).bind (fun v10 => (dr_wr ln s 13 x3 v10).bind (fun s11 => dr_let (x3 + (-1)) (fun y12 => (f_X1_sortIn_p76 ln n x1 x2 y12 s11)))))
def f_X1_sortIn_p71 (ln : Nat → Nat) (x1 : Int32) (x2 : Int32) (s : dr_S) : Option (Int32 × dr_S) := dr_let (s.2 103) (fun y7 => (f_X1_sortIn_p76 ln dr_N x1 x2 y7 s))
def f_X1_sortIn_p54 (ln : Nat → Nat) (x1 : Int32) (x2 : Int32) (s : dr_S) : Option (Int32 × dr_S) := (if x2 ≤ 0 then (f_X1_sortIn_p71 ln x1 x2 s) else (dr_rd ln s 13 (x2 - 1)).bind (fun v6 => (if v6 = x1 then some (0, s) else (f_X1_sortIn_p71 ln x1 x2 s))))
def f_X1_sortIn_p25 (ln : Nat → Nat) : Nat → Int32 → Int32 → dr_S → Option (Int32 × dr_S)
  | 0, _, _, _ => none
  | n + 1, x1, x2, s => (if x2 ≤ 0 then (f_X1_sortIn_p54 ln x1 x2 s) else (dr_rd ln s 13 (x2 - 1)).bind (fun v2 => dr_bnd (f_X5_isAhead ln x1 v2 s) (fun r4 s3 => (if r4 = 0 then (f_X1_sortIn_p54 ln x1 x2 s3) else dr_let (x2 + (-1)) (fun y5 => (f_X1_sortIn_p25 ln n x1 y5 s3))))))
def f_X1_sortIn (ln : Nat → Nat) (x1 : Int32) (s : dr_S) : Option (Int32 × dr_S) := (if (s.2 103) < 0 then some (0, s) else (if (s.2 103) < (Int32.ofNat (ln 13)) then dr_let (s.2 103) (fun y1 => (f_X1_sortIn_p25 ln dr_N x1 y1 s)) else some (0, s)))
section
variable {p : Program} {l : Launch} {e : Env} {s0 : State} {m : MethodId} {args : Array Value} {below : List Frame} {meth : Method} {c : Code} {A : Nat → Prop} {D : va_G} {cI cZ : ClassId} {ad ln : Nat → Nat} {L : List Nat}
set_option maxHeartbeats 4000000 in
set_option maxRecDepth 20000 in
theorem w_X1_sortIn_p76 (E : dr_E p (dr_rm 1) s0 m args meth c 0 0 A s0.heap D cI cZ ad L cX1_sortIn 4 RX1 none) (hap : dr_ap ad L) (hN : ∀ x ∈ nd_1, x ∈ L) : ∀ (n : Nat) (x1 : Int32) (x2 : Int32) (x3 : Int32) (s : dr_S), dr_G p l e (dr_rm 1) s0 m args below meth c 0 0 A s0.heap D cI cZ ad ln L 4 (dr_Zv D cI cZ ad ln L A below args s0 0 0) 76 [(0, .ref (ad 1)), (1, .int x1), (2, .int x2), (3, .int x3)] [] s (f_X1_sortIn_p76 ln n x1 x2 x3 s) := by
  intro n
  induction n with
  | zero =>
    intro x1 x2 x3 s
    rw [f_X1_sortIn_p76]
    exact g_none
  | succ n hkb76 =>
    intro x1 x2 x3 s
    rw [f_X1_sortIn_p76]
    refine g_iload_n E dX1_sortIn_76 3 rfl ?_
    refine g_iload_n E dX1_sortIn_77 2 rfl ?_
    refine g_icmp_le E 101 dX1_sortIn_78 (by decide) ?_ ?_
    · refine g_aload_n E dX1_sortIn_101 0 rfl ?_
      refine gg_1_9 E (hN 1 (by decide)) dX1_sortIn_102 ?_
      refine g_iload_n E dX1_sortIn_105 2 rfl ?_
      refine g_iload_n E dX1_sortIn_106 1 rfl ?_
      refine g_iastore E (hN 13 (by decide)) (by decide) rfl dX1_sortIn_107 (fun s8 => ?_)
      refine g_aload_n E dX1_sortIn_108 0 rfl ?_
      refine g_dup E dX1_sortIn_109 rfl ?_
      refine gg_1_15 E (hN 1 (by decide)) dX1_sortIn_110 ?_
      refine g_iconst E (v := 1) dX1_sortIn_113 (by decide) ?_
      refine g_iadd E dX1_sortIn_114 ?_
      refine gp_1_15 E (hN 1 (by decide)) dX1_sortIn_115 (fun s9 => ?_)
      exact g_vret E dX1_sortIn_118
    · refine g_aload_n E dX1_sortIn_81 0 rfl ?_
      refine gg_1_9 E (hN 1 (by decide)) dX1_sortIn_82 ?_
      refine g_iload_n E dX1_sortIn_85 3 rfl ?_
      refine g_aload_n E dX1_sortIn_86 0 rfl ?_
      refine gg_1_9 E (hN 1 (by decide)) dX1_sortIn_87 ?_
      refine g_iload_n E dX1_sortIn_90 3 rfl ?_
      refine g_iconst E (v := 1) dX1_sortIn_91 (by decide) ?_
      refine g_isub E dX1_sortIn_92 ?_
      refine g_iaload E (hN 13 (by decide)) (by decide) rfl dX1_sortIn_93 (fun v10 => ?_)
      refine g_iastore E (hN 13 (by decide)) (by decide) rfl dX1_sortIn_94 (fun s11 => ?_)
      refine g_iinc E (lv' := []) (lv'' := fun y12 => [(3, .int y12), (0, .ref (ad 1)), (1, .int x1), (2, .int x2)]) (v := (-1)) dX1_sortIn_95 3 rfl (by decide) (by decide) (fun _ => rfl) (fun y12 => ?_)
      refine g_goto E 76 dX1_sortIn_98 (by decide) ?_
      refine g_sub [1, 2, 3, 0] rfl ?_
      exact hkb76 x1 x2 y12 s11
set_option maxHeartbeats 4000000 in
set_option maxRecDepth 20000 in
theorem w_X1_sortIn_p71 (E : dr_E p (dr_rm 1) s0 m args meth c 0 0 A s0.heap D cI cZ ad L cX1_sortIn 4 RX1 none) (hap : dr_ap ad L) (hN : ∀ x ∈ nd_1, x ∈ L) : ∀ (x1 : Int32) (x2 : Int32) (s : dr_S), dr_G p l e (dr_rm 1) s0 m args below meth c 0 0 A s0.heap D cI cZ ad ln L 4 (dr_Zv D cI cZ ad ln L A below args s0 0 0) 71 [(0, .ref (ad 1)), (1, .int x1), (2, .int x2)] [] s (f_X1_sortIn_p71 ln x1 x2 s) := by
  intro x1 x2 s
  unfold f_X1_sortIn_p71
  refine g_aload_n E dX1_sortIn_71 0 rfl ?_
  refine gg_1_15 E (hN 1 (by decide)) dX1_sortIn_72 ?_
  refine g_let (fun y7 => ?_)
  refine g_istore_n E (lv' := [(3, .int y7), (0, .ref (ad 1)), (1, .int x1), (2, .int x2)]) dX1_sortIn_75 (by decide) rfl ?_
  refine g_sub [1, 2, 3, 0] rfl ?_
  exact w_X1_sortIn_p76 E hap hN dr_N x1 x2 y7 s
set_option maxHeartbeats 4000000 in
set_option maxRecDepth 20000 in
theorem w_X1_sortIn_p54 (E : dr_E p (dr_rm 1) s0 m args meth c 0 0 A s0.heap D cI cZ ad L cX1_sortIn 4 RX1 none) (hap : dr_ap ad L) (hN : ∀ x ∈ nd_1, x ∈ L) : ∀ (x1 : Int32) (x2 : Int32) (s : dr_S), dr_G p l e (dr_rm 1) s0 m args below meth c 0 0 A s0.heap D cI cZ ad ln L 4 (dr_Zv D cI cZ ad ln L A below args s0 0 0) 54 [(0, .ref (ad 1)), (1, .int x1), (2, .int x2)] [] s (f_X1_sortIn_p54 ln x1 x2 s) := by
  intro x1 x2 s
  unfold f_X1_sortIn_p54
  refine g_iload_n E dX1_sortIn_54 2 rfl ?_
  refine g_if_le E 71 dX1_sortIn_55 (by decide) ?_ ?_
  · refine g_sub [0, 1, 2] rfl ?_
    exact w_X1_sortIn_p71 E hap hN x1 x2 s
  · refine g_aload_n E dX1_sortIn_58 0 rfl ?_
    refine gg_1_9 E (hN 1 (by decide)) dX1_sortIn_59 ?_
    refine g_iload_n E dX1_sortIn_62 2 rfl ?_
    refine g_iconst E (v := 1) dX1_sortIn_63 (by decide) ?_
    refine g_isub E dX1_sortIn_64 ?_
    refine g_iaload E (hN 13 (by decide)) (by decide) rfl dX1_sortIn_65 (fun v6 => ?_)
    refine g_iload_n E dX1_sortIn_66 1 rfl ?_
    refine g_icmp_ne E 71 dX1_sortIn_67 (by decide) ?_ ?_
    · refine g_sub [0, 1, 2] rfl ?_
      exact w_X1_sortIn_p71 E hap hN x1 x2 s
    · exact g_vret E dX1_sortIn_70
set_option maxHeartbeats 4000000 in
set_option maxRecDepth 20000 in
theorem w_X1_sortIn_p25 (E : dr_E p (dr_rm 1) s0 m args meth c 0 0 A s0.heap D cI cZ ad L cX1_sortIn 4 RX1 none) (hap : dr_ap ad L) (hN : ∀ x ∈ nd_1, x ∈ L) : ∀ (n : Nat) (x1 : Int32) (x2 : Int32) (s : dr_S), dr_G p l e (dr_rm 1) s0 m args below meth c 0 0 A s0.heap D cI cZ ad ln L 4 (dr_Zv D cI cZ ad ln L A below args s0 0 0) 25 [(0, .ref (ad 1)), (1, .int x1), (2, .int x2)] [] s (f_X1_sortIn_p25 ln n x1 x2 s) := by
  intro n
  induction n with
  | zero =>
    intro x1 x2 s
    rw [f_X1_sortIn_p25]
    exact g_none
  | succ n hkb25 =>
    intro x1 x2 s
    rw [f_X1_sortIn_p25]
    refine g_iload_n E dX1_sortIn_25 2 rfl ?_
    refine g_if_le E 54 dX1_sortIn_26 (by decide) ?_ ?_
    · refine g_sub [0, 1, 2] rfl ?_
      exact w_X1_sortIn_p54 E hap hN x1 x2 s
    · refine g_aload_n E dX1_sortIn_29 0 rfl ?_
      refine gg_1_23 E (hN 1 (by decide)) dX1_sortIn_30 ?_
      refine g_iload_n E dX1_sortIn_33 1 rfl ?_
      refine g_aload_n E dX1_sortIn_34 0 rfl ?_
      refine gg_1_9 E (hN 1 (by decide)) dX1_sortIn_35 ?_
      refine g_iload_n E dX1_sortIn_38 2 rfl ?_
      refine g_iconst E (v := 1) dX1_sortIn_39 (by decide) ?_
      refine g_isub E dX1_sortIn_40 ?_
      refine g_iaload E (hN 13 (by decide)) (by decide) rfl dX1_sortIn_41 (fun v2 => ?_)
      refine g_cVi E [.int x1, .int v2] rfl (c_X5_isAhead hap (fun x h => hN x (ns_5_1 x h)) x1 v2 s) (hN 5 (by decide)) (by decide) rfl rfl mi_X5_isAhead msl_X5_isAhead mw_X5_isAhead rfl ml_1_40 ⟨Nat.le_of_ble_eq_true rfl, Nat.le_of_ble_eq_true rfl⟩ (Nat.le_of_ble_eq_true rfl) dX1_sortIn_42 (fun r4 s3 => ?_)
      refine g_if_eq E 54 dX1_sortIn_45 (by decide) ?_ ?_
      · refine g_sub [0, 1, 2] rfl ?_
        exact w_X1_sortIn_p54 E hap hN x1 x2 s3
      · refine g_iinc E (lv' := []) (lv'' := fun y5 => [(2, .int y5), (0, .ref (ad 1)), (1, .int x1)]) (v := (-1)) dX1_sortIn_48 2 rfl (by decide) (by decide) (fun _ => rfl) (fun y5 => ?_)
        refine g_goto E 25 dX1_sortIn_51 (by decide) ?_
        refine g_sub [1, 2, 0] rfl ?_
        exact hkb25 x1 y5 s3
set_option maxHeartbeats 4000000 in
set_option maxRecDepth 20000 in
theorem c_X1_sortIn (hap : dr_ap ad L) (hN : ∀ x ∈ nd_1, x ∈ L) (x1 : Int32) (s : dr_S) : dr_Mv l D cI cZ ad ln L yX1_sortIn cX1_sortIn 4 1 [.ref (ad 1), .int x1] s (f_X1_sortIn ln x1 s) := by
  refine dr_metv (own := RX1) (by decide) rfl (Nat.le_of_ble_eq_true rfl) hap ?_
  intro p e s0 m args below meth c A E
  unfold f_X1_sortIn
  refine g_eqL (lv' := [(0, .ref (ad 1)), (1, .int x1)]) rfl ?_
  refine g_aload_n E dX1_sortIn_0 0 rfl ?_
  refine gg_1_15 E (hN 1 (by decide)) dX1_sortIn_1 ?_
  refine g_if_lt E 19 dX1_sortIn_4 (by decide) ?_ ?_
  · exact g_vret E dX1_sortIn_19
  · refine g_aload_n E dX1_sortIn_7 0 rfl ?_
    refine gg_1_15 E (hN 1 (by decide)) dX1_sortIn_8 ?_
    refine g_aload_n E dX1_sortIn_11 0 rfl ?_
    refine gg_1_9 E (hN 1 (by decide)) dX1_sortIn_12 ?_
    refine g_alen E (hN 13 (by decide)) (by decide) rfl dX1_sortIn_15 ?_
    refine g_icmp_lt E 20 dX1_sortIn_16 (by decide) ?_ ?_
    · refine g_aload_n E dX1_sortIn_20 0 rfl ?_
      refine gg_1_15 E (hN 1 (by decide)) dX1_sortIn_21 ?_
      refine g_let (fun y1 => ?_)
      refine g_istore_n E (lv' := [(2, .int y1), (0, .ref (ad 1)), (1, .int x1)]) dX1_sortIn_24 (by decide) rfl ?_
      refine g_sub [1, 2, 0] rfl ?_
      exact w_X1_sortIn_p25 E hap hN dr_N x1 y1 s
    · exact g_vret E dX1_sortIn_19
end

theorem dX1_sort_0 : decode cX1_sort 0 = .ok (.aload_n 0, 1) := by decide +kernel
theorem dX1_sort_1 : decode cX1_sort 1 = .ok (.iconst 0, 1) := by decide +kernel
theorem dX1_sort_2 : decode cX1_sort 2 = .ok (.putfield 15, 3) := by decide +kernel
theorem dX1_sort_5 : decode cX1_sort 5 = .ok (.aload_n 0, 1) := by decide +kernel
theorem dX1_sort_6 : decode cX1_sort 6 = .ok (.getfield 19, 3) := by decide +kernel
theorem dX1_sort_9 : decode cX1_sort 9 = .ok (.iconst 0, 1) := by decide +kernel
theorem dX1_sort_10 : decode cX1_sort 10 = .ok (.invokevirtual 27, 3) := by decide +kernel
theorem dX1_sort_13 : decode cX1_sort 13 = .ok (.istore_n 1, 1) := by decide +kernel
theorem dX1_sort_14 : decode cX1_sort 14 = .ok (.iconst 0, 1) := by decide +kernel
theorem dX1_sort_15 : decode cX1_sort 15 = .ok (.istore_n 2, 1) := by decide +kernel
theorem dX1_sort_16 : decode cX1_sort 16 = .ok (.iload_n 2, 1) := by decide +kernel
theorem dX1_sort_17 : decode cX1_sort 17 = .ok (.sipush 256, 3) := by decide +kernel
theorem dX1_sort_20 : decode cX1_sort 20 = .ok (.if_icmp .ge 63, 3) := by decide +kernel
theorem dX1_sort_23 : decode cX1_sort 23 = .ok (.iload_n 1, 1) := by decide +kernel
theorem dX1_sort_24 : decode cX1_sort 24 = .ok (.iconst (-1), 1) := by decide +kernel
theorem dX1_sort_25 : decode cX1_sort 25 = .ok (.if_icmp .eq 58, 3) := by decide +kernel
theorem dX1_sort_28 : decode cX1_sort 28 = .ok (.aload_n 0, 1) := by decide +kernel
theorem dX1_sort_29 : decode cX1_sort 29 = .ok (.getfield 19, 3) := by decide +kernel
theorem dX1_sort_32 : decode cX1_sort 32 = .ok (.iload_n 1, 1) := by decide +kernel
theorem dX1_sort_33 : decode cX1_sort 33 = .ok (.iconst 1, 1) := by decide +kernel
theorem dX1_sort_34 : decode cX1_sort 34 = .ok (.invokevirtual 33, 3) := by decide +kernel
theorem dX1_sort_37 : decode cX1_sort 37 = .ok (.istore_n 3, 1) := by decide +kernel
theorem dX1_sort_38 : decode cX1_sort 38 = .ok (.iconst 0, 1) := by decide +kernel
theorem dX1_sort_39 : decode cX1_sort 39 = .ok (.istore 4, 2) := by decide +kernel
theorem dX1_sort_41 : decode cX1_sort 41 = .ok (.iload 4, 2) := by decide +kernel
theorem dX1_sort_43 : decode cX1_sort 43 = .ok (.iload_n 3, 1) := by decide +kernel
theorem dX1_sort_44 : decode cX1_sort 44 = .ok (.if_icmp .ge 23, 3) := by decide +kernel
theorem dX1_sort_47 : decode cX1_sort 47 = .ok (.aload_n 0, 1) := by decide +kernel
theorem dX1_sort_48 : decode cX1_sort 48 = .ok (.aload_n 0, 1) := by decide +kernel
theorem dX1_sort_49 : decode cX1_sort 49 = .ok (.getfield 19, 3) := by decide +kernel
theorem dX1_sort_52 : decode cX1_sort 52 = .ok (.iload_n 1, 1) := by decide +kernel
theorem dX1_sort_53 : decode cX1_sort 53 = .ok (.iload 4, 2) := by decide +kernel
theorem dX1_sort_55 : decode cX1_sort 55 = .ok (.invokevirtual 37, 3) := by decide +kernel
theorem dX1_sort_58 : decode cX1_sort 58 = .ok (.invokevirtual 46, 3) := by decide +kernel
theorem dX1_sort_61 : decode cX1_sort 61 = .ok (.iinc 4 1, 3) := by decide +kernel
theorem dX1_sort_64 : decode cX1_sort 64 = .ok (.goto (-23), 3) := by decide +kernel
theorem dX1_sort_67 : decode cX1_sort 67 = .ok (.aload_n 0, 1) := by decide +kernel
theorem dX1_sort_68 : decode cX1_sort 68 = .ok (.getfield 19, 3) := by decide +kernel
theorem dX1_sort_71 : decode cX1_sort 71 = .ok (.iload_n 1, 1) := by decide +kernel
theorem dX1_sort_72 : decode cX1_sort 72 = .ok (.iconst 3, 1) := by decide +kernel
theorem dX1_sort_73 : decode cX1_sort 73 = .ok (.invokevirtual 33, 3) := by decide +kernel
theorem dX1_sort_76 : decode cX1_sort 76 = .ok (.istore_n 1, 1) := by decide +kernel
theorem dX1_sort_77 : decode cX1_sort 77 = .ok (.iinc 2 1, 3) := by decide +kernel
theorem dX1_sort_80 : decode cX1_sort 80 = .ok (.goto (-64), 3) := by decide +kernel
theorem dX1_sort_83 : decode cX1_sort 83 = .ok (.aload_n 0, 1) := by decide +kernel
theorem dX1_sort_84 : decode cX1_sort 84 = .ok (.getfield 15, 3) := by decide +kernel
theorem dX1_sort_87 : decode cX1_sort 87 = .ok (.ireturn, 1) := by decide +kernel
def f_X1_sort_p41 (ln : Nat → Nat) (kb16 : Int32 → Int32 → dr_S → Option (Int32 × dr_S)) : Nat → Int32 → Int32 → Int32 → Int32 → dr_S → Option (Int32 × dr_S)
  | 0, _, _, _, _, _ => none
  | n + 1, x1, x2, x3, x4, s => (if x3 ≤ x4 then dr_bnd (f_X4_get ln x1 3 s) (fun r7 s6 => dr_let (x2 + 1) (fun y8 => (kb16 r7 y8 s6))) else dr_bnd (f_X4_heading ln x1 x4 s) (fun r10 s9 => dr_bndv (f_X1_sortIn ln r10 s9) (fun s11 => dr_let (x4 + 1) (fun y12 => (f_X1_sort_p41 ln kb16 n x1 x2 x3 y12 s11)))))
def f_X1_sort_p16 (ln : Nat → Nat) : Nat → Int32 → Int32 → dr_S → Option (Int32 × dr_S)
  | 0, _, _, _ => none
  | n + 1, x1, x2, s => (if ((256 : Int32) ≤ x2 : Prop) then some ((s.2 103), s) else (if x1 = (-1) then some ((s.2 103), s) else dr_bnd (f_X4_get ln x1 1 s) (fun r5 s4 => (f_X1_sort_p41 ln (f_X1_sort_p16 ln n) dr_N x1 x2 r5 0 s4))))
def f_X1_sort (ln : Nat → Nat) (s : dr_S) : Option (Int32 × dr_S) := dr_letS (dr_pf s 103 0) (fun s1 => dr_bnd (f_X4_firstOf ln 0 s1) (fun r3 s2 => (f_X1_sort_p16 ln dr_N r3 0 s2)))
section
variable {p : Program} {l : Launch} {e : Env} {s0 : State} {m : MethodId} {args : Array Value} {below : List Frame} {meth : Method} {c : Code} {A : Nat → Prop} {D : va_G} {cI cZ : ClassId} {ad ln : Nat → Nat} {L : List Nat}
set_option maxHeartbeats 4000000 in
set_option maxRecDepth 20000 in
theorem w_X1_sort_p41 {kb16 : Int32 → Int32 → dr_S → Option (Int32 × dr_S)} (E : dr_E p (dr_rm 4) s0 m args meth c 0 0 A s0.heap D cI cZ ad L cX1_sort 5 RX1 (some .int)) (hap : dr_ap ad L) (hN : ∀ x ∈ nd_1, x ∈ L) (hkb16 : ∀ (x1 : Int32) (x2 : Int32) (s : dr_S), dr_G p l e (dr_rm 4) s0 m args below meth c 0 0 A s0.heap D cI cZ ad ln L 5 (dr_Zi D cI cZ ad ln L A below args s0 0 0) 16 [(0, .ref (ad 1)), (1, .int x1), (2, .int x2)] [] s (kb16 x1 x2 s)) : ∀ (n : Nat) (x1 : Int32) (x2 : Int32) (x3 : Int32) (x4 : Int32) (s : dr_S), dr_G p l e (dr_rm 4) s0 m args below meth c 0 0 A s0.heap D cI cZ ad ln L 5 (dr_Zi D cI cZ ad ln L A below args s0 0 0) 41 [(0, .ref (ad 1)), (1, .int x1), (2, .int x2), (3, .int x3), (4, .int x4)] [] s (f_X1_sort_p41 ln kb16 n x1 x2 x3 x4 s) := by
  intro n
  induction n with
  | zero =>
    intro x1 x2 x3 x4 s
    rw [f_X1_sort_p41]
    exact g_none
  | succ n hkb41 =>
    intro x1 x2 x3 x4 s
    rw [f_X1_sort_p41]
    refine g_iload E dX1_sort_41 4 rfl ?_
    refine g_iload_n E dX1_sort_43 3 rfl ?_
    refine g_icmp_ge E 67 dX1_sort_44 (by decide) ?_ ?_
    · refine g_aload_n E dX1_sort_67 0 rfl ?_
      refine gg_1_19 E (hN 1 (by decide)) dX1_sort_68 ?_
      refine g_iload_n E dX1_sort_71 1 rfl ?_
      refine g_iconst E (v := 3) dX1_sort_72 (by decide) ?_
      refine g_cVi E [.int x1, .int 3] rfl (c_X4_get hap (fun x h => hN x (ns_4_1 x h)) x1 3 s) (hN 4 (by decide)) (by decide) rfl rfl mi_X4_get msl_X4_get mw_X4_get rfl ml_1_33 ⟨Nat.le_of_ble_eq_true rfl, Nat.le_of_ble_eq_true rfl⟩ (Nat.le_of_ble_eq_true rfl) dX1_sort_73 (fun r7 s6 => ?_)
      refine g_istore_n E (lv' := [(1, .int r7), (0, .ref (ad 1)), (2, .int x2), (3, .int x3), (4, .int x4)]) dX1_sort_76 (by decide) rfl ?_
      refine g_iinc E (lv' := []) (lv'' := fun y8 => [(2, .int y8), (1, .int r7), (0, .ref (ad 1)), (3, .int x3), (4, .int x4)]) (v := 1) dX1_sort_77 2 rfl (by decide) (by decide) (fun _ => rfl) (fun y8 => ?_)
      refine g_goto E 16 dX1_sort_80 (by decide) ?_
      refine g_sub [2, 1, 0] rfl ?_
      exact hkb16 r7 y8 s6
    · refine g_aload_n E dX1_sort_47 0 rfl ?_
      refine g_aload_n E dX1_sort_48 0 rfl ?_
      refine gg_1_19 E (hN 1 (by decide)) dX1_sort_49 ?_
      refine g_iload_n E dX1_sort_52 1 rfl ?_
      refine g_iload E dX1_sort_53 4 rfl ?_
      refine g_cVi E [.int x1, .int x4] rfl (c_X4_heading hap (fun x h => hN x (ns_4_1 x h)) x1 x4 s) (hN 4 (by decide)) (by decide) rfl rfl mi_X4_heading msl_X4_heading mw_X4_heading rfl ml_1_37 ⟨Nat.le_of_ble_eq_true rfl, Nat.le_of_ble_eq_true rfl⟩ (Nat.le_of_ble_eq_true rfl) dX1_sort_55 (fun r10 s9 => ?_)
      refine g_cVv E [.int r10] rfl (c_X1_sortIn hap hN r10 s9) (hN 1 (by decide)) (by decide) rfl rfl mi_X1_sortIn msl_X1_sortIn mw_X1_sortIn rfl ml_1_46 ⟨Nat.le_of_ble_eq_true rfl, Nat.le_of_ble_eq_true rfl⟩ (Nat.le_of_ble_eq_true rfl) dX1_sort_58 (fun s11 => ?_)
      refine g_iinc E (lv' := []) (lv'' := fun y12 => [(4, .int y12), (0, .ref (ad 1)), (1, .int x1), (2, .int x2), (3, .int x3)]) (v := 1) dX1_sort_61 4 rfl (by decide) (by decide) (fun _ => rfl) (fun y12 => ?_)
      refine g_goto E 41 dX1_sort_64 (by decide) ?_
      refine g_sub [1, 2, 3, 4, 0] rfl ?_
      exact hkb41 x1 x2 x3 y12 s11
set_option maxHeartbeats 4000000 in
set_option maxRecDepth 20000 in
theorem w_X1_sort_p16 (E : dr_E p (dr_rm 4) s0 m args meth c 0 0 A s0.heap D cI cZ ad L cX1_sort 5 RX1 (some .int)) (hap : dr_ap ad L) (hN : ∀ x ∈ nd_1, x ∈ L) : ∀ (n : Nat) (x1 : Int32) (x2 : Int32) (s : dr_S), dr_G p l e (dr_rm 4) s0 m args below meth c 0 0 A s0.heap D cI cZ ad ln L 5 (dr_Zi D cI cZ ad ln L A below args s0 0 0) 16 [(0, .ref (ad 1)), (1, .int x1), (2, .int x2)] [] s (f_X1_sort_p16 ln n x1 x2 s) := by
  intro n
  induction n with
  | zero =>
    intro x1 x2 s
    rw [f_X1_sort_p16]
    exact g_none
  | succ n hkb16 =>
    intro x1 x2 s
    rw [f_X1_sort_p16]
    refine g_iload_n E dX1_sort_16 2 rfl ?_
    refine g_sipush E (v := 256) dX1_sort_17 (by decide) ?_
    refine g_icmp_ge E 83 dX1_sort_20 (by decide) ?_ ?_
    · refine g_aload_n E dX1_sort_83 0 rfl ?_
      refine gg_1_15 E (hN 1 (by decide)) dX1_sort_84 ?_
      exact g_iret E dX1_sort_87
    · refine g_iload_n E dX1_sort_23 1 rfl ?_
      refine g_iconst E (v := (-1)) dX1_sort_24 (by decide) ?_
      refine g_icmp_eq E 83 dX1_sort_25 (by decide) ?_ ?_
      · refine g_aload_n E dX1_sort_83 0 rfl ?_
        refine gg_1_15 E (hN 1 (by decide)) dX1_sort_84 ?_
        exact g_iret E dX1_sort_87
      · refine g_aload_n E dX1_sort_28 0 rfl ?_
        refine gg_1_19 E (hN 1 (by decide)) dX1_sort_29 ?_
        refine g_iload_n E dX1_sort_32 1 rfl ?_
        refine g_iconst E (v := 1) dX1_sort_33 (by decide) ?_
        refine g_cVi E [.int x1, .int 1] rfl (c_X4_get hap (fun x h => hN x (ns_4_1 x h)) x1 1 s) (hN 4 (by decide)) (by decide) rfl rfl mi_X4_get msl_X4_get mw_X4_get rfl ml_1_33 ⟨Nat.le_of_ble_eq_true rfl, Nat.le_of_ble_eq_true rfl⟩ (Nat.le_of_ble_eq_true rfl) dX1_sort_34 (fun r5 s4 => ?_)
        refine g_istore_n E (lv' := [(3, .int r5), (0, .ref (ad 1)), (1, .int x1), (2, .int x2)]) dX1_sort_37 (by decide) rfl ?_
        refine g_iconst E (v := 0) dX1_sort_38 (by decide) ?_
        refine g_istore E (lv' := [(4, .int 0), (3, .int r5), (0, .ref (ad 1)), (1, .int x1), (2, .int x2)]) dX1_sort_39 (by decide) rfl ?_
        refine g_sub [2, 3, 4, 1, 0] rfl ?_
        exact w_X1_sort_p41 E hap hN hkb16 dr_N x1 x2 r5 0 s4
set_option maxHeartbeats 4000000 in
set_option maxRecDepth 20000 in
theorem c_X1_sort (hap : dr_ap ad L) (hN : ∀ x ∈ nd_1, x ∈ L) (s : dr_S) : dr_Mi l D cI cZ ad ln L yX1_sort cX1_sort 5 (some .int) 4 [.ref (ad 1)] s (f_X1_sort ln  s) := by
  refine dr_meti (own := RX1) (by decide) rfl (Nat.le_of_ble_eq_true rfl) hap ?_
  intro p e s0 m args below meth c A E
  unfold f_X1_sort
  refine g_eqL (lv' := [(0, .ref (ad 1))]) rfl ?_
  refine g_aload_n E dX1_sort_0 0 rfl ?_
  refine g_iconst E (v := 0) dX1_sort_1 (by decide) ?_
  refine gp_1_15 E (hN 1 (by decide)) dX1_sort_2 (fun s1 => ?_)
  refine g_aload_n E dX1_sort_5 0 rfl ?_
  refine gg_1_19 E (hN 1 (by decide)) dX1_sort_6 ?_
  refine g_iconst E (v := 0) dX1_sort_9 (by decide) ?_
  refine g_cVi E [.int 0] rfl (c_X4_firstOf hap (fun x h => hN x (ns_4_1 x h)) 0 s1) (hN 4 (by decide)) (by decide) rfl rfl mi_X4_firstOf msl_X4_firstOf mw_X4_firstOf rfl ml_1_27 ⟨Nat.le_of_ble_eq_true rfl, Nat.le_of_ble_eq_true rfl⟩ (Nat.le_of_ble_eq_true rfl) dX1_sort_10 (fun r3 s2 => ?_)
  refine g_istore_n E (lv' := [(1, .int r3), (0, .ref (ad 1))]) dX1_sort_13 (by decide) rfl ?_
  refine g_iconst E (v := 0) dX1_sort_14 (by decide) ?_
  refine g_istore_n E (lv' := [(2, .int 0), (1, .int r3), (0, .ref (ad 1))]) dX1_sort_15 (by decide) rfl ?_
  refine g_sub [2, 1, 0] rfl ?_
  exact w_X1_sort_p16 E hap hN dr_N r3 0 s2
end

theorem dX4_clear_0 : decode cX4_clear 0 = .ok (.aload_n 0, 1) := by decide +kernel
theorem dX4_clear_1 : decode cX4_clear 1 = .ok (.getfield 9, 3) := by decide +kernel
theorem dX4_clear_4 : decode cX4_clear 4 = .ok (.aload_n 0, 1) := by decide +kernel
theorem dX4_clear_5 : decode cX4_clear 5 = .ok (.getfield 36, 3) := by decide +kernel
theorem dX4_clear_8 : decode cX4_clear 8 = .ok (.iconst 0, 1) := by decide +kernel
theorem dX4_clear_9 : decode cX4_clear 9 = .ok (.invokevirtual 54, 3) := by decide +kernel
theorem dX4_clear_12 : decode cX4_clear 12 = .ok (.return_, 1) := by decide +kernel
def f_X4_clear (ln : Nat → Nat) (s : dr_S) : Option (Int32 × dr_S) := dr_bndv (f_X2_put ln ((s.2 406)) 0 s) (fun s1 => some (0, s1))
section
variable {p : Program} {l : Launch} {e : Env} {s0 : State} {m : MethodId} {args : Array Value} {below : List Frame} {meth : Method} {c : Code} {A : Nat → Prop} {D : va_G} {cI cZ : ClassId} {ad ln : Nat → Nat} {L : List Nat}
set_option maxHeartbeats 4000000 in
set_option maxRecDepth 20000 in
theorem c_X4_clear (hap : dr_ap ad L) (hN : ∀ x ∈ nd_4, x ∈ L) (s : dr_S) : dr_Mv l D cI cZ ad ln L yX4_clear cX4_clear 1 1 [.ref (ad 4)] s (f_X4_clear ln  s) := by
  refine dr_metv (own := RX4) (by decide) rfl (Nat.le_of_ble_eq_true rfl) hap ?_
  intro p e s0 m args below meth c A E
  unfold f_X4_clear
  refine g_eqL (lv' := [(0, .ref (ad 4))]) rfl ?_
  refine g_aload_n E dX4_clear_0 0 rfl ?_
  refine gg_4_9 E (hN 4 (by decide)) dX4_clear_1 ?_
  refine g_aload_n E dX4_clear_4 0 rfl ?_
  refine gg_4_36 E (hN 4 (by decide)) dX4_clear_5 ?_
  refine g_iconst E (v := 0) dX4_clear_8 (by decide) ?_
  refine g_cVv E [.int (s.2 406), .int 0] rfl (c_X2_put hap (fun x h => hN x (ns_2_4 x h)) ((s.2 406)) 0 s) (hN 2 (by decide)) (by decide) rfl rfl mi_X2_put msl_X2_put mw_X2_put rfl ml_4_54 ⟨Nat.le_of_ble_eq_true rfl, Nat.le_of_ble_eq_true rfl⟩ (Nat.le_of_ble_eq_true rfl) dX4_clear_9 (fun s1 => ?_)
  exact g_vret E dX4_clear_12
end

theorem dX1_kthSorted_0 : decode cX1_kthSorted 0 = .ok (.iload_n 1, 1) := by decide +kernel
theorem dX1_kthSorted_1 : decode cX1_kthSorted 1 = .ok (.ifCond .lt 29, 3) := by decide +kernel
theorem dX1_kthSorted_4 : decode cX1_kthSorted 4 = .ok (.iload_n 1, 1) := by decide +kernel
theorem dX1_kthSorted_5 : decode cX1_kthSorted 5 = .ok (.aload_n 0, 1) := by decide +kernel
theorem dX1_kthSorted_6 : decode cX1_kthSorted 6 = .ok (.getfield 15, 3) := by decide +kernel
theorem dX1_kthSorted_9 : decode cX1_kthSorted 9 = .ok (.if_icmp .ge 21, 3) := by decide +kernel
theorem dX1_kthSorted_12 : decode cX1_kthSorted 12 = .ok (.iload_n 1, 1) := by decide +kernel
theorem dX1_kthSorted_13 : decode cX1_kthSorted 13 = .ok (.aload_n 0, 1) := by decide +kernel
theorem dX1_kthSorted_14 : decode cX1_kthSorted 14 = .ok (.getfield 9, 3) := by decide +kernel
theorem dX1_kthSorted_17 : decode cX1_kthSorted 17 = .ok (.arraylength, 1) := by decide +kernel
theorem dX1_kthSorted_18 : decode cX1_kthSorted 18 = .ok (.if_icmp .ge 12, 3) := by decide +kernel
theorem dX1_kthSorted_21 : decode cX1_kthSorted 21 = .ok (.aload_n 0, 1) := by decide +kernel
theorem dX1_kthSorted_22 : decode cX1_kthSorted 22 = .ok (.getfield 9, 3) := by decide +kernel
theorem dX1_kthSorted_25 : decode cX1_kthSorted 25 = .ok (.iload_n 1, 1) := by decide +kernel
theorem dX1_kthSorted_26 : decode cX1_kthSorted 26 = .ok (.iaload, 1) := by decide +kernel
theorem dX1_kthSorted_27 : decode cX1_kthSorted 27 = .ok (.goto 4, 3) := by decide +kernel
theorem dX1_kthSorted_30 : decode cX1_kthSorted 30 = .ok (.iconst (-1), 1) := by decide +kernel
theorem dX1_kthSorted_31 : decode cX1_kthSorted 31 = .ok (.ireturn, 1) := by decide +kernel
def f_X1_kthSorted (ln : Nat → Nat) (x1 : Int32) (s : dr_S) : Option (Int32 × dr_S) := (if x1 < 0 then some ((-1), s) else (if (s.2 103) ≤ x1 then some ((-1), s) else (if (Int32.ofNat (ln 13)) ≤ x1 then some ((-1), s) else (dr_rd ln s 13 x1).bind (fun v1 => some (v1, s)))))
section
variable {p : Program} {l : Launch} {e : Env} {s0 : State} {m : MethodId} {args : Array Value} {below : List Frame} {meth : Method} {c : Code} {A : Nat → Prop} {D : va_G} {cI cZ : ClassId} {ad ln : Nat → Nat} {L : List Nat}
set_option maxHeartbeats 4000000 in
set_option maxRecDepth 20000 in
theorem c_X1_kthSorted (hap : dr_ap ad L) (hN : ∀ x ∈ nd_1, x ∈ L) (x1 : Int32) (s : dr_S) : dr_Mi l D cI cZ ad ln L yX1_kthSorted cX1_kthSorted 2 (some .int) 0 [.ref (ad 1), .int x1] s (f_X1_kthSorted ln x1 s) := by
  refine dr_meti (own := RX1) (by decide) rfl (Nat.le_of_ble_eq_true rfl) hap ?_
  intro p e s0 m args below meth c A E
  unfold f_X1_kthSorted
  refine g_eqL (lv' := [(0, .ref (ad 1)), (1, .int x1)]) rfl ?_
  refine g_iload_n E dX1_kthSorted_0 1 rfl ?_
  refine g_if_lt E 30 dX1_kthSorted_1 (by decide) ?_ ?_
  · refine g_iconst E (v := (-1)) dX1_kthSorted_30 (by decide) ?_
    exact g_iret E dX1_kthSorted_31
  · refine g_iload_n E dX1_kthSorted_4 1 rfl ?_
    refine g_aload_n E dX1_kthSorted_5 0 rfl ?_
    refine gg_1_15 E (hN 1 (by decide)) dX1_kthSorted_6 ?_
    refine g_icmp_ge E 30 dX1_kthSorted_9 (by decide) ?_ ?_
    · refine g_iconst E (v := (-1)) dX1_kthSorted_30 (by decide) ?_
      exact g_iret E dX1_kthSorted_31
    · refine g_iload_n E dX1_kthSorted_12 1 rfl ?_
      refine g_aload_n E dX1_kthSorted_13 0 rfl ?_
      refine gg_1_9 E (hN 1 (by decide)) dX1_kthSorted_14 ?_
      refine g_alen E (hN 13 (by decide)) (by decide) rfl dX1_kthSorted_17 ?_
      refine g_icmp_ge E 30 dX1_kthSorted_18 (by decide) ?_ ?_
      · refine g_iconst E (v := (-1)) dX1_kthSorted_30 (by decide) ?_
        exact g_iret E dX1_kthSorted_31
      · refine g_aload_n E dX1_kthSorted_21 0 rfl ?_
        refine gg_1_9 E (hN 1 (by decide)) dX1_kthSorted_22 ?_
        refine g_iload_n E dX1_kthSorted_25 1 rfl ?_
        refine g_iaload E (hN 13 (by decide)) (by decide) rfl dX1_kthSorted_26 (fun v1 => ?_)
        refine g_goto E 31 dX1_kthSorted_27 (by decide) ?_
        exact g_iret E dX1_kthSorted_31
end

theorem dX0_buildLeaves_0 : decode cX0_buildLeaves 0 = .ok (.iconst 0, 1) := by decide +kernel
theorem dX0_buildLeaves_1 : decode cX0_buildLeaves 1 = .ok (.istore_n 3, 1) := by decide +kernel
theorem dX0_buildLeaves_2 : decode cX0_buildLeaves 2 = .ok (.iconst 0, 1) := by decide +kernel
theorem dX0_buildLeaves_3 : decode cX0_buildLeaves 3 = .ok (.istore 4, 2) := by decide +kernel
theorem dX0_buildLeaves_5 : decode cX0_buildLeaves 5 = .ok (.iload 4, 2) := by decide +kernel
theorem dX0_buildLeaves_7 : decode cX0_buildLeaves 7 = .ok (.sipush 256, 3) := by decide +kernel
theorem dX0_buildLeaves_10 : decode cX0_buildLeaves 10 = .ok (.if_icmp .ge 108, 3) := by decide +kernel
theorem dX0_buildLeaves_13 : decode cX0_buildLeaves 13 = .ok (.iload 4, 2) := by decide +kernel
theorem dX0_buildLeaves_15 : decode cX0_buildLeaves 15 = .ok (.ifCond .eq 8, 3) := by decide +kernel
theorem dX0_buildLeaves_18 : decode cX0_buildLeaves 18 = .ok (.iload_n 3, 1) := by decide +kernel
theorem dX0_buildLeaves_19 : decode cX0_buildLeaves 19 = .ok (.iload_n 1, 1) := by decide +kernel
theorem dX0_buildLeaves_20 : decode cX0_buildLeaves 20 = .ok (.if_icmp .ge 98, 3) := by decide +kernel
theorem dX0_buildLeaves_23 : decode cX0_buildLeaves 23 = .ok (.aload_n 0, 1) := by decide +kernel
theorem dX0_buildLeaves_24 : decode cX0_buildLeaves 24 = .ok (.getfield 9, 3) := by decide +kernel
theorem dX0_buildLeaves_27 : decode cX0_buildLeaves 27 = .ok (.iconst 0, 1) := by decide +kernel
theorem dX0_buildLeaves_28 : decode cX0_buildLeaves 28 = .ok (.invokevirtual 29, 3) := by decide +kernel
theorem dX0_buildLeaves_31 : decode cX0_buildLeaves 31 = .ok (.istore 5, 2) := by decide +kernel
theorem dX0_buildLeaves_33 : decode cX0_buildLeaves 33 = .ok (.iconst 0, 1) := by decide +kernel
theorem dX0_buildLeaves_34 : decode cX0_buildLeaves 34 = .ok (.istore 6, 2) := by decide +kernel
theorem dX0_buildLeaves_36 : decode cX0_buildLeaves 36 = .ok (.iload 6, 2) := by decide +kernel
theorem dX0_buildLeaves_38 : decode cX0_buildLeaves 38 = .ok (.iload_n 2, 1) := by decide +kernel
theorem dX0_buildLeaves_39 : decode cX0_buildLeaves 39 = .ok (.if_icmp .ge 34, 3) := by decide +kernel
theorem dX0_buildLeaves_42 : decode cX0_buildLeaves 42 = .ok (.iload_n 3, 1) := by decide +kernel
theorem dX0_buildLeaves_43 : decode cX0_buildLeaves 43 = .ok (.iload_n 1, 1) := by decide +kernel
theorem dX0_buildLeaves_44 : decode cX0_buildLeaves 44 = .ok (.if_icmp .ge 29, 3) := by decide +kernel
theorem dX0_buildLeaves_47 : decode cX0_buildLeaves 47 = .ok (.aload_n 0, 1) := by decide +kernel
theorem dX0_buildLeaves_48 : decode cX0_buildLeaves 48 = .ok (.getfield 9, 3) := by decide +kernel
theorem dX0_buildLeaves_51 : decode cX0_buildLeaves 51 = .ok (.iload 5, 2) := by decide +kernel
theorem dX0_buildLeaves_53 : decode cX0_buildLeaves 53 = .ok (.aload_n 0, 1) := by decide +kernel
theorem dX0_buildLeaves_54 : decode cX0_buildLeaves 54 = .ok (.getfield 15, 3) := by decide +kernel
theorem dX0_buildLeaves_57 : decode cX0_buildLeaves 57 = .ok (.iload_n 3, 1) := by decide +kernel
theorem dX0_buildLeaves_58 : decode cX0_buildLeaves 58 = .ok (.invokevirtual 63, 3) := by decide +kernel
theorem dX0_buildLeaves_61 : decode cX0_buildLeaves 61 = .ok (.invokevirtual 36, 3) := by decide +kernel
theorem dX0_buildLeaves_64 : decode cX0_buildLeaves 64 = .ok (.iinc 3 1, 3) := by decide +kernel
theorem dX0_buildLeaves_67 : decode cX0_buildLeaves 67 = .ok (.iinc 6 1, 3) := by decide +kernel
theorem dX0_buildLeaves_70 : decode cX0_buildLeaves 70 = .ok (.goto (-34), 3) := by decide +kernel
theorem dX0_buildLeaves_73 : decode cX0_buildLeaves 73 = .ok (.iload_n 3, 1) := by decide +kernel
theorem dX0_buildLeaves_74 : decode cX0_buildLeaves 74 = .ok (.iload_n 1, 1) := by decide +kernel
theorem dX0_buildLeaves_75 : decode cX0_buildLeaves 75 = .ok (.if_icmp .ge 37, 3) := by decide +kernel
theorem dX0_buildLeaves_78 : decode cX0_buildLeaves 78 = .ok (.aload_n 0, 1) := by decide +kernel
theorem dX0_buildLeaves_79 : decode cX0_buildLeaves 79 = .ok (.getfield 9, 3) := by decide +kernel
theorem dX0_buildLeaves_82 : decode cX0_buildLeaves 82 = .ok (.iload 5, 2) := by decide +kernel
theorem dX0_buildLeaves_84 : decode cX0_buildLeaves 84 = .ok (.iconst 2, 1) := by decide +kernel
theorem dX0_buildLeaves_85 : decode cX0_buildLeaves 85 = .ok (.aload_n 0, 1) := by decide +kernel
theorem dX0_buildLeaves_86 : decode cX0_buildLeaves 86 = .ok (.getfield 15, 3) := by decide +kernel
theorem dX0_buildLeaves_89 : decode cX0_buildLeaves 89 = .ok (.iload_n 3, 1) := by decide +kernel
theorem dX0_buildLeaves_90 : decode cX0_buildLeaves 90 = .ok (.iconst 1, 1) := by decide +kernel
theorem dX0_buildLeaves_91 : decode cX0_buildLeaves 91 = .ok (.isub, 1) := by decide +kernel
theorem dX0_buildLeaves_92 : decode cX0_buildLeaves 92 = .ok (.invokevirtual 63, 3) := by decide +kernel
theorem dX0_buildLeaves_95 : decode cX0_buildLeaves 95 = .ok (.invokevirtual 66, 3) := by decide +kernel
theorem dX0_buildLeaves_98 : decode cX0_buildLeaves 98 = .ok (.aload_n 0, 1) := by decide +kernel
theorem dX0_buildLeaves_99 : decode cX0_buildLeaves 99 = .ok (.getfield 9, 3) := by decide +kernel
theorem dX0_buildLeaves_102 : decode cX0_buildLeaves 102 = .ok (.iload 5, 2) := by decide +kernel
theorem dX0_buildLeaves_104 : decode cX0_buildLeaves 104 = .ok (.iconst 3, 1) := by decide +kernel
theorem dX0_buildLeaves_105 : decode cX0_buildLeaves 105 = .ok (.iload 5, 2) := by decide +kernel
theorem dX0_buildLeaves_107 : decode cX0_buildLeaves 107 = .ok (.iconst 1, 1) := by decide +kernel
theorem dX0_buildLeaves_108 : decode cX0_buildLeaves 108 = .ok (.iadd, 1) := by decide +kernel
theorem dX0_buildLeaves_109 : decode cX0_buildLeaves 109 = .ok (.invokevirtual 66, 3) := by decide +kernel
theorem dX0_buildLeaves_112 : decode cX0_buildLeaves 112 = .ok (.iinc 4 1, 3) := by decide +kernel
theorem dX0_buildLeaves_115 : decode cX0_buildLeaves 115 = .ok (.goto (-110), 3) := by decide +kernel
theorem dX0_buildLeaves_118 : decode cX0_buildLeaves 118 = .ok (.aload_n 0, 1) := by decide +kernel
theorem dX0_buildLeaves_119 : decode cX0_buildLeaves 119 = .ok (.getfield 9, 3) := by decide +kernel
theorem dX0_buildLeaves_122 : decode cX0_buildLeaves 122 = .ok (.invokevirtual 69, 3) := by decide +kernel
theorem dX0_buildLeaves_125 : decode cX0_buildLeaves 125 = .ok (.ireturn, 1) := by decide +kernel
def f_X0_buildLeaves_p118 (ln : Nat → Nat) (s : dr_S) : Option (Int32 × dr_S) := dr_bnd (f_X4_inUse ln  s) (fun r14 s13 => some (r14, s13))
def f_X0_buildLeaves_p112 (ln : Nat → Nat) (kb5 : Int32 → Int32 → Int32 → Int32 → dr_S → Option (Int32 × dr_S)) (x1 : Int32) (x2 : Int32) (x3 : Int32) (x4 : Int32) (s : dr_S) : Option (Int32 × dr_S) := dr_let (x4 + 1) (fun y12 => (kb5 x1 x2 x3 y12 s))
def f_X0_buildLeaves_p73 (ln : Nat → Nat) (kb5 : Int32 → Int32 → Int32 → Int32 → dr_S → Option (Int32 × dr_S)) (x1 : Int32) (x2 : Int32) (x3 : Int32) (x4 : Int32) (x5 : Int32) (s : dr_S) : Option (Int32 × dr_S) := (if x1 ≤ x3 then (f_X0_buildLeaves_p112 ln kb5 x1 x2 x3 x4 s) else dr_bnd (f_X1_kthSorted ln ((x3 - 1)) s) (fun r9 s8 => dr_bndv (f_X4_set ln x5 2 r9 s8) (fun s10 => dr_bndv (f_X4_set ln x5 3 ((x5 + 1)) s10) (fun s11 => (f_X0_buildLeaves_p112 ln kb5 x1 x2 x3 x4 s11)))))
def f_X0_buildLeaves_p36 (ln : Nat → Nat) (kb5 : Int32 → Int32 → Int32 → Int32 → dr_S → Option (Int32 × dr_S)) : Nat → Int32 → Int32 → Int32 → Int32 → Int32 → Int32 → dr_S → Option (Int32 × dr_S)
  | 0, _, _, _, _, _, _, _ => none
  | n + 1, x1, x2, x3, x4, x5, x6, s => (if x2 ≤ x6 then (f_X0_buildLeaves_p73 ln kb5 x1 x2 x3 x4 x5 s) else (if x1 ≤ x3 then (f_X0_buildLeaves_p73 ln kb5 x1 x2 x3 x4 x5 s) else dr_bnd (f_X1_kthSorted ln x3 s) (fun r4 s3 => dr_bndv (f_X4_addHeading ln x5 r4 s3) (fun s5 => dr_let (x3 + 1) (fun y6 => dr_let (x6 + 1) (fun y7 => (f_X0_buildLeaves_p36 ln kb5 n x1 x2 y6 x4 x5 y7 s5)))))))
def f_X0_buildLeaves_p23 (ln : Nat → Nat) (kb5 : Int32 → Int32 → Int32 → Int32 → dr_S → Option (Int32 × dr_S)) (x1 : Int32) (x2 : Int32) (x3 : Int32) (x4 : Int32) (s : dr_S) : Option (Int32 × dr_S) := dr_bnd (f_X4_open ln 0 s) (fun r2 s1 => (f_X0_buildLeaves_p36 ln kb5 dr_N x1 x2 x3 x4 r2 0 s1))
def f_X0_buildLeaves_p5 (ln : Nat → Nat) : Nat → Int32 → Int32 → Int32 → Int32 → dr_S → Option (Int32 × dr_S)
  | 0, _, _, _, _, _ => none
  | n + 1, x1, x2, x3, x4, s => (if ((256 : Int32) ≤ x4 : Prop) then (f_X0_buildLeaves_p118 ln  s) else (if x4 = 0 then (f_X0_buildLeaves_p23 ln (f_X0_buildLeaves_p5 ln n) x1 x2 x3 x4 s) else (if x1 ≤ x3 then (f_X0_buildLeaves_p118 ln  s) else (f_X0_buildLeaves_p23 ln (f_X0_buildLeaves_p5 ln n) x1 x2 x3 x4 s))))
def f_X0_buildLeaves (ln : Nat → Nat) (x1 : Int32) (x2 : Int32) (s : dr_S) : Option (Int32 × dr_S) := (f_X0_buildLeaves_p5 ln dr_N x1 x2 0 0 s)
section
variable {p : Program} {l : Launch} {e : Env} {s0 : State} {m : MethodId} {args : Array Value} {below : List Frame} {meth : Method} {c : Code} {A : Nat → Prop} {D : va_G} {cI cZ : ClassId} {ad ln : Nat → Nat} {L : List Nat}
set_option maxHeartbeats 4000000 in
set_option maxRecDepth 20000 in
theorem w_X0_buildLeaves_p118 (E : dr_E p (dr_rm 3) s0 m args meth c 0 0 A s0.heap D cI cZ ad L cX0_buildLeaves 7 RX0 (some .int)) (hap : dr_ap ad L) (hN : ∀ x ∈ nd_0, x ∈ L) : ∀ (s : dr_S), dr_G p l e (dr_rm 3) s0 m args below meth c 0 0 A s0.heap D cI cZ ad ln L 7 (dr_Zi D cI cZ ad ln L A below args s0 0 0) 118 [(0, .ref (ad 0))] [] s (f_X0_buildLeaves_p118 ln  s) := by
  intro s
  unfold f_X0_buildLeaves_p118
  refine g_aload_n E dX0_buildLeaves_118 0 rfl ?_
  refine gg_0_9 E (hN 0 (by decide)) dX0_buildLeaves_119 ?_
  refine g_cVi E [] rfl (c_X4_inUse hap (fun x h => hN x (ns_4_0 x h))  s) (hN 4 (by decide)) (by decide) rfl rfl mi_X4_inUse msl_X4_inUse mw_X4_inUse rfl ml_0_69 ⟨Nat.le_of_ble_eq_true rfl, Nat.le_of_ble_eq_true rfl⟩ (Nat.le_of_ble_eq_true rfl) dX0_buildLeaves_122 (fun r14 s13 => ?_)
  exact g_iret E dX0_buildLeaves_125
set_option maxHeartbeats 4000000 in
set_option maxRecDepth 20000 in
theorem w_X0_buildLeaves_p112 {kb5 : Int32 → Int32 → Int32 → Int32 → dr_S → Option (Int32 × dr_S)} (E : dr_E p (dr_rm 3) s0 m args meth c 0 0 A s0.heap D cI cZ ad L cX0_buildLeaves 7 RX0 (some .int)) (hap : dr_ap ad L) (hN : ∀ x ∈ nd_0, x ∈ L) (hkb5 : ∀ (x1 : Int32) (x2 : Int32) (x3 : Int32) (x4 : Int32) (s : dr_S), dr_G p l e (dr_rm 3) s0 m args below meth c 0 0 A s0.heap D cI cZ ad ln L 7 (dr_Zi D cI cZ ad ln L A below args s0 0 0) 5 [(0, .ref (ad 0)), (1, .int x1), (2, .int x2), (3, .int x3), (4, .int x4)] [] s (kb5 x1 x2 x3 x4 s)) : ∀ (x1 : Int32) (x2 : Int32) (x3 : Int32) (x4 : Int32) (s : dr_S), dr_G p l e (dr_rm 3) s0 m args below meth c 0 0 A s0.heap D cI cZ ad ln L 7 (dr_Zi D cI cZ ad ln L A below args s0 0 0) 112 [(0, .ref (ad 0)), (1, .int x1), (2, .int x2), (3, .int x3), (4, .int x4)] [] s (f_X0_buildLeaves_p112 ln kb5 x1 x2 x3 x4 s) := by
  intro x1 x2 x3 x4 s
  unfold f_X0_buildLeaves_p112
  refine g_iinc E (lv' := []) (lv'' := fun y12 => [(4, .int y12), (0, .ref (ad 0)), (1, .int x1), (2, .int x2), (3, .int x3)]) (v := 1) dX0_buildLeaves_112 4 rfl (by decide) (by decide) (fun _ => rfl) (fun y12 => ?_)
  refine g_goto E 5 dX0_buildLeaves_115 (by decide) ?_
  refine g_sub [1, 2, 3, 4, 0] rfl ?_
  exact hkb5 x1 x2 x3 y12 s
set_option maxHeartbeats 4000000 in
set_option maxRecDepth 20000 in
theorem w_X0_buildLeaves_p73 {kb5 : Int32 → Int32 → Int32 → Int32 → dr_S → Option (Int32 × dr_S)} (E : dr_E p (dr_rm 3) s0 m args meth c 0 0 A s0.heap D cI cZ ad L cX0_buildLeaves 7 RX0 (some .int)) (hap : dr_ap ad L) (hN : ∀ x ∈ nd_0, x ∈ L) (hkb5 : ∀ (x1 : Int32) (x2 : Int32) (x3 : Int32) (x4 : Int32) (s : dr_S), dr_G p l e (dr_rm 3) s0 m args below meth c 0 0 A s0.heap D cI cZ ad ln L 7 (dr_Zi D cI cZ ad ln L A below args s0 0 0) 5 [(0, .ref (ad 0)), (1, .int x1), (2, .int x2), (3, .int x3), (4, .int x4)] [] s (kb5 x1 x2 x3 x4 s)) : ∀ (x1 : Int32) (x2 : Int32) (x3 : Int32) (x4 : Int32) (x5 : Int32) (s : dr_S), dr_G p l e (dr_rm 3) s0 m args below meth c 0 0 A s0.heap D cI cZ ad ln L 7 (dr_Zi D cI cZ ad ln L A below args s0 0 0) 73 [(0, .ref (ad 0)), (1, .int x1), (2, .int x2), (3, .int x3), (4, .int x4), (5, .int x5)] [] s (f_X0_buildLeaves_p73 ln kb5 x1 x2 x3 x4 x5 s) := by
  intro x1 x2 x3 x4 x5 s
  unfold f_X0_buildLeaves_p73
  refine g_iload_n E dX0_buildLeaves_73 3 rfl ?_
  refine g_iload_n E dX0_buildLeaves_74 1 rfl ?_
  refine g_icmp_ge E 112 dX0_buildLeaves_75 (by decide) ?_ ?_
  · refine g_sub [0, 1, 2, 3, 4] rfl ?_
    exact w_X0_buildLeaves_p112 E hap hN hkb5 x1 x2 x3 x4 s
  · refine g_aload_n E dX0_buildLeaves_78 0 rfl ?_
    refine gg_0_9 E (hN 0 (by decide)) dX0_buildLeaves_79 ?_
    refine g_iload E dX0_buildLeaves_82 5 rfl ?_
    refine g_iconst E (v := 2) dX0_buildLeaves_84 (by decide) ?_
    refine g_aload_n E dX0_buildLeaves_85 0 rfl ?_
    refine gg_0_15 E (hN 0 (by decide)) dX0_buildLeaves_86 ?_
    refine g_iload_n E dX0_buildLeaves_89 3 rfl ?_
    refine g_iconst E (v := 1) dX0_buildLeaves_90 (by decide) ?_
    refine g_isub E dX0_buildLeaves_91 ?_
    refine g_cVi E [.int (x3 - 1)] rfl (c_X1_kthSorted hap (fun x h => hN x (ns_1_0 x h)) ((x3 - 1)) s) (hN 1 (by decide)) (by decide) rfl rfl mi_X1_kthSorted msl_X1_kthSorted mw_X1_kthSorted rfl ml_0_63 ⟨Nat.le_of_ble_eq_true rfl, Nat.le_of_ble_eq_true rfl⟩ (Nat.le_of_ble_eq_true rfl) dX0_buildLeaves_92 (fun r9 s8 => ?_)
    refine g_cVv E [.int x5, .int 2, .int r9] rfl (c_X4_set hap (fun x h => hN x (ns_4_0 x h)) x5 2 r9 s8) (hN 4 (by decide)) (by decide) rfl rfl mi_X4_set msl_X4_set mw_X4_set rfl ml_0_66 ⟨Nat.le_of_ble_eq_true rfl, Nat.le_of_ble_eq_true rfl⟩ (Nat.le_of_ble_eq_true rfl) dX0_buildLeaves_95 (fun s10 => ?_)
    refine g_aload_n E dX0_buildLeaves_98 0 rfl ?_
    refine gg_0_9 E (hN 0 (by decide)) dX0_buildLeaves_99 ?_
    refine g_iload E dX0_buildLeaves_102 5 rfl ?_
    refine g_iconst E (v := 3) dX0_buildLeaves_104 (by decide) ?_
    refine g_iload E dX0_buildLeaves_105 5 rfl ?_
    refine g_iconst E (v := 1) dX0_buildLeaves_107 (by decide) ?_
    refine g_iadd E dX0_buildLeaves_108 ?_
    refine g_cVv E [.int x5, .int 3, .int (x5 + 1)] rfl (c_X4_set hap (fun x h => hN x (ns_4_0 x h)) x5 3 ((x5 + 1)) s10) (hN 4 (by decide)) (by decide) rfl rfl mi_X4_set msl_X4_set mw_X4_set rfl ml_0_66 ⟨Nat.le_of_ble_eq_true rfl, Nat.le_of_ble_eq_true rfl⟩ (Nat.le_of_ble_eq_true rfl) dX0_buildLeaves_109 (fun s11 => ?_)
    refine g_sub [0, 1, 2, 3, 4] rfl ?_
    exact w_X0_buildLeaves_p112 E hap hN hkb5 x1 x2 x3 x4 s11
set_option maxHeartbeats 4000000 in
set_option maxRecDepth 20000 in
theorem w_X0_buildLeaves_p36 {kb5 : Int32 → Int32 → Int32 → Int32 → dr_S → Option (Int32 × dr_S)} (E : dr_E p (dr_rm 3) s0 m args meth c 0 0 A s0.heap D cI cZ ad L cX0_buildLeaves 7 RX0 (some .int)) (hap : dr_ap ad L) (hN : ∀ x ∈ nd_0, x ∈ L) (hkb5 : ∀ (x1 : Int32) (x2 : Int32) (x3 : Int32) (x4 : Int32) (s : dr_S), dr_G p l e (dr_rm 3) s0 m args below meth c 0 0 A s0.heap D cI cZ ad ln L 7 (dr_Zi D cI cZ ad ln L A below args s0 0 0) 5 [(0, .ref (ad 0)), (1, .int x1), (2, .int x2), (3, .int x3), (4, .int x4)] [] s (kb5 x1 x2 x3 x4 s)) : ∀ (n : Nat) (x1 : Int32) (x2 : Int32) (x3 : Int32) (x4 : Int32) (x5 : Int32) (x6 : Int32) (s : dr_S), dr_G p l e (dr_rm 3) s0 m args below meth c 0 0 A s0.heap D cI cZ ad ln L 7 (dr_Zi D cI cZ ad ln L A below args s0 0 0) 36 [(0, .ref (ad 0)), (1, .int x1), (2, .int x2), (3, .int x3), (4, .int x4), (5, .int x5), (6, .int x6)] [] s (f_X0_buildLeaves_p36 ln kb5 n x1 x2 x3 x4 x5 x6 s) := by
  intro n
  induction n with
  | zero =>
    intro x1 x2 x3 x4 x5 x6 s
    rw [f_X0_buildLeaves_p36]
    exact g_none
  | succ n hkb36 =>
    intro x1 x2 x3 x4 x5 x6 s
    rw [f_X0_buildLeaves_p36]
    refine g_iload E dX0_buildLeaves_36 6 rfl ?_
    refine g_iload_n E dX0_buildLeaves_38 2 rfl ?_
    refine g_icmp_ge E 73 dX0_buildLeaves_39 (by decide) ?_ ?_
    · refine g_sub [0, 1, 2, 3, 4, 5] rfl ?_
      exact w_X0_buildLeaves_p73 E hap hN hkb5 x1 x2 x3 x4 x5 s
    · refine g_iload_n E dX0_buildLeaves_42 3 rfl ?_
      refine g_iload_n E dX0_buildLeaves_43 1 rfl ?_
      refine g_icmp_ge E 73 dX0_buildLeaves_44 (by decide) ?_ ?_
      · refine g_sub [0, 1, 2, 3, 4, 5] rfl ?_
        exact w_X0_buildLeaves_p73 E hap hN hkb5 x1 x2 x3 x4 x5 s
      · refine g_aload_n E dX0_buildLeaves_47 0 rfl ?_
        refine gg_0_9 E (hN 0 (by decide)) dX0_buildLeaves_48 ?_
        refine g_iload E dX0_buildLeaves_51 5 rfl ?_
        refine g_aload_n E dX0_buildLeaves_53 0 rfl ?_
        refine gg_0_15 E (hN 0 (by decide)) dX0_buildLeaves_54 ?_
        refine g_iload_n E dX0_buildLeaves_57 3 rfl ?_
        refine g_cVi E [.int x3] rfl (c_X1_kthSorted hap (fun x h => hN x (ns_1_0 x h)) x3 s) (hN 1 (by decide)) (by decide) rfl rfl mi_X1_kthSorted msl_X1_kthSorted mw_X1_kthSorted rfl ml_0_63 ⟨Nat.le_of_ble_eq_true rfl, Nat.le_of_ble_eq_true rfl⟩ (Nat.le_of_ble_eq_true rfl) dX0_buildLeaves_58 (fun r4 s3 => ?_)
        refine g_cVv E [.int x5, .int r4] rfl (c_X4_addHeading hap (fun x h => hN x (ns_4_0 x h)) x5 r4 s3) (hN 4 (by decide)) (by decide) rfl rfl mi_X4_addHeading msl_X4_addHeading mw_X4_addHeading rfl ml_0_36 ⟨Nat.le_of_ble_eq_true rfl, Nat.le_of_ble_eq_true rfl⟩ (Nat.le_of_ble_eq_true rfl) dX0_buildLeaves_61 (fun s5 => ?_)
        refine g_iinc E (lv' := []) (lv'' := fun y6 => [(3, .int y6), (0, .ref (ad 0)), (1, .int x1), (2, .int x2), (4, .int x4), (5, .int x5), (6, .int x6)]) (v := 1) dX0_buildLeaves_64 3 rfl (by decide) (by decide) (fun _ => rfl) (fun y6 => ?_)
        refine g_iinc E (lv' := []) (lv'' := fun y7 => [(6, .int y7), (3, .int y6), (0, .ref (ad 0)), (1, .int x1), (2, .int x2), (4, .int x4), (5, .int x5)]) (v := 1) dX0_buildLeaves_67 6 rfl (by decide) (by decide) (fun _ => rfl) (fun y7 => ?_)
        refine g_goto E 36 dX0_buildLeaves_70 (by decide) ?_
        refine g_sub [2, 3, 4, 1, 5, 6, 0] rfl ?_
        exact hkb36 x1 x2 y6 x4 x5 y7 s5
set_option maxHeartbeats 4000000 in
set_option maxRecDepth 20000 in
theorem w_X0_buildLeaves_p23 {kb5 : Int32 → Int32 → Int32 → Int32 → dr_S → Option (Int32 × dr_S)} (E : dr_E p (dr_rm 3) s0 m args meth c 0 0 A s0.heap D cI cZ ad L cX0_buildLeaves 7 RX0 (some .int)) (hap : dr_ap ad L) (hN : ∀ x ∈ nd_0, x ∈ L) (hkb5 : ∀ (x1 : Int32) (x2 : Int32) (x3 : Int32) (x4 : Int32) (s : dr_S), dr_G p l e (dr_rm 3) s0 m args below meth c 0 0 A s0.heap D cI cZ ad ln L 7 (dr_Zi D cI cZ ad ln L A below args s0 0 0) 5 [(0, .ref (ad 0)), (1, .int x1), (2, .int x2), (3, .int x3), (4, .int x4)] [] s (kb5 x1 x2 x3 x4 s)) : ∀ (x1 : Int32) (x2 : Int32) (x3 : Int32) (x4 : Int32) (s : dr_S), dr_G p l e (dr_rm 3) s0 m args below meth c 0 0 A s0.heap D cI cZ ad ln L 7 (dr_Zi D cI cZ ad ln L A below args s0 0 0) 23 [(0, .ref (ad 0)), (1, .int x1), (2, .int x2), (3, .int x3), (4, .int x4)] [] s (f_X0_buildLeaves_p23 ln kb5 x1 x2 x3 x4 s) := by
  intro x1 x2 x3 x4 s
  unfold f_X0_buildLeaves_p23
  refine g_aload_n E dX0_buildLeaves_23 0 rfl ?_
  refine gg_0_9 E (hN 0 (by decide)) dX0_buildLeaves_24 ?_
  refine g_iconst E (v := 0) dX0_buildLeaves_27 (by decide) ?_
  refine g_cVi E [.int 0] rfl (c_X4_open hap (fun x h => hN x (ns_4_0 x h)) 0 s) (hN 4 (by decide)) (by decide) rfl rfl mi_X4_open msl_X4_open mw_X4_open rfl ml_0_29 ⟨Nat.le_of_ble_eq_true rfl, Nat.le_of_ble_eq_true rfl⟩ (Nat.le_of_ble_eq_true rfl) dX0_buildLeaves_28 (fun r2 s1 => ?_)
  refine g_istore E (lv' := [(5, .int r2), (0, .ref (ad 0)), (1, .int x1), (2, .int x2), (3, .int x3), (4, .int x4)]) dX0_buildLeaves_31 (by decide) rfl ?_
  refine g_iconst E (v := 0) dX0_buildLeaves_33 (by decide) ?_
  refine g_istore E (lv' := [(6, .int 0), (5, .int r2), (0, .ref (ad 0)), (1, .int x1), (2, .int x2), (3, .int x3), (4, .int x4)]) dX0_buildLeaves_34 (by decide) rfl ?_
  refine g_sub [2, 3, 4, 5, 6, 1, 0] rfl ?_
  exact w_X0_buildLeaves_p36 E hap hN hkb5 dr_N x1 x2 x3 x4 r2 0 s1
set_option maxHeartbeats 4000000 in
set_option maxRecDepth 20000 in
theorem w_X0_buildLeaves_p5 (E : dr_E p (dr_rm 3) s0 m args meth c 0 0 A s0.heap D cI cZ ad L cX0_buildLeaves 7 RX0 (some .int)) (hap : dr_ap ad L) (hN : ∀ x ∈ nd_0, x ∈ L) : ∀ (n : Nat) (x1 : Int32) (x2 : Int32) (x3 : Int32) (x4 : Int32) (s : dr_S), dr_G p l e (dr_rm 3) s0 m args below meth c 0 0 A s0.heap D cI cZ ad ln L 7 (dr_Zi D cI cZ ad ln L A below args s0 0 0) 5 [(0, .ref (ad 0)), (1, .int x1), (2, .int x2), (3, .int x3), (4, .int x4)] [] s (f_X0_buildLeaves_p5 ln n x1 x2 x3 x4 s) := by
  intro n
  induction n with
  | zero =>
    intro x1 x2 x3 x4 s
    rw [f_X0_buildLeaves_p5]
    exact g_none
  | succ n hkb5 =>
    intro x1 x2 x3 x4 s
    rw [f_X0_buildLeaves_p5]
    refine g_iload E dX0_buildLeaves_5 4 rfl ?_
    refine g_sipush E (v := 256) dX0_buildLeaves_7 (by decide) ?_
    refine g_icmp_ge E 118 dX0_buildLeaves_10 (by decide) ?_ ?_
    · refine g_sub [0] rfl ?_
      exact w_X0_buildLeaves_p118 E hap hN  s
    · refine g_iload E dX0_buildLeaves_13 4 rfl ?_
      refine g_if_eq E 23 dX0_buildLeaves_15 (by decide) ?_ ?_
      · refine g_sub [0, 1, 2, 3, 4] rfl ?_
        exact w_X0_buildLeaves_p23 E hap hN hkb5 x1 x2 x3 x4 s
      · refine g_iload_n E dX0_buildLeaves_18 3 rfl ?_
        refine g_iload_n E dX0_buildLeaves_19 1 rfl ?_
        refine g_icmp_ge E 118 dX0_buildLeaves_20 (by decide) ?_ ?_
        · refine g_sub [0] rfl ?_
          exact w_X0_buildLeaves_p118 E hap hN  s
        · refine g_sub [0, 1, 2, 3, 4] rfl ?_
          exact w_X0_buildLeaves_p23 E hap hN hkb5 x1 x2 x3 x4 s
set_option maxHeartbeats 4000000 in
set_option maxRecDepth 20000 in
theorem c_X0_buildLeaves (hap : dr_ap ad L) (hN : ∀ x ∈ nd_0, x ∈ L) (x1 : Int32) (x2 : Int32) (s : dr_S) : dr_Mi l D cI cZ ad ln L yX0_buildLeaves cX0_buildLeaves 7 (some .int) 3 [.ref (ad 0), .int x1, .int x2] s (f_X0_buildLeaves ln x1 x2 s) := by
  refine dr_meti (own := RX0) (by decide) rfl (Nat.le_of_ble_eq_true rfl) hap ?_
  intro p e s0 m args below meth c A E
  unfold f_X0_buildLeaves
  refine g_eqL (lv' := [(0, .ref (ad 0)), (1, .int x1), (2, .int x2)]) rfl ?_
  refine g_iconst E (v := 0) dX0_buildLeaves_0 (by decide) ?_
  refine g_istore_n E (lv' := [(3, .int 0), (0, .ref (ad 0)), (1, .int x1), (2, .int x2)]) dX0_buildLeaves_1 (by decide) rfl ?_
  refine g_iconst E (v := 0) dX0_buildLeaves_2 (by decide) ?_
  refine g_istore E (lv' := [(4, .int 0), (3, .int 0), (0, .ref (ad 0)), (1, .int x1), (2, .int x2)]) dX0_buildLeaves_3 (by decide) rfl ?_
  refine g_sub [2, 3, 4, 1, 0] rfl ?_
  exact w_X0_buildLeaves_p5 E hap hN dr_N x1 x2 0 0 s
end

theorem dX0_buildGuides_0 : decode cX0_buildGuides 0 = .ok (.iload_n 2, 1) := by decide +kernel
theorem dX0_buildGuides_1 : decode cX0_buildGuides 1 = .ok (.istore 5, 2) := by decide +kernel
theorem dX0_buildGuides_3 : decode cX0_buildGuides 3 = .ok (.iconst 0, 1) := by decide +kernel
theorem dX0_buildGuides_4 : decode cX0_buildGuides 4 = .ok (.istore 6, 2) := by decide +kernel
theorem dX0_buildGuides_6 : decode cX0_buildGuides 6 = .ok (.iload 6, 2) := by decide +kernel
theorem dX0_buildGuides_8 : decode cX0_buildGuides 8 = .ok (.sipush 256, 3) := by decide +kernel
theorem dX0_buildGuides_11 : decode cX0_buildGuides 11 = .ok (.if_icmp .ge 131, 3) := by decide +kernel
theorem dX0_buildGuides_14 : decode cX0_buildGuides 14 = .ok (.iload 5, 2) := by decide +kernel
theorem dX0_buildGuides_16 : decode cX0_buildGuides 16 = .ok (.iload_n 3, 1) := by decide +kernel
theorem dX0_buildGuides_17 : decode cX0_buildGuides 17 = .ok (.if_icmp .ge 125, 3) := by decide +kernel
theorem dX0_buildGuides_20 : decode cX0_buildGuides 20 = .ok (.aload_n 0, 1) := by decide +kernel
theorem dX0_buildGuides_21 : decode cX0_buildGuides 21 = .ok (.getfield 9, 3) := by decide +kernel
theorem dX0_buildGuides_24 : decode cX0_buildGuides 24 = .ok (.iload_n 1, 1) := by decide +kernel
theorem dX0_buildGuides_25 : decode cX0_buildGuides 25 = .ok (.invokevirtual 29, 3) := by decide +kernel
theorem dX0_buildGuides_28 : decode cX0_buildGuides 28 = .ok (.istore 7, 2) := by decide +kernel
theorem dX0_buildGuides_30 : decode cX0_buildGuides 30 = .ok (.iconst 0, 1) := by decide +kernel
theorem dX0_buildGuides_31 : decode cX0_buildGuides 31 = .ok (.istore 8, 2) := by decide +kernel
theorem dX0_buildGuides_33 : decode cX0_buildGuides 33 = .ok (.iload 8, 2) := by decide +kernel
theorem dX0_buildGuides_35 : decode cX0_buildGuides 35 = .ok (.iload 4, 2) := by decide +kernel
theorem dX0_buildGuides_37 : decode cX0_buildGuides 37 = .ok (.if_icmp .gt 57, 3) := by decide +kernel
theorem dX0_buildGuides_40 : decode cX0_buildGuides 40 = .ok (.iload 5, 2) := by decide +kernel
theorem dX0_buildGuides_42 : decode cX0_buildGuides 42 = .ok (.iload_n 3, 1) := by decide +kernel
theorem dX0_buildGuides_43 : decode cX0_buildGuides 43 = .ok (.if_icmp .ge 51, 3) := by decide +kernel
theorem dX0_buildGuides_46 : decode cX0_buildGuides 46 = .ok (.iload 8, 2) := by decide +kernel
theorem dX0_buildGuides_48 : decode cX0_buildGuides 48 = .ok (.ifCond .le 24, 3) := by decide +kernel
theorem dX0_buildGuides_51 : decode cX0_buildGuides 51 = .ok (.aload_n 0, 1) := by decide +kernel
theorem dX0_buildGuides_52 : decode cX0_buildGuides 52 = .ok (.getfield 9, 3) := by decide +kernel
theorem dX0_buildGuides_55 : decode cX0_buildGuides 55 = .ok (.iload 7, 2) := by decide +kernel
theorem dX0_buildGuides_57 : decode cX0_buildGuides 57 = .ok (.aload_n 0, 1) := by decide +kernel
theorem dX0_buildGuides_58 : decode cX0_buildGuides 58 = .ok (.getfield 9, 3) := by decide +kernel
theorem dX0_buildGuides_61 : decode cX0_buildGuides 61 = .ok (.iload 5, 2) := by decide +kernel
theorem dX0_buildGuides_63 : decode cX0_buildGuides 63 = .ok (.iconst 1, 1) := by decide +kernel
theorem dX0_buildGuides_64 : decode cX0_buildGuides 64 = .ok (.isub, 1) := by decide +kernel
theorem dX0_buildGuides_65 : decode cX0_buildGuides 65 = .ok (.iconst 2, 1) := by decide +kernel
theorem dX0_buildGuides_66 : decode cX0_buildGuides 66 = .ok (.invokevirtual 25, 3) := by decide +kernel
theorem dX0_buildGuides_69 : decode cX0_buildGuides 69 = .ok (.invokevirtual 36, 3) := by decide +kernel
theorem dX0_buildGuides_72 : decode cX0_buildGuides 72 = .ok (.aload_n 0, 1) := by decide +kernel
theorem dX0_buildGuides_73 : decode cX0_buildGuides 73 = .ok (.getfield 9, 3) := by decide +kernel
theorem dX0_buildGuides_76 : decode cX0_buildGuides 76 = .ok (.iload 7, 2) := by decide +kernel
theorem dX0_buildGuides_78 : decode cX0_buildGuides 78 = .ok (.iload 8, 2) := by decide +kernel
theorem dX0_buildGuides_80 : decode cX0_buildGuides 80 = .ok (.iload 5, 2) := by decide +kernel
theorem dX0_buildGuides_82 : decode cX0_buildGuides 82 = .ok (.invokevirtual 40, 3) := by decide +kernel
theorem dX0_buildGuides_85 : decode cX0_buildGuides 85 = .ok (.iinc 5 1, 3) := by decide +kernel
theorem dX0_buildGuides_88 : decode cX0_buildGuides 88 = .ok (.iinc 8 1, 3) := by decide +kernel
theorem dX0_buildGuides_91 : decode cX0_buildGuides 91 = .ok (.goto (-58), 3) := by decide +kernel
theorem dX0_buildGuides_94 : decode cX0_buildGuides 94 = .ok (.iload 5, 2) := by decide +kernel
theorem dX0_buildGuides_96 : decode cX0_buildGuides 96 = .ok (.iload_n 3, 1) := by decide +kernel
theorem dX0_buildGuides_97 : decode cX0_buildGuides 97 = .ok (.if_icmp .ge 39, 3) := by decide +kernel
theorem dX0_buildGuides_100 : decode cX0_buildGuides 100 = .ok (.aload_n 0, 1) := by decide +kernel
theorem dX0_buildGuides_101 : decode cX0_buildGuides 101 = .ok (.getfield 9, 3) := by decide +kernel
theorem dX0_buildGuides_104 : decode cX0_buildGuides 104 = .ok (.iload 7, 2) := by decide +kernel
theorem dX0_buildGuides_106 : decode cX0_buildGuides 106 = .ok (.iconst 2, 1) := by decide +kernel
theorem dX0_buildGuides_107 : decode cX0_buildGuides 107 = .ok (.aload_n 0, 1) := by decide +kernel
theorem dX0_buildGuides_108 : decode cX0_buildGuides 108 = .ok (.getfield 9, 3) := by decide +kernel
theorem dX0_buildGuides_111 : decode cX0_buildGuides 111 = .ok (.iload 5, 2) := by decide +kernel
theorem dX0_buildGuides_113 : decode cX0_buildGuides 113 = .ok (.iconst 1, 1) := by decide +kernel
theorem dX0_buildGuides_114 : decode cX0_buildGuides 114 = .ok (.isub, 1) := by decide +kernel
theorem dX0_buildGuides_115 : decode cX0_buildGuides 115 = .ok (.iconst 2, 1) := by decide +kernel
theorem dX0_buildGuides_116 : decode cX0_buildGuides 116 = .ok (.invokevirtual 25, 3) := by decide +kernel
theorem dX0_buildGuides_119 : decode cX0_buildGuides 119 = .ok (.invokevirtual 66, 3) := by decide +kernel
theorem dX0_buildGuides_122 : decode cX0_buildGuides 122 = .ok (.aload_n 0, 1) := by decide +kernel
theorem dX0_buildGuides_123 : decode cX0_buildGuides 123 = .ok (.getfield 9, 3) := by decide +kernel
theorem dX0_buildGuides_126 : decode cX0_buildGuides 126 = .ok (.iload 7, 2) := by decide +kernel
theorem dX0_buildGuides_128 : decode cX0_buildGuides 128 = .ok (.iconst 3, 1) := by decide +kernel
theorem dX0_buildGuides_129 : decode cX0_buildGuides 129 = .ok (.iload 7, 2) := by decide +kernel
theorem dX0_buildGuides_131 : decode cX0_buildGuides 131 = .ok (.iconst 1, 1) := by decide +kernel
theorem dX0_buildGuides_132 : decode cX0_buildGuides 132 = .ok (.iadd, 1) := by decide +kernel
theorem dX0_buildGuides_133 : decode cX0_buildGuides 133 = .ok (.invokevirtual 66, 3) := by decide +kernel
theorem dX0_buildGuides_136 : decode cX0_buildGuides 136 = .ok (.iinc 6 1, 3) := by decide +kernel
theorem dX0_buildGuides_139 : decode cX0_buildGuides 139 = .ok (.goto (-133), 3) := by decide +kernel
theorem dX0_buildGuides_142 : decode cX0_buildGuides 142 = .ok (.aload_n 0, 1) := by decide +kernel
theorem dX0_buildGuides_143 : decode cX0_buildGuides 143 = .ok (.getfield 9, 3) := by decide +kernel
theorem dX0_buildGuides_146 : decode cX0_buildGuides 146 = .ok (.invokevirtual 69, 3) := by decide +kernel
theorem dX0_buildGuides_149 : decode cX0_buildGuides 149 = .ok (.ireturn, 1) := by decide +kernel
def f_X0_buildGuides_p142 (ln : Nat → Nat) (s : dr_S) : Option (Int32 × dr_S) := dr_bnd (f_X4_inUse ln  s) (fun r15 s14 => some (r15, s14))
def f_X0_buildGuides_p136 (ln : Nat → Nat) (kb6 : Int32 → Int32 → Int32 → Int32 → Int32 → dr_S → Option (Int32 × dr_S)) (x1 : Int32) (x3 : Int32) (x4 : Int32) (x5 : Int32) (x6 : Int32) (s : dr_S) : Option (Int32 × dr_S) := dr_let (x6 + 1) (fun y13 => (kb6 x1 x3 x4 x5 y13 s))
def f_X0_buildGuides_p94 (ln : Nat → Nat) (kb6 : Int32 → Int32 → Int32 → Int32 → Int32 → dr_S → Option (Int32 × dr_S)) (x1 : Int32) (x3 : Int32) (x4 : Int32) (x5 : Int32) (x6 : Int32) (x7 : Int32) (s : dr_S) : Option (Int32 × dr_S) := (if x3 ≤ x5 then (f_X0_buildGuides_p136 ln kb6 x1 x3 x4 x5 x6 s) else dr_bnd (f_X4_get ln ((x5 - 1)) 2 s) (fun r10 s9 => dr_bndv (f_X4_set ln x7 2 r10 s9) (fun s11 => dr_bndv (f_X4_set ln x7 3 ((x7 + 1)) s11) (fun s12 => (f_X0_buildGuides_p136 ln kb6 x1 x3 x4 x5 x6 s12)))))
def f_X0_buildGuides_p72 (ln : Nat → Nat) (kb6 : Int32 → Int32 → Int32 → Int32 → Int32 → dr_S → Option (Int32 × dr_S)) (kb33 : Int32 → Int32 → Int32 → Int32 → Int32 → Int32 → Int32 → dr_S → Option (Int32 × dr_S)) (x1 : Int32) (x3 : Int32) (x4 : Int32) (x5 : Int32) (x6 : Int32) (x7 : Int32) (x8 : Int32) (s : dr_S) : Option (Int32 × dr_S) := dr_bndv (f_X4_setChild ln x7 x8 x5 s) (fun s6 => dr_let (x5 + 1) (fun y7 => dr_let (x8 + 1) (fun y8 => (kb33 x1 x3 x4 y7 x6 x7 y8 s6))))
def f_X0_buildGuides_p33 (ln : Nat → Nat) (kb6 : Int32 → Int32 → Int32 → Int32 → Int32 → dr_S → Option (Int32 × dr_S)) : Nat → Int32 → Int32 → Int32 → Int32 → Int32 → Int32 → Int32 → dr_S → Option (Int32 × dr_S)
  | 0, _, _, _, _, _, _, _, _ => none
  | n + 1, x1, x3, x4, x5, x6, x7, x8, s => (if x4 < x8 then (f_X0_buildGuides_p94 ln kb6 x1 x3 x4 x5 x6 x7 s) else (if x3 ≤ x5 then (f_X0_buildGuides_p94 ln kb6 x1 x3 x4 x5 x6 x7 s) else (if x8 ≤ 0 then (f_X0_buildGuides_p72 ln kb6 (f_X0_buildGuides_p33 ln kb6 n) x1 x3 x4 x5 x6 x7 x8 s) else dr_bnd (f_X4_get ln ((x5 - 1)) 2 s) (fun r4 s3 => dr_bndv (f_X4_addHeading ln x7 r4 s3) (fun s5 => (f_X0_buildGuides_p72 ln kb6 (f_X0_buildGuides_p33 ln kb6 n) x1 x3 x4 x5 x6 x7 x8 s5))))))
def f_X0_buildGuides_p6 (ln : Nat → Nat) : Nat → Int32 → Int32 → Int32 → Int32 → Int32 → dr_S → Option (Int32 × dr_S)
  | 0, _, _, _, _, _, _ => none
  | n + 1, x1, x3, x4, x5, x6, s => (if ((256 : Int32) ≤ x6 : Prop) then (f_X0_buildGuides_p142 ln  s) else (if x3 ≤ x5 then (f_X0_buildGuides_p142 ln  s) else dr_bnd (f_X4_open ln x1 s) (fun r2 s1 => (f_X0_buildGuides_p33 ln (f_X0_buildGuides_p6 ln n) dr_N x1 x3 x4 x5 x6 r2 0 s1))))
def f_X0_buildGuides (ln : Nat → Nat) (x1 : Int32) (x2 : Int32) (x3 : Int32) (x4 : Int32) (s : dr_S) : Option (Int32 × dr_S) := (f_X0_buildGuides_p6 ln dr_N x1 x3 x4 x2 0 s)
section
variable {p : Program} {l : Launch} {e : Env} {s0 : State} {m : MethodId} {args : Array Value} {below : List Frame} {meth : Method} {c : Code} {A : Nat → Prop} {D : va_G} {cI cZ : ClassId} {ad ln : Nat → Nat} {L : List Nat}
set_option maxHeartbeats 4000000 in
set_option maxRecDepth 20000 in
theorem w_X0_buildGuides_p142 (E : dr_E p (dr_rm 3) s0 m args meth c 0 0 A s0.heap D cI cZ ad L cX0_buildGuides 9 RX0 (some .int)) (hap : dr_ap ad L) (hN : ∀ x ∈ nd_0, x ∈ L) : ∀ (s : dr_S), dr_G p l e (dr_rm 3) s0 m args below meth c 0 0 A s0.heap D cI cZ ad ln L 9 (dr_Zi D cI cZ ad ln L A below args s0 0 0) 142 [(0, .ref (ad 0))] [] s (f_X0_buildGuides_p142 ln  s) := by
  intro s
  unfold f_X0_buildGuides_p142
  refine g_aload_n E dX0_buildGuides_142 0 rfl ?_
  refine gg_0_9 E (hN 0 (by decide)) dX0_buildGuides_143 ?_
  refine g_cVi E [] rfl (c_X4_inUse hap (fun x h => hN x (ns_4_0 x h))  s) (hN 4 (by decide)) (by decide) rfl rfl mi_X4_inUse msl_X4_inUse mw_X4_inUse rfl ml_0_69 ⟨Nat.le_of_ble_eq_true rfl, Nat.le_of_ble_eq_true rfl⟩ (Nat.le_of_ble_eq_true rfl) dX0_buildGuides_146 (fun r15 s14 => ?_)
  exact g_iret E dX0_buildGuides_149
set_option maxHeartbeats 4000000 in
set_option maxRecDepth 20000 in
theorem w_X0_buildGuides_p136 {kb6 : Int32 → Int32 → Int32 → Int32 → Int32 → dr_S → Option (Int32 × dr_S)} (E : dr_E p (dr_rm 3) s0 m args meth c 0 0 A s0.heap D cI cZ ad L cX0_buildGuides 9 RX0 (some .int)) (hap : dr_ap ad L) (hN : ∀ x ∈ nd_0, x ∈ L) (hkb6 : ∀ (x1 : Int32) (x3 : Int32) (x4 : Int32) (x5 : Int32) (x6 : Int32) (s : dr_S), dr_G p l e (dr_rm 3) s0 m args below meth c 0 0 A s0.heap D cI cZ ad ln L 9 (dr_Zi D cI cZ ad ln L A below args s0 0 0) 6 [(0, .ref (ad 0)), (1, .int x1), (3, .int x3), (4, .int x4), (5, .int x5), (6, .int x6)] [] s (kb6 x1 x3 x4 x5 x6 s)) : ∀ (x1 : Int32) (x3 : Int32) (x4 : Int32) (x5 : Int32) (x6 : Int32) (s : dr_S), dr_G p l e (dr_rm 3) s0 m args below meth c 0 0 A s0.heap D cI cZ ad ln L 9 (dr_Zi D cI cZ ad ln L A below args s0 0 0) 136 [(0, .ref (ad 0)), (1, .int x1), (3, .int x3), (4, .int x4), (5, .int x5), (6, .int x6)] [] s (f_X0_buildGuides_p136 ln kb6 x1 x3 x4 x5 x6 s) := by
  intro x1 x3 x4 x5 x6 s
  unfold f_X0_buildGuides_p136
  refine g_iinc E (lv' := []) (lv'' := fun y13 => [(6, .int y13), (0, .ref (ad 0)), (1, .int x1), (3, .int x3), (4, .int x4), (5, .int x5)]) (v := 1) dX0_buildGuides_136 5 rfl (by decide) (by decide) (fun _ => rfl) (fun y13 => ?_)
  refine g_goto E 6 dX0_buildGuides_139 (by decide) ?_
  refine g_sub [1, 2, 3, 4, 5, 0] rfl ?_
  exact hkb6 x1 x3 x4 x5 y13 s
set_option maxHeartbeats 4000000 in
set_option maxRecDepth 20000 in
theorem w_X0_buildGuides_p94 {kb6 : Int32 → Int32 → Int32 → Int32 → Int32 → dr_S → Option (Int32 × dr_S)} (E : dr_E p (dr_rm 3) s0 m args meth c 0 0 A s0.heap D cI cZ ad L cX0_buildGuides 9 RX0 (some .int)) (hap : dr_ap ad L) (hN : ∀ x ∈ nd_0, x ∈ L) (hkb6 : ∀ (x1 : Int32) (x3 : Int32) (x4 : Int32) (x5 : Int32) (x6 : Int32) (s : dr_S), dr_G p l e (dr_rm 3) s0 m args below meth c 0 0 A s0.heap D cI cZ ad ln L 9 (dr_Zi D cI cZ ad ln L A below args s0 0 0) 6 [(0, .ref (ad 0)), (1, .int x1), (3, .int x3), (4, .int x4), (5, .int x5), (6, .int x6)] [] s (kb6 x1 x3 x4 x5 x6 s)) : ∀ (x1 : Int32) (x3 : Int32) (x4 : Int32) (x5 : Int32) (x6 : Int32) (x7 : Int32) (s : dr_S), dr_G p l e (dr_rm 3) s0 m args below meth c 0 0 A s0.heap D cI cZ ad ln L 9 (dr_Zi D cI cZ ad ln L A below args s0 0 0) 94 [(0, .ref (ad 0)), (1, .int x1), (3, .int x3), (4, .int x4), (5, .int x5), (6, .int x6), (7, .int x7)] [] s (f_X0_buildGuides_p94 ln kb6 x1 x3 x4 x5 x6 x7 s) := by
  intro x1 x3 x4 x5 x6 x7 s
  unfold f_X0_buildGuides_p94
  refine g_iload E dX0_buildGuides_94 4 rfl ?_
  refine g_iload_n E dX0_buildGuides_96 2 rfl ?_
  refine g_icmp_ge E 136 dX0_buildGuides_97 (by decide) ?_ ?_
  · refine g_sub [0, 1, 2, 3, 4, 5] rfl ?_
    exact w_X0_buildGuides_p136 E hap hN hkb6 x1 x3 x4 x5 x6 s
  · refine g_aload_n E dX0_buildGuides_100 0 rfl ?_
    refine gg_0_9 E (hN 0 (by decide)) dX0_buildGuides_101 ?_
    refine g_iload E dX0_buildGuides_104 6 rfl ?_
    refine g_iconst E (v := 2) dX0_buildGuides_106 (by decide) ?_
    refine g_aload_n E dX0_buildGuides_107 0 rfl ?_
    refine gg_0_9 E (hN 0 (by decide)) dX0_buildGuides_108 ?_
    refine g_iload E dX0_buildGuides_111 4 rfl ?_
    refine g_iconst E (v := 1) dX0_buildGuides_113 (by decide) ?_
    refine g_isub E dX0_buildGuides_114 ?_
    refine g_iconst E (v := 2) dX0_buildGuides_115 (by decide) ?_
    refine g_cVi E [.int (x5 - 1), .int 2] rfl (c_X4_get hap (fun x h => hN x (ns_4_0 x h)) ((x5 - 1)) 2 s) (hN 4 (by decide)) (by decide) rfl rfl mi_X4_get msl_X4_get mw_X4_get rfl ml_0_25 ⟨Nat.le_of_ble_eq_true rfl, Nat.le_of_ble_eq_true rfl⟩ (Nat.le_of_ble_eq_true rfl) dX0_buildGuides_116 (fun r10 s9 => ?_)
    refine g_cVv E [.int x7, .int 2, .int r10] rfl (c_X4_set hap (fun x h => hN x (ns_4_0 x h)) x7 2 r10 s9) (hN 4 (by decide)) (by decide) rfl rfl mi_X4_set msl_X4_set mw_X4_set rfl ml_0_66 ⟨Nat.le_of_ble_eq_true rfl, Nat.le_of_ble_eq_true rfl⟩ (Nat.le_of_ble_eq_true rfl) dX0_buildGuides_119 (fun s11 => ?_)
    refine g_aload_n E dX0_buildGuides_122 0 rfl ?_
    refine gg_0_9 E (hN 0 (by decide)) dX0_buildGuides_123 ?_
    refine g_iload E dX0_buildGuides_126 6 rfl ?_
    refine g_iconst E (v := 3) dX0_buildGuides_128 (by decide) ?_
    refine g_iload E dX0_buildGuides_129 6 rfl ?_
    refine g_iconst E (v := 1) dX0_buildGuides_131 (by decide) ?_
    refine g_iadd E dX0_buildGuides_132 ?_
    refine g_cVv E [.int x7, .int 3, .int (x7 + 1)] rfl (c_X4_set hap (fun x h => hN x (ns_4_0 x h)) x7 3 ((x7 + 1)) s11) (hN 4 (by decide)) (by decide) rfl rfl mi_X4_set msl_X4_set mw_X4_set rfl ml_0_66 ⟨Nat.le_of_ble_eq_true rfl, Nat.le_of_ble_eq_true rfl⟩ (Nat.le_of_ble_eq_true rfl) dX0_buildGuides_133 (fun s12 => ?_)
    refine g_sub [0, 1, 2, 3, 4, 5] rfl ?_
    exact w_X0_buildGuides_p136 E hap hN hkb6 x1 x3 x4 x5 x6 s12
set_option maxHeartbeats 4000000 in
set_option maxRecDepth 20000 in
theorem w_X0_buildGuides_p72 {kb6 : Int32 → Int32 → Int32 → Int32 → Int32 → dr_S → Option (Int32 × dr_S)} {kb33 : Int32 → Int32 → Int32 → Int32 → Int32 → Int32 → Int32 → dr_S → Option (Int32 × dr_S)} (E : dr_E p (dr_rm 3) s0 m args meth c 0 0 A s0.heap D cI cZ ad L cX0_buildGuides 9 RX0 (some .int)) (hap : dr_ap ad L) (hN : ∀ x ∈ nd_0, x ∈ L) (hkb6 : ∀ (x1 : Int32) (x3 : Int32) (x4 : Int32) (x5 : Int32) (x6 : Int32) (s : dr_S), dr_G p l e (dr_rm 3) s0 m args below meth c 0 0 A s0.heap D cI cZ ad ln L 9 (dr_Zi D cI cZ ad ln L A below args s0 0 0) 6 [(0, .ref (ad 0)), (1, .int x1), (3, .int x3), (4, .int x4), (5, .int x5), (6, .int x6)] [] s (kb6 x1 x3 x4 x5 x6 s)) (hkb33 : ∀ (x1 : Int32) (x3 : Int32) (x4 : Int32) (x5 : Int32) (x6 : Int32) (x7 : Int32) (x8 : Int32) (s : dr_S), dr_G p l e (dr_rm 3) s0 m args below meth c 0 0 A s0.heap D cI cZ ad ln L 9 (dr_Zi D cI cZ ad ln L A below args s0 0 0) 33 [(0, .ref (ad 0)), (1, .int x1), (3, .int x3), (4, .int x4), (5, .int x5), (6, .int x6), (7, .int x7), (8, .int x8)] [] s (kb33 x1 x3 x4 x5 x6 x7 x8 s)) : ∀ (x1 : Int32) (x3 : Int32) (x4 : Int32) (x5 : Int32) (x6 : Int32) (x7 : Int32) (x8 : Int32) (s : dr_S), dr_G p l e (dr_rm 3) s0 m args below meth c 0 0 A s0.heap D cI cZ ad ln L 9 (dr_Zi D cI cZ ad ln L A below args s0 0 0) 72 [(0, .ref (ad 0)), (1, .int x1), (3, .int x3), (4, .int x4), (5, .int x5), (6, .int x6), (7, .int x7), (8, .int x8)] [] s (f_X0_buildGuides_p72 ln kb6 kb33 x1 x3 x4 x5 x6 x7 x8 s) := by
  intro x1 x3 x4 x5 x6 x7 x8 s
  unfold f_X0_buildGuides_p72
  refine g_aload_n E dX0_buildGuides_72 0 rfl ?_
  refine gg_0_9 E (hN 0 (by decide)) dX0_buildGuides_73 ?_
  refine g_iload E dX0_buildGuides_76 6 rfl ?_
  refine g_iload E dX0_buildGuides_78 7 rfl ?_
  refine g_iload E dX0_buildGuides_80 4 rfl ?_
  refine g_cVv E [.int x7, .int x8, .int x5] rfl (c_X4_setChild hap (fun x h => hN x (ns_4_0 x h)) x7 x8 x5 s) (hN 4 (by decide)) (by decide) rfl rfl mi_X4_setChild msl_X4_setChild mw_X4_setChild rfl ml_0_40 ⟨Nat.le_of_ble_eq_true rfl, Nat.le_of_ble_eq_true rfl⟩ (Nat.le_of_ble_eq_true rfl) dX0_buildGuides_82 (fun s6 => ?_)
  refine g_iinc E (lv' := []) (lv'' := fun y7 => [(5, .int y7), (0, .ref (ad 0)), (1, .int x1), (3, .int x3), (4, .int x4), (6, .int x6), (7, .int x7), (8, .int x8)]) (v := 1) dX0_buildGuides_85 4 rfl (by decide) (by decide) (fun _ => rfl) (fun y7 => ?_)
  refine g_iinc E (lv' := []) (lv'' := fun y8 => [(8, .int y8), (5, .int y7), (0, .ref (ad 0)), (1, .int x1), (3, .int x3), (4, .int x4), (6, .int x6), (7, .int x7)]) (v := 1) dX0_buildGuides_88 7 rfl (by decide) (by decide) (fun _ => rfl) (fun y8 => ?_)
  refine g_goto E 33 dX0_buildGuides_91 (by decide) ?_
  refine g_sub [2, 3, 4, 5, 1, 6, 7, 0] rfl ?_
  exact hkb33 x1 x3 x4 y7 x6 x7 y8 s6
set_option maxHeartbeats 4000000 in
set_option maxRecDepth 20000 in
theorem w_X0_buildGuides_p33 {kb6 : Int32 → Int32 → Int32 → Int32 → Int32 → dr_S → Option (Int32 × dr_S)} (E : dr_E p (dr_rm 3) s0 m args meth c 0 0 A s0.heap D cI cZ ad L cX0_buildGuides 9 RX0 (some .int)) (hap : dr_ap ad L) (hN : ∀ x ∈ nd_0, x ∈ L) (hkb6 : ∀ (x1 : Int32) (x3 : Int32) (x4 : Int32) (x5 : Int32) (x6 : Int32) (s : dr_S), dr_G p l e (dr_rm 3) s0 m args below meth c 0 0 A s0.heap D cI cZ ad ln L 9 (dr_Zi D cI cZ ad ln L A below args s0 0 0) 6 [(0, .ref (ad 0)), (1, .int x1), (3, .int x3), (4, .int x4), (5, .int x5), (6, .int x6)] [] s (kb6 x1 x3 x4 x5 x6 s)) : ∀ (n : Nat) (x1 : Int32) (x3 : Int32) (x4 : Int32) (x5 : Int32) (x6 : Int32) (x7 : Int32) (x8 : Int32) (s : dr_S), dr_G p l e (dr_rm 3) s0 m args below meth c 0 0 A s0.heap D cI cZ ad ln L 9 (dr_Zi D cI cZ ad ln L A below args s0 0 0) 33 [(0, .ref (ad 0)), (1, .int x1), (3, .int x3), (4, .int x4), (5, .int x5), (6, .int x6), (7, .int x7), (8, .int x8)] [] s (f_X0_buildGuides_p33 ln kb6 n x1 x3 x4 x5 x6 x7 x8 s) := by
  intro n
  induction n with
  | zero =>
    intro x1 x3 x4 x5 x6 x7 x8 s
    rw [f_X0_buildGuides_p33]
    exact g_none
  | succ n hkb33 =>
    intro x1 x3 x4 x5 x6 x7 x8 s
    rw [f_X0_buildGuides_p33]
    refine g_iload E dX0_buildGuides_33 7 rfl ?_
    refine g_iload E dX0_buildGuides_35 3 rfl ?_
    refine g_icmp_gt E 94 dX0_buildGuides_37 (by decide) ?_ ?_
    · refine g_sub [0, 1, 2, 3, 4, 5, 6] rfl ?_
      exact w_X0_buildGuides_p94 E hap hN hkb6 x1 x3 x4 x5 x6 x7 s
    · refine g_iload E dX0_buildGuides_40 4 rfl ?_
      refine g_iload_n E dX0_buildGuides_42 2 rfl ?_
      refine g_icmp_ge E 94 dX0_buildGuides_43 (by decide) ?_ ?_
      · refine g_sub [0, 1, 2, 3, 4, 5, 6] rfl ?_
        exact w_X0_buildGuides_p94 E hap hN hkb6 x1 x3 x4 x5 x6 x7 s
      · refine g_iload E dX0_buildGuides_46 7 rfl ?_
        refine g_if_le E 72 dX0_buildGuides_48 (by decide) ?_ ?_
        · refine g_sub [0, 1, 2, 3, 4, 5, 6, 7] rfl ?_
          exact w_X0_buildGuides_p72 E hap hN hkb6 hkb33 x1 x3 x4 x5 x6 x7 x8 s
        · refine g_aload_n E dX0_buildGuides_51 0 rfl ?_
          refine gg_0_9 E (hN 0 (by decide)) dX0_buildGuides_52 ?_
          refine g_iload E dX0_buildGuides_55 6 rfl ?_
          refine g_aload_n E dX0_buildGuides_57 0 rfl ?_
          refine gg_0_9 E (hN 0 (by decide)) dX0_buildGuides_58 ?_
          refine g_iload E dX0_buildGuides_61 4 rfl ?_
          refine g_iconst E (v := 1) dX0_buildGuides_63 (by decide) ?_
          refine g_isub E dX0_buildGuides_64 ?_
          refine g_iconst E (v := 2) dX0_buildGuides_65 (by decide) ?_
          refine g_cVi E [.int (x5 - 1), .int 2] rfl (c_X4_get hap (fun x h => hN x (ns_4_0 x h)) ((x5 - 1)) 2 s) (hN 4 (by decide)) (by decide) rfl rfl mi_X4_get msl_X4_get mw_X4_get rfl ml_0_25 ⟨Nat.le_of_ble_eq_true rfl, Nat.le_of_ble_eq_true rfl⟩ (Nat.le_of_ble_eq_true rfl) dX0_buildGuides_66 (fun r4 s3 => ?_)
          refine g_cVv E [.int x7, .int r4] rfl (c_X4_addHeading hap (fun x h => hN x (ns_4_0 x h)) x7 r4 s3) (hN 4 (by decide)) (by decide) rfl rfl mi_X4_addHeading msl_X4_addHeading mw_X4_addHeading rfl ml_0_36 ⟨Nat.le_of_ble_eq_true rfl, Nat.le_of_ble_eq_true rfl⟩ (Nat.le_of_ble_eq_true rfl) dX0_buildGuides_69 (fun s5 => ?_)
          refine g_sub [0, 1, 2, 3, 4, 5, 6, 7] rfl ?_
          exact w_X0_buildGuides_p72 E hap hN hkb6 hkb33 x1 x3 x4 x5 x6 x7 x8 s5
set_option maxHeartbeats 4000000 in
set_option maxRecDepth 20000 in
theorem w_X0_buildGuides_p6 (E : dr_E p (dr_rm 3) s0 m args meth c 0 0 A s0.heap D cI cZ ad L cX0_buildGuides 9 RX0 (some .int)) (hap : dr_ap ad L) (hN : ∀ x ∈ nd_0, x ∈ L) : ∀ (n : Nat) (x1 : Int32) (x3 : Int32) (x4 : Int32) (x5 : Int32) (x6 : Int32) (s : dr_S), dr_G p l e (dr_rm 3) s0 m args below meth c 0 0 A s0.heap D cI cZ ad ln L 9 (dr_Zi D cI cZ ad ln L A below args s0 0 0) 6 [(0, .ref (ad 0)), (1, .int x1), (3, .int x3), (4, .int x4), (5, .int x5), (6, .int x6)] [] s (f_X0_buildGuides_p6 ln n x1 x3 x4 x5 x6 s) := by
  intro n
  induction n with
  | zero =>
    intro x1 x3 x4 x5 x6 s
    rw [f_X0_buildGuides_p6]
    exact g_none
  | succ n hkb6 =>
    intro x1 x3 x4 x5 x6 s
    rw [f_X0_buildGuides_p6]
    refine g_iload E dX0_buildGuides_6 5 rfl ?_
    refine g_sipush E (v := 256) dX0_buildGuides_8 (by decide) ?_
    refine g_icmp_ge E 142 dX0_buildGuides_11 (by decide) ?_ ?_
    · refine g_sub [0] rfl ?_
      exact w_X0_buildGuides_p142 E hap hN  s
    · refine g_iload E dX0_buildGuides_14 4 rfl ?_
      refine g_iload_n E dX0_buildGuides_16 2 rfl ?_
      refine g_icmp_ge E 142 dX0_buildGuides_17 (by decide) ?_ ?_
      · refine g_sub [0] rfl ?_
        exact w_X0_buildGuides_p142 E hap hN  s
      · refine g_aload_n E dX0_buildGuides_20 0 rfl ?_
        refine gg_0_9 E (hN 0 (by decide)) dX0_buildGuides_21 ?_
        refine g_iload_n E dX0_buildGuides_24 1 rfl ?_
        refine g_cVi E [.int x1] rfl (c_X4_open hap (fun x h => hN x (ns_4_0 x h)) x1 s) (hN 4 (by decide)) (by decide) rfl rfl mi_X4_open msl_X4_open mw_X4_open rfl ml_0_29 ⟨Nat.le_of_ble_eq_true rfl, Nat.le_of_ble_eq_true rfl⟩ (Nat.le_of_ble_eq_true rfl) dX0_buildGuides_25 (fun r2 s1 => ?_)
        refine g_istore E (lv' := [(7, .int r2), (0, .ref (ad 0)), (1, .int x1), (3, .int x3), (4, .int x4), (5, .int x5), (6, .int x6)]) dX0_buildGuides_28 (by decide) rfl ?_
        refine g_iconst E (v := 0) dX0_buildGuides_30 (by decide) ?_
        refine g_istore E (lv' := [(8, .int 0), (7, .int r2), (0, .ref (ad 0)), (1, .int x1), (3, .int x3), (4, .int x4), (5, .int x5), (6, .int x6)]) dX0_buildGuides_31 (by decide) rfl ?_
        refine g_sub [2, 3, 4, 5, 6, 7, 1, 0] rfl ?_
        exact w_X0_buildGuides_p33 E hap hN hkb6 dr_N x1 x3 x4 x5 x6 r2 0 s1
set_option maxHeartbeats 4000000 in
set_option maxRecDepth 20000 in
theorem c_X0_buildGuides (hap : dr_ap ad L) (hN : ∀ x ∈ nd_0, x ∈ L) (x1 : Int32) (x2 : Int32) (x3 : Int32) (x4 : Int32) (s : dr_S) : dr_Mi l D cI cZ ad ln L yX0_buildGuides cX0_buildGuides 9 (some .int) 3 [.ref (ad 0), .int x1, .int x2, .int x3, .int x4] s (f_X0_buildGuides ln x1 x2 x3 x4 s) := by
  refine dr_meti (own := RX0) (by decide) rfl (Nat.le_of_ble_eq_true rfl) hap ?_
  intro p e s0 m args below meth c A E
  unfold f_X0_buildGuides
  refine g_eqL (lv' := [(0, .ref (ad 0)), (1, .int x1), (2, .int x2), (3, .int x3), (4, .int x4)]) rfl ?_
  refine g_iload_n E dX0_buildGuides_0 2 rfl ?_
  refine g_istore E (lv' := [(5, .int x2), (0, .ref (ad 0)), (1, .int x1), (2, .int x2), (3, .int x3), (4, .int x4)]) dX0_buildGuides_1 (by decide) rfl ?_
  refine g_iconst E (v := 0) dX0_buildGuides_3 (by decide) ?_
  refine g_istore E (lv' := [(6, .int 0), (5, .int x2), (0, .ref (ad 0)), (1, .int x1), (2, .int x2), (3, .int x3), (4, .int x4)]) dX0_buildGuides_4 (by decide) rfl ?_
  refine g_sub [2, 3, 5, 6, 1, 0] rfl ?_
  exact w_X0_buildGuides_p6 E hap hN dr_N x1 x3 x4 x2 0 s
end

theorem dX0_buildAnew_0 : decode cX0_buildAnew 0 = .ok (.aload_n 0, 1) := by decide +kernel
theorem dX0_buildAnew_1 : decode cX0_buildAnew 1 = .ok (.getfield 15, 3) := by decide +kernel
theorem dX0_buildAnew_4 : decode cX0_buildAnew 4 = .ok (.invokevirtual 48, 3) := by decide +kernel
theorem dX0_buildAnew_7 : decode cX0_buildAnew 7 = .ok (.istore_n 2, 1) := by decide +kernel
theorem dX0_buildAnew_8 : decode cX0_buildAnew 8 = .ok (.aload_n 0, 1) := by decide +kernel
theorem dX0_buildAnew_9 : decode cX0_buildAnew 9 = .ok (.getfield 9, 3) := by decide +kernel
theorem dX0_buildAnew_12 : decode cX0_buildAnew 12 = .ok (.invokevirtual 53, 3) := by decide +kernel
theorem dX0_buildAnew_15 : decode cX0_buildAnew 15 = .ok (.iconst 0, 1) := by decide +kernel
theorem dX0_buildAnew_16 : decode cX0_buildAnew 16 = .ok (.istore_n 3, 1) := by decide +kernel
theorem dX0_buildAnew_17 : decode cX0_buildAnew 17 = .ok (.aload_n 0, 1) := by decide +kernel
theorem dX0_buildAnew_18 : decode cX0_buildAnew 18 = .ok (.iload_n 2, 1) := by decide +kernel
theorem dX0_buildAnew_19 : decode cX0_buildAnew 19 = .ok (.iload_n 1, 1) := by decide +kernel
theorem dX0_buildAnew_20 : decode cX0_buildAnew 20 = .ok (.invokevirtual 56, 3) := by decide +kernel
theorem dX0_buildAnew_23 : decode cX0_buildAnew 23 = .ok (.istore 4, 2) := by decide +kernel
theorem dX0_buildAnew_25 : decode cX0_buildAnew 25 = .ok (.iconst 1, 1) := by decide +kernel
theorem dX0_buildAnew_26 : decode cX0_buildAnew 26 = .ok (.istore 5, 2) := by decide +kernel
theorem dX0_buildAnew_28 : decode cX0_buildAnew 28 = .ok (.iload 5, 2) := by decide +kernel
theorem dX0_buildAnew_30 : decode cX0_buildAnew 30 = .ok (.sipush 256, 3) := by decide +kernel
theorem dX0_buildAnew_33 : decode cX0_buildAnew 33 = .ok (.if_icmp .ge 36, 3) := by decide +kernel
theorem dX0_buildAnew_36 : decode cX0_buildAnew 36 = .ok (.iload 4, 2) := by decide +kernel
theorem dX0_buildAnew_38 : decode cX0_buildAnew 38 = .ok (.iload_n 3, 1) := by decide +kernel
theorem dX0_buildAnew_39 : decode cX0_buildAnew 39 = .ok (.isub, 1) := by decide +kernel
theorem dX0_buildAnew_40 : decode cX0_buildAnew 40 = .ok (.iconst 1, 1) := by decide +kernel
theorem dX0_buildAnew_41 : decode cX0_buildAnew 41 = .ok (.if_icmp .le 28, 3) := by decide +kernel
theorem dX0_buildAnew_44 : decode cX0_buildAnew 44 = .ok (.aload_n 0, 1) := by decide +kernel
theorem dX0_buildAnew_45 : decode cX0_buildAnew 45 = .ok (.iload 5, 2) := by decide +kernel
theorem dX0_buildAnew_47 : decode cX0_buildAnew 47 = .ok (.iload_n 3, 1) := by decide +kernel
theorem dX0_buildAnew_48 : decode cX0_buildAnew 48 = .ok (.iload 4, 2) := by decide +kernel
theorem dX0_buildAnew_50 : decode cX0_buildAnew 50 = .ok (.iload_n 1, 1) := by decide +kernel
theorem dX0_buildAnew_51 : decode cX0_buildAnew 51 = .ok (.invokevirtual 59, 3) := by decide +kernel
theorem dX0_buildAnew_54 : decode cX0_buildAnew 54 = .ok (.istore 6, 2) := by decide +kernel
theorem dX0_buildAnew_56 : decode cX0_buildAnew 56 = .ok (.iload 4, 2) := by decide +kernel
theorem dX0_buildAnew_58 : decode cX0_buildAnew 58 = .ok (.istore_n 3, 1) := by decide +kernel
theorem dX0_buildAnew_59 : decode cX0_buildAnew 59 = .ok (.iload 6, 2) := by decide +kernel
theorem dX0_buildAnew_61 : decode cX0_buildAnew 61 = .ok (.istore 4, 2) := by decide +kernel
theorem dX0_buildAnew_63 : decode cX0_buildAnew 63 = .ok (.iinc 5 1, 3) := by decide +kernel
theorem dX0_buildAnew_66 : decode cX0_buildAnew 66 = .ok (.goto (-38), 3) := by decide +kernel
theorem dX0_buildAnew_69 : decode cX0_buildAnew 69 = .ok (.aload_n 0, 1) := by decide +kernel
theorem dX0_buildAnew_70 : decode cX0_buildAnew 70 = .ok (.getfield 9, 3) := by decide +kernel
theorem dX0_buildAnew_73 : decode cX0_buildAnew 73 = .ok (.iload_n 3, 1) := by decide +kernel
theorem dX0_buildAnew_74 : decode cX0_buildAnew 74 = .ok (.invokevirtual 44, 3) := by decide +kernel
theorem dX0_buildAnew_77 : decode cX0_buildAnew 77 = .ok (.return_, 1) := by decide +kernel
def f_X0_buildAnew_p69 (ln : Nat → Nat) (x3 : Int32) (s : dr_S) : Option (Int32 × dr_S) := dr_bndv (f_X4_setTop ln x3 s) (fun s9 => some (0, s9))
def f_X0_buildAnew_p28 (ln : Nat → Nat) : Nat → Int32 → Int32 → Int32 → Int32 → dr_S → Option (Int32 × dr_S)
  | 0, _, _, _, _, _ => none
  | n + 1, x1, x3, x4, x5, s => (if ((256 : Int32) ≤ x5 : Prop) then (f_X0_buildAnew_p69 ln x3 s) else (if (x4 - x3) ≤ 1 then (f_X0_buildAnew_p69 ln x3 s) else dr_bnd (f_X0_buildGuides ln x5 x3 x4 x1 s) (fun r7 s6 => dr_let (x5 + 1) (fun y8 => (f_X0_buildAnew_p28 ln n x1 x4 r7 y8 s6)))))
def f_X0_buildAnew (ln : Nat → Nat) (x1 : Int32) (s : dr_S) : Option (Int32 × dr_S) := dr_bnd (f_X1_sort ln  s) (fun r2 s1 => dr_bndv (f_X4_clear ln  s1) (fun s3 => dr_bnd (f_X0_buildLeaves ln r2 x1 s3) (fun r5 s4 => (f_X0_buildAnew_p28 ln dr_N x1 0 r5 1 s4))))
section
variable {p : Program} {l : Launch} {e : Env} {s0 : State} {m : MethodId} {args : Array Value} {below : List Frame} {meth : Method} {c : Code} {A : Nat → Prop} {D : va_G} {cI cZ : ClassId} {ad ln : Nat → Nat} {L : List Nat}
set_option maxHeartbeats 4000000 in
set_option maxRecDepth 20000 in
theorem w_X0_buildAnew_p69 (E : dr_E p (dr_rm 5) s0 m args meth c 0 0 A s0.heap D cI cZ ad L cX0_buildAnew 7 RX0 none) (hap : dr_ap ad L) (hN : ∀ x ∈ nd_0, x ∈ L) : ∀ (x3 : Int32) (s : dr_S), dr_G p l e (dr_rm 5) s0 m args below meth c 0 0 A s0.heap D cI cZ ad ln L 7 (dr_Zv D cI cZ ad ln L A below args s0 0 0) 69 [(0, .ref (ad 0)), (3, .int x3)] [] s (f_X0_buildAnew_p69 ln x3 s) := by
  intro x3 s
  unfold f_X0_buildAnew_p69
  refine g_aload_n E dX0_buildAnew_69 0 rfl ?_
  refine gg_0_9 E (hN 0 (by decide)) dX0_buildAnew_70 ?_
  refine g_iload_n E dX0_buildAnew_73 1 rfl ?_
  refine g_cVv E [.int x3] rfl (c_X4_setTop hap (fun x h => hN x (ns_4_0 x h)) x3 s) (hN 4 (by decide)) (by decide) rfl rfl mi_X4_setTop msl_X4_setTop mw_X4_setTop rfl ml_0_44 ⟨Nat.le_of_ble_eq_true rfl, Nat.le_of_ble_eq_true rfl⟩ (Nat.le_of_ble_eq_true rfl) dX0_buildAnew_74 (fun s9 => ?_)
  exact g_vret E dX0_buildAnew_77
set_option maxHeartbeats 4000000 in
set_option maxRecDepth 20000 in
theorem w_X0_buildAnew_p28 (E : dr_E p (dr_rm 5) s0 m args meth c 0 0 A s0.heap D cI cZ ad L cX0_buildAnew 7 RX0 none) (hap : dr_ap ad L) (hN : ∀ x ∈ nd_0, x ∈ L) : ∀ (n : Nat) (x1 : Int32) (x3 : Int32) (x4 : Int32) (x5 : Int32) (s : dr_S), dr_G p l e (dr_rm 5) s0 m args below meth c 0 0 A s0.heap D cI cZ ad ln L 7 (dr_Zv D cI cZ ad ln L A below args s0 0 0) 28 [(0, .ref (ad 0)), (1, .int x1), (3, .int x3), (4, .int x4), (5, .int x5)] [] s (f_X0_buildAnew_p28 ln n x1 x3 x4 x5 s) := by
  intro n
  induction n with
  | zero =>
    intro x1 x3 x4 x5 s
    rw [f_X0_buildAnew_p28]
    exact g_none
  | succ n hkb28 =>
    intro x1 x3 x4 x5 s
    rw [f_X0_buildAnew_p28]
    refine g_iload E dX0_buildAnew_28 4 rfl ?_
    refine g_sipush E (v := 256) dX0_buildAnew_30 (by decide) ?_
    refine g_icmp_ge E 69 dX0_buildAnew_33 (by decide) ?_ ?_
    · refine g_sub [0, 2] rfl ?_
      exact w_X0_buildAnew_p69 E hap hN x3 s
    · refine g_iload E dX0_buildAnew_36 3 rfl ?_
      refine g_iload_n E dX0_buildAnew_38 2 rfl ?_
      refine g_isub E dX0_buildAnew_39 ?_
      refine g_iconst E (v := 1) dX0_buildAnew_40 (by decide) ?_
      refine g_icmp_le E 69 dX0_buildAnew_41 (by decide) ?_ ?_
      · refine g_sub [0, 2] rfl ?_
        exact w_X0_buildAnew_p69 E hap hN x3 s
      · refine g_aload_n E dX0_buildAnew_44 0 rfl ?_
        refine g_iload E dX0_buildAnew_45 4 rfl ?_
        refine g_iload_n E dX0_buildAnew_47 2 rfl ?_
        refine g_iload E dX0_buildAnew_48 3 rfl ?_
        refine g_iload_n E dX0_buildAnew_50 1 rfl ?_
        refine g_cVi E [.int x5, .int x3, .int x4, .int x1] rfl (c_X0_buildGuides hap hN x5 x3 x4 x1 s) (hN 0 (by decide)) (by decide) rfl rfl mi_X0_buildGuides msl_X0_buildGuides mw_X0_buildGuides rfl ml_0_59 ⟨Nat.le_of_ble_eq_true rfl, Nat.le_of_ble_eq_true rfl⟩ (Nat.le_of_ble_eq_true rfl) dX0_buildAnew_51 (fun r7 s6 => ?_)
        refine g_istore E (lv' := [(6, .int r7), (0, .ref (ad 0)), (1, .int x1), (3, .int x3), (4, .int x4), (5, .int x5)]) dX0_buildAnew_54 (by decide) rfl ?_
        refine g_iload E dX0_buildAnew_56 4 rfl ?_
        refine g_istore_n E (lv' := [(3, .int x4), (6, .int r7), (0, .ref (ad 0)), (1, .int x1), (4, .int x4), (5, .int x5)]) dX0_buildAnew_58 (by decide) rfl ?_
        refine g_iload E dX0_buildAnew_59 1 rfl ?_
        refine g_istore E (lv' := [(4, .int r7), (3, .int x4), (6, .int r7), (0, .ref (ad 0)), (1, .int x1), (5, .int x5)]) dX0_buildAnew_61 (by decide) rfl ?_
        refine g_iinc E (lv' := []) (lv'' := fun y8 => [(5, .int y8), (4, .int r7), (3, .int x4), (6, .int r7), (0, .ref (ad 0)), (1, .int x1)]) (v := 1) dX0_buildAnew_63 5 rfl (by decide) (by decide) (fun _ => rfl) (fun y8 => ?_)
        refine g_goto E 28 dX0_buildAnew_66 (by decide) ?_
        refine g_sub [4, 5, 2, 1, 0] rfl ?_
        exact hkb28 x1 x4 r7 y8 s6
set_option maxHeartbeats 4000000 in
set_option maxRecDepth 20000 in
theorem c_X0_buildAnew (hap : dr_ap ad L) (hN : ∀ x ∈ nd_0, x ∈ L) (x1 : Int32) (s : dr_S) : dr_Mv l D cI cZ ad ln L yX0_buildAnew cX0_buildAnew 7 5 [.ref (ad 0), .int x1] s (f_X0_buildAnew ln x1 s) := by
  refine dr_metv (own := RX0) (by decide) rfl (Nat.le_of_ble_eq_true rfl) hap ?_
  intro p e s0 m args below meth c A E
  unfold f_X0_buildAnew
  refine g_eqL (lv' := [(0, .ref (ad 0)), (1, .int x1)]) rfl ?_
  refine g_aload_n E dX0_buildAnew_0 0 rfl ?_
  refine gg_0_15 E (hN 0 (by decide)) dX0_buildAnew_1 ?_
  refine g_cVi E [] rfl (c_X1_sort hap (fun x h => hN x (ns_1_0 x h))  s) (hN 1 (by decide)) (by decide) rfl rfl mi_X1_sort msl_X1_sort mw_X1_sort rfl ml_0_48 ⟨Nat.le_of_ble_eq_true rfl, Nat.le_of_ble_eq_true rfl⟩ (Nat.le_of_ble_eq_true rfl) dX0_buildAnew_4 (fun r2 s1 => ?_)
  refine g_istore_n E (lv' := [(2, .int r2), (0, .ref (ad 0)), (1, .int x1)]) dX0_buildAnew_7 (by decide) rfl ?_
  refine g_aload_n E dX0_buildAnew_8 1 rfl ?_
  refine gg_0_9 E (hN 0 (by decide)) dX0_buildAnew_9 ?_
  refine g_cVv E [] rfl (c_X4_clear hap (fun x h => hN x (ns_4_0 x h))  s1) (hN 4 (by decide)) (by decide) rfl rfl mi_X4_clear msl_X4_clear mw_X4_clear rfl ml_0_53 ⟨Nat.le_of_ble_eq_true rfl, Nat.le_of_ble_eq_true rfl⟩ (Nat.le_of_ble_eq_true rfl) dX0_buildAnew_12 (fun s3 => ?_)
  refine g_iconst E (v := 0) dX0_buildAnew_15 (by decide) ?_
  refine g_istore_n E (lv' := [(3, .int 0), (2, .int r2), (0, .ref (ad 0)), (1, .int x1)]) dX0_buildAnew_16 (by decide) rfl ?_
  refine g_aload_n E dX0_buildAnew_17 2 rfl ?_
  refine g_iload_n E dX0_buildAnew_18 1 rfl ?_
  refine g_iload_n E dX0_buildAnew_19 3 rfl ?_
  refine g_cVi E [.int r2, .int x1] rfl (c_X0_buildLeaves hap hN r2 x1 s3) (hN 0 (by decide)) (by decide) rfl rfl mi_X0_buildLeaves msl_X0_buildLeaves mw_X0_buildLeaves rfl ml_0_56 ⟨Nat.le_of_ble_eq_true rfl, Nat.le_of_ble_eq_true rfl⟩ (Nat.le_of_ble_eq_true rfl) dX0_buildAnew_20 (fun r5 s4 => ?_)
  refine g_istore E (lv' := [(4, .int r5), (3, .int 0), (2, .int r2), (0, .ref (ad 0)), (1, .int x1)]) dX0_buildAnew_23 (by decide) rfl ?_
  refine g_iconst E (v := 1) dX0_buildAnew_25 (by decide) ?_
  refine g_istore E (lv' := [(5, .int 1), (4, .int r5), (3, .int 0), (2, .int r2), (0, .ref (ad 0)), (1, .int x1)]) dX0_buildAnew_26 (by decide) rfl ?_
  refine g_sub [4, 5, 2, 1, 0] rfl ?_
  exact w_X0_buildAnew_p28 E hap hN dr_N x1 0 r5 1 s4
end

theorem dX1_howMany_0 : decode cX1_howMany 0 = .ok (.iconst 0, 1) := by decide +kernel
theorem dX1_howMany_1 : decode cX1_howMany 1 = .ok (.istore_n 1, 1) := by decide +kernel
theorem dX1_howMany_2 : decode cX1_howMany 2 = .ok (.aload_n 0, 1) := by decide +kernel
theorem dX1_howMany_3 : decode cX1_howMany 3 = .ok (.getfield 19, 3) := by decide +kernel
theorem dX1_howMany_6 : decode cX1_howMany 6 = .ok (.iconst 0, 1) := by decide +kernel
theorem dX1_howMany_7 : decode cX1_howMany 7 = .ok (.invokevirtual 27, 3) := by decide +kernel
theorem dX1_howMany_10 : decode cX1_howMany 10 = .ok (.istore_n 2, 1) := by decide +kernel
theorem dX1_howMany_11 : decode cX1_howMany 11 = .ok (.iconst 0, 1) := by decide +kernel
theorem dX1_howMany_12 : decode cX1_howMany 12 = .ok (.istore_n 3, 1) := by decide +kernel
theorem dX1_howMany_13 : decode cX1_howMany 13 = .ok (.iload_n 3, 1) := by decide +kernel
theorem dX1_howMany_14 : decode cX1_howMany 14 = .ok (.sipush 256, 3) := by decide +kernel
theorem dX1_howMany_17 : decode cX1_howMany 17 = .ok (.if_icmp .ge 36, 3) := by decide +kernel
theorem dX1_howMany_20 : decode cX1_howMany 20 = .ok (.iload_n 2, 1) := by decide +kernel
theorem dX1_howMany_21 : decode cX1_howMany 21 = .ok (.iconst (-1), 1) := by decide +kernel
theorem dX1_howMany_22 : decode cX1_howMany 22 = .ok (.if_icmp .eq 31, 3) := by decide +kernel
theorem dX1_howMany_25 : decode cX1_howMany 25 = .ok (.iload_n 1, 1) := by decide +kernel
theorem dX1_howMany_26 : decode cX1_howMany 26 = .ok (.aload_n 0, 1) := by decide +kernel
theorem dX1_howMany_27 : decode cX1_howMany 27 = .ok (.getfield 19, 3) := by decide +kernel
theorem dX1_howMany_30 : decode cX1_howMany 30 = .ok (.iload_n 2, 1) := by decide +kernel
theorem dX1_howMany_31 : decode cX1_howMany 31 = .ok (.iconst 1, 1) := by decide +kernel
theorem dX1_howMany_32 : decode cX1_howMany 32 = .ok (.invokevirtual 33, 3) := by decide +kernel
theorem dX1_howMany_35 : decode cX1_howMany 35 = .ok (.iadd, 1) := by decide +kernel
theorem dX1_howMany_36 : decode cX1_howMany 36 = .ok (.istore_n 1, 1) := by decide +kernel
theorem dX1_howMany_37 : decode cX1_howMany 37 = .ok (.aload_n 0, 1) := by decide +kernel
theorem dX1_howMany_38 : decode cX1_howMany 38 = .ok (.getfield 19, 3) := by decide +kernel
theorem dX1_howMany_41 : decode cX1_howMany 41 = .ok (.iload_n 2, 1) := by decide +kernel
theorem dX1_howMany_42 : decode cX1_howMany 42 = .ok (.iconst 3, 1) := by decide +kernel
theorem dX1_howMany_43 : decode cX1_howMany 43 = .ok (.invokevirtual 33, 3) := by decide +kernel
theorem dX1_howMany_46 : decode cX1_howMany 46 = .ok (.istore_n 2, 1) := by decide +kernel
theorem dX1_howMany_47 : decode cX1_howMany 47 = .ok (.iinc 3 1, 3) := by decide +kernel
theorem dX1_howMany_50 : decode cX1_howMany 50 = .ok (.goto (-37), 3) := by decide +kernel
theorem dX1_howMany_53 : decode cX1_howMany 53 = .ok (.iload_n 1, 1) := by decide +kernel
theorem dX1_howMany_54 : decode cX1_howMany 54 = .ok (.ireturn, 1) := by decide +kernel
def f_X1_howMany_p13 (ln : Nat → Nat) : Nat → Int32 → Int32 → Int32 → dr_S → Option (Int32 × dr_S)
  | 0, _, _, _, _ => none
  | n + 1, x1, x2, x3, s => (if ((256 : Int32) ≤ x3 : Prop) then some (x1, s) else (if x2 = (-1) then some (x1, s) else dr_bnd (f_X4_get ln x2 1 s) (fun r4 s3 => dr_let (x1 + r4) (fun y5 => dr_bnd (f_X4_get ln x2 3 s3) (fun r7 s6 => dr_let (x3 + 1) (fun y8 => (f_X1_howMany_p13 ln n y5 r7 y8 s6)))))))
def f_X1_howMany (ln : Nat → Nat) (s : dr_S) : Option (Int32 × dr_S) := dr_bnd (f_X4_firstOf ln 0 s) (fun r2 s1 => (f_X1_howMany_p13 ln dr_N 0 r2 0 s1))
section
variable {p : Program} {l : Launch} {e : Env} {s0 : State} {m : MethodId} {args : Array Value} {below : List Frame} {meth : Method} {c : Code} {A : Nat → Prop} {D : va_G} {cI cZ : ClassId} {ad ln : Nat → Nat} {L : List Nat}
set_option maxHeartbeats 4000000 in
set_option maxRecDepth 20000 in
theorem w_X1_howMany_p13 (E : dr_E p (dr_rm 4) s0 m args meth c 0 0 A s0.heap D cI cZ ad L cX1_howMany 4 RX1 (some .int)) (hap : dr_ap ad L) (hN : ∀ x ∈ nd_1, x ∈ L) : ∀ (n : Nat) (x1 : Int32) (x2 : Int32) (x3 : Int32) (s : dr_S), dr_G p l e (dr_rm 4) s0 m args below meth c 0 0 A s0.heap D cI cZ ad ln L 4 (dr_Zi D cI cZ ad ln L A below args s0 0 0) 13 [(0, .ref (ad 1)), (1, .int x1), (2, .int x2), (3, .int x3)] [] s (f_X1_howMany_p13 ln n x1 x2 x3 s) := by
  intro n
  induction n with
  | zero =>
    intro x1 x2 x3 s
    rw [f_X1_howMany_p13]
    exact g_none
  | succ n hkb13 =>
    intro x1 x2 x3 s
    rw [f_X1_howMany_p13]
    refine g_iload_n E dX1_howMany_13 3 rfl ?_
    refine g_sipush E (v := 256) dX1_howMany_14 (by decide) ?_
    refine g_icmp_ge E 53 dX1_howMany_17 (by decide) ?_ ?_
    · refine g_iload_n E dX1_howMany_53 1 rfl ?_
      exact g_iret E dX1_howMany_54
    · refine g_iload_n E dX1_howMany_20 2 rfl ?_
      refine g_iconst E (v := (-1)) dX1_howMany_21 (by decide) ?_
      refine g_icmp_eq E 53 dX1_howMany_22 (by decide) ?_ ?_
      · refine g_iload_n E dX1_howMany_53 1 rfl ?_
        exact g_iret E dX1_howMany_54
      · refine g_iload_n E dX1_howMany_25 1 rfl ?_
        refine g_aload_n E dX1_howMany_26 0 rfl ?_
        refine gg_1_19 E (hN 1 (by decide)) dX1_howMany_27 ?_
        refine g_iload_n E dX1_howMany_30 2 rfl ?_
        refine g_iconst E (v := 1) dX1_howMany_31 (by decide) ?_
        refine g_cVi E [.int x2, .int 1] rfl (c_X4_get hap (fun x h => hN x (ns_4_1 x h)) x2 1 s) (hN 4 (by decide)) (by decide) rfl rfl mi_X4_get msl_X4_get mw_X4_get rfl ml_1_33 ⟨Nat.le_of_ble_eq_true rfl, Nat.le_of_ble_eq_true rfl⟩ (Nat.le_of_ble_eq_true rfl) dX1_howMany_32 (fun r4 s3 => ?_)
        refine g_iadd E dX1_howMany_35 ?_
        refine g_let (fun y5 => ?_)
        refine g_istore_n E (lv' := [(1, .int y5), (0, .ref (ad 1)), (2, .int x2), (3, .int x3)]) dX1_howMany_36 (by decide) rfl ?_
        refine g_aload_n E dX1_howMany_37 1 rfl ?_
        refine gg_1_19 E (hN 1 (by decide)) dX1_howMany_38 ?_
        refine g_iload_n E dX1_howMany_41 2 rfl ?_
        refine g_iconst E (v := 3) dX1_howMany_42 (by decide) ?_
        refine g_cVi E [.int x2, .int 3] rfl (c_X4_get hap (fun x h => hN x (ns_4_1 x h)) x2 3 s3) (hN 4 (by decide)) (by decide) rfl rfl mi_X4_get msl_X4_get mw_X4_get rfl ml_1_33 ⟨Nat.le_of_ble_eq_true rfl, Nat.le_of_ble_eq_true rfl⟩ (Nat.le_of_ble_eq_true rfl) dX1_howMany_43 (fun r7 s6 => ?_)
        refine g_istore_n E (lv' := [(2, .int r7), (1, .int y5), (0, .ref (ad 1)), (3, .int x3)]) dX1_howMany_46 (by decide) rfl ?_
        refine g_iinc E (lv' := []) (lv'' := fun y8 => [(3, .int y8), (2, .int r7), (1, .int y5), (0, .ref (ad 1))]) (v := 1) dX1_howMany_47 3 rfl (by decide) (by decide) (fun _ => rfl) (fun y8 => ?_)
        refine g_goto E 13 dX1_howMany_50 (by decide) ?_
        refine g_sub [3, 2, 1, 0] rfl ?_
        exact hkb13 y5 r7 y8 s6
set_option maxHeartbeats 4000000 in
set_option maxRecDepth 20000 in
theorem c_X1_howMany (hap : dr_ap ad L) (hN : ∀ x ∈ nd_1, x ∈ L) (s : dr_S) : dr_Mi l D cI cZ ad ln L yX1_howMany cX1_howMany 4 (some .int) 4 [.ref (ad 1)] s (f_X1_howMany ln  s) := by
  refine dr_meti (own := RX1) (by decide) rfl (Nat.le_of_ble_eq_true rfl) hap ?_
  intro p e s0 m args below meth c A E
  unfold f_X1_howMany
  refine g_eqL (lv' := [(0, .ref (ad 1))]) rfl ?_
  refine g_iconst E (v := 0) dX1_howMany_0 (by decide) ?_
  refine g_istore_n E (lv' := [(1, .int 0), (0, .ref (ad 1))]) dX1_howMany_1 (by decide) rfl ?_
  refine g_aload_n E dX1_howMany_2 1 rfl ?_
  refine gg_1_19 E (hN 1 (by decide)) dX1_howMany_3 ?_
  refine g_iconst E (v := 0) dX1_howMany_6 (by decide) ?_
  refine g_cVi E [.int 0] rfl (c_X4_firstOf hap (fun x h => hN x (ns_4_1 x h)) 0 s) (hN 4 (by decide)) (by decide) rfl rfl mi_X4_firstOf msl_X4_firstOf mw_X4_firstOf rfl ml_1_27 ⟨Nat.le_of_ble_eq_true rfl, Nat.le_of_ble_eq_true rfl⟩ (Nat.le_of_ble_eq_true rfl) dX1_howMany_7 (fun r2 s1 => ?_)
  refine g_istore_n E (lv' := [(2, .int r2), (1, .int 0), (0, .ref (ad 1))]) dX1_howMany_10 (by decide) rfl ?_
  refine g_iconst E (v := 0) dX1_howMany_11 (by decide) ?_
  refine g_istore_n E (lv' := [(3, .int 0), (2, .int r2), (1, .int 0), (0, .ref (ad 1))]) dX1_howMany_12 (by decide) rfl ?_
  refine g_sub [3, 2, 1, 0] rfl ?_
  exact w_X1_howMany_p13 E hap hN dr_N 0 r2 0 s1
end

theorem dX1_kth_0 : decode cX1_kth 0 = .ok (.iload_n 1, 1) := by decide +kernel
theorem dX1_kth_1 : decode cX1_kth 1 = .ok (.istore_n 2, 1) := by decide +kernel
theorem dX1_kth_2 : decode cX1_kth 2 = .ok (.aload_n 0, 1) := by decide +kernel
theorem dX1_kth_3 : decode cX1_kth 3 = .ok (.getfield 19, 3) := by decide +kernel
theorem dX1_kth_6 : decode cX1_kth 6 = .ok (.iconst 0, 1) := by decide +kernel
theorem dX1_kth_7 : decode cX1_kth 7 = .ok (.invokevirtual 27, 3) := by decide +kernel
theorem dX1_kth_10 : decode cX1_kth 10 = .ok (.istore_n 3, 1) := by decide +kernel
theorem dX1_kth_11 : decode cX1_kth 11 = .ok (.iconst 0, 1) := by decide +kernel
theorem dX1_kth_12 : decode cX1_kth 12 = .ok (.istore 4, 2) := by decide +kernel
theorem dX1_kth_14 : decode cX1_kth 14 = .ok (.iload 4, 2) := by decide +kernel
theorem dX1_kth_16 : decode cX1_kth 16 = .ok (.sipush 256, 3) := by decide +kernel
theorem dX1_kth_19 : decode cX1_kth 19 = .ok (.if_icmp .ge 60, 3) := by decide +kernel
theorem dX1_kth_22 : decode cX1_kth 22 = .ok (.iload_n 3, 1) := by decide +kernel
theorem dX1_kth_23 : decode cX1_kth 23 = .ok (.iconst (-1), 1) := by decide +kernel
theorem dX1_kth_24 : decode cX1_kth 24 = .ok (.if_icmp .eq 55, 3) := by decide +kernel
theorem dX1_kth_27 : decode cX1_kth 27 = .ok (.iload_n 2, 1) := by decide +kernel
theorem dX1_kth_28 : decode cX1_kth 28 = .ok (.ifCond .lt 51, 3) := by decide +kernel
theorem dX1_kth_31 : decode cX1_kth 31 = .ok (.aload_n 0, 1) := by decide +kernel
theorem dX1_kth_32 : decode cX1_kth 32 = .ok (.getfield 19, 3) := by decide +kernel
theorem dX1_kth_35 : decode cX1_kth 35 = .ok (.iload_n 3, 1) := by decide +kernel
theorem dX1_kth_36 : decode cX1_kth 36 = .ok (.iconst 1, 1) := by decide +kernel
theorem dX1_kth_37 : decode cX1_kth 37 = .ok (.invokevirtual 33, 3) := by decide +kernel
theorem dX1_kth_40 : decode cX1_kth 40 = .ok (.istore 5, 2) := by decide +kernel
theorem dX1_kth_42 : decode cX1_kth 42 = .ok (.iload_n 2, 1) := by decide +kernel
theorem dX1_kth_43 : decode cX1_kth 43 = .ok (.iload 5, 2) := by decide +kernel
theorem dX1_kth_45 : decode cX1_kth 45 = .ok (.if_icmp .ge 13, 3) := by decide +kernel
theorem dX1_kth_48 : decode cX1_kth 48 = .ok (.aload_n 0, 1) := by decide +kernel
theorem dX1_kth_49 : decode cX1_kth 49 = .ok (.getfield 19, 3) := by decide +kernel
theorem dX1_kth_52 : decode cX1_kth 52 = .ok (.iload_n 3, 1) := by decide +kernel
theorem dX1_kth_53 : decode cX1_kth 53 = .ok (.iload_n 2, 1) := by decide +kernel
theorem dX1_kth_54 : decode cX1_kth 54 = .ok (.invokevirtual 37, 3) := by decide +kernel
theorem dX1_kth_57 : decode cX1_kth 57 = .ok (.ireturn, 1) := by decide +kernel
theorem dX1_kth_58 : decode cX1_kth 58 = .ok (.iload_n 2, 1) := by decide +kernel
theorem dX1_kth_59 : decode cX1_kth 59 = .ok (.iload 5, 2) := by decide +kernel
theorem dX1_kth_61 : decode cX1_kth 61 = .ok (.isub, 1) := by decide +kernel
theorem dX1_kth_62 : decode cX1_kth 62 = .ok (.istore_n 2, 1) := by decide +kernel
theorem dX1_kth_63 : decode cX1_kth 63 = .ok (.aload_n 0, 1) := by decide +kernel
theorem dX1_kth_64 : decode cX1_kth 64 = .ok (.getfield 19, 3) := by decide +kernel
theorem dX1_kth_67 : decode cX1_kth 67 = .ok (.iload_n 3, 1) := by decide +kernel
theorem dX1_kth_68 : decode cX1_kth 68 = .ok (.iconst 3, 1) := by decide +kernel
theorem dX1_kth_69 : decode cX1_kth 69 = .ok (.invokevirtual 33, 3) := by decide +kernel
theorem dX1_kth_72 : decode cX1_kth 72 = .ok (.istore_n 3, 1) := by decide +kernel
theorem dX1_kth_73 : decode cX1_kth 73 = .ok (.iinc 4 1, 3) := by decide +kernel
theorem dX1_kth_76 : decode cX1_kth 76 = .ok (.goto (-62), 3) := by decide +kernel
theorem dX1_kth_79 : decode cX1_kth 79 = .ok (.iconst (-1), 1) := by decide +kernel
theorem dX1_kth_80 : decode cX1_kth 80 = .ok (.ireturn, 1) := by decide +kernel
def f_X1_kth_p14 (ln : Nat → Nat) : Nat → Int32 → Int32 → Int32 → dr_S → Option (Int32 × dr_S)
  | 0, _, _, _, _ => none
  | n + 1, x2, x3, x4, s => (if ((256 : Int32) ≤ x4 : Prop) then some ((-1), s) else (if x3 = (-1) then some ((-1), s) else (if x2 < 0 then some ((-1), s) else dr_bnd (f_X4_get ln x3 1 s) (fun r4 s3 => (if r4 ≤ x2 then dr_let (x2 - r4) (fun y5 => dr_bnd (f_X4_get ln x3 3 s3) (fun r7 s6 => dr_let (x4 + 1) (fun y8 => (f_X1_kth_p14 ln n y5 r7 y8 s6)))) else dr_bnd (f_X4_heading ln x3 x2 s3) (fun r10 s9 => some (r10, s9)))))))
def f_X1_kth (ln : Nat → Nat) (x1 : Int32) (s : dr_S) : Option (Int32 × dr_S) := dr_bnd (f_X4_firstOf ln 0 s) (fun r2 s1 => (f_X1_kth_p14 ln dr_N x1 r2 0 s1))
section
variable {p : Program} {l : Launch} {e : Env} {s0 : State} {m : MethodId} {args : Array Value} {below : List Frame} {meth : Method} {c : Code} {A : Nat → Prop} {D : va_G} {cI cZ : ClassId} {ad ln : Nat → Nat} {L : List Nat}
set_option maxHeartbeats 4000000 in
set_option maxRecDepth 20000 in
theorem w_X1_kth_p14 (E : dr_E p (dr_rm 4) s0 m args meth c 0 0 A s0.heap D cI cZ ad L cX1_kth 6 RX1 (some .int)) (hap : dr_ap ad L) (hN : ∀ x ∈ nd_1, x ∈ L) : ∀ (n : Nat) (x2 : Int32) (x3 : Int32) (x4 : Int32) (s : dr_S), dr_G p l e (dr_rm 4) s0 m args below meth c 0 0 A s0.heap D cI cZ ad ln L 6 (dr_Zi D cI cZ ad ln L A below args s0 0 0) 14 [(0, .ref (ad 1)), (2, .int x2), (3, .int x3), (4, .int x4)] [] s (f_X1_kth_p14 ln n x2 x3 x4 s) := by
  intro n
  induction n with
  | zero =>
    intro x2 x3 x4 s
    rw [f_X1_kth_p14]
    exact g_none
  | succ n hkb14 =>
    intro x2 x3 x4 s
    rw [f_X1_kth_p14]
    refine g_iload E dX1_kth_14 3 rfl ?_
    refine g_sipush E (v := 256) dX1_kth_16 (by decide) ?_
    refine g_icmp_ge E 79 dX1_kth_19 (by decide) ?_ ?_
    · refine g_iconst E (v := (-1)) dX1_kth_79 (by decide) ?_
      exact g_iret E dX1_kth_80
    · refine g_iload_n E dX1_kth_22 2 rfl ?_
      refine g_iconst E (v := (-1)) dX1_kth_23 (by decide) ?_
      refine g_icmp_eq E 79 dX1_kth_24 (by decide) ?_ ?_
      · refine g_iconst E (v := (-1)) dX1_kth_79 (by decide) ?_
        exact g_iret E dX1_kth_80
      · refine g_iload_n E dX1_kth_27 1 rfl ?_
        refine g_if_lt E 79 dX1_kth_28 (by decide) ?_ ?_
        · refine g_iconst E (v := (-1)) dX1_kth_79 (by decide) ?_
          exact g_iret E dX1_kth_80
        · refine g_aload_n E dX1_kth_31 0 rfl ?_
          refine gg_1_19 E (hN 1 (by decide)) dX1_kth_32 ?_
          refine g_iload_n E dX1_kth_35 2 rfl ?_
          refine g_iconst E (v := 1) dX1_kth_36 (by decide) ?_
          refine g_cVi E [.int x3, .int 1] rfl (c_X4_get hap (fun x h => hN x (ns_4_1 x h)) x3 1 s) (hN 4 (by decide)) (by decide) rfl rfl mi_X4_get msl_X4_get mw_X4_get rfl ml_1_33 ⟨Nat.le_of_ble_eq_true rfl, Nat.le_of_ble_eq_true rfl⟩ (Nat.le_of_ble_eq_true rfl) dX1_kth_37 (fun r4 s3 => ?_)
          refine g_istore E (lv' := [(5, .int r4), (0, .ref (ad 1)), (2, .int x2), (3, .int x3), (4, .int x4)]) dX1_kth_40 (by decide) rfl ?_
          refine g_iload_n E dX1_kth_42 2 rfl ?_
          refine g_iload E dX1_kth_43 0 rfl ?_
          refine g_icmp_ge E 58 dX1_kth_45 (by decide) ?_ ?_
          · refine g_iload_n E dX1_kth_58 2 rfl ?_
            refine g_iload E dX1_kth_59 0 rfl ?_
            refine g_isub E dX1_kth_61 ?_
            refine g_let (fun y5 => ?_)
            refine g_istore_n E (lv' := [(2, .int y5), (5, .int r4), (0, .ref (ad 1)), (3, .int x3), (4, .int x4)]) dX1_kth_62 (by decide) rfl ?_
            refine g_aload_n E dX1_kth_63 2 rfl ?_
            refine gg_1_19 E (hN 1 (by decide)) dX1_kth_64 ?_
            refine g_iload_n E dX1_kth_67 3 rfl ?_
            refine g_iconst E (v := 3) dX1_kth_68 (by decide) ?_
            refine g_cVi E [.int x3, .int 3] rfl (c_X4_get hap (fun x h => hN x (ns_4_1 x h)) x3 3 s3) (hN 4 (by decide)) (by decide) rfl rfl mi_X4_get msl_X4_get mw_X4_get rfl ml_1_33 ⟨Nat.le_of_ble_eq_true rfl, Nat.le_of_ble_eq_true rfl⟩ (Nat.le_of_ble_eq_true rfl) dX1_kth_69 (fun r7 s6 => ?_)
            refine g_istore_n E (lv' := [(3, .int r7), (2, .int y5), (5, .int r4), (0, .ref (ad 1)), (4, .int x4)]) dX1_kth_72 (by decide) rfl ?_
            refine g_iinc E (lv' := []) (lv'' := fun y8 => [(4, .int y8), (3, .int r7), (2, .int y5), (5, .int r4), (0, .ref (ad 1))]) (v := 1) dX1_kth_73 4 rfl (by decide) (by decide) (fun _ => rfl) (fun y8 => ?_)
            refine g_goto E 14 dX1_kth_76 (by decide) ?_
            refine g_sub [4, 2, 1, 0] rfl ?_
            exact hkb14 y5 r7 y8 s6
          · refine g_aload_n E dX1_kth_48 1 rfl ?_
            refine gg_1_19 E (hN 1 (by decide)) dX1_kth_49 ?_
            refine g_iload_n E dX1_kth_52 3 rfl ?_
            refine g_iload_n E dX1_kth_53 2 rfl ?_
            refine g_cVi E [.int x3, .int x2] rfl (c_X4_heading hap (fun x h => hN x (ns_4_1 x h)) x3 x2 s3) (hN 4 (by decide)) (by decide) rfl rfl mi_X4_heading msl_X4_heading mw_X4_heading rfl ml_1_37 ⟨Nat.le_of_ble_eq_true rfl, Nat.le_of_ble_eq_true rfl⟩ (Nat.le_of_ble_eq_true rfl) dX1_kth_54 (fun r10 s9 => ?_)
            exact g_iret E dX1_kth_57
set_option maxHeartbeats 4000000 in
set_option maxRecDepth 20000 in
theorem c_X1_kth (hap : dr_ap ad L) (hN : ∀ x ∈ nd_1, x ∈ L) (x1 : Int32) (s : dr_S) : dr_Mi l D cI cZ ad ln L yX1_kth cX1_kth 6 (some .int) 4 [.ref (ad 1), .int x1] s (f_X1_kth ln x1 s) := by
  refine dr_meti (own := RX1) (by decide) rfl (Nat.le_of_ble_eq_true rfl) hap ?_
  intro p e s0 m args below meth c A E
  unfold f_X1_kth
  refine g_eqL (lv' := [(0, .ref (ad 1)), (1, .int x1)]) rfl ?_
  refine g_iload_n E dX1_kth_0 1 rfl ?_
  refine g_istore_n E (lv' := [(2, .int x1), (0, .ref (ad 1)), (1, .int x1)]) dX1_kth_1 (by decide) rfl ?_
  refine g_aload_n E dX1_kth_2 1 rfl ?_
  refine gg_1_19 E (hN 1 (by decide)) dX1_kth_3 ?_
  refine g_iconst E (v := 0) dX1_kth_6 (by decide) ?_
  refine g_cVi E [.int 0] rfl (c_X4_firstOf hap (fun x h => hN x (ns_4_1 x h)) 0 s) (hN 4 (by decide)) (by decide) rfl rfl mi_X4_firstOf msl_X4_firstOf mw_X4_firstOf rfl ml_1_27 ⟨Nat.le_of_ble_eq_true rfl, Nat.le_of_ble_eq_true rfl⟩ (Nat.le_of_ble_eq_true rfl) dX1_kth_7 (fun r2 s1 => ?_)
  refine g_istore_n E (lv' := [(3, .int r2), (2, .int x1), (0, .ref (ad 1)), (1, .int x1)]) dX1_kth_10 (by decide) rfl ?_
  refine g_iconst E (v := 0) dX1_kth_11 (by decide) ?_
  refine g_istore E (lv' := [(4, .int 0), (3, .int r2), (2, .int x1), (0, .ref (ad 1)), (1, .int x1)]) dX1_kth_12 (by decide) rfl ?_
  refine g_sub [3, 2, 1, 0] rfl ?_
  exact w_X1_kth_p14 E hap hN dr_N x1 r2 0 s1
end

theorem dX1_aheadOf_0 : decode cX1_aheadOf 0 = .ok (.iconst 0, 1) := by decide +kernel
theorem dX1_aheadOf_1 : decode cX1_aheadOf 1 = .ok (.istore_n 2, 1) := by decide +kernel
theorem dX1_aheadOf_2 : decode cX1_aheadOf 2 = .ok (.aload_n 0, 1) := by decide +kernel
theorem dX1_aheadOf_3 : decode cX1_aheadOf 3 = .ok (.getfield 19, 3) := by decide +kernel
theorem dX1_aheadOf_6 : decode cX1_aheadOf 6 = .ok (.iconst 0, 1) := by decide +kernel
theorem dX1_aheadOf_7 : decode cX1_aheadOf 7 = .ok (.invokevirtual 27, 3) := by decide +kernel
theorem dX1_aheadOf_10 : decode cX1_aheadOf 10 = .ok (.istore_n 3, 1) := by decide +kernel
theorem dX1_aheadOf_11 : decode cX1_aheadOf 11 = .ok (.iconst 0, 1) := by decide +kernel
theorem dX1_aheadOf_12 : decode cX1_aheadOf 12 = .ok (.istore 4, 2) := by decide +kernel
theorem dX1_aheadOf_14 : decode cX1_aheadOf 14 = .ok (.iload 4, 2) := by decide +kernel
theorem dX1_aheadOf_16 : decode cX1_aheadOf 16 = .ok (.sipush 256, 3) := by decide +kernel
theorem dX1_aheadOf_19 : decode cX1_aheadOf 19 = .ok (.if_icmp .ge 75, 3) := by decide +kernel
theorem dX1_aheadOf_22 : decode cX1_aheadOf 22 = .ok (.iload_n 3, 1) := by decide +kernel
theorem dX1_aheadOf_23 : decode cX1_aheadOf 23 = .ok (.iconst (-1), 1) := by decide +kernel
theorem dX1_aheadOf_24 : decode cX1_aheadOf 24 = .ok (.if_icmp .eq 70, 3) := by decide +kernel
theorem dX1_aheadOf_27 : decode cX1_aheadOf 27 = .ok (.aload_n 0, 1) := by decide +kernel
theorem dX1_aheadOf_28 : decode cX1_aheadOf 28 = .ok (.getfield 19, 3) := by decide +kernel
theorem dX1_aheadOf_31 : decode cX1_aheadOf 31 = .ok (.iload_n 3, 1) := by decide +kernel
theorem dX1_aheadOf_32 : decode cX1_aheadOf 32 = .ok (.iconst 1, 1) := by decide +kernel
theorem dX1_aheadOf_33 : decode cX1_aheadOf 33 = .ok (.invokevirtual 33, 3) := by decide +kernel
theorem dX1_aheadOf_36 : decode cX1_aheadOf 36 = .ok (.istore 5, 2) := by decide +kernel
theorem dX1_aheadOf_38 : decode cX1_aheadOf 38 = .ok (.iconst 0, 1) := by decide +kernel
theorem dX1_aheadOf_39 : decode cX1_aheadOf 39 = .ok (.istore 6, 2) := by decide +kernel
theorem dX1_aheadOf_41 : decode cX1_aheadOf 41 = .ok (.iload 6, 2) := by decide +kernel
theorem dX1_aheadOf_43 : decode cX1_aheadOf 43 = .ok (.iload 5, 2) := by decide +kernel
theorem dX1_aheadOf_45 : decode cX1_aheadOf 45 = .ok (.if_icmp .ge 33, 3) := by decide +kernel
theorem dX1_aheadOf_48 : decode cX1_aheadOf 48 = .ok (.aload_n 0, 1) := by decide +kernel
theorem dX1_aheadOf_49 : decode cX1_aheadOf 49 = .ok (.getfield 23, 3) := by decide +kernel
theorem dX1_aheadOf_52 : decode cX1_aheadOf 52 = .ok (.aload_n 0, 1) := by decide +kernel
theorem dX1_aheadOf_53 : decode cX1_aheadOf 53 = .ok (.getfield 19, 3) := by decide +kernel
theorem dX1_aheadOf_56 : decode cX1_aheadOf 56 = .ok (.iload_n 3, 1) := by decide +kernel
theorem dX1_aheadOf_57 : decode cX1_aheadOf 57 = .ok (.iload 6, 2) := by decide +kernel
theorem dX1_aheadOf_59 : decode cX1_aheadOf 59 = .ok (.invokevirtual 37, 3) := by decide +kernel
theorem dX1_aheadOf_62 : decode cX1_aheadOf 62 = .ok (.iload_n 1, 1) := by decide +kernel
theorem dX1_aheadOf_63 : decode cX1_aheadOf 63 = .ok (.invokevirtual 40, 3) := by decide +kernel
theorem dX1_aheadOf_66 : decode cX1_aheadOf 66 = .ok (.ifCond .eq 6, 3) := by decide +kernel
theorem dX1_aheadOf_69 : decode cX1_aheadOf 69 = .ok (.iinc 2 1, 3) := by decide +kernel
theorem dX1_aheadOf_72 : decode cX1_aheadOf 72 = .ok (.iinc 6 1, 3) := by decide +kernel
theorem dX1_aheadOf_75 : decode cX1_aheadOf 75 = .ok (.goto (-34), 3) := by decide +kernel
theorem dX1_aheadOf_78 : decode cX1_aheadOf 78 = .ok (.aload_n 0, 1) := by decide +kernel
theorem dX1_aheadOf_79 : decode cX1_aheadOf 79 = .ok (.getfield 19, 3) := by decide +kernel
theorem dX1_aheadOf_82 : decode cX1_aheadOf 82 = .ok (.iload_n 3, 1) := by decide +kernel
theorem dX1_aheadOf_83 : decode cX1_aheadOf 83 = .ok (.iconst 3, 1) := by decide +kernel
theorem dX1_aheadOf_84 : decode cX1_aheadOf 84 = .ok (.invokevirtual 33, 3) := by decide +kernel
theorem dX1_aheadOf_87 : decode cX1_aheadOf 87 = .ok (.istore_n 3, 1) := by decide +kernel
theorem dX1_aheadOf_88 : decode cX1_aheadOf 88 = .ok (.iinc 4 1, 3) := by decide +kernel
theorem dX1_aheadOf_91 : decode cX1_aheadOf 91 = .ok (.goto (-77), 3) := by decide +kernel
theorem dX1_aheadOf_94 : decode cX1_aheadOf 94 = .ok (.iload_n 2, 1) := by decide +kernel
theorem dX1_aheadOf_95 : decode cX1_aheadOf 95 = .ok (.ireturn, 1) := by decide +kernel
def f_X1_aheadOf_p72 (ln : Nat → Nat) (kb14 : Int32 → Int32 → Int32 → Int32 → dr_S → Option (Int32 × dr_S)) (kb41 : Int32 → Int32 → Int32 → Int32 → Int32 → Int32 → dr_S → Option (Int32 × dr_S)) (x1 : Int32) (x2 : Int32) (x3 : Int32) (x4 : Int32) (x5 : Int32) (x6 : Int32) (s : dr_S) : Option (Int32 × dr_S) := dr_let (x6 + 1) (fun y13 => (kb41 x1 x2 x3 x4 x5 y13 s))
def f_X1_aheadOf_p41 (ln : Nat → Nat) (kb14 : Int32 → Int32 → Int32 → Int32 → dr_S → Option (Int32 × dr_S)) : Nat → Int32 → Int32 → Int32 → Int32 → Int32 → Int32 → dr_S → Option (Int32 × dr_S)
  | 0, _, _, _, _, _, _, _ => none
  | n + 1, x1, x2, x3, x4, x5, x6, s => (if x5 ≤ x6 then dr_bnd (f_X4_get ln x3 3 s) (fun r6 s5 => dr_let (x4 + 1) (fun y7 => (kb14 x1 x2 r6 y7 s5))) else dr_bnd (f_X4_heading ln x3 x6 s) (fun r9 s8 => dr_bnd (f_X5_isAhead ln r9 x1 s8) (fun r11 s10 => (if r11 = 0 then (f_X1_aheadOf_p72 ln kb14 (f_X1_aheadOf_p41 ln kb14 n) x1 x2 x3 x4 x5 x6 s10) else dr_let (x2 + 1) (fun y12 => (f_X1_aheadOf_p72 ln kb14 (f_X1_aheadOf_p41 ln kb14 n) x1 y12 x3 x4 x5 x6 s10))))))
def f_X1_aheadOf_p14 (ln : Nat → Nat) : Nat → Int32 → Int32 → Int32 → Int32 → dr_S → Option (Int32 × dr_S)
  | 0, _, _, _, _, _ => none
  | n + 1, x1, x2, x3, x4, s => (if ((256 : Int32) ≤ x4 : Prop) then some (x2, s) else (if x3 = (-1) then some (x2, s) else dr_bnd (f_X4_get ln x3 1 s) (fun r4 s3 => (f_X1_aheadOf_p41 ln (f_X1_aheadOf_p14 ln n) dr_N x1 x2 x3 x4 r4 0 s3))))
def f_X1_aheadOf (ln : Nat → Nat) (x1 : Int32) (s : dr_S) : Option (Int32 × dr_S) := dr_bnd (f_X4_firstOf ln 0 s) (fun r2 s1 => (f_X1_aheadOf_p14 ln dr_N x1 0 r2 0 s1))
section
variable {p : Program} {l : Launch} {e : Env} {s0 : State} {m : MethodId} {args : Array Value} {below : List Frame} {meth : Method} {c : Code} {A : Nat → Prop} {D : va_G} {cI cZ : ClassId} {ad ln : Nat → Nat} {L : List Nat}
set_option maxHeartbeats 4000000 in
set_option maxRecDepth 20000 in
theorem w_X1_aheadOf_p72 {kb14 : Int32 → Int32 → Int32 → Int32 → dr_S → Option (Int32 × dr_S)} {kb41 : Int32 → Int32 → Int32 → Int32 → Int32 → Int32 → dr_S → Option (Int32 × dr_S)} (E : dr_E p (dr_rm 4) s0 m args meth c 0 0 A s0.heap D cI cZ ad L cX1_aheadOf 7 RX1 (some .int)) (hap : dr_ap ad L) (hN : ∀ x ∈ nd_1, x ∈ L) (hkb14 : ∀ (x1 : Int32) (x2 : Int32) (x3 : Int32) (x4 : Int32) (s : dr_S), dr_G p l e (dr_rm 4) s0 m args below meth c 0 0 A s0.heap D cI cZ ad ln L 7 (dr_Zi D cI cZ ad ln L A below args s0 0 0) 14 [(0, .ref (ad 1)), (1, .int x1), (2, .int x2), (3, .int x3), (4, .int x4)] [] s (kb14 x1 x2 x3 x4 s)) (hkb41 : ∀ (x1 : Int32) (x2 : Int32) (x3 : Int32) (x4 : Int32) (x5 : Int32) (x6 : Int32) (s : dr_S), dr_G p l e (dr_rm 4) s0 m args below meth c 0 0 A s0.heap D cI cZ ad ln L 7 (dr_Zi D cI cZ ad ln L A below args s0 0 0) 41 [(0, .ref (ad 1)), (1, .int x1), (2, .int x2), (3, .int x3), (4, .int x4), (5, .int x5), (6, .int x6)] [] s (kb41 x1 x2 x3 x4 x5 x6 s)) : ∀ (x1 : Int32) (x2 : Int32) (x3 : Int32) (x4 : Int32) (x5 : Int32) (x6 : Int32) (s : dr_S), dr_G p l e (dr_rm 4) s0 m args below meth c 0 0 A s0.heap D cI cZ ad ln L 7 (dr_Zi D cI cZ ad ln L A below args s0 0 0) 72 [(0, .ref (ad 1)), (1, .int x1), (2, .int x2), (3, .int x3), (4, .int x4), (5, .int x5), (6, .int x6)] [] s (f_X1_aheadOf_p72 ln kb14 kb41 x1 x2 x3 x4 x5 x6 s) := by
  intro x1 x2 x3 x4 x5 x6 s
  unfold f_X1_aheadOf_p72
  refine g_iinc E (lv' := []) (lv'' := fun y13 => [(6, .int y13), (0, .ref (ad 1)), (1, .int x1), (2, .int x2), (3, .int x3), (4, .int x4), (5, .int x5)]) (v := 1) dX1_aheadOf_72 6 rfl (by decide) (by decide) (fun _ => rfl) (fun y13 => ?_)
  refine g_goto E 41 dX1_aheadOf_75 (by decide) ?_
  refine g_sub [1, 2, 3, 4, 5, 6, 0] rfl ?_
  exact hkb41 x1 x2 x3 x4 x5 y13 s
set_option maxHeartbeats 4000000 in
set_option maxRecDepth 20000 in
theorem w_X1_aheadOf_p41 {kb14 : Int32 → Int32 → Int32 → Int32 → dr_S → Option (Int32 × dr_S)} (E : dr_E p (dr_rm 4) s0 m args meth c 0 0 A s0.heap D cI cZ ad L cX1_aheadOf 7 RX1 (some .int)) (hap : dr_ap ad L) (hN : ∀ x ∈ nd_1, x ∈ L) (hkb14 : ∀ (x1 : Int32) (x2 : Int32) (x3 : Int32) (x4 : Int32) (s : dr_S), dr_G p l e (dr_rm 4) s0 m args below meth c 0 0 A s0.heap D cI cZ ad ln L 7 (dr_Zi D cI cZ ad ln L A below args s0 0 0) 14 [(0, .ref (ad 1)), (1, .int x1), (2, .int x2), (3, .int x3), (4, .int x4)] [] s (kb14 x1 x2 x3 x4 s)) : ∀ (n : Nat) (x1 : Int32) (x2 : Int32) (x3 : Int32) (x4 : Int32) (x5 : Int32) (x6 : Int32) (s : dr_S), dr_G p l e (dr_rm 4) s0 m args below meth c 0 0 A s0.heap D cI cZ ad ln L 7 (dr_Zi D cI cZ ad ln L A below args s0 0 0) 41 [(0, .ref (ad 1)), (1, .int x1), (2, .int x2), (3, .int x3), (4, .int x4), (5, .int x5), (6, .int x6)] [] s (f_X1_aheadOf_p41 ln kb14 n x1 x2 x3 x4 x5 x6 s) := by
  intro n
  induction n with
  | zero =>
    intro x1 x2 x3 x4 x5 x6 s
    rw [f_X1_aheadOf_p41]
    exact g_none
  | succ n hkb41 =>
    intro x1 x2 x3 x4 x5 x6 s
    rw [f_X1_aheadOf_p41]
    refine g_iload E dX1_aheadOf_41 6 rfl ?_
    refine g_iload E dX1_aheadOf_43 5 rfl ?_
    refine g_icmp_ge E 78 dX1_aheadOf_45 (by decide) ?_ ?_
    · refine g_aload_n E dX1_aheadOf_78 0 rfl ?_
      refine gg_1_19 E (hN 1 (by decide)) dX1_aheadOf_79 ?_
      refine g_iload_n E dX1_aheadOf_82 3 rfl ?_
      refine g_iconst E (v := 3) dX1_aheadOf_83 (by decide) ?_
      refine g_cVi E [.int x3, .int 3] rfl (c_X4_get hap (fun x h => hN x (ns_4_1 x h)) x3 3 s) (hN 4 (by decide)) (by decide) rfl rfl mi_X4_get msl_X4_get mw_X4_get rfl ml_1_33 ⟨Nat.le_of_ble_eq_true rfl, Nat.le_of_ble_eq_true rfl⟩ (Nat.le_of_ble_eq_true rfl) dX1_aheadOf_84 (fun r6 s5 => ?_)
      refine g_istore_n E (lv' := [(3, .int r6), (0, .ref (ad 1)), (1, .int x1), (2, .int x2), (4, .int x4), (5, .int x5), (6, .int x6)]) dX1_aheadOf_87 (by decide) rfl ?_
      refine g_iinc E (lv' := []) (lv'' := fun y7 => [(4, .int y7), (3, .int r6), (0, .ref (ad 1)), (1, .int x1), (2, .int x2), (5, .int x5), (6, .int x6)]) (v := 1) dX1_aheadOf_88 4 rfl (by decide) (by decide) (fun _ => rfl) (fun y7 => ?_)
      refine g_goto E 14 dX1_aheadOf_91 (by decide) ?_
      refine g_sub [2, 3, 4, 1, 0] rfl ?_
      exact hkb14 x1 x2 r6 y7 s5
    · refine g_aload_n E dX1_aheadOf_48 0 rfl ?_
      refine gg_1_23 E (hN 1 (by decide)) dX1_aheadOf_49 ?_
      refine g_aload_n E dX1_aheadOf_52 0 rfl ?_
      refine gg_1_19 E (hN 1 (by decide)) dX1_aheadOf_53 ?_
      refine g_iload_n E dX1_aheadOf_56 3 rfl ?_
      refine g_iload E dX1_aheadOf_57 6 rfl ?_
      refine g_cVi E [.int x3, .int x6] rfl (c_X4_heading hap (fun x h => hN x (ns_4_1 x h)) x3 x6 s) (hN 4 (by decide)) (by decide) rfl rfl mi_X4_heading msl_X4_heading mw_X4_heading rfl ml_1_37 ⟨Nat.le_of_ble_eq_true rfl, Nat.le_of_ble_eq_true rfl⟩ (Nat.le_of_ble_eq_true rfl) dX1_aheadOf_59 (fun r9 s8 => ?_)
      refine g_iload_n E dX1_aheadOf_62 1 rfl ?_
      refine g_cVi E [.int r9, .int x1] rfl (c_X5_isAhead hap (fun x h => hN x (ns_5_1 x h)) r9 x1 s8) (hN 5 (by decide)) (by decide) rfl rfl mi_X5_isAhead msl_X5_isAhead mw_X5_isAhead rfl ml_1_40 ⟨Nat.le_of_ble_eq_true rfl, Nat.le_of_ble_eq_true rfl⟩ (Nat.le_of_ble_eq_true rfl) dX1_aheadOf_63 (fun r11 s10 => ?_)
      refine g_if_eq E 72 dX1_aheadOf_66 (by decide) ?_ ?_
      · refine g_sub [0, 1, 2, 3, 4, 5, 6] rfl ?_
        exact w_X1_aheadOf_p72 E hap hN hkb14 hkb41 x1 x2 x3 x4 x5 x6 s10
      · refine g_iinc E (lv' := []) (lv'' := fun y12 => [(2, .int y12), (0, .ref (ad 1)), (1, .int x1), (3, .int x3), (4, .int x4), (5, .int x5), (6, .int x6)]) (v := 1) dX1_aheadOf_69 2 rfl (by decide) (by decide) (fun _ => rfl) (fun y12 => ?_)
        refine g_sub [1, 2, 0, 3, 4, 5, 6] rfl ?_
        exact w_X1_aheadOf_p72 E hap hN hkb14 hkb41 x1 y12 x3 x4 x5 x6 s10
set_option maxHeartbeats 4000000 in
set_option maxRecDepth 20000 in
theorem w_X1_aheadOf_p14 (E : dr_E p (dr_rm 4) s0 m args meth c 0 0 A s0.heap D cI cZ ad L cX1_aheadOf 7 RX1 (some .int)) (hap : dr_ap ad L) (hN : ∀ x ∈ nd_1, x ∈ L) : ∀ (n : Nat) (x1 : Int32) (x2 : Int32) (x3 : Int32) (x4 : Int32) (s : dr_S), dr_G p l e (dr_rm 4) s0 m args below meth c 0 0 A s0.heap D cI cZ ad ln L 7 (dr_Zi D cI cZ ad ln L A below args s0 0 0) 14 [(0, .ref (ad 1)), (1, .int x1), (2, .int x2), (3, .int x3), (4, .int x4)] [] s (f_X1_aheadOf_p14 ln n x1 x2 x3 x4 s) := by
  intro n
  induction n with
  | zero =>
    intro x1 x2 x3 x4 s
    rw [f_X1_aheadOf_p14]
    exact g_none
  | succ n hkb14 =>
    intro x1 x2 x3 x4 s
    rw [f_X1_aheadOf_p14]
    refine g_iload E dX1_aheadOf_14 4 rfl ?_
    refine g_sipush E (v := 256) dX1_aheadOf_16 (by decide) ?_
    refine g_icmp_ge E 94 dX1_aheadOf_19 (by decide) ?_ ?_
    · refine g_iload_n E dX1_aheadOf_94 2 rfl ?_
      exact g_iret E dX1_aheadOf_95
    · refine g_iload_n E dX1_aheadOf_22 3 rfl ?_
      refine g_iconst E (v := (-1)) dX1_aheadOf_23 (by decide) ?_
      refine g_icmp_eq E 94 dX1_aheadOf_24 (by decide) ?_ ?_
      · refine g_iload_n E dX1_aheadOf_94 2 rfl ?_
        exact g_iret E dX1_aheadOf_95
      · refine g_aload_n E dX1_aheadOf_27 0 rfl ?_
        refine gg_1_19 E (hN 1 (by decide)) dX1_aheadOf_28 ?_
        refine g_iload_n E dX1_aheadOf_31 3 rfl ?_
        refine g_iconst E (v := 1) dX1_aheadOf_32 (by decide) ?_
        refine g_cVi E [.int x3, .int 1] rfl (c_X4_get hap (fun x h => hN x (ns_4_1 x h)) x3 1 s) (hN 4 (by decide)) (by decide) rfl rfl mi_X4_get msl_X4_get mw_X4_get rfl ml_1_33 ⟨Nat.le_of_ble_eq_true rfl, Nat.le_of_ble_eq_true rfl⟩ (Nat.le_of_ble_eq_true rfl) dX1_aheadOf_33 (fun r4 s3 => ?_)
        refine g_istore E (lv' := [(5, .int r4), (0, .ref (ad 1)), (1, .int x1), (2, .int x2), (3, .int x3), (4, .int x4)]) dX1_aheadOf_36 (by decide) rfl ?_
        refine g_iconst E (v := 0) dX1_aheadOf_38 (by decide) ?_
        refine g_istore E (lv' := [(6, .int 0), (5, .int r4), (0, .ref (ad 1)), (1, .int x1), (2, .int x2), (3, .int x3), (4, .int x4)]) dX1_aheadOf_39 (by decide) rfl ?_
        refine g_sub [2, 3, 4, 5, 6, 1, 0] rfl ?_
        exact w_X1_aheadOf_p41 E hap hN hkb14 dr_N x1 x2 x3 x4 r4 0 s3
set_option maxHeartbeats 4000000 in
set_option maxRecDepth 20000 in
theorem c_X1_aheadOf (hap : dr_ap ad L) (hN : ∀ x ∈ nd_1, x ∈ L) (x1 : Int32) (s : dr_S) : dr_Mi l D cI cZ ad ln L yX1_aheadOf cX1_aheadOf 7 (some .int) 4 [.ref (ad 1), .int x1] s (f_X1_aheadOf ln x1 s) := by
  refine dr_meti (own := RX1) (by decide) rfl (Nat.le_of_ble_eq_true rfl) hap ?_
  intro p e s0 m args below meth c A E
  unfold f_X1_aheadOf
  refine g_eqL (lv' := [(0, .ref (ad 1)), (1, .int x1)]) rfl ?_
  refine g_iconst E (v := 0) dX1_aheadOf_0 (by decide) ?_
  refine g_istore_n E (lv' := [(2, .int 0), (0, .ref (ad 1)), (1, .int x1)]) dX1_aheadOf_1 (by decide) rfl ?_
  refine g_aload_n E dX1_aheadOf_2 1 rfl ?_
  refine gg_1_19 E (hN 1 (by decide)) dX1_aheadOf_3 ?_
  refine g_iconst E (v := 0) dX1_aheadOf_6 (by decide) ?_
  refine g_cVi E [.int 0] rfl (c_X4_firstOf hap (fun x h => hN x (ns_4_1 x h)) 0 s) (hN 4 (by decide)) (by decide) rfl rfl mi_X4_firstOf msl_X4_firstOf mw_X4_firstOf rfl ml_1_27 ⟨Nat.le_of_ble_eq_true rfl, Nat.le_of_ble_eq_true rfl⟩ (Nat.le_of_ble_eq_true rfl) dX1_aheadOf_7 (fun r2 s1 => ?_)
  refine g_istore_n E (lv' := [(3, .int r2), (2, .int 0), (0, .ref (ad 1)), (1, .int x1)]) dX1_aheadOf_10 (by decide) rfl ?_
  refine g_iconst E (v := 0) dX1_aheadOf_11 (by decide) ?_
  refine g_istore E (lv' := [(4, .int 0), (3, .int r2), (2, .int 0), (0, .ref (ad 1)), (1, .int x1)]) dX1_aheadOf_12 (by decide) rfl ?_
  refine g_sub [3, 4, 2, 1, 0] rfl ?_
  exact w_X1_aheadOf_p14 E hap hN dr_N x1 0 r2 0 s1
end

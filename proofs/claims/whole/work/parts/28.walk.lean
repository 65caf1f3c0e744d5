theorem dX12_count_0 : decode cX12_count 0 = .ok (.iconst 0, 1) := by decide +kernel
theorem dX12_count_1 : decode cX12_count 1 = .ok (.istore_n 2, 1) := by decide +kernel
theorem dX12_count_2 : decode cX12_count 2 = .ok (.iload_n 1, 1) := by decide +kernel
theorem dX12_count_3 : decode cX12_count 3 = .ok (.tableswitch 128 0 8 #[49, 54, 59, 64, 69, 74, 83, 88, 123], 49) := by decide +kernel
theorem dX12_count_52 : decode cX12_count 52 = .ok (.aload_n 0, 1) := by decide +kernel
theorem dX12_count_53 : decode cX12_count 53 = .ok (.getfield 152, 3) := by decide +kernel
theorem dX12_count_56 : decode cX12_count 56 = .ok (.ireturn, 1) := by decide +kernel
theorem dX12_count_57 : decode cX12_count 57 = .ok (.aload_n 0, 1) := by decide +kernel
theorem dX12_count_58 : decode cX12_count 58 = .ok (.getfield 199, 3) := by decide +kernel
theorem dX12_count_61 : decode cX12_count 61 = .ok (.ireturn, 1) := by decide +kernel
theorem dX12_count_62 : decode cX12_count 62 = .ok (.aload_n 0, 1) := by decide +kernel
theorem dX12_count_63 : decode cX12_count 63 = .ok (.getfield 175, 3) := by decide +kernel
theorem dX12_count_66 : decode cX12_count 66 = .ok (.ireturn, 1) := by decide +kernel
theorem dX12_count_67 : decode cX12_count 67 = .ok (.aload_n 0, 1) := by decide +kernel
theorem dX12_count_68 : decode cX12_count 68 = .ok (.getfield 202, 3) := by decide +kernel
theorem dX12_count_71 : decode cX12_count 71 = .ok (.ireturn, 1) := by decide +kernel
theorem dX12_count_72 : decode cX12_count 72 = .ok (.aload_n 0, 1) := by decide +kernel
theorem dX12_count_73 : decode cX12_count 73 = .ok (.invokevirtual 196, 3) := by decide +kernel
theorem dX12_count_76 : decode cX12_count 76 = .ok (.ireturn, 1) := by decide +kernel
theorem dX12_count_77 : decode cX12_count 77 = .ok (.aload_n 0, 1) := by decide +kernel
theorem dX12_count_78 : decode cX12_count 78 = .ok (.invokevirtual 274, 3) := by decide +kernel
theorem dX12_count_81 : decode cX12_count 81 = .ok (.aload_n 0, 1) := by decide +kernel
theorem dX12_count_82 : decode cX12_count 82 = .ok (.getfield 271, 3) := by decide +kernel
theorem dX12_count_85 : decode cX12_count 85 = .ok (.ireturn, 1) := by decide +kernel
theorem dX12_count_86 : decode cX12_count 86 = .ok (.aload_n 0, 1) := by decide +kernel
theorem dX12_count_87 : decode cX12_count 87 = .ok (.invokevirtual 307, 3) := by decide +kernel
theorem dX12_count_90 : decode cX12_count 90 = .ok (.ireturn, 1) := by decide +kernel
theorem dX12_count_91 : decode cX12_count 91 = .ok (.iconst 0, 1) := by decide +kernel
theorem dX12_count_92 : decode cX12_count 92 = .ok (.istore_n 3, 1) := by decide +kernel
theorem dX12_count_93 : decode cX12_count 93 = .ok (.iload_n 3, 1) := by decide +kernel
theorem dX12_count_94 : decode cX12_count 94 = .ok (.sipush 256, 3) := by decide +kernel
theorem dX12_count_97 : decode cX12_count 97 = .ok (.if_icmp .ge 27, 3) := by decide +kernel
theorem dX12_count_100 : decode cX12_count 100 = .ok (.iload_n 2, 1) := by decide +kernel
theorem dX12_count_101 : decode cX12_count 101 = .ok (.aload_n 0, 1) := by decide +kernel
theorem dX12_count_102 : decode cX12_count 102 = .ok (.getfield 38, 3) := by decide +kernel
theorem dX12_count_105 : decode cX12_count 105 = .ok (.iload_n 3, 1) := by decide +kernel
theorem dX12_count_106 : decode cX12_count 106 = .ok (.iaload, 1) := by decide +kernel
theorem dX12_count_107 : decode cX12_count 107 = .ok (.iconst (-1), 1) := by decide +kernel
theorem dX12_count_108 : decode cX12_count 108 = .ok (.if_icmp .ne 7, 3) := by decide +kernel
theorem dX12_count_111 : decode cX12_count 111 = .ok (.iconst 0, 1) := by decide +kernel
theorem dX12_count_112 : decode cX12_count 112 = .ok (.goto 4, 3) := by decide +kernel
theorem dX12_count_115 : decode cX12_count 115 = .ok (.iconst 1, 1) := by decide +kernel
theorem dX12_count_116 : decode cX12_count 116 = .ok (.iadd, 1) := by decide +kernel
theorem dX12_count_117 : decode cX12_count 117 = .ok (.istore_n 2, 1) := by decide +kernel
theorem dX12_count_118 : decode cX12_count 118 = .ok (.iinc 3 1, 3) := by decide +kernel
theorem dX12_count_121 : decode cX12_count 121 = .ok (.goto (-28), 3) := by decide +kernel
theorem dX12_count_124 : decode cX12_count 124 = .ok (.iload_n 2, 1) := by decide +kernel
theorem dX12_count_125 : decode cX12_count 125 = .ok (.ireturn, 1) := by decide +kernel
theorem dX12_count_126 : decode cX12_count 126 = .ok (.aload_n 0, 1) := by decide +kernel
theorem dX12_count_127 : decode cX12_count 127 = .ok (.getfield 178, 3) := by decide +kernel
theorem dX12_count_130 : decode cX12_count 130 = .ok (.ireturn, 1) := by decide +kernel
theorem dX12_count_131 : decode cX12_count 131 = .ok (.iconst (-1), 1) := by decide +kernel
theorem dX12_count_132 : decode cX12_count 132 = .ok (.ireturn, 1) := by decide +kernel
def f_X12_count_p116 (ln : Nat → Nat) (kb93 : Int32 → Int32 → dr_S → Option (Int32 × dr_S)) (x3 : Int32) (z0 : Int32) (z1 : Int32) (s : dr_S) : Option (Int32 × dr_S) := dr_let (z1 + z0) (fun y7 => dr_let (x3 + 1) (fun y8 => (kb93 y7 y8 s)))
def f_X12_count_p93 (ln : Nat → Nat) : Nat → Int32 → Int32 → dr_S → Option (Int32 × dr_S)
  | 0, _, _, _ => none
  | n + 1, x2, x3, s => (if ((256 : Int32) ≤ x3 : Prop) then some (x2, s) else (dr_rd ln s 37 x3).bind (fun v6 => (if v6 = (-1) then (f_X12_count_p116 ln (f_X12_count_p93 ln n) x3 0 x2 s) else (f_X12_count_p116 ln (f_X12_count_p93 ln n) x3 1 x2 s))))
def f_X12_count (ln : Nat → Nat) (x1 : Int32) (s : dr_S) : Option (Int32 × dr_S) := dr_sw x1 0 8 [(some ((s.2 1200), s)), (some ((s.2 1204), s)), (some ((s.2 1226), s)), (some ((s.2 1205), s)), (dr_bnd (f_X12_used ln  s) (fun r2 s1 => some (r2, s1))), (dr_bndv (f_X12_lists ln  s) (fun s3 => some ((s3.2 1242), s3))), (dr_bnd (f_X12_atJobs ln  s) (fun r5 s4 => some (r5, s4))), ((f_X12_count_p93 ln dr_N 0 0 s)), (some ((s.2 1201), s))] (some ((-1), s))
section
variable {p : Program} {l : Launch} {e : Env} {s0 : State} {m : MethodId} {args : Array Value} {below : List Frame} {meth : Method} {c : Code} {A : Nat → Prop} {D : va_G} {cI cZ : ClassId} {ad ln : Nat → Nat} {L : List Nat}
set_option maxHeartbeats 4000000 in
set_option maxRecDepth 20000 in
theorem w_X12_count_p116 {kb93 : Int32 → Int32 → dr_S → Option (Int32 × dr_S)} (E : dr_E p (dr_rm 2) s0 m args meth c 0 0 A s0.heap D cI cZ ad L cX12_count 4 RX12 (some .int)) (hap : dr_ap ad L) (hN : ∀ x ∈ nd_12, x ∈ L) (hkb93 : ∀ (x2 : Int32) (x3 : Int32) (s : dr_S), dr_G p l e (dr_rm 2) s0 m args below meth c 0 0 A s0.heap D cI cZ ad ln L 4 (dr_Zi D cI cZ ad ln L A below args s0 0 0) 93 [(0, .ref (ad 12)), (2, .int x2), (3, .int x3)] [] s (kb93 x2 x3 s)) : ∀ (x3 : Int32) (z0 : Int32) (z1 : Int32) (s : dr_S), dr_G p l e (dr_rm 2) s0 m args below meth c 0 0 A s0.heap D cI cZ ad ln L 4 (dr_Zi D cI cZ ad ln L A below args s0 0 0) 116 [(0, .ref (ad 12)), (3, .int x3)] [.int z0, .int z1] s (f_X12_count_p116 ln kb93 x3 z0 z1 s) := by
  intro x3 z0 z1 s
  unfold f_X12_count_p116
  refine g_iadd E dX12_count_116 ?_
  refine g_let (fun y7 => ?_)
  refine g_istore_n E (lv' := [(2, .int y7), (0, .ref (ad 12)), (3, .int x3)]) dX12_count_117 (by decide) rfl ?_
  refine g_iinc E (lv' := []) (lv'' := fun y8 => [(3, .int y8), (2, .int y7), (0, .ref (ad 12))]) (v := 1) dX12_count_118 2 rfl (by decide) (by decide) (fun _ => rfl) (fun y8 => ?_)
  refine g_goto E 93 dX12_count_121 (by decide) ?_
  refine g_sub [2, 1, 0] rfl ?_
  exact hkb93 y7 y8 s
set_option maxHeartbeats 4000000 in
set_option maxRecDepth 20000 in
theorem w_X12_count_p93 (E : dr_E p (dr_rm 2) s0 m args meth c 0 0 A s0.heap D cI cZ ad L cX12_count 4 RX12 (some .int)) (hap : dr_ap ad L) (hN : ∀ x ∈ nd_12, x ∈ L) : ∀ (n : Nat) (x2 : Int32) (x3 : Int32) (s : dr_S), dr_G p l e (dr_rm 2) s0 m args below meth c 0 0 A s0.heap D cI cZ ad ln L 4 (dr_Zi D cI cZ ad ln L A below args s0 0 0) 93 [(0, .ref (ad 12)), (2, .int x2), (3, .int x3)] [] s (f_X12_count_p93 ln n x2 x3 s) := by
  intro n
  induction n with
  | zero =>
    intro x2 x3 s
    rw [f_X12_count_p93]
    exact g_none
  | succ n hkb93 =>
    intro x2 x3 s
    rw [f_X12_count_p93]
    refine g_iload_n E dX12_count_93 2 rfl ?_
    refine g_sipush E (v := 256) dX12_count_94 (by decide) ?_
    refine g_icmp_ge E 124 dX12_count_97 (by decide) ?_ ?_
    · refine g_iload_n E dX12_count_124 1 rfl ?_
      exact g_iret E dX12_count_125
    · refine g_iload_n E dX12_count_100 1 rfl ?_
      refine g_aload_n E dX12_count_101 0 rfl ?_
      refine gg_12_38 E (hN 12 (by decide)) dX12_count_102 ?_
      refine g_iload_n E dX12_count_105 2 rfl ?_
      refine g_iaload E (hN 37 (by decide)) (by decide) rfl dX12_count_106 (fun v6 => ?_)
      refine g_iconst E (v := (-1)) dX12_count_107 (by decide) ?_
      refine g_icmp_ne E 115 dX12_count_108 (by decide) ?_ ?_
      · refine g_iconst E (v := 1) dX12_count_115 (by decide) ?_
        refine g_sub [0, 2] rfl ?_
        exact w_X12_count_p116 E hap hN hkb93 x3 1 x2 s
      · refine g_iconst E (v := 0) dX12_count_111 (by decide) ?_
        refine g_goto E 116 dX12_count_112 (by decide) ?_
        refine g_sub [0, 2] rfl ?_
        exact w_X12_count_p116 E hap hN hkb93 x3 0 x2 s
set_option maxHeartbeats 4000000 in
set_option maxRecDepth 20000 in
theorem c_X12_count (hap : dr_ap ad L) (hN : ∀ x ∈ nd_12, x ∈ L) (x1 : Int32) (s : dr_S) : dr_Mi l D cI cZ ad ln L yX12_count cX12_count 4 (some .int) 2 [.ref (ad 12), .int x1] s (f_X12_count ln x1 s) := by
  refine dr_meti (own := RX12) (by decide) rfl (Nat.le_of_ble_eq_true rfl) hap ?_
  intro p e s0 m args below meth c A E
  unfold f_X12_count
  refine g_eqL (lv' := [(0, .ref (ad 12)), (1, .int x1)]) rfl ?_
  refine g_iconst E (v := 0) dX12_count_0 (by decide) ?_
  refine g_istore_n E (lv' := [(2, .int 0), (0, .ref (ad 12)), (1, .int x1)]) dX12_count_1 (by decide) rfl ?_
  refine g_iload_n E dX12_count_2 2 rfl ?_
  refine g_tsw E [(some ((s.2 1200), s)), (some ((s.2 1204), s)), (some ((s.2 1226), s)), (some ((s.2 1205), s)), (dr_bnd (f_X12_used ln  s) (fun r2 s1 => some (r2, s1))), (dr_bndv (f_X12_lists ln  s) (fun s3 => some ((s3.2 1242), s3))), (dr_bnd (f_X12_atJobs ln  s) (fun r5 s4 => some (r5, s4))), ((f_X12_count_p93 ln dr_N 0 0 s)), (some ((s.2 1201), s))] (some ((-1), s)) [52, 57, 62, 67, 72, 77, 86, 91, 126] 131 dX12_count_3 (by decide) (by decide) (by decide) ?_ ?_
  · refine g_iconst E (v := (-1)) dX12_count_131 (by decide) ?_
    exact g_iret E dX12_count_132
  · refine dr_fc ?_ (dr_fc ?_ (dr_fc ?_ (dr_fc ?_ (dr_fc ?_ (dr_fc ?_ (dr_fc ?_ (dr_fc ?_ (dr_fc ?_ dr_fn))))))))
    · refine g_aload_n E dX12_count_52 1 rfl ?_
      refine gg_12_152 E (hN 12 (by decide)) dX12_count_53 ?_
      exact g_iret E dX12_count_56
    · refine g_aload_n E dX12_count_57 1 rfl ?_
      refine gg_12_199 E (hN 12 (by decide)) dX12_count_58 ?_
      exact g_iret E dX12_count_61
    · refine g_aload_n E dX12_count_62 1 rfl ?_
      refine gg_12_175 E (hN 12 (by decide)) dX12_count_63 ?_
      exact g_iret E dX12_count_66
    · refine g_aload_n E dX12_count_67 1 rfl ?_
      refine gg_12_202 E (hN 12 (by decide)) dX12_count_68 ?_
      exact g_iret E dX12_count_71
    · refine g_aload_n E dX12_count_72 1 rfl ?_
      refine g_cVi E [] rfl (c_X12_used hap hN  s) (hN 12 (by decide)) (by decide) rfl rfl mi_X12_used msl_X12_used mw_X12_used rfl ml_12_196 ⟨Nat.le_of_ble_eq_true rfl, Nat.le_of_ble_eq_true rfl⟩ (Nat.le_of_ble_eq_true rfl) dX12_count_73 (fun r2 s1 => ?_)
      exact g_iret E dX12_count_76
    · refine g_aload_n E dX12_count_77 1 rfl ?_
      refine g_cVv E [] rfl (c_X12_lists hap hN  s) (hN 12 (by decide)) (by decide) rfl rfl mi_X12_lists msl_X12_lists mw_X12_lists rfl ml_12_274 ⟨Nat.le_of_ble_eq_true rfl, Nat.le_of_ble_eq_true rfl⟩ (Nat.le_of_ble_eq_true rfl) dX12_count_78 (fun s3 => ?_)
      refine g_aload_n E dX12_count_81 1 rfl ?_
      refine gg_12_271 E (hN 12 (by decide)) dX12_count_82 ?_
      exact g_iret E dX12_count_85
    · refine g_aload_n E dX12_count_86 1 rfl ?_
      refine g_cVi E [] rfl (c_X12_atJobs hap hN  s) (hN 12 (by decide)) (by decide) rfl rfl mi_X12_atJobs msl_X12_atJobs mw_X12_atJobs rfl ml_12_307 ⟨Nat.le_of_ble_eq_true rfl, Nat.le_of_ble_eq_true rfl⟩ (Nat.le_of_ble_eq_true rfl) dX12_count_87 (fun r5 s4 => ?_)
      exact g_iret E dX12_count_90
    · refine g_iconst E (v := 0) dX12_count_91 (by decide) ?_
      refine g_istore_n E (lv' := [(3, .int 0), (2, .int 0), (0, .ref (ad 12)), (1, .int x1)]) dX12_count_92 (by decide) rfl ?_
      refine g_sub [2, 1, 0] rfl ?_
      exact w_X12_count_p93 E hap hN dr_N 0 0 s
    · refine g_aload_n E dX12_count_126 1 rfl ?_
      refine gg_12_178 E (hN 12 (by decide)) dX12_count_127 ?_
      exact g_iret E dX12_count_130
end

theorem dX12_one_0 : decode cX12_one 0 = .ok (.aload_n 0, 1) := by decide +kernel
theorem dX12_one_1 : decode cX12_one 1 = .ok (.dup, 1) := by decide +kernel
theorem dX12_one_2 : decode cX12_one 2 = .ok (.getfield 199, 3) := by decide +kernel
theorem dX12_one_5 : decode cX12_one 5 = .ok (.iconst 1, 1) := by decide +kernel
theorem dX12_one_6 : decode cX12_one 6 = .ok (.iadd, 1) := by decide +kernel
theorem dX12_one_7 : decode cX12_one 7 = .ok (.putfield 199, 3) := by decide +kernel
theorem dX12_one_10 : decode cX12_one 10 = .ok (.aload_n 0, 1) := by decide +kernel
theorem dX12_one_11 : decode cX12_one 11 = .ok (.getfield 92, 3) := by decide +kernel
theorem dX12_one_14 : decode cX12_one 14 = .ok (.aload_n 0, 1) := by decide +kernel
theorem dX12_one_15 : decode cX12_one 15 = .ok (.getfield 50, 3) := by decide +kernel
theorem dX12_one_18 : decode cX12_one 18 = .ok (.iload_n 1, 1) := by decide +kernel
theorem dX12_one_19 : decode cX12_one 19 = .ok (.iaload, 1) := by decide +kernel
theorem dX12_one_20 : decode cX12_one 20 = .ok (.dup2, 1) := by decide +kernel
theorem dX12_one_21 : decode cX12_one 21 = .ok (.iaload, 1) := by decide +kernel
theorem dX12_one_22 : decode cX12_one 22 = .ok (.iconst 1, 1) := by decide +kernel
theorem dX12_one_23 : decode cX12_one 23 = .ok (.iadd, 1) := by decide +kernel
theorem dX12_one_24 : decode cX12_one 24 = .ok (.iastore, 1) := by decide +kernel
theorem dX12_one_25 : decode cX12_one 25 = .ok (.aload_n 0, 1) := by decide +kernel
theorem dX12_one_26 : decode cX12_one 26 = .ok (.getfield 44, 3) := by decide +kernel
theorem dX12_one_29 : decode cX12_one 29 = .ok (.iload_n 1, 1) := by decide +kernel
theorem dX12_one_30 : decode cX12_one 30 = .ok (.iaload, 1) := by decide +kernel
theorem dX12_one_31 : decode cX12_one 31 = .ok (.tableswitch 49 1 3 #[25, 33, 41], 25) := by decide +kernel
theorem dX12_one_56 : decode cX12_one 56 = .ok (.aload_n 0, 1) := by decide +kernel
theorem dX12_one_57 : decode cX12_one 57 = .ok (.iload_n 1, 1) := by decide +kernel
theorem dX12_one_58 : decode cX12_one 58 = .ok (.invokevirtual 256, 3) := by decide +kernel
theorem dX12_one_61 : decode cX12_one 61 = .ok (.goto 24, 3) := by decide +kernel
theorem dX12_one_64 : decode cX12_one 64 = .ok (.aload_n 0, 1) := by decide +kernel
theorem dX12_one_65 : decode cX12_one 65 = .ok (.iload_n 1, 1) := by decide +kernel
theorem dX12_one_66 : decode cX12_one 66 = .ok (.invokevirtual 259, 3) := by decide +kernel
theorem dX12_one_69 : decode cX12_one 69 = .ok (.goto 16, 3) := by decide +kernel
theorem dX12_one_72 : decode cX12_one 72 = .ok (.aload_n 0, 1) := by decide +kernel
theorem dX12_one_73 : decode cX12_one 73 = .ok (.iload_n 1, 1) := by decide +kernel
theorem dX12_one_74 : decode cX12_one 74 = .ok (.invokevirtual 262, 3) := by decide +kernel
theorem dX12_one_77 : decode cX12_one 77 = .ok (.goto 8, 3) := by decide +kernel
theorem dX12_one_80 : decode cX12_one 80 = .ok (.aload_n 0, 1) := by decide +kernel
theorem dX12_one_81 : decode cX12_one 81 = .ok (.iload_n 1, 1) := by decide +kernel
theorem dX12_one_82 : decode cX12_one 82 = .ok (.invokevirtual 265, 3) := by decide +kernel
theorem dX12_one_85 : decode cX12_one 85 = .ok (.return_, 1) := by decide +kernel
def f_X12_one (ln : Nat → Nat) (x1 : Int32) (s : dr_S) : Option (Int32 × dr_S) := dr_letS (dr_pf s 1204 ((s.2 1204) + 1)) (fun s1 => (dr_rd ln s1 41 x1).bind (fun v2 => (dr_rd ln s1 55 v2).bind (fun v3 => (dr_wr ln s1 55 v2 (v3 + 1)).bind (fun s4 => (dr_rd ln s4 39 x1).bind (fun v5 => dr_sw v5 1 3 [(dr_bndv (f_X12_reads ln x1 s4) (fun s7 => some (0, s7))), (dr_bndv (f_X12_holds ln x1 s4) (fun s8 => some (0, s8))), (dr_bndv (f_X12_writes ln x1 s4) (fun s9 => some (0, s9)))] (dr_bndv (f_X12_goesUp ln x1 s4) (fun s6 => some (0, s6))))))))
section
variable {p : Program} {l : Launch} {e : Env} {s0 : State} {m : MethodId} {args : Array Value} {below : List Frame} {meth : Method} {c : Code} {A : Nat → Prop} {D : va_G} {cI cZ : ClassId} {ad ln : Nat → Nat} {L : List Nat}
set_option maxHeartbeats 4000000 in
set_option maxRecDepth 20000 in
theorem c_X12_one (hap : dr_ap ad L) (hN : ∀ x ∈ nd_12, x ∈ L) (x1 : Int32) (s : dr_S) : dr_Mv l D cI cZ ad ln L yX12_one cX12_one 2 5 [.ref (ad 12), .int x1] s (f_X12_one ln x1 s) := by
  refine dr_metv (own := RX12) (by decide) rfl (Nat.le_of_ble_eq_true rfl) hap ?_
  intro p e s0 m args below meth c A E
  unfold f_X12_one
  refine g_eqL (lv' := [(0, .ref (ad 12)), (1, .int x1)]) rfl ?_
  refine g_aload_n E dX12_one_0 0 rfl ?_
  refine g_dup E dX12_one_1 rfl ?_
  refine gg_12_199 E (hN 12 (by decide)) dX12_one_2 ?_
  refine g_iconst E (v := 1) dX12_one_5 (by decide) ?_
  refine g_iadd E dX12_one_6 ?_
  refine gp_12_199 E (hN 12 (by decide)) dX12_one_7 (fun s1 => ?_)
  refine g_aload_n E dX12_one_10 0 rfl ?_
  refine gg_12_92 E (hN 12 (by decide)) dX12_one_11 ?_
  refine g_aload_n E dX12_one_14 0 rfl ?_
  refine gg_12_50 E (hN 12 (by decide)) dX12_one_15 ?_
  refine g_iload_n E dX12_one_18 1 rfl ?_
  refine g_iaload E (hN 41 (by decide)) (by decide) rfl dX12_one_19 (fun v2 => ?_)
  refine g_dup2 E dX12_one_20 rfl rfl ?_
  refine g_iaload E (hN 55 (by decide)) (by decide) rfl dX12_one_21 (fun v3 => ?_)
  refine g_iconst E (v := 1) dX12_one_22 (by decide) ?_
  refine g_iadd E dX12_one_23 ?_
  refine g_iastore E (hN 55 (by decide)) (by decide) rfl dX12_one_24 (fun s4 => ?_)
  refine g_aload_n E dX12_one_25 0 rfl ?_
  refine gg_12_44 E (hN 12 (by decide)) dX12_one_26 ?_
  refine g_iload_n E dX12_one_29 1 rfl ?_
  refine g_iaload E (hN 39 (by decide)) (by decide) rfl dX12_one_30 (fun v5 => ?_)
  refine g_tsw E [(dr_bndv (f_X12_reads ln x1 s4) (fun s7 => some (0, s7))), (dr_bndv (f_X12_holds ln x1 s4) (fun s8 => some (0, s8))), (dr_bndv (f_X12_writes ln x1 s4) (fun s9 => some (0, s9)))] (dr_bndv (f_X12_goesUp ln x1 s4) (fun s6 => some (0, s6))) [56, 64, 72] 80 dX12_one_31 (by decide) (by decide) (by decide) ?_ ?_
  · refine g_aload_n E dX12_one_80 0 rfl ?_
    refine g_iload_n E dX12_one_81 1 rfl ?_
    refine g_cVv E [.int x1] rfl (c_X12_goesUp hap hN x1 s4) (hN 12 (by decide)) (by decide) rfl rfl mi_X12_goesUp msl_X12_goesUp mw_X12_goesUp rfl ml_12_265 ⟨Nat.le_of_ble_eq_true rfl, Nat.le_of_ble_eq_true rfl⟩ (Nat.le_of_ble_eq_true rfl) dX12_one_82 (fun s6 => ?_)
    exact g_vret E dX12_one_85
  · refine dr_fc ?_ (dr_fc ?_ (dr_fc ?_ dr_fn))
    · refine g_aload_n E dX12_one_56 0 rfl ?_
      refine g_iload_n E dX12_one_57 1 rfl ?_
      refine g_cVv E [.int x1] rfl (c_X12_reads hap hN x1 s4) (hN 12 (by decide)) (by decide) rfl rfl mi_X12_reads msl_X12_reads mw_X12_reads rfl ml_12_256 ⟨Nat.le_of_ble_eq_true rfl, Nat.le_of_ble_eq_true rfl⟩ (Nat.le_of_ble_eq_true rfl) dX12_one_58 (fun s7 => ?_)
      refine g_goto E 85 dX12_one_61 (by decide) ?_
      exact g_vret E dX12_one_85
    · refine g_aload_n E dX12_one_64 0 rfl ?_
      refine g_iload_n E dX12_one_65 1 rfl ?_
      refine g_cVv E [.int x1] rfl (c_X12_holds hap hN x1 s4) (hN 12 (by decide)) (by decide) rfl rfl mi_X12_holds msl_X12_holds mw_X12_holds rfl ml_12_259 ⟨Nat.le_of_ble_eq_true rfl, Nat.le_of_ble_eq_true rfl⟩ (Nat.le_of_ble_eq_true rfl) dX12_one_66 (fun s8 => ?_)
      refine g_goto E 85 dX12_one_69 (by decide) ?_
      exact g_vret E dX12_one_85
    · refine g_aload_n E dX12_one_72 0 rfl ?_
      refine g_iload_n E dX12_one_73 1 rfl ?_
      refine g_cVv E [.int x1] rfl (c_X12_writes hap hN x1 s4) (hN 12 (by decide)) (by decide) rfl rfl mi_X12_writes msl_X12_writes mw_X12_writes rfl ml_12_262 ⟨Nat.le_of_ble_eq_true rfl, Nat.le_of_ble_eq_true rfl⟩ (Nat.le_of_ble_eq_true rfl) dX12_one_74 (fun s9 => ?_)
      refine g_goto E 85 dX12_one_77 (by decide) ?_
      exact g_vret E dX12_one_85
end

theorem dX12_step_0 : decode cX12_step 0 = .ok (.iload_n 1, 1) := by decide +kernel
theorem dX12_step_1 : decode cX12_step 1 = .ok (.iconst 0, 1) := by decide +kernel
theorem dX12_step_2 : decode cX12_step 2 = .ok (.iconst 3, 1) := by decide +kernel
theorem dX12_step_3 : decode cX12_step 3 = .ok (.invokestatic 160, 3) := by decide +kernel
theorem dX12_step_6 : decode cX12_step 6 = .ok (.ifCond .eq 22, 3) := by decide +kernel
theorem dX12_step_9 : decode cX12_step 9 = .ok (.aload_n 0, 1) := by decide +kernel
theorem dX12_step_10 : decode cX12_step 10 = .ok (.getfield 44, 3) := by decide +kernel
theorem dX12_step_13 : decode cX12_step 13 = .ok (.iload_n 1, 1) := by decide +kernel
theorem dX12_step_14 : decode cX12_step 14 = .ok (.iaload, 1) := by decide +kernel
theorem dX12_step_15 : decode cX12_step 15 = .ok (.ifCond .eq 13, 3) := by decide +kernel
theorem dX12_step_18 : decode cX12_step 18 = .ok (.iload_n 2, 1) := by decide +kernel
theorem dX12_step_19 : decode cX12_step 19 = .ok (.iconst 1, 1) := by decide +kernel
theorem dX12_step_20 : decode cX12_step 20 = .ok (.bipush 30, 2) := by decide +kernel
theorem dX12_step_22 : decode cX12_step 22 = .ok (.invokestatic 160, 3) := by decide +kernel
theorem dX12_step_25 : decode cX12_step 25 = .ok (.ifCond .ne 5, 3) := by decide +kernel
theorem dX12_step_28 : decode cX12_step 28 = .ok (.iconst (-1), 1) := by decide +kernel
theorem dX12_step_29 : decode cX12_step 29 = .ok (.ireturn, 1) := by decide +kernel
theorem dX12_step_30 : decode cX12_step 30 = .ok (.iconst 0, 1) := by decide +kernel
theorem dX12_step_31 : decode cX12_step 31 = .ok (.istore_n 3, 1) := by decide +kernel
theorem dX12_step_32 : decode cX12_step 32 = .ok (.iload_n 3, 1) := by decide +kernel
theorem dX12_step_33 : decode cX12_step 33 = .ok (.iload_n 2, 1) := by decide +kernel
theorem dX12_step_34 : decode cX12_step 34 = .ok (.if_icmp .ge 23, 3) := by decide +kernel
theorem dX12_step_37 : decode cX12_step 37 = .ok (.aload_n 0, 1) := by decide +kernel
theorem dX12_step_38 : decode cX12_step 38 = .ok (.getfield 44, 3) := by decide +kernel
theorem dX12_step_41 : decode cX12_step 41 = .ok (.iload_n 1, 1) := by decide +kernel
theorem dX12_step_42 : decode cX12_step 42 = .ok (.iaload, 1) := by decide +kernel
theorem dX12_step_43 : decode cX12_step 43 = .ok (.ifCond .eq 14, 3) := by decide +kernel
theorem dX12_step_46 : decode cX12_step 46 = .ok (.aload_n 0, 1) := by decide +kernel
theorem dX12_step_47 : decode cX12_step 47 = .ok (.iload_n 1, 1) := by decide +kernel
theorem dX12_step_48 : decode cX12_step 48 = .ok (.invokevirtual 268, 3) := by decide +kernel
theorem dX12_step_51 : decode cX12_step 51 = .ok (.iinc 3 1, 3) := by decide +kernel
theorem dX12_step_54 : decode cX12_step 54 = .ok (.goto (-22), 3) := by decide +kernel
theorem dX12_step_57 : decode cX12_step 57 = .ok (.iload_n 3, 1) := by decide +kernel
theorem dX12_step_58 : decode cX12_step 58 = .ok (.ireturn, 1) := by decide +kernel
def f_X12_step_p32 (ln : Nat → Nat) : Nat → Int32 → Int32 → Int32 → dr_S → Option (Int32 × dr_S)
  | 0, _, _, _, _ => none
  | n + 1, x1, x2, x3, s => (if x2 ≤ x3 then some (x3, s) else (dr_rd ln s 39 x1).bind (fun v6 => (if v6 = 0 then some (x3, s) else dr_bndv (f_X12_one ln x1 s) (fun s7 => dr_let (x3 + 1) (fun y8 => (f_X12_step_p32 ln n x1 x2 y8 s7))))))
def f_X12_step (ln : Nat → Nat) (x1 : Int32) (x2 : Int32) (s : dr_S) : Option (Int32 × dr_S) := dr_bnd (f_X12_in ln x1 0 3 s) (fun r2 s1 => (if r2 = 0 then some ((-1), s1) else (dr_rd ln s1 39 x1).bind (fun v3 => (if v3 = 0 then some ((-1), s1) else dr_bnd (f_X12_in ln x2 1 30 s1) (fun r5 s4 => (if r5 = 0 then some ((-1), s4) else (f_X12_step_p32 ln dr_N x1 x2 0 s4)))))))
section
variable {p : Program} {l : Launch} {e : Env} {s0 : State} {m : MethodId} {args : Array Value} {below : List Frame} {meth : Method} {c : Code} {A : Nat → Prop} {D : va_G} {cI cZ : ClassId} {ad ln : Nat → Nat} {L : List Nat}
set_option maxHeartbeats 4000000 in
set_option maxRecDepth 20000 in
theorem w_X12_step_p32 (E : dr_E p (dr_rm 6) s0 m args meth c 0 0 A s0.heap D cI cZ ad L cX12_step 4 RX12 (some .int)) (hap : dr_ap ad L) (hN : ∀ x ∈ nd_12, x ∈ L) : ∀ (n : Nat) (x1 : Int32) (x2 : Int32) (x3 : Int32) (s : dr_S), dr_G p l e (dr_rm 6) s0 m args below meth c 0 0 A s0.heap D cI cZ ad ln L 4 (dr_Zi D cI cZ ad ln L A below args s0 0 0) 32 [(0, .ref (ad 12)), (1, .int x1), (2, .int x2), (3, .int x3)] [] s (f_X12_step_p32 ln n x1 x2 x3 s) := by
  intro n
  induction n with
  | zero =>
    intro x1 x2 x3 s
    rw [f_X12_step_p32]
    exact g_none
  | succ n hkb32 =>
    intro x1 x2 x3 s
    rw [f_X12_step_p32]
    refine g_iload_n E dX12_step_32 3 rfl ?_
    refine g_iload_n E dX12_step_33 2 rfl ?_
    refine g_icmp_ge E 57 dX12_step_34 (by decide) ?_ ?_
    · refine g_iload_n E dX12_step_57 3 rfl ?_
      exact g_iret E dX12_step_58
    · refine g_aload_n E dX12_step_37 0 rfl ?_
      refine gg_12_44 E (hN 12 (by decide)) dX12_step_38 ?_
      refine g_iload_n E dX12_step_41 1 rfl ?_
      refine g_iaload E (hN 39 (by decide)) (by decide) rfl dX12_step_42 (fun v6 => ?_)
      refine g_if_eq E 57 dX12_step_43 (by decide) ?_ ?_
      · refine g_iload_n E dX12_step_57 3 rfl ?_
        exact g_iret E dX12_step_58
      · refine g_aload_n E dX12_step_46 0 rfl ?_
        refine g_iload_n E dX12_step_47 1 rfl ?_
        refine g_cVv E [.int x1] rfl (c_X12_one hap hN x1 s) (hN 12 (by decide)) (by decide) rfl rfl mi_X12_one msl_X12_one mw_X12_one rfl ml_12_268 ⟨Nat.le_of_ble_eq_true rfl, Nat.le_of_ble_eq_true rfl⟩ (Nat.le_of_ble_eq_true rfl) dX12_step_48 (fun s7 => ?_)
        refine g_iinc E (lv' := []) (lv'' := fun y8 => [(3, .int y8), (0, .ref (ad 12)), (1, .int x1), (2, .int x2)]) (v := 1) dX12_step_51 3 rfl (by decide) (by decide) (fun _ => rfl) (fun y8 => ?_)
        refine g_goto E 32 dX12_step_54 (by decide) ?_
        refine g_sub [1, 2, 3, 0] rfl ?_
        exact hkb32 x1 x2 y8 s7
set_option maxHeartbeats 4000000 in
set_option maxRecDepth 20000 in
theorem c_X12_step (hap : dr_ap ad L) (hN : ∀ x ∈ nd_12, x ∈ L) (x1 : Int32) (x2 : Int32) (s : dr_S) : dr_Mi l D cI cZ ad ln L yX12_step cX12_step 4 (some .int) 6 [.ref (ad 12), .int x1, .int x2] s (f_X12_step ln x1 x2 s) := by
  refine dr_meti (own := RX12) (by decide) rfl (Nat.le_of_ble_eq_true rfl) hap ?_
  intro p e s0 m args below meth c A E
  unfold f_X12_step
  refine g_eqL (lv' := [(0, .ref (ad 12)), (1, .int x1), (2, .int x2)]) rfl ?_
  refine g_iload_n E dX12_step_0 1 rfl ?_
  refine g_iconst E (v := 0) dX12_step_1 (by decide) ?_
  refine g_iconst E (v := 3) dX12_step_2 (by decide) ?_
  refine g_cSi E [.int x1, .int 0, .int 3] rfl (c_X12_in hap hN x1 0 3 s) ms_X12_in mw_X12_in rfl ml_12_160 ⟨Nat.le_of_ble_eq_true rfl, Nat.le_of_ble_eq_true rfl⟩ (Nat.le_of_ble_eq_true rfl) dX12_step_3 (fun r2 s1 => ?_)
  refine g_if_eq E 28 dX12_step_6 (by decide) ?_ ?_
  · refine g_iconst E (v := (-1)) dX12_step_28 (by decide) ?_
    exact g_iret E dX12_step_29
  · refine g_aload_n E dX12_step_9 0 rfl ?_
    refine gg_12_44 E (hN 12 (by decide)) dX12_step_10 ?_
    refine g_iload_n E dX12_step_13 1 rfl ?_
    refine g_iaload E (hN 39 (by decide)) (by decide) rfl dX12_step_14 (fun v3 => ?_)
    refine g_if_eq E 28 dX12_step_15 (by decide) ?_ ?_
    · refine g_iconst E (v := (-1)) dX12_step_28 (by decide) ?_
      exact g_iret E dX12_step_29
    · refine g_iload_n E dX12_step_18 2 rfl ?_
      refine g_iconst E (v := 1) dX12_step_19 (by decide) ?_
      refine g_bipush E (v := 30) dX12_step_20 (by decide) ?_
      refine g_cSi E [.int x2, .int 1, .int 30] rfl (c_X12_in hap hN x2 1 30 s1) ms_X12_in mw_X12_in rfl ml_12_160 ⟨Nat.le_of_ble_eq_true rfl, Nat.le_of_ble_eq_true rfl⟩ (Nat.le_of_ble_eq_true rfl) dX12_step_22 (fun r5 s4 => ?_)
      refine g_if_ne E 30 dX12_step_25 (by decide) ?_ ?_
      · refine g_iconst E (v := 0) dX12_step_30 (by decide) ?_
        refine g_istore_n E (lv' := [(3, .int 0), (0, .ref (ad 12)), (1, .int x1), (2, .int x2)]) dX12_step_31 (by decide) rfl ?_
        refine g_sub [1, 2, 3, 0] rfl ?_
        exact w_X12_step_p32 E hap hN dr_N x1 x2 0 s4
      · refine g_iconst E (v := (-1)) dX12_step_28 (by decide) ?_
        exact g_iret E dX12_step_29
end

theorem dX12_clerk_0 : decode cX12_clerk 0 = .ok (.iload_n 1, 1) := by decide +kernel
theorem dX12_clerk_1 : decode cX12_clerk 1 = .ok (.iconst 0, 1) := by decide +kernel
theorem dX12_clerk_2 : decode cX12_clerk 2 = .ok (.iconst 3, 1) := by decide +kernel
theorem dX12_clerk_3 : decode cX12_clerk 3 = .ok (.invokestatic 160, 3) := by decide +kernel
theorem dX12_clerk_6 : decode cX12_clerk 6 = .ok (.ifCond .ne 5, 3) := by decide +kernel
theorem dX12_clerk_9 : decode cX12_clerk 9 = .ok (.iconst (-1), 1) := by decide +kernel
theorem dX12_clerk_10 : decode cX12_clerk 10 = .ok (.ireturn, 1) := by decide +kernel
theorem dX12_clerk_11 : decode cX12_clerk 11 = .ok (.iload_n 2, 1) := by decide +kernel
theorem dX12_clerk_12 : decode cX12_clerk 12 = .ok (.tableswitch 109 0 4 #[36, 43, 63, 70, 89], 36) := by decide +kernel
theorem dX12_clerk_48 : decode cX12_clerk 48 = .ok (.aload_n 0, 1) := by decide +kernel
theorem dX12_clerk_49 : decode cX12_clerk 49 = .ok (.getfield 44, 3) := by decide +kernel
theorem dX12_clerk_52 : decode cX12_clerk 52 = .ok (.iload_n 1, 1) := by decide +kernel
theorem dX12_clerk_53 : decode cX12_clerk 53 = .ok (.iaload, 1) := by decide +kernel
theorem dX12_clerk_54 : decode cX12_clerk 54 = .ok (.ireturn, 1) := by decide +kernel
theorem dX12_clerk_55 : decode cX12_clerk 55 = .ok (.aload_n 0, 1) := by decide +kernel
theorem dX12_clerk_56 : decode cX12_clerk 56 = .ok (.getfield 44, 3) := by decide +kernel
theorem dX12_clerk_59 : decode cX12_clerk 59 = .ok (.iload_n 1, 1) := by decide +kernel
theorem dX12_clerk_60 : decode cX12_clerk 60 = .ok (.iaload, 1) := by decide +kernel
theorem dX12_clerk_61 : decode cX12_clerk 61 = .ok (.ifCond .ne 7, 3) := by decide +kernel
theorem dX12_clerk_64 : decode cX12_clerk 64 = .ok (.iconst (-1), 1) := by decide +kernel
theorem dX12_clerk_65 : decode cX12_clerk 65 = .ok (.goto 9, 3) := by decide +kernel
theorem dX12_clerk_68 : decode cX12_clerk 68 = .ok (.aload_n 0, 1) := by decide +kernel
theorem dX12_clerk_69 : decode cX12_clerk 69 = .ok (.getfield 47, 3) := by decide +kernel
theorem dX12_clerk_72 : decode cX12_clerk 72 = .ok (.iload_n 1, 1) := by decide +kernel
theorem dX12_clerk_73 : decode cX12_clerk 73 = .ok (.iaload, 1) := by decide +kernel
theorem dX12_clerk_74 : decode cX12_clerk 74 = .ok (.ireturn, 1) := by decide +kernel
theorem dX12_clerk_75 : decode cX12_clerk 75 = .ok (.aload_n 0, 1) := by decide +kernel
theorem dX12_clerk_76 : decode cX12_clerk 76 = .ok (.getfield 50, 3) := by decide +kernel
theorem dX12_clerk_79 : decode cX12_clerk 79 = .ok (.iload_n 1, 1) := by decide +kernel
theorem dX12_clerk_80 : decode cX12_clerk 80 = .ok (.iaload, 1) := by decide +kernel
theorem dX12_clerk_81 : decode cX12_clerk 81 = .ok (.ireturn, 1) := by decide +kernel
theorem dX12_clerk_82 : decode cX12_clerk 82 = .ok (.aload_n 0, 1) := by decide +kernel
theorem dX12_clerk_83 : decode cX12_clerk 83 = .ok (.getfield 44, 3) := by decide +kernel
theorem dX12_clerk_86 : decode cX12_clerk 86 = .ok (.iload_n 1, 1) := by decide +kernel
theorem dX12_clerk_87 : decode cX12_clerk 87 = .ok (.iaload, 1) := by decide +kernel
theorem dX12_clerk_88 : decode cX12_clerk 88 = .ok (.ifCond .ne 7, 3) := by decide +kernel
theorem dX12_clerk_91 : decode cX12_clerk 91 = .ok (.iconst (-1), 1) := by decide +kernel
theorem dX12_clerk_92 : decode cX12_clerk 92 = .ok (.goto 8, 3) := by decide +kernel
theorem dX12_clerk_95 : decode cX12_clerk 95 = .ok (.aload_n 0, 1) := by decide +kernel
theorem dX12_clerk_96 : decode cX12_clerk 96 = .ok (.iload_n 1, 1) := by decide +kernel
theorem dX12_clerk_97 : decode cX12_clerk 97 = .ok (.invokevirtual 227, 3) := by decide +kernel
theorem dX12_clerk_100 : decode cX12_clerk 100 = .ok (.ireturn, 1) := by decide +kernel
theorem dX12_clerk_101 : decode cX12_clerk 101 = .ok (.aload_n 0, 1) := by decide +kernel
theorem dX12_clerk_102 : decode cX12_clerk 102 = .ok (.getfield 44, 3) := by decide +kernel
theorem dX12_clerk_105 : decode cX12_clerk 105 = .ok (.iload_n 1, 1) := by decide +kernel
theorem dX12_clerk_106 : decode cX12_clerk 106 = .ok (.iaload, 1) := by decide +kernel
theorem dX12_clerk_107 : decode cX12_clerk 107 = .ok (.ifCond .ne 7, 3) := by decide +kernel
theorem dX12_clerk_110 : decode cX12_clerk 110 = .ok (.iconst (-1), 1) := by decide +kernel
theorem dX12_clerk_111 : decode cX12_clerk 111 = .ok (.goto 9, 3) := by decide +kernel
theorem dX12_clerk_114 : decode cX12_clerk 114 = .ok (.aload_n 0, 1) := by decide +kernel
theorem dX12_clerk_115 : decode cX12_clerk 115 = .ok (.getfield 56, 3) := by decide +kernel
theorem dX12_clerk_118 : decode cX12_clerk 118 = .ok (.iload_n 1, 1) := by decide +kernel
theorem dX12_clerk_119 : decode cX12_clerk 119 = .ok (.iaload, 1) := by decide +kernel
theorem dX12_clerk_120 : decode cX12_clerk 120 = .ok (.ireturn, 1) := by decide +kernel
theorem dX12_clerk_121 : decode cX12_clerk 121 = .ok (.iconst (-1), 1) := by decide +kernel
theorem dX12_clerk_122 : decode cX12_clerk 122 = .ok (.ireturn, 1) := by decide +kernel
def f_X12_clerk (ln : Nat → Nat) (x1 : Int32) (x2 : Int32) (s : dr_S) : Option (Int32 × dr_S) := dr_bnd (f_X12_in ln x1 0 3 s) (fun r2 s1 => (if r2 = 0 then some ((-1), s1) else dr_sw x2 0 4 [((dr_rd ln s1 39 x1).bind (fun v3 => some (v3, s1))), ((dr_rd ln s1 39 x1).bind (fun v4 => (if v4 = 0 then some ((-1), s1) else (dr_rd ln s1 40 x1).bind (fun v5 => some (v5, s1))))), ((dr_rd ln s1 41 x1).bind (fun v6 => some (v6, s1))), ((dr_rd ln s1 39 x1).bind (fun v7 => (if v7 = 0 then some ((-1), s1) else dr_bnd (f_X12_looksFor ln x1 s1) (fun r9 s8 => some (r9, s8))))), ((dr_rd ln s1 39 x1).bind (fun v10 => (if v10 = 0 then some ((-1), s1) else (dr_rd ln s1 43 x1).bind (fun v11 => some (v11, s1)))))] (some ((-1), s1))))
section
variable {p : Program} {l : Launch} {e : Env} {s0 : State} {m : MethodId} {args : Array Value} {below : List Frame} {meth : Method} {c : Code} {A : Nat → Prop} {D : va_G} {cI cZ : ClassId} {ad ln : Nat → Nat} {L : List Nat}
set_option maxHeartbeats 4000000 in
set_option maxRecDepth 20000 in
theorem c_X12_clerk (hap : dr_ap ad L) (hN : ∀ x ∈ nd_12, x ∈ L) (x1 : Int32) (x2 : Int32) (s : dr_S) : dr_Mi l D cI cZ ad ln L yX12_clerk cX12_clerk 3 (some .int) 1 [.ref (ad 12), .int x1, .int x2] s (f_X12_clerk ln x1 x2 s) := by
  refine dr_meti (own := RX12) (by decide) rfl (Nat.le_of_ble_eq_true rfl) hap ?_
  intro p e s0 m args below meth c A E
  unfold f_X12_clerk
  refine g_eqL (lv' := [(0, .ref (ad 12)), (1, .int x1), (2, .int x2)]) rfl ?_
  refine g_iload_n E dX12_clerk_0 1 rfl ?_
  refine g_iconst E (v := 0) dX12_clerk_1 (by decide) ?_
  refine g_iconst E (v := 3) dX12_clerk_2 (by decide) ?_
  refine g_cSi E [.int x1, .int 0, .int 3] rfl (c_X12_in hap hN x1 0 3 s) ms_X12_in mw_X12_in rfl ml_12_160 ⟨Nat.le_of_ble_eq_true rfl, Nat.le_of_ble_eq_true rfl⟩ (Nat.le_of_ble_eq_true rfl) dX12_clerk_3 (fun r2 s1 => ?_)
  refine g_if_ne E 11 dX12_clerk_6 (by decide) ?_ ?_
  · refine g_iload_n E dX12_clerk_11 2 rfl ?_
    refine g_tsw E [((dr_rd ln s1 39 x1).bind (fun v3 => some (v3, s1))), ((dr_rd ln s1 39 x1).bind (fun v4 => (if v4 = 0 then some ((-1), s1) else (dr_rd ln s1 40 x1).bind (fun v5 => some (v5, s1))))), ((dr_rd ln s1 41 x1).bind (fun v6 => some (v6, s1))), ((dr_rd ln s1 39 x1).bind (fun v7 => (if v7 = 0 then some ((-1), s1) else dr_bnd (f_X12_looksFor ln x1 s1) (fun r9 s8 => some (r9, s8))))), ((dr_rd ln s1 39 x1).bind (fun v10 => (if v10 = 0 then some ((-1), s1) else (dr_rd ln s1 43 x1).bind (fun v11 => some (v11, s1)))))] (some ((-1), s1)) [48, 55, 75, 82, 101] 121 dX12_clerk_12 (by decide) (by decide) (by decide) ?_ ?_
    · refine g_iconst E (v := (-1)) dX12_clerk_121 (by decide) ?_
      exact g_iret E dX12_clerk_122
    · refine dr_fc ?_ (dr_fc ?_ (dr_fc ?_ (dr_fc ?_ (dr_fc ?_ dr_fn))))
      · refine g_aload_n E dX12_clerk_48 0 rfl ?_
        refine gg_12_44 E (hN 12 (by decide)) dX12_clerk_49 ?_
        refine g_iload_n E dX12_clerk_52 1 rfl ?_
        refine g_iaload E (hN 39 (by decide)) (by decide) rfl dX12_clerk_53 (fun v3 => ?_)
        exact g_iret E dX12_clerk_54
      · refine g_aload_n E dX12_clerk_55 0 rfl ?_
        refine gg_12_44 E (hN 12 (by decide)) dX12_clerk_56 ?_
        refine g_iload_n E dX12_clerk_59 1 rfl ?_
        refine g_iaload E (hN 39 (by decide)) (by decide) rfl dX12_clerk_60 (fun v4 => ?_)
        refine g_if_ne E 68 dX12_clerk_61 (by decide) ?_ ?_
        · refine g_aload_n E dX12_clerk_68 0 rfl ?_
          refine gg_12_47 E (hN 12 (by decide)) dX12_clerk_69 ?_
          refine g_iload_n E dX12_clerk_72 1 rfl ?_
          refine g_iaload E (hN 40 (by decide)) (by decide) rfl dX12_clerk_73 (fun v5 => ?_)
          exact g_iret E dX12_clerk_74
        · refine g_iconst E (v := (-1)) dX12_clerk_64 (by decide) ?_
          refine g_goto E 74 dX12_clerk_65 (by decide) ?_
          exact g_iret E dX12_clerk_74
      · refine g_aload_n E dX12_clerk_75 0 rfl ?_
        refine gg_12_50 E (hN 12 (by decide)) dX12_clerk_76 ?_
        refine g_iload_n E dX12_clerk_79 1 rfl ?_
        refine g_iaload E (hN 41 (by decide)) (by decide) rfl dX12_clerk_80 (fun v6 => ?_)
        exact g_iret E dX12_clerk_81
      · refine g_aload_n E dX12_clerk_82 0 rfl ?_
        refine gg_12_44 E (hN 12 (by decide)) dX12_clerk_83 ?_
        refine g_iload_n E dX12_clerk_86 1 rfl ?_
        refine g_iaload E (hN 39 (by decide)) (by decide) rfl dX12_clerk_87 (fun v7 => ?_)
        refine g_if_ne E 95 dX12_clerk_88 (by decide) ?_ ?_
        · refine g_aload_n E dX12_clerk_95 0 rfl ?_
          refine g_iload_n E dX12_clerk_96 1 rfl ?_
          refine g_cVi E [.int x1] rfl (c_X12_looksFor hap hN x1 s1) (hN 12 (by decide)) (by decide) rfl rfl mi_X12_looksFor msl_X12_looksFor mw_X12_looksFor rfl ml_12_227 ⟨Nat.le_of_ble_eq_true rfl, Nat.le_of_ble_eq_true rfl⟩ (Nat.le_of_ble_eq_true rfl) dX12_clerk_97 (fun r9 s8 => ?_)
          exact g_iret E dX12_clerk_100
        · refine g_iconst E (v := (-1)) dX12_clerk_91 (by decide) ?_
          refine g_goto E 100 dX12_clerk_92 (by decide) ?_
          exact g_iret E dX12_clerk_100
      · refine g_aload_n E dX12_clerk_101 0 rfl ?_
        refine gg_12_44 E (hN 12 (by decide)) dX12_clerk_102 ?_
        refine g_iload_n E dX12_clerk_105 1 rfl ?_
        refine g_iaload E (hN 39 (by decide)) (by decide) rfl dX12_clerk_106 (fun v10 => ?_)
        refine g_if_ne E 114 dX12_clerk_107 (by decide) ?_ ?_
        · refine g_aload_n E dX12_clerk_114 0 rfl ?_
          refine gg_12_56 E (hN 12 (by decide)) dX12_clerk_115 ?_
          refine g_iload_n E dX12_clerk_118 1 rfl ?_
          refine g_iaload E (hN 43 (by decide)) (by decide) rfl dX12_clerk_119 (fun v11 => ?_)
          exact g_iret E dX12_clerk_120
        · refine g_iconst E (v := (-1)) dX12_clerk_110 (by decide) ?_
          refine g_goto E 120 dX12_clerk_111 (by decide) ?_
          exact g_iret E dX12_clerk_120
  · refine g_iconst E (v := (-1)) dX12_clerk_9 (by decide) ?_
    exact g_iret E dX12_clerk_10
end

theorem dX12_job_0 : decode cX12_job 0 = .ok (.iload_n 1, 1) := by decide +kernel
theorem dX12_job_1 : decode cX12_job 1 = .ok (.iconst 0, 1) := by decide +kernel
theorem dX12_job_2 : decode cX12_job 2 = .ok (.aload_n 0, 1) := by decide +kernel
theorem dX12_job_3 : decode cX12_job 3 = .ok (.getfield 175, 3) := by decide +kernel
theorem dX12_job_6 : decode cX12_job 6 = .ok (.iconst 1, 1) := by decide +kernel
theorem dX12_job_7 : decode cX12_job 7 = .ok (.isub, 1) := by decide +kernel
theorem dX12_job_8 : decode cX12_job 8 = .ok (.invokestatic 160, 3) := by decide +kernel
theorem dX12_job_11 : decode cX12_job 11 = .ok (.ifCond .ne 5, 3) := by decide +kernel
theorem dX12_job_14 : decode cX12_job 14 = .ok (.iconst (-1), 1) := by decide +kernel
theorem dX12_job_15 : decode cX12_job 15 = .ok (.ireturn, 1) := by decide +kernel
theorem dX12_job_16 : decode cX12_job 16 = .ok (.iload_n 2, 1) := by decide +kernel
theorem dX12_job_17 : decode cX12_job 17 = .ok (.tableswitch 100 0 6 #[43, 50, 57, 64, 71, 78, 85], 43) := by decide +kernel
theorem dX12_job_60 : decode cX12_job 60 = .ok (.aload_n 0, 1) := by decide +kernel
theorem dX12_job_61 : decode cX12_job 61 = .ok (.getfield 77, 3) := by decide +kernel
theorem dX12_job_64 : decode cX12_job 64 = .ok (.iload_n 1, 1) := by decide +kernel
theorem dX12_job_65 : decode cX12_job 65 = .ok (.iaload, 1) := by decide +kernel
theorem dX12_job_66 : decode cX12_job 66 = .ok (.ireturn, 1) := by decide +kernel
theorem dX12_job_67 : decode cX12_job 67 = .ok (.aload_n 0, 1) := by decide +kernel
theorem dX12_job_68 : decode cX12_job 68 = .ok (.getfield 80, 3) := by decide +kernel
theorem dX12_job_71 : decode cX12_job 71 = .ok (.iload_n 1, 1) := by decide +kernel
theorem dX12_job_72 : decode cX12_job 72 = .ok (.iaload, 1) := by decide +kernel
theorem dX12_job_73 : decode cX12_job 73 = .ok (.ireturn, 1) := by decide +kernel
theorem dX12_job_74 : decode cX12_job 74 = .ok (.aload_n 0, 1) := by decide +kernel
theorem dX12_job_75 : decode cX12_job 75 = .ok (.getfield 83, 3) := by decide +kernel
theorem dX12_job_78 : decode cX12_job 78 = .ok (.iload_n 1, 1) := by decide +kernel
theorem dX12_job_79 : decode cX12_job 79 = .ok (.iaload, 1) := by decide +kernel
theorem dX12_job_80 : decode cX12_job 80 = .ok (.ireturn, 1) := by decide +kernel
theorem dX12_job_81 : decode cX12_job 81 = .ok (.aload_n 0, 1) := by decide +kernel
theorem dX12_job_82 : decode cX12_job 82 = .ok (.getfield 86, 3) := by decide +kernel
theorem dX12_job_85 : decode cX12_job 85 = .ok (.iload_n 1, 1) := by decide +kernel
theorem dX12_job_86 : decode cX12_job 86 = .ok (.iaload, 1) := by decide +kernel
theorem dX12_job_87 : decode cX12_job 87 = .ok (.ireturn, 1) := by decide +kernel
theorem dX12_job_88 : decode cX12_job 88 = .ok (.aload_n 0, 1) := by decide +kernel
theorem dX12_job_89 : decode cX12_job 89 = .ok (.getfield 89, 3) := by decide +kernel
theorem dX12_job_92 : decode cX12_job 92 = .ok (.iload_n 1, 1) := by decide +kernel
theorem dX12_job_93 : decode cX12_job 93 = .ok (.iaload, 1) := by decide +kernel
theorem dX12_job_94 : decode cX12_job 94 = .ok (.ireturn, 1) := by decide +kernel
theorem dX12_job_95 : decode cX12_job 95 = .ok (.aload_n 0, 1) := by decide +kernel
theorem dX12_job_96 : decode cX12_job 96 = .ok (.getfield 92, 3) := by decide +kernel
theorem dX12_job_99 : decode cX12_job 99 = .ok (.iload_n 1, 1) := by decide +kernel
theorem dX12_job_100 : decode cX12_job 100 = .ok (.iaload, 1) := by decide +kernel
theorem dX12_job_101 : decode cX12_job 101 = .ok (.ireturn, 1) := by decide +kernel
theorem dX12_job_102 : decode cX12_job 102 = .ok (.aload_n 0, 1) := by decide +kernel
theorem dX12_job_103 : decode cX12_job 103 = .ok (.getfield 95, 3) := by decide +kernel
theorem dX12_job_106 : decode cX12_job 106 = .ok (.iload_n 1, 1) := by decide +kernel
theorem dX12_job_107 : decode cX12_job 107 = .ok (.baload, 1) := by decide +kernel
theorem dX12_job_108 : decode cX12_job 108 = .ok (.ifCond .eq 7, 3) := by decide +kernel
theorem dX12_job_111 : decode cX12_job 111 = .ok (.iconst 1, 1) := by decide +kernel
theorem dX12_job_112 : decode cX12_job 112 = .ok (.goto 4, 3) := by decide +kernel
theorem dX12_job_115 : decode cX12_job 115 = .ok (.iconst 0, 1) := by decide +kernel
theorem dX12_job_116 : decode cX12_job 116 = .ok (.ireturn, 1) := by decide +kernel
theorem dX12_job_117 : decode cX12_job 117 = .ok (.iconst (-1), 1) := by decide +kernel
theorem dX12_job_118 : decode cX12_job 118 = .ok (.ireturn, 1) := by decide +kernel
def f_X12_job (ln : Nat → Nat) (x1 : Int32) (x2 : Int32) (s : dr_S) : Option (Int32 × dr_S) := dr_bnd (f_X12_in ln x1 0 (((s.2 1226) - 1)) s) (fun r2 s1 => (if r2 = 0 then some ((-1), s1) else dr_sw x2 0 6 [((dr_rd ln s1 50 x1).bind (fun v3 => some (v3, s1))), ((dr_rd ln s1 51 x1).bind (fun v4 => some (v4, s1))), ((dr_rd ln s1 52 x1).bind (fun v5 => some (v5, s1))), ((dr_rd ln s1 53 x1).bind (fun v6 => some (v6, s1))), ((dr_rd ln s1 54 x1).bind (fun v7 => some (v7, s1))), ((dr_rd ln s1 55 x1).bind (fun v8 => some (v8, s1))), ((dr_rd ln s1 56 x1).bind (fun v9 => (if v9 = 0 then some (0, s1) else some (1, s1))))] (some ((-1), s1))))
section
variable {p : Program} {l : Launch} {e : Env} {s0 : State} {m : MethodId} {args : Array Value} {below : List Frame} {meth : Method} {c : Code} {A : Nat → Prop} {D : va_G} {cI cZ : ClassId} {ad ln : Nat → Nat} {L : List Nat}
set_option maxHeartbeats 4000000 in
set_option maxRecDepth 20000 in
theorem c_X12_job (hap : dr_ap ad L) (hN : ∀ x ∈ nd_12, x ∈ L) (x1 : Int32) (x2 : Int32) (s : dr_S) : dr_Mi l D cI cZ ad ln L yX12_job cX12_job 3 (some .int) 1 [.ref (ad 12), .int x1, .int x2] s (f_X12_job ln x1 x2 s) := by
  refine dr_meti (own := RX12) (by decide) rfl (Nat.le_of_ble_eq_true rfl) hap ?_
  intro p e s0 m args below meth c A E
  unfold f_X12_job
  refine g_eqL (lv' := [(0, .ref (ad 12)), (1, .int x1), (2, .int x2)]) rfl ?_
  refine g_iload_n E dX12_job_0 1 rfl ?_
  refine g_iconst E (v := 0) dX12_job_1 (by decide) ?_
  refine g_aload_n E dX12_job_2 0 rfl ?_
  refine gg_12_175 E (hN 12 (by decide)) dX12_job_3 ?_
  refine g_iconst E (v := 1) dX12_job_6 (by decide) ?_
  refine g_isub E dX12_job_7 ?_
  refine g_cSi E [.int x1, .int 0, .int ((s.2 1226) - 1)] rfl (c_X12_in hap hN x1 0 (((s.2 1226) - 1)) s) ms_X12_in mw_X12_in rfl ml_12_160 ⟨Nat.le_of_ble_eq_true rfl, Nat.le_of_ble_eq_true rfl⟩ (Nat.le_of_ble_eq_true rfl) dX12_job_8 (fun r2 s1 => ?_)
  refine g_if_ne E 16 dX12_job_11 (by decide) ?_ ?_
  · refine g_iload_n E dX12_job_16 2 rfl ?_
    refine g_tsw E [((dr_rd ln s1 50 x1).bind (fun v3 => some (v3, s1))), ((dr_rd ln s1 51 x1).bind (fun v4 => some (v4, s1))), ((dr_rd ln s1 52 x1).bind (fun v5 => some (v5, s1))), ((dr_rd ln s1 53 x1).bind (fun v6 => some (v6, s1))), ((dr_rd ln s1 54 x1).bind (fun v7 => some (v7, s1))), ((dr_rd ln s1 55 x1).bind (fun v8 => some (v8, s1))), ((dr_rd ln s1 56 x1).bind (fun v9 => (if v9 = 0 then some (0, s1) else some (1, s1))))] (some ((-1), s1)) [60, 67, 74, 81, 88, 95, 102] 117 dX12_job_17 (by decide) (by decide) (by decide) ?_ ?_
    · refine g_iconst E (v := (-1)) dX12_job_117 (by decide) ?_
      exact g_iret E dX12_job_118
    · refine dr_fc ?_ (dr_fc ?_ (dr_fc ?_ (dr_fc ?_ (dr_fc ?_ (dr_fc ?_ (dr_fc ?_ dr_fn))))))
      · refine g_aload_n E dX12_job_60 0 rfl ?_
        refine gg_12_77 E (hN 12 (by decide)) dX12_job_61 ?_
        refine g_iload_n E dX12_job_64 1 rfl ?_
        refine g_iaload E (hN 50 (by decide)) (by decide) rfl dX12_job_65 (fun v3 => ?_)
        exact g_iret E dX12_job_66
      · refine g_aload_n E dX12_job_67 0 rfl ?_
        refine gg_12_80 E (hN 12 (by decide)) dX12_job_68 ?_
        refine g_iload_n E dX12_job_71 1 rfl ?_
        refine g_iaload E (hN 51 (by decide)) (by decide) rfl dX12_job_72 (fun v4 => ?_)
        exact g_iret E dX12_job_73
      · refine g_aload_n E dX12_job_74 0 rfl ?_
        refine gg_12_83 E (hN 12 (by decide)) dX12_job_75 ?_
        refine g_iload_n E dX12_job_78 1 rfl ?_
        refine g_iaload E (hN 52 (by decide)) (by decide) rfl dX12_job_79 (fun v5 => ?_)
        exact g_iret E dX12_job_80
      · refine g_aload_n E dX12_job_81 0 rfl ?_
        refine gg_12_86 E (hN 12 (by decide)) dX12_job_82 ?_
        refine g_iload_n E dX12_job_85 1 rfl ?_
        refine g_iaload E (hN 53 (by decide)) (by decide) rfl dX12_job_86 (fun v6 => ?_)
        exact g_iret E dX12_job_87
      · refine g_aload_n E dX12_job_88 0 rfl ?_
        refine gg_12_89 E (hN 12 (by decide)) dX12_job_89 ?_
        refine g_iload_n E dX12_job_92 1 rfl ?_
        refine g_iaload E (hN 54 (by decide)) (by decide) rfl dX12_job_93 (fun v7 => ?_)
        exact g_iret E dX12_job_94
      · refine g_aload_n E dX12_job_95 0 rfl ?_
        refine gg_12_92 E (hN 12 (by decide)) dX12_job_96 ?_
        refine g_iload_n E dX12_job_99 1 rfl ?_
        refine g_iaload E (hN 55 (by decide)) (by decide) rfl dX12_job_100 (fun v8 => ?_)
        exact g_iret E dX12_job_101
      · refine g_aload_n E dX12_job_102 0 rfl ?_
        refine gg_12_95 E (hN 12 (by decide)) dX12_job_103 ?_
        refine g_iload_n E dX12_job_106 1 rfl ?_
        refine g_baload E (hN 56 (by decide)) (by decide) rfl dX12_job_107 (fun v9 => ?_)
        refine g_if_eq E 115 dX12_job_108 (by decide) ?_ ?_
        · refine g_iconst E (v := 0) dX12_job_115 (by decide) ?_
          exact g_iret E dX12_job_116
        · refine g_iconst E (v := 1) dX12_job_111 (by decide) ?_
          refine g_goto E 116 dX12_job_112 (by decide) ?_
          exact g_iret E dX12_job_116
  · refine g_iconst E (v := (-1)) dX12_job_14 (by decide) ?_
    exact g_iret E dX12_job_15
end

theorem dX12_drawer_0 : decode cX12_drawer 0 = .ok (.iload_n 1, 1) := by decide +kernel
theorem dX12_drawer_1 : decode cX12_drawer 1 = .ok (.iconst 0, 1) := by decide +kernel
theorem dX12_drawer_2 : decode cX12_drawer 2 = .ok (.sipush 255, 3) := by decide +kernel
theorem dX12_drawer_5 : decode cX12_drawer 5 = .ok (.invokestatic 160, 3) := by decide +kernel
theorem dX12_drawer_8 : decode cX12_drawer 8 = .ok (.ifCond .eq 12, 3) := by decide +kernel
theorem dX12_drawer_11 : decode cX12_drawer 11 = .ok (.iload_n 2, 1) := by decide +kernel
theorem dX12_drawer_12 : decode cX12_drawer 12 = .ok (.ifCond .lt 8, 3) := by decide +kernel
theorem dX12_drawer_15 : decode cX12_drawer 15 = .ok (.iload_n 2, 1) := by decide +kernel
theorem dX12_drawer_16 : decode cX12_drawer 16 = .ok (.iconst 5, 1) := by decide +kernel
theorem dX12_drawer_17 : decode cX12_drawer 17 = .ok (.if_icmp .le 5, 3) := by decide +kernel
theorem dX12_drawer_20 : decode cX12_drawer 20 = .ok (.iconst (-1), 1) := by decide +kernel
theorem dX12_drawer_21 : decode cX12_drawer 21 = .ok (.ireturn, 1) := by decide +kernel
theorem dX12_drawer_22 : decode cX12_drawer 22 = .ok (.iload_n 2, 1) := by decide +kernel
theorem dX12_drawer_23 : decode cX12_drawer 23 = .ok (.ifCond .ne 18, 3) := by decide +kernel
theorem dX12_drawer_26 : decode cX12_drawer 26 = .ok (.aload_n 0, 1) := by decide +kernel
theorem dX12_drawer_27 : decode cX12_drawer 27 = .ok (.getfield 17, 3) := by decide +kernel
theorem dX12_drawer_30 : decode cX12_drawer 30 = .ok (.iload_n 1, 1) := by decide +kernel
theorem dX12_drawer_31 : decode cX12_drawer 31 = .ok (.baload, 1) := by decide +kernel
theorem dX12_drawer_32 : decode cX12_drawer 32 = .ok (.ifCond .eq 7, 3) := by decide +kernel
theorem dX12_drawer_35 : decode cX12_drawer 35 = .ok (.iconst 1, 1) := by decide +kernel
theorem dX12_drawer_36 : decode cX12_drawer 36 = .ok (.goto 4, 3) := by decide +kernel
theorem dX12_drawer_39 : decode cX12_drawer 39 = .ok (.iconst 0, 1) := by decide +kernel
theorem dX12_drawer_40 : decode cX12_drawer 40 = .ok (.ireturn, 1) := by decide +kernel
theorem dX12_drawer_41 : decode cX12_drawer 41 = .ok (.aload_n 0, 1) := by decide +kernel
theorem dX12_drawer_42 : decode cX12_drawer 42 = .ok (.getfield 17, 3) := by decide +kernel
theorem dX12_drawer_45 : decode cX12_drawer 45 = .ok (.iload_n 1, 1) := by decide +kernel
theorem dX12_drawer_46 : decode cX12_drawer 46 = .ok (.baload, 1) := by decide +kernel
theorem dX12_drawer_47 : decode cX12_drawer 47 = .ok (.ifCond .ne 5, 3) := by decide +kernel
theorem dX12_drawer_50 : decode cX12_drawer 50 = .ok (.iconst (-1), 1) := by decide +kernel
theorem dX12_drawer_51 : decode cX12_drawer 51 = .ok (.ireturn, 1) := by decide +kernel
theorem dX12_drawer_52 : decode cX12_drawer 52 = .ok (.iload_n 2, 1) := by decide +kernel
theorem dX12_drawer_53 : decode cX12_drawer 53 = .ok (.iconst 1, 1) := by decide +kernel
theorem dX12_drawer_54 : decode cX12_drawer 54 = .ok (.if_icmp .ne 12, 3) := by decide +kernel
theorem dX12_drawer_57 : decode cX12_drawer 57 = .ok (.aload_n 0, 1) := by decide +kernel
theorem dX12_drawer_58 : decode cX12_drawer 58 = .ok (.getfield 20, 3) := by decide +kernel
theorem dX12_drawer_61 : decode cX12_drawer 61 = .ok (.iload_n 1, 1) := by decide +kernel
theorem dX12_drawer_62 : decode cX12_drawer 62 = .ok (.iaload, 1) := by decide +kernel
theorem dX12_drawer_63 : decode cX12_drawer 63 = .ok (.goto 51, 3) := by decide +kernel
theorem dX12_drawer_66 : decode cX12_drawer 66 = .ok (.iload_n 2, 1) := by decide +kernel
theorem dX12_drawer_67 : decode cX12_drawer 67 = .ok (.iconst 2, 1) := by decide +kernel
theorem dX12_drawer_68 : decode cX12_drawer 68 = .ok (.if_icmp .ne 12, 3) := by decide +kernel
theorem dX12_drawer_71 : decode cX12_drawer 71 = .ok (.aload_n 0, 1) := by decide +kernel
theorem dX12_drawer_72 : decode cX12_drawer 72 = .ok (.getfield 23, 3) := by decide +kernel
theorem dX12_drawer_75 : decode cX12_drawer 75 = .ok (.iload_n 1, 1) := by decide +kernel
theorem dX12_drawer_76 : decode cX12_drawer 76 = .ok (.iaload, 1) := by decide +kernel
theorem dX12_drawer_77 : decode cX12_drawer 77 = .ok (.goto 37, 3) := by decide +kernel
theorem dX12_drawer_80 : decode cX12_drawer 80 = .ok (.iload_n 2, 1) := by decide +kernel
theorem dX12_drawer_81 : decode cX12_drawer 81 = .ok (.iconst 3, 1) := by decide +kernel
theorem dX12_drawer_82 : decode cX12_drawer 82 = .ok (.if_icmp .ne 12, 3) := by decide +kernel
theorem dX12_drawer_85 : decode cX12_drawer 85 = .ok (.aload_n 0, 1) := by decide +kernel
theorem dX12_drawer_86 : decode cX12_drawer 86 = .ok (.getfield 32, 3) := by decide +kernel
theorem dX12_drawer_89 : decode cX12_drawer 89 = .ok (.iload_n 1, 1) := by decide +kernel
theorem dX12_drawer_90 : decode cX12_drawer 90 = .ok (.iaload, 1) := by decide +kernel
theorem dX12_drawer_91 : decode cX12_drawer 91 = .ok (.goto 23, 3) := by decide +kernel
theorem dX12_drawer_94 : decode cX12_drawer 94 = .ok (.iload_n 2, 1) := by decide +kernel
theorem dX12_drawer_95 : decode cX12_drawer 95 = .ok (.iconst 4, 1) := by decide +kernel
theorem dX12_drawer_96 : decode cX12_drawer 96 = .ok (.if_icmp .ne 12, 3) := by decide +kernel
theorem dX12_drawer_99 : decode cX12_drawer 99 = .ok (.aload_n 0, 1) := by decide +kernel
theorem dX12_drawer_100 : decode cX12_drawer 100 = .ok (.getfield 35, 3) := by decide +kernel
theorem dX12_drawer_103 : decode cX12_drawer 103 = .ok (.iload_n 1, 1) := by decide +kernel
theorem dX12_drawer_104 : decode cX12_drawer 104 = .ok (.iaload, 1) := by decide +kernel
theorem dX12_drawer_105 : decode cX12_drawer 105 = .ok (.goto 9, 3) := by decide +kernel
theorem dX12_drawer_108 : decode cX12_drawer 108 = .ok (.aload_n 0, 1) := by decide +kernel
theorem dX12_drawer_109 : decode cX12_drawer 109 = .ok (.getfield 38, 3) := by decide +kernel
theorem dX12_drawer_112 : decode cX12_drawer 112 = .ok (.iload_n 1, 1) := by decide +kernel
theorem dX12_drawer_113 : decode cX12_drawer 113 = .ok (.iaload, 1) := by decide +kernel
theorem dX12_drawer_114 : decode cX12_drawer 114 = .ok (.ireturn, 1) := by decide +kernel
def f_X12_drawer (ln : Nat → Nat) (x1 : Int32) (x2 : Int32) (s : dr_S) : Option (Int32 × dr_S) := dr_bnd (f_X12_in ln x1 0 255 s) (fun r2 s1 => (if r2 = 0 then some ((-1), s1) else (if x2 < 0 then some ((-1), s1) else (if x2 ≤ 5 then (if x2 = 0 then (dr_rd ln s1 30 x1).bind (fun v9 => (if v9 = 0 then some (0, s1) else some (1, s1))) else (dr_rd ln s1 30 x1).bind (fun v3 => (if v3 = 0 then some ((-1), s1) else (if x2 = 1 then (dr_rd ln s1 31 x1).bind (fun v8 => some (v8, s1)) else (if x2 = 2 then (dr_rd ln s1 32 x1).bind (fun v7 => some (v7, s1)) else (if x2 = 3 then (dr_rd ln s1 35 x1).bind (fun v6 => some (v6, s1)) else (if x2 = 4 then (dr_rd ln s1 36 x1).bind (fun v5 => some (v5, s1)) else (dr_rd ln s1 37 x1).bind (fun v4 => some (v4, s1))))))))) else some ((-1), s1)))))
section
variable {p : Program} {l : Launch} {e : Env} {s0 : State} {m : MethodId} {args : Array Value} {below : List Frame} {meth : Method} {c : Code} {A : Nat → Prop} {D : va_G} {cI cZ : ClassId} {ad ln : Nat → Nat} {L : List Nat}
set_option maxHeartbeats 4000000 in
set_option maxRecDepth 20000 in
theorem c_X12_drawer (hap : dr_ap ad L) (hN : ∀ x ∈ nd_12, x ∈ L) (x1 : Int32) (x2 : Int32) (s : dr_S) : dr_Mi l D cI cZ ad ln L yX12_drawer cX12_drawer 3 (some .int) 1 [.ref (ad 12), .int x1, .int x2] s (f_X12_drawer ln x1 x2 s) := by
  refine dr_meti (own := RX12) (by decide) rfl (Nat.le_of_ble_eq_true rfl) hap ?_
  intro p e s0 m args below meth c A E
  unfold f_X12_drawer
  refine g_eqL (lv' := [(0, .ref (ad 12)), (1, .int x1), (2, .int x2)]) rfl ?_
  refine g_iload_n E dX12_drawer_0 1 rfl ?_
  refine g_iconst E (v := 0) dX12_drawer_1 (by decide) ?_
  refine g_sipush E (v := 255) dX12_drawer_2 (by decide) ?_
  refine g_cSi E [.int x1, .int 0, .int 255] rfl (c_X12_in hap hN x1 0 255 s) ms_X12_in mw_X12_in rfl ml_12_160 ⟨Nat.le_of_ble_eq_true rfl, Nat.le_of_ble_eq_true rfl⟩ (Nat.le_of_ble_eq_true rfl) dX12_drawer_5 (fun r2 s1 => ?_)
  refine g_if_eq E 20 dX12_drawer_8 (by decide) ?_ ?_
  · refine g_iconst E (v := (-1)) dX12_drawer_20 (by decide) ?_
    exact g_iret E dX12_drawer_21
  · refine g_iload_n E dX12_drawer_11 2 rfl ?_
    refine g_if_lt E 20 dX12_drawer_12 (by decide) ?_ ?_
    · refine g_iconst E (v := (-1)) dX12_drawer_20 (by decide) ?_
      exact g_iret E dX12_drawer_21
    · refine g_iload_n E dX12_drawer_15 2 rfl ?_
      refine g_iconst E (v := 5) dX12_drawer_16 (by decide) ?_
      refine g_icmp_le E 22 dX12_drawer_17 (by decide) ?_ ?_
      · refine g_iload_n E dX12_drawer_22 2 rfl ?_
        refine g_if_ne E 41 dX12_drawer_23 (by decide) ?_ ?_
        · refine g_aload_n E dX12_drawer_41 0 rfl ?_
          refine gg_12_17 E (hN 12 (by decide)) dX12_drawer_42 ?_
          refine g_iload_n E dX12_drawer_45 1 rfl ?_
          refine g_baload E (hN 30 (by decide)) (by decide) rfl dX12_drawer_46 (fun v3 => ?_)
          refine g_if_ne E 52 dX12_drawer_47 (by decide) ?_ ?_
          · refine g_iload_n E dX12_drawer_52 2 rfl ?_
            refine g_iconst E (v := 1) dX12_drawer_53 (by decide) ?_
            refine g_icmp_ne E 66 dX12_drawer_54 (by decide) ?_ ?_
            · refine g_iload_n E dX12_drawer_66 2 rfl ?_
              refine g_iconst E (v := 2) dX12_drawer_67 (by decide) ?_
              refine g_icmp_ne E 80 dX12_drawer_68 (by decide) ?_ ?_
              · refine g_iload_n E dX12_drawer_80 2 rfl ?_
                refine g_iconst E (v := 3) dX12_drawer_81 (by decide) ?_
                refine g_icmp_ne E 94 dX12_drawer_82 (by decide) ?_ ?_
                · refine g_iload_n E dX12_drawer_94 2 rfl ?_
                  refine g_iconst E (v := 4) dX12_drawer_95 (by decide) ?_
                  refine g_icmp_ne E 108 dX12_drawer_96 (by decide) ?_ ?_
                  · refine g_aload_n E dX12_drawer_108 0 rfl ?_
                    refine gg_12_38 E (hN 12 (by decide)) dX12_drawer_109 ?_
                    refine g_iload_n E dX12_drawer_112 1 rfl ?_
                    refine g_iaload E (hN 37 (by decide)) (by decide) rfl dX12_drawer_113 (fun v4 => ?_)
                    exact g_iret E dX12_drawer_114
                  · refine g_aload_n E dX12_drawer_99 0 rfl ?_
                    refine gg_12_35 E (hN 12 (by decide)) dX12_drawer_100 ?_
                    refine g_iload_n E dX12_drawer_103 1 rfl ?_
                    refine g_iaload E (hN 36 (by decide)) (by decide) rfl dX12_drawer_104 (fun v5 => ?_)
                    refine g_goto E 114 dX12_drawer_105 (by decide) ?_
                    exact g_iret E dX12_drawer_114
                · refine g_aload_n E dX12_drawer_85 0 rfl ?_
                  refine gg_12_32 E (hN 12 (by decide)) dX12_drawer_86 ?_
                  refine g_iload_n E dX12_drawer_89 1 rfl ?_
                  refine g_iaload E (hN 35 (by decide)) (by decide) rfl dX12_drawer_90 (fun v6 => ?_)
                  refine g_goto E 114 dX12_drawer_91 (by decide) ?_
                  exact g_iret E dX12_drawer_114
              · refine g_aload_n E dX12_drawer_71 0 rfl ?_
                refine gg_12_23 E (hN 12 (by decide)) dX12_drawer_72 ?_
                refine g_iload_n E dX12_drawer_75 1 rfl ?_
                refine g_iaload E (hN 32 (by decide)) (by decide) rfl dX12_drawer_76 (fun v7 => ?_)
                refine g_goto E 114 dX12_drawer_77 (by decide) ?_
                exact g_iret E dX12_drawer_114
            · refine g_aload_n E dX12_drawer_57 0 rfl ?_
              refine gg_12_20 E (hN 12 (by decide)) dX12_drawer_58 ?_
              refine g_iload_n E dX12_drawer_61 1 rfl ?_
              refine g_iaload E (hN 31 (by decide)) (by decide) rfl dX12_drawer_62 (fun v8 => ?_)
              refine g_goto E 114 dX12_drawer_63 (by decide) ?_
              exact g_iret E dX12_drawer_114
          · refine g_iconst E (v := (-1)) dX12_drawer_50 (by decide) ?_
            exact g_iret E dX12_drawer_51
        · refine g_aload_n E dX12_drawer_26 0 rfl ?_
          refine gg_12_17 E (hN 12 (by decide)) dX12_drawer_27 ?_
          refine g_iload_n E dX12_drawer_30 1 rfl ?_
          refine g_baload E (hN 30 (by decide)) (by decide) rfl dX12_drawer_31 (fun v9 => ?_)
          refine g_if_eq E 39 dX12_drawer_32 (by decide) ?_ ?_
          · refine g_iconst E (v := 0) dX12_drawer_39 (by decide) ?_
            exact g_iret E dX12_drawer_40
          · refine g_iconst E (v := 1) dX12_drawer_35 (by decide) ?_
            refine g_goto E 40 dX12_drawer_36 (by decide) ?_
            exact g_iret E dX12_drawer_40
      · refine g_iconst E (v := (-1)) dX12_drawer_20 (by decide) ?_
        exact g_iret E dX12_drawer_21
end

theorem dX12_at_0 : decode cX12_at 0 = .ok (.iload_n 1, 1) := by decide +kernel
theorem dX12_at_1 : decode cX12_at 1 = .ok (.iconst 0, 1) := by decide +kernel
theorem dX12_at_2 : decode cX12_at 2 = .ok (.sipush 255, 3) := by decide +kernel
theorem dX12_at_5 : decode cX12_at 5 = .ok (.invokestatic 160, 3) := by decide +kernel
theorem dX12_at_8 : decode cX12_at 8 = .ok (.ifCond .eq 16, 3) := by decide +kernel
theorem dX12_at_11 : decode cX12_at 11 = .ok (.aload_n 0, 1) := by decide +kernel
theorem dX12_at_12 : decode cX12_at 12 = .ok (.getfield 17, 3) := by decide +kernel
theorem dX12_at_15 : decode cX12_at 15 = .ok (.iload_n 1, 1) := by decide +kernel
theorem dX12_at_16 : decode cX12_at 16 = .ok (.baload, 1) := by decide +kernel
theorem dX12_at_17 : decode cX12_at 17 = .ok (.ifCond .eq 7, 3) := by decide +kernel
theorem dX12_at_20 : decode cX12_at 20 = .ok (.iload_n 2, 1) := by decide +kernel
theorem dX12_at_21 : decode cX12_at 21 = .ok (.ifCond .ge 5, 3) := by decide +kernel
theorem dX12_at_24 : decode cX12_at 24 = .ok (.iconst (-1), 1) := by decide +kernel
theorem dX12_at_25 : decode cX12_at 25 = .ok (.ireturn, 1) := by decide +kernel
theorem dX12_at_26 : decode cX12_at 26 = .ok (.iload_n 3, 1) := by decide +kernel
theorem dX12_at_27 : decode cX12_at 27 = .ok (.ifCond .eq 38, 3) := by decide +kernel
theorem dX12_at_30 : decode cX12_at 30 = .ok (.aload_n 0, 1) := by decide +kernel
theorem dX12_at_31 : decode cX12_at 31 = .ok (.getfield 20, 3) := by decide +kernel
theorem dX12_at_34 : decode cX12_at 34 = .ok (.iload_n 1, 1) := by decide +kernel
theorem dX12_at_35 : decode cX12_at 35 = .ok (.iaload, 1) := by decide +kernel
theorem dX12_at_36 : decode cX12_at 36 = .ok (.ifCond .le 27, 3) := by decide +kernel
theorem dX12_at_39 : decode cX12_at 39 = .ok (.iload_n 2, 1) := by decide +kernel
theorem dX12_at_40 : decode cX12_at 40 = .ok (.aload_n 0, 1) := by decide +kernel
theorem dX12_at_41 : decode cX12_at 41 = .ok (.getfield 23, 3) := by decide +kernel
theorem dX12_at_44 : decode cX12_at 44 = .ok (.iload_n 1, 1) := by decide +kernel
theorem dX12_at_45 : decode cX12_at 45 = .ok (.iaload, 1) := by decide +kernel
theorem dX12_at_46 : decode cX12_at 46 = .ok (.if_icmp .gt 17, 3) := by decide +kernel
theorem dX12_at_49 : decode cX12_at 49 = .ok (.aload_n 0, 1) := by decide +kernel
theorem dX12_at_50 : decode cX12_at 50 = .ok (.getfield 29, 3) := by decide +kernel
theorem dX12_at_53 : decode cX12_at 53 = .ok (.bipush 14, 2) := by decide +kernel
theorem dX12_at_55 : decode cX12_at 55 = .ok (.iload_n 1, 1) := by decide +kernel
theorem dX12_at_56 : decode cX12_at 56 = .ok (.imul, 1) := by decide +kernel
theorem dX12_at_57 : decode cX12_at 57 = .ok (.iload_n 2, 1) := by decide +kernel
theorem dX12_at_58 : decode cX12_at 58 = .ok (.iadd, 1) := by decide +kernel
theorem dX12_at_59 : decode cX12_at 59 = .ok (.iaload, 1) := by decide +kernel
theorem dX12_at_60 : decode cX12_at 60 = .ok (.goto 4, 3) := by decide +kernel
theorem dX12_at_63 : decode cX12_at 63 = .ok (.iconst (-1), 1) := by decide +kernel
theorem dX12_at_64 : decode cX12_at 64 = .ok (.ireturn, 1) := by decide +kernel
theorem dX12_at_65 : decode cX12_at 65 = .ok (.iload_n 2, 1) := by decide +kernel
theorem dX12_at_66 : decode cX12_at 66 = .ok (.aload_n 0, 1) := by decide +kernel
theorem dX12_at_67 : decode cX12_at 67 = .ok (.getfield 23, 3) := by decide +kernel
theorem dX12_at_70 : decode cX12_at 70 = .ok (.iload_n 1, 1) := by decide +kernel
theorem dX12_at_71 : decode cX12_at 71 = .ok (.iaload, 1) := by decide +kernel
theorem dX12_at_72 : decode cX12_at 72 = .ok (.if_icmp .ge 17, 3) := by decide +kernel
theorem dX12_at_75 : decode cX12_at 75 = .ok (.aload_n 0, 1) := by decide +kernel
theorem dX12_at_76 : decode cX12_at 76 = .ok (.getfield 26, 3) := by decide +kernel
theorem dX12_at_79 : decode cX12_at 79 = .ok (.bipush 14, 2) := by decide +kernel
theorem dX12_at_81 : decode cX12_at 81 = .ok (.iload_n 1, 1) := by decide +kernel
theorem dX12_at_82 : decode cX12_at 82 = .ok (.imul, 1) := by decide +kernel
theorem dX12_at_83 : decode cX12_at 83 = .ok (.iload_n 2, 1) := by decide +kernel
theorem dX12_at_84 : decode cX12_at 84 = .ok (.iadd, 1) := by decide +kernel
theorem dX12_at_85 : decode cX12_at 85 = .ok (.iaload, 1) := by decide +kernel
theorem dX12_at_86 : decode cX12_at 86 = .ok (.goto 4, 3) := by decide +kernel
theorem dX12_at_89 : decode cX12_at 89 = .ok (.iconst (-1), 1) := by decide +kernel
theorem dX12_at_90 : decode cX12_at 90 = .ok (.ireturn, 1) := by decide +kernel
def f_X12_at (ln : Nat → Nat) (x1 : Int32) (x2 : Int32) (x3 : Int32) (s : dr_S) : Option (Int32 × dr_S) := dr_bnd (f_X12_in ln x1 0 255 s) (fun r2 s1 => (if r2 = 0 then some ((-1), s1) else (dr_rd ln s1 30 x1).bind (fun v3 => (if v3 = 0 then some ((-1), s1) else (if ((0 : Int32) ≤ x2 : Prop) then (if x3 = 0 then (dr_rd ln s1 32 x1).bind (fun v4 => (if v4 ≤ x2 then some ((-1), s1) else (dr_rd ln s1 33 ((14 * x1) + x2)).bind (fun v5 => some (v5, s1)))) else (dr_rd ln s1 31 x1).bind (fun v6 => (if v6 ≤ 0 then some ((-1), s1) else (dr_rd ln s1 32 x1).bind (fun v7 => (if v7 < x2 then some ((-1), s1) else (dr_rd ln s1 34 ((14 * x1) + x2)).bind (fun v8 => some (v8, s1))))))) else some ((-1), s1))))))
section
variable {p : Program} {l : Launch} {e : Env} {s0 : State} {m : MethodId} {args : Array Value} {below : List Frame} {meth : Method} {c : Code} {A : Nat → Prop} {D : va_G} {cI cZ : ClassId} {ad ln : Nat → Nat} {L : List Nat}
set_option maxHeartbeats 4000000 in
set_option maxRecDepth 20000 in
theorem c_X12_at (hap : dr_ap ad L) (hN : ∀ x ∈ nd_12, x ∈ L) (x1 : Int32) (x2 : Int32) (x3 : Int32) (s : dr_S) : dr_Mi l D cI cZ ad ln L yX12_at cX12_at 4 (some .int) 1 [.ref (ad 12), .int x1, .int x2, .int x3] s (f_X12_at ln x1 x2 x3 s) := by
  refine dr_meti (own := RX12) (by decide) rfl (Nat.le_of_ble_eq_true rfl) hap ?_
  intro p e s0 m args below meth c A E
  unfold f_X12_at
  refine g_eqL (lv' := [(0, .ref (ad 12)), (1, .int x1), (2, .int x2), (3, .int x3)]) rfl ?_
  refine g_iload_n E dX12_at_0 1 rfl ?_
  refine g_iconst E (v := 0) dX12_at_1 (by decide) ?_
  refine g_sipush E (v := 255) dX12_at_2 (by decide) ?_
  refine g_cSi E [.int x1, .int 0, .int 255] rfl (c_X12_in hap hN x1 0 255 s) ms_X12_in mw_X12_in rfl ml_12_160 ⟨Nat.le_of_ble_eq_true rfl, Nat.le_of_ble_eq_true rfl⟩ (Nat.le_of_ble_eq_true rfl) dX12_at_5 (fun r2 s1 => ?_)
  refine g_if_eq E 24 dX12_at_8 (by decide) ?_ ?_
  · refine g_iconst E (v := (-1)) dX12_at_24 (by decide) ?_
    exact g_iret E dX12_at_25
  · refine g_aload_n E dX12_at_11 0 rfl ?_
    refine gg_12_17 E (hN 12 (by decide)) dX12_at_12 ?_
    refine g_iload_n E dX12_at_15 1 rfl ?_
    refine g_baload E (hN 30 (by decide)) (by decide) rfl dX12_at_16 (fun v3 => ?_)
    refine g_if_eq E 24 dX12_at_17 (by decide) ?_ ?_
    · refine g_iconst E (v := (-1)) dX12_at_24 (by decide) ?_
      exact g_iret E dX12_at_25
    · refine g_iload_n E dX12_at_20 2 rfl ?_
      refine g_if_ge E 26 dX12_at_21 (by decide) ?_ ?_
      · refine g_iload_n E dX12_at_26 3 rfl ?_
        refine g_if_eq E 65 dX12_at_27 (by decide) ?_ ?_
        · refine g_iload_n E dX12_at_65 2 rfl ?_
          refine g_aload_n E dX12_at_66 0 rfl ?_
          refine gg_12_23 E (hN 12 (by decide)) dX12_at_67 ?_
          refine g_iload_n E dX12_at_70 1 rfl ?_
          refine g_iaload E (hN 32 (by decide)) (by decide) rfl dX12_at_71 (fun v4 => ?_)
          refine g_icmp_ge E 89 dX12_at_72 (by decide) ?_ ?_
          · refine g_iconst E (v := (-1)) dX12_at_89 (by decide) ?_
            exact g_iret E dX12_at_90
          · refine g_aload_n E dX12_at_75 0 rfl ?_
            refine gg_12_26 E (hN 12 (by decide)) dX12_at_76 ?_
            refine g_bipush E (v := 14) dX12_at_79 (by decide) ?_
            refine g_iload_n E dX12_at_81 1 rfl ?_
            refine g_imul E dX12_at_82 ?_
            refine g_iload_n E dX12_at_83 2 rfl ?_
            refine g_iadd E dX12_at_84 ?_
            refine g_iaload E (hN 33 (by decide)) (by decide) rfl dX12_at_85 (fun v5 => ?_)
            refine g_goto E 90 dX12_at_86 (by decide) ?_
            exact g_iret E dX12_at_90
        · refine g_aload_n E dX12_at_30 0 rfl ?_
          refine gg_12_20 E (hN 12 (by decide)) dX12_at_31 ?_
          refine g_iload_n E dX12_at_34 1 rfl ?_
          refine g_iaload E (hN 31 (by decide)) (by decide) rfl dX12_at_35 (fun v6 => ?_)
          refine g_if_le E 63 dX12_at_36 (by decide) ?_ ?_
          · refine g_iconst E (v := (-1)) dX12_at_63 (by decide) ?_
            exact g_iret E dX12_at_64
          · refine g_iload_n E dX12_at_39 2 rfl ?_
            refine g_aload_n E dX12_at_40 0 rfl ?_
            refine gg_12_23 E (hN 12 (by decide)) dX12_at_41 ?_
            refine g_iload_n E dX12_at_44 1 rfl ?_
            refine g_iaload E (hN 32 (by decide)) (by decide) rfl dX12_at_45 (fun v7 => ?_)
            refine g_icmp_gt E 63 dX12_at_46 (by decide) ?_ ?_
            · refine g_iconst E (v := (-1)) dX12_at_63 (by decide) ?_
              exact g_iret E dX12_at_64
            · refine g_aload_n E dX12_at_49 0 rfl ?_
              refine gg_12_29 E (hN 12 (by decide)) dX12_at_50 ?_
              refine g_bipush E (v := 14) dX12_at_53 (by decide) ?_
              refine g_iload_n E dX12_at_55 1 rfl ?_
              refine g_imul E dX12_at_56 ?_
              refine g_iload_n E dX12_at_57 2 rfl ?_
              refine g_iadd E dX12_at_58 ?_
              refine g_iaload E (hN 34 (by decide)) (by decide) rfl dX12_at_59 (fun v8 => ?_)
              refine g_goto E 64 dX12_at_60 (by decide) ?_
              exact g_iret E dX12_at_64
      · refine g_iconst E (v := (-1)) dX12_at_24 (by decide) ?_
        exact g_iret E dX12_at_25
end

theorem dX12_lists_0 : decode cX12_lists 0 = .ok (.aload_n 0, 1) := by decide +kernel
theorem dX12_lists_1 : decode cX12_lists 1 = .ok (.iconst 0, 1) := by decide +kernel
theorem dX12_lists_2 : decode cX12_lists 2 = .ok (.putfield 271, 3) := by decide +kernel
theorem dX12_lists_5 : decode cX12_lists 5 = .ok (.aload_n 0, 1) := by decide +kernel
theorem dX12_lists_6 : decode cX12_lists 6 = .ok (.iconst 0, 1) := by decide +kernel
theorem dX12_lists_7 : decode cX12_lists 7 = .ok (.invokevirtual 253, 3) := by decide +kernel
theorem dX12_lists_10 : decode cX12_lists 10 = .ok (.istore_n 1, 1) := by decide +kernel
theorem dX12_lists_11 : decode cX12_lists 11 = .ok (.iconst 0, 1) := by decide +kernel
theorem dX12_lists_12 : decode cX12_lists 12 = .ok (.istore_n 2, 1) := by decide +kernel
theorem dX12_lists_13 : decode cX12_lists 13 = .ok (.iload_n 2, 1) := by decide +kernel
theorem dX12_lists_14 : decode cX12_lists 14 = .ok (.sipush 256, 3) := by decide +kernel
theorem dX12_lists_17 : decode cX12_lists 17 = .ok (.if_icmp .ge 69, 3) := by decide +kernel
theorem dX12_lists_20 : decode cX12_lists 20 = .ok (.iload_n 1, 1) := by decide +kernel
theorem dX12_lists_21 : decode cX12_lists 21 = .ok (.iconst (-1), 1) := by decide +kernel
theorem dX12_lists_22 : decode cX12_lists 22 = .ok (.if_icmp .eq 64, 3) := by decide +kernel
theorem dX12_lists_25 : decode cX12_lists 25 = .ok (.iconst 0, 1) := by decide +kernel
theorem dX12_lists_26 : decode cX12_lists 26 = .ok (.istore_n 3, 1) := by decide +kernel
theorem dX12_lists_27 : decode cX12_lists 27 = .ok (.iload_n 3, 1) := by decide +kernel
theorem dX12_lists_28 : decode cX12_lists 28 = .ok (.aload_n 0, 1) := by decide +kernel
theorem dX12_lists_29 : decode cX12_lists 29 = .ok (.getfield 23, 3) := by decide +kernel
theorem dX12_lists_32 : decode cX12_lists 32 = .ok (.iload_n 1, 1) := by decide +kernel
theorem dX12_lists_33 : decode cX12_lists 33 = .ok (.iaload, 1) := by decide +kernel
theorem dX12_lists_34 : decode cX12_lists 34 = .ok (.if_icmp .ge 39, 3) := by decide +kernel
theorem dX12_lists_37 : decode cX12_lists 37 = .ok (.aload_n 0, 1) := by decide +kernel
theorem dX12_lists_38 : decode cX12_lists 38 = .ok (.getfield 113, 3) := by decide +kernel
theorem dX12_lists_41 : decode cX12_lists 41 = .ok (.aload_n 0, 1) := by decide +kernel
theorem dX12_lists_42 : decode cX12_lists 42 = .ok (.getfield 271, 3) := by decide +kernel
theorem dX12_lists_45 : decode cX12_lists 45 = .ok (.aload_n 0, 1) := by decide +kernel
theorem dX12_lists_46 : decode cX12_lists 46 = .ok (.getfield 26, 3) := by decide +kernel
theorem dX12_lists_49 : decode cX12_lists 49 = .ok (.bipush 14, 2) := by decide +kernel
theorem dX12_lists_51 : decode cX12_lists 51 = .ok (.iload_n 1, 1) := by decide +kernel
theorem dX12_lists_52 : decode cX12_lists 52 = .ok (.imul, 1) := by decide +kernel
theorem dX12_lists_53 : decode cX12_lists 53 = .ok (.iload_n 3, 1) := by decide +kernel
theorem dX12_lists_54 : decode cX12_lists 54 = .ok (.iadd, 1) := by decide +kernel
theorem dX12_lists_55 : decode cX12_lists 55 = .ok (.iaload, 1) := by decide +kernel
theorem dX12_lists_56 : decode cX12_lists 56 = .ok (.iastore, 1) := by decide +kernel
theorem dX12_lists_57 : decode cX12_lists 57 = .ok (.aload_n 0, 1) := by decide +kernel
theorem dX12_lists_58 : decode cX12_lists 58 = .ok (.dup, 1) := by decide +kernel
theorem dX12_lists_59 : decode cX12_lists 59 = .ok (.getfield 271, 3) := by decide +kernel
theorem dX12_lists_62 : decode cX12_lists 62 = .ok (.iconst 1, 1) := by decide +kernel
theorem dX12_lists_63 : decode cX12_lists 63 = .ok (.iadd, 1) := by decide +kernel
theorem dX12_lists_64 : decode cX12_lists 64 = .ok (.putfield 271, 3) := by decide +kernel
theorem dX12_lists_67 : decode cX12_lists 67 = .ok (.iinc 3 1, 3) := by decide +kernel
theorem dX12_lists_70 : decode cX12_lists 70 = .ok (.goto (-43), 3) := by decide +kernel
theorem dX12_lists_73 : decode cX12_lists 73 = .ok (.aload_n 0, 1) := by decide +kernel
theorem dX12_lists_74 : decode cX12_lists 74 = .ok (.getfield 35, 3) := by decide +kernel
theorem dX12_lists_77 : decode cX12_lists 77 = .ok (.iload_n 1, 1) := by decide +kernel
theorem dX12_lists_78 : decode cX12_lists 78 = .ok (.iaload, 1) := by decide +kernel
theorem dX12_lists_79 : decode cX12_lists 79 = .ok (.istore_n 1, 1) := by decide +kernel
theorem dX12_lists_80 : decode cX12_lists 80 = .ok (.iinc 2 1, 3) := by decide +kernel
theorem dX12_lists_83 : decode cX12_lists 83 = .ok (.goto (-70), 3) := by decide +kernel
theorem dX12_lists_86 : decode cX12_lists 86 = .ok (.return_, 1) := by decide +kernel
def f_X12_lists_p27 (ln : Nat → Nat) (kb13 : Int32 → Int32 → dr_S → Option (Int32 × dr_S)) : Nat → Int32 → Int32 → Int32 → dr_S → Option (Int32 × dr_S)
  | 0, _, _, _, _ => none
  | n + 1, x1, x2, x3, s => (dr_rd ln s 32 x1).bind (fun v4 => (if v4 ≤ x3 then (dr_rd ln s 36 x1).bind (fun v5 => dr_let (x2 + 1) (fun y6 => (kb13 v5 y6 s))) else (dr_rd ln s 33 ((14 * x1) + x3)).bind (fun v7 => (dr_wr ln s 62 (s.2 1242) v7).bind (fun s8 => dr_letS (dr_pf s8 1242 ((s8.2 1242) + 1)) (fun s9 => dr_let (x3 + 1) (fun y10 => (f_X12_lists_p27 ln kb13 n x1 x2 y10 s9)))))))
def f_X12_lists_p13 (ln : Nat → Nat) : Nat → Int32 → Int32 → dr_S → Option (Int32 × dr_S)
  | 0, _, _, _ => none
  | n + 1, x1, x2, s => (if ((256 : Int32) ≤ x2 : Prop) then some (0, s) else (if x1 = (-1) then some (0, s) else (f_X12_lists_p27 ln (f_X12_lists_p13 ln n) dr_N x1 x2 0 s)))
def f_X12_lists (ln : Nat → Nat) (s : dr_S) : Option (Int32 × dr_S) := dr_letS (dr_pf s 1242 0) (fun s1 => dr_bnd (f_X12_firstOf ln 0 s1) (fun r3 s2 => (f_X12_lists_p13 ln dr_N r3 0 s2)))
section
variable {p : Program} {l : Launch} {e : Env} {s0 : State} {m : MethodId} {args : Array Value} {below : List Frame} {meth : Method} {c : Code} {A : Nat → Prop} {D : va_G} {cI cZ : ClassId} {ad ln : Nat → Nat} {L : List Nat}
set_option maxHeartbeats 4000000 in
set_option maxRecDepth 20000 in
theorem w_X12_lists_p27 {kb13 : Int32 → Int32 → dr_S → Option (Int32 × dr_S)} (E : dr_E p (dr_rm 1) s0 m args meth c 0 0 A s0.heap D cI cZ ad L cX12_lists 4 RX12 none) (hap : dr_ap ad L) (hN : ∀ x ∈ nd_12, x ∈ L) (hkb13 : ∀ (x1 : Int32) (x2 : Int32) (s : dr_S), dr_G p l e (dr_rm 1) s0 m args below meth c 0 0 A s0.heap D cI cZ ad ln L 4 (dr_Zv D cI cZ ad ln L A below args s0 0 0) 13 [(0, .ref (ad 12)), (1, .int x1), (2, .int x2)] [] s (kb13 x1 x2 s)) : ∀ (n : Nat) (x1 : Int32) (x2 : Int32) (x3 : Int32) (s : dr_S), dr_G p l e (dr_rm 1) s0 m args below meth c 0 0 A s0.heap D cI cZ ad ln L 4 (dr_Zv D cI cZ ad ln L A below args s0 0 0) 27 [(0, .ref (ad 12)), (1, .int x1), (2, .int x2), (3, .int x3)] [] s (f_X12_lists_p27 ln kb13 n x1 x2 x3 s) := by
  intro n
  induction n with
  | zero =>
    intro x1 x2 x3 s
    rw [f_X12_lists_p27]
    exact g_none
  | succ n hkb27 =>
    intro x1 x2 x3 s
    rw [f_X12_lists_p27]
    refine g_iload_n E dX12_lists_27 3 rfl ?_
    refine g_aload_n E dX12_lists_28 0 rfl ?_
    refine gg_12_23 E (hN 12 (by decide)) dX12_lists_29 ?_
    refine g_iload_n E dX12_lists_32 1 rfl ?_
    refine g_iaload E (hN 32 (by decide)) (by decide) rfl dX12_lists_33 (fun v4 => ?_)
    refine g_icmp_ge E 73 dX12_lists_34 (by decide) ?_ ?_
    · refine g_aload_n E dX12_lists_73 0 rfl ?_
      refine gg_12_35 E (hN 12 (by decide)) dX12_lists_74 ?_
      refine g_iload_n E dX12_lists_77 1 rfl ?_
      refine g_iaload E (hN 36 (by decide)) (by decide) rfl dX12_lists_78 (fun v5 => ?_)
      refine g_istore_n E (lv' := [(1, .int v5), (0, .ref (ad 12)), (2, .int x2), (3, .int x3)]) dX12_lists_79 (by decide) rfl ?_
      refine g_iinc E (lv' := []) (lv'' := fun y6 => [(2, .int y6), (1, .int v5), (0, .ref (ad 12)), (3, .int x3)]) (v := 1) dX12_lists_80 2 rfl (by decide) (by decide) (fun _ => rfl) (fun y6 => ?_)
      refine g_goto E 13 dX12_lists_83 (by decide) ?_
      refine g_sub [2, 1, 0] rfl ?_
      exact hkb13 v5 y6 s
    · refine g_aload_n E dX12_lists_37 0 rfl ?_
      refine gg_12_113 E (hN 12 (by decide)) dX12_lists_38 ?_
      refine g_aload_n E dX12_lists_41 0 rfl ?_
      refine gg_12_271 E (hN 12 (by decide)) dX12_lists_42 ?_
      refine g_aload_n E dX12_lists_45 0 rfl ?_
      refine gg_12_26 E (hN 12 (by decide)) dX12_lists_46 ?_
      refine g_bipush E (v := 14) dX12_lists_49 (by decide) ?_
      refine g_iload_n E dX12_lists_51 1 rfl ?_
      refine g_imul E dX12_lists_52 ?_
      refine g_iload_n E dX12_lists_53 3 rfl ?_
      refine g_iadd E dX12_lists_54 ?_
      refine g_iaload E (hN 33 (by decide)) (by decide) rfl dX12_lists_55 (fun v7 => ?_)
      refine g_iastore E (hN 62 (by decide)) (by decide) rfl dX12_lists_56 (fun s8 => ?_)
      refine g_aload_n E dX12_lists_57 0 rfl ?_
      refine g_dup E dX12_lists_58 rfl ?_
      refine gg_12_271 E (hN 12 (by decide)) dX12_lists_59 ?_
      refine g_iconst E (v := 1) dX12_lists_62 (by decide) ?_
      refine g_iadd E dX12_lists_63 ?_
      refine gp_12_271 E (hN 12 (by decide)) dX12_lists_64 (fun s9 => ?_)
      refine g_iinc E (lv' := []) (lv'' := fun y10 => [(3, .int y10), (0, .ref (ad 12)), (1, .int x1), (2, .int x2)]) (v := 1) dX12_lists_67 3 rfl (by decide) (by decide) (fun _ => rfl) (fun y10 => ?_)
      refine g_goto E 27 dX12_lists_70 (by decide) ?_
      refine g_sub [1, 2, 3, 0] rfl ?_
      exact hkb27 x1 x2 y10 s9
set_option maxHeartbeats 4000000 in
set_option maxRecDepth 20000 in
theorem w_X12_lists_p13 (E : dr_E p (dr_rm 1) s0 m args meth c 0 0 A s0.heap D cI cZ ad L cX12_lists 4 RX12 none) (hap : dr_ap ad L) (hN : ∀ x ∈ nd_12, x ∈ L) : ∀ (n : Nat) (x1 : Int32) (x2 : Int32) (s : dr_S), dr_G p l e (dr_rm 1) s0 m args below meth c 0 0 A s0.heap D cI cZ ad ln L 4 (dr_Zv D cI cZ ad ln L A below args s0 0 0) 13 [(0, .ref (ad 12)), (1, .int x1), (2, .int x2)] [] s (f_X12_lists_p13 ln n x1 x2 s) := by
  intro n
  induction n with
  | zero =>
    intro x1 x2 s
    rw [f_X12_lists_p13]
    exact g_none
  | succ n hkb13 =>
    intro x1 x2 s
    rw [f_X12_lists_p13]
    refine g_iload_n E dX12_lists_13 2 rfl ?_
    refine g_sipush E (v := 256) dX12_lists_14 (by decide) ?_
    refine g_icmp_ge E 86 dX12_lists_17 (by decide) ?_ ?_
    · exact g_vret E dX12_lists_86
    · refine g_iload_n E dX12_lists_20 1 rfl ?_
      refine g_iconst E (v := (-1)) dX12_lists_21 (by decide) ?_
      refine g_icmp_eq E 86 dX12_lists_22 (by decide) ?_ ?_
      · exact g_vret E dX12_lists_86
      · refine g_iconst E (v := 0) dX12_lists_25 (by decide) ?_
        refine g_istore_n E (lv' := [(3, .int 0), (0, .ref (ad 12)), (1, .int x1), (2, .int x2)]) dX12_lists_26 (by decide) rfl ?_
        refine g_sub [1, 2, 3, 0] rfl ?_
        exact w_X12_lists_p27 E hap hN hkb13 dr_N x1 x2 0 s
set_option maxHeartbeats 4000000 in
set_option maxRecDepth 20000 in
theorem c_X12_lists (hap : dr_ap ad L) (hN : ∀ x ∈ nd_12, x ∈ L) (s : dr_S) : dr_Mv l D cI cZ ad ln L yX12_lists cX12_lists 4 1 [.ref (ad 12)] s (f_X12_lists ln  s) := by
  refine dr_metv (own := RX12) (by decide) rfl (Nat.le_of_ble_eq_true rfl) hap ?_
  intro p e s0 m args below meth c A E
  unfold f_X12_lists
  refine g_eqL (lv' := [(0, .ref (ad 12))]) rfl ?_
  refine g_aload_n E dX12_lists_0 0 rfl ?_
  refine g_iconst E (v := 0) dX12_lists_1 (by decide) ?_
  refine gp_12_271 E (hN 12 (by decide)) dX12_lists_2 (fun s1 => ?_)
  refine g_aload_n E dX12_lists_5 0 rfl ?_
  refine g_iconst E (v := 0) dX12_lists_6 (by decide) ?_
  refine g_cVi E [.int 0] rfl (c_X12_firstOf hap hN 0 s1) (hN 12 (by decide)) (by decide) rfl rfl mi_X12_firstOf msl_X12_firstOf mw_X12_firstOf rfl ml_12_253 ⟨Nat.le_of_ble_eq_true rfl, Nat.le_of_ble_eq_true rfl⟩ (Nat.le_of_ble_eq_true rfl) dX12_lists_7 (fun r3 s2 => ?_)
  refine g_istore_n E (lv' := [(1, .int r3), (0, .ref (ad 12))]) dX12_lists_10 (by decide) rfl ?_
  refine g_iconst E (v := 0) dX12_lists_11 (by decide) ?_
  refine g_istore_n E (lv' := [(2, .int 0), (1, .int r3), (0, .ref (ad 12))]) dX12_lists_12 (by decide) rfl ?_
  refine g_sub [2, 1, 0] rfl ?_
  exact w_X12_lists_p13 E hap hN dr_N r3 0 s2
end

theorem dX12_nth_0 : decode cX12_nth 0 = .ok (.aload_n 0, 1) := by decide +kernel
theorem dX12_nth_1 : decode cX12_nth 1 = .ok (.invokevirtual 274, 3) := by decide +kernel
theorem dX12_nth_4 : decode cX12_nth 4 = .ok (.iload_n 1, 1) := by decide +kernel
theorem dX12_nth_5 : decode cX12_nth 5 = .ok (.iconst 0, 1) := by decide +kernel
theorem dX12_nth_6 : decode cX12_nth 6 = .ok (.aload_n 0, 1) := by decide +kernel
theorem dX12_nth_7 : decode cX12_nth 7 = .ok (.getfield 271, 3) := by decide +kernel
theorem dX12_nth_10 : decode cX12_nth 10 = .ok (.iconst 1, 1) := by decide +kernel
theorem dX12_nth_11 : decode cX12_nth 11 = .ok (.isub, 1) := by decide +kernel
theorem dX12_nth_12 : decode cX12_nth 12 = .ok (.invokestatic 160, 3) := by decide +kernel
theorem dX12_nth_15 : decode cX12_nth 15 = .ok (.ifCond .eq 12, 3) := by decide +kernel
theorem dX12_nth_18 : decode cX12_nth 18 = .ok (.aload_n 0, 1) := by decide +kernel
theorem dX12_nth_19 : decode cX12_nth 19 = .ok (.getfield 113, 3) := by decide +kernel
theorem dX12_nth_22 : decode cX12_nth 22 = .ok (.iload_n 1, 1) := by decide +kernel
theorem dX12_nth_23 : decode cX12_nth 23 = .ok (.iaload, 1) := by decide +kernel
theorem dX12_nth_24 : decode cX12_nth 24 = .ok (.goto 4, 3) := by decide +kernel
theorem dX12_nth_27 : decode cX12_nth 27 = .ok (.iconst (-1), 1) := by decide +kernel
theorem dX12_nth_28 : decode cX12_nth 28 = .ok (.ireturn, 1) := by decide +kernel
def f_X12_nth (ln : Nat → Nat) (x1 : Int32) (s : dr_S) : Option (Int32 × dr_S) := dr_bndv (f_X12_lists ln  s) (fun s1 => dr_bnd (f_X12_in ln x1 0 (((s1.2 1242) - 1)) s1) (fun r3 s2 => (if r3 = 0 then some ((-1), s2) else (dr_rd ln s2 62 x1).bind (fun v4 => some (v4, s2)))))
section
variable {p : Program} {l : Launch} {e : Env} {s0 : State} {m : MethodId} {args : Array Value} {below : List Frame} {meth : Method} {c : Code} {A : Nat → Prop} {D : va_G} {cI cZ : ClassId} {ad ln : Nat → Nat} {L : List Nat}
set_option maxHeartbeats 4000000 in
set_option maxRecDepth 20000 in
theorem c_X12_nth (hap : dr_ap ad L) (hN : ∀ x ∈ nd_12, x ∈ L) (x1 : Int32) (s : dr_S) : dr_Mi l D cI cZ ad ln L yX12_nth cX12_nth 2 (some .int) 2 [.ref (ad 12), .int x1] s (f_X12_nth ln x1 s) := by
  refine dr_meti (own := RX12) (by decide) rfl (Nat.le_of_ble_eq_true rfl) hap ?_
  intro p e s0 m args below meth c A E
  unfold f_X12_nth
  refine g_eqL (lv' := [(0, .ref (ad 12)), (1, .int x1)]) rfl ?_
  refine g_aload_n E dX12_nth_0 0 rfl ?_
  refine g_cVv E [] rfl (c_X12_lists hap hN  s) (hN 12 (by decide)) (by decide) rfl rfl mi_X12_lists msl_X12_lists mw_X12_lists rfl ml_12_274 ⟨Nat.le_of_ble_eq_true rfl, Nat.le_of_ble_eq_true rfl⟩ (Nat.le_of_ble_eq_true rfl) dX12_nth_1 (fun s1 => ?_)
  refine g_iload_n E dX12_nth_4 1 rfl ?_
  refine g_iconst E (v := 0) dX12_nth_5 (by decide) ?_
  refine g_aload_n E dX12_nth_6 0 rfl ?_
  refine gg_12_271 E (hN 12 (by decide)) dX12_nth_7 ?_
  refine g_iconst E (v := 1) dX12_nth_10 (by decide) ?_
  refine g_isub E dX12_nth_11 ?_
  refine g_cSi E [.int x1, .int 0, .int ((s1.2 1242) - 1)] rfl (c_X12_in hap hN x1 0 (((s1.2 1242) - 1)) s1) ms_X12_in mw_X12_in rfl ml_12_160 ⟨Nat.le_of_ble_eq_true rfl, Nat.le_of_ble_eq_true rfl⟩ (Nat.le_of_ble_eq_true rfl) dX12_nth_12 (fun r3 s2 => ?_)
  refine g_if_eq E 27 dX12_nth_15 (by decide) ?_ ?_
  · refine g_iconst E (v := (-1)) dX12_nth_27 (by decide) ?_
    exact g_iret E dX12_nth_28
  · refine g_aload_n E dX12_nth_18 0 rfl ?_
    refine gg_12_113 E (hN 12 (by decide)) dX12_nth_19 ?_
    refine g_iload_n E dX12_nth_22 1 rfl ?_
    refine g_iaload E (hN 62 (by decide)) (by decide) rfl dX12_nth_23 (fun v4 => ?_)
    refine g_goto E 28 dX12_nth_24 (by decide) ?_
    exact g_iret E dX12_nth_28
end

theorem dX12_rank_0 : decode cX12_rank 0 = .ok (.iload_n 1, 1) := by decide +kernel
theorem dX12_rank_1 : decode cX12_rank 1 = .ok (.invokestatic 185, 3) := by decide +kernel
theorem dX12_rank_4 : decode cX12_rank 4 = .ok (.ifCond .ne 5, 3) := by decide +kernel
theorem dX12_rank_7 : decode cX12_rank 7 = .ok (.iconst (-1), 1) := by decide +kernel
theorem dX12_rank_8 : decode cX12_rank 8 = .ok (.ireturn, 1) := by decide +kernel
theorem dX12_rank_9 : decode cX12_rank 9 = .ok (.aload_n 0, 1) := by decide +kernel
theorem dX12_rank_10 : decode cX12_rank 10 = .ok (.invokevirtual 274, 3) := by decide +kernel
theorem dX12_rank_13 : decode cX12_rank 13 = .ok (.iconst 0, 1) := by decide +kernel
theorem dX12_rank_14 : decode cX12_rank 14 = .ok (.istore_n 2, 1) := by decide +kernel
theorem dX12_rank_15 : decode cX12_rank 15 = .ok (.iconst 0, 1) := by decide +kernel
theorem dX12_rank_16 : decode cX12_rank 16 = .ok (.istore_n 3, 1) := by decide +kernel
theorem dX12_rank_17 : decode cX12_rank 17 = .ok (.iload_n 3, 1) := by decide +kernel
theorem dX12_rank_18 : decode cX12_rank 18 = .ok (.aload_n 0, 1) := by decide +kernel
theorem dX12_rank_19 : decode cX12_rank 19 = .ok (.getfield 271, 3) := by decide +kernel
theorem dX12_rank_22 : decode cX12_rank 22 = .ok (.if_icmp .ge 31, 3) := by decide +kernel
theorem dX12_rank_25 : decode cX12_rank 25 = .ok (.iload_n 2, 1) := by decide +kernel
theorem dX12_rank_26 : decode cX12_rank 26 = .ok (.aload_n 0, 1) := by decide +kernel
theorem dX12_rank_27 : decode cX12_rank 27 = .ok (.aload_n 0, 1) := by decide +kernel
theorem dX12_rank_28 : decode cX12_rank 28 = .ok (.getfield 113, 3) := by decide +kernel
theorem dX12_rank_31 : decode cX12_rank 31 = .ok (.iload_n 3, 1) := by decide +kernel
theorem dX12_rank_32 : decode cX12_rank 32 = .ok (.iaload, 1) := by decide +kernel
theorem dX12_rank_33 : decode cX12_rank 33 = .ok (.iload_n 1, 1) := by decide +kernel
theorem dX12_rank_34 : decode cX12_rank 34 = .ok (.invokevirtual 188, 3) := by decide +kernel
theorem dX12_rank_37 : decode cX12_rank 37 = .ok (.ifCond .eq 7, 3) := by decide +kernel
theorem dX12_rank_40 : decode cX12_rank 40 = .ok (.iconst 1, 1) := by decide +kernel
theorem dX12_rank_41 : decode cX12_rank 41 = .ok (.goto 4, 3) := by decide +kernel
theorem dX12_rank_44 : decode cX12_rank 44 = .ok (.iconst 0, 1) := by decide +kernel
theorem dX12_rank_45 : decode cX12_rank 45 = .ok (.iadd, 1) := by decide +kernel
theorem dX12_rank_46 : decode cX12_rank 46 = .ok (.istore_n 2, 1) := by decide +kernel
theorem dX12_rank_47 : decode cX12_rank 47 = .ok (.iinc 3 1, 3) := by decide +kernel
theorem dX12_rank_50 : decode cX12_rank 50 = .ok (.goto (-33), 3) := by decide +kernel
theorem dX12_rank_53 : decode cX12_rank 53 = .ok (.iload_n 2, 1) := by decide +kernel
theorem dX12_rank_54 : decode cX12_rank 54 = .ok (.ireturn, 1) := by decide +kernel
def f_X12_rank_p45 (ln : Nat → Nat) (kb17 : Int32 → Int32 → Int32 → dr_S → Option (Int32 × dr_S)) (x1 : Int32) (x3 : Int32) (z0 : Int32) (z1 : Int32) (s : dr_S) : Option (Int32 × dr_S) := dr_let (z1 + z0) (fun y7 => dr_let (x3 + 1) (fun y8 => (kb17 x1 y7 y8 s)))
def f_X12_rank_p17 (ln : Nat → Nat) : Nat → Int32 → Int32 → Int32 → dr_S → Option (Int32 × dr_S)
  | 0, _, _, _, _ => none
  | n + 1, x1, x2, x3, s => (if (s.2 1242) ≤ x3 then some (x2, s) else (dr_rd ln s 62 x3).bind (fun v4 => dr_bnd (f_X12_isAhead ln v4 x1 s) (fun r6 s5 => (if r6 = 0 then (f_X12_rank_p45 ln (f_X12_rank_p17 ln n) x1 x3 0 x2 s5) else (f_X12_rank_p45 ln (f_X12_rank_p17 ln n) x1 x3 1 x2 s5)))))
def f_X12_rank (ln : Nat → Nat) (x1 : Int32) (s : dr_S) : Option (Int32 × dr_S) := dr_bnd (f_X12_isHeading ln x1 s) (fun r2 s1 => (if r2 = 0 then some ((-1), s1) else dr_bndv (f_X12_lists ln  s1) (fun s3 => (f_X12_rank_p17 ln dr_N x1 0 0 s3))))
section
variable {p : Program} {l : Launch} {e : Env} {s0 : State} {m : MethodId} {args : Array Value} {below : List Frame} {meth : Method} {c : Code} {A : Nat → Prop} {D : va_G} {cI cZ : ClassId} {ad ln : Nat → Nat} {L : List Nat}
set_option maxHeartbeats 4000000 in
set_option maxRecDepth 20000 in
theorem w_X12_rank_p45 {kb17 : Int32 → Int32 → Int32 → dr_S → Option (Int32 × dr_S)} (E : dr_E p (dr_rm 2) s0 m args meth c 0 0 A s0.heap D cI cZ ad L cX12_rank 4 RX12 (some .int)) (hap : dr_ap ad L) (hN : ∀ x ∈ nd_12, x ∈ L) (hkb17 : ∀ (x1 : Int32) (x2 : Int32) (x3 : Int32) (s : dr_S), dr_G p l e (dr_rm 2) s0 m args below meth c 0 0 A s0.heap D cI cZ ad ln L 4 (dr_Zi D cI cZ ad ln L A below args s0 0 0) 17 [(0, .ref (ad 12)), (1, .int x1), (2, .int x2), (3, .int x3)] [] s (kb17 x1 x2 x3 s)) : ∀ (x1 : Int32) (x3 : Int32) (z0 : Int32) (z1 : Int32) (s : dr_S), dr_G p l e (dr_rm 2) s0 m args below meth c 0 0 A s0.heap D cI cZ ad ln L 4 (dr_Zi D cI cZ ad ln L A below args s0 0 0) 45 [(0, .ref (ad 12)), (1, .int x1), (3, .int x3)] [.int z0, .int z1] s (f_X12_rank_p45 ln kb17 x1 x3 z0 z1 s) := by
  intro x1 x3 z0 z1 s
  unfold f_X12_rank_p45
  refine g_iadd E dX12_rank_45 ?_
  refine g_let (fun y7 => ?_)
  refine g_istore_n E (lv' := [(2, .int y7), (0, .ref (ad 12)), (1, .int x1), (3, .int x3)]) dX12_rank_46 (by decide) rfl ?_
  refine g_iinc E (lv' := []) (lv'' := fun y8 => [(3, .int y8), (2, .int y7), (0, .ref (ad 12)), (1, .int x1)]) (v := 1) dX12_rank_47 3 rfl (by decide) (by decide) (fun _ => rfl) (fun y8 => ?_)
  refine g_goto E 17 dX12_rank_50 (by decide) ?_
  refine g_sub [2, 3, 1, 0] rfl ?_
  exact hkb17 x1 y7 y8 s
set_option maxHeartbeats 4000000 in
set_option maxRecDepth 20000 in
theorem w_X12_rank_p17 (E : dr_E p (dr_rm 2) s0 m args meth c 0 0 A s0.heap D cI cZ ad L cX12_rank 4 RX12 (some .int)) (hap : dr_ap ad L) (hN : ∀ x ∈ nd_12, x ∈ L) : ∀ (n : Nat) (x1 : Int32) (x2 : Int32) (x3 : Int32) (s : dr_S), dr_G p l e (dr_rm 2) s0 m args below meth c 0 0 A s0.heap D cI cZ ad ln L 4 (dr_Zi D cI cZ ad ln L A below args s0 0 0) 17 [(0, .ref (ad 12)), (1, .int x1), (2, .int x2), (3, .int x3)] [] s (f_X12_rank_p17 ln n x1 x2 x3 s) := by
  intro n
  induction n with
  | zero =>
    intro x1 x2 x3 s
    rw [f_X12_rank_p17]
    exact g_none
  | succ n hkb17 =>
    intro x1 x2 x3 s
    rw [f_X12_rank_p17]
    refine g_iload_n E dX12_rank_17 3 rfl ?_
    refine g_aload_n E dX12_rank_18 0 rfl ?_
    refine gg_12_271 E (hN 12 (by decide)) dX12_rank_19 ?_
    refine g_icmp_ge E 53 dX12_rank_22 (by decide) ?_ ?_
    · refine g_iload_n E dX12_rank_53 2 rfl ?_
      exact g_iret E dX12_rank_54
    · refine g_iload_n E dX12_rank_25 2 rfl ?_
      refine g_aload_n E dX12_rank_26 0 rfl ?_
      refine g_aload_n E dX12_rank_27 0 rfl ?_
      refine gg_12_113 E (hN 12 (by decide)) dX12_rank_28 ?_
      refine g_iload_n E dX12_rank_31 3 rfl ?_
      refine g_iaload E (hN 62 (by decide)) (by decide) rfl dX12_rank_32 (fun v4 => ?_)
      refine g_iload_n E dX12_rank_33 1 rfl ?_
      refine g_cVi E [.int v4, .int x1] rfl (c_X12_isAhead hap hN v4 x1 s) (hN 12 (by decide)) (by decide) rfl rfl mi_X12_isAhead msl_X12_isAhead mw_X12_isAhead rfl ml_12_188 ⟨Nat.le_of_ble_eq_true rfl, Nat.le_of_ble_eq_true rfl⟩ (Nat.le_of_ble_eq_true rfl) dX12_rank_34 (fun r6 s5 => ?_)
      refine g_if_eq E 44 dX12_rank_37 (by decide) ?_ ?_
      · refine g_iconst E (v := 0) dX12_rank_44 (by decide) ?_
        refine g_sub [0, 1, 3] rfl ?_
        exact w_X12_rank_p45 E hap hN hkb17 x1 x3 0 x2 s5
      · refine g_iconst E (v := 1) dX12_rank_40 (by decide) ?_
        refine g_goto E 45 dX12_rank_41 (by decide) ?_
        refine g_sub [0, 1, 3] rfl ?_
        exact w_X12_rank_p45 E hap hN hkb17 x1 x3 1 x2 s5
set_option maxHeartbeats 4000000 in
set_option maxRecDepth 20000 in
theorem c_X12_rank (hap : dr_ap ad L) (hN : ∀ x ∈ nd_12, x ∈ L) (x1 : Int32) (s : dr_S) : dr_Mi l D cI cZ ad ln L yX12_rank cX12_rank 4 (some .int) 2 [.ref (ad 12), .int x1] s (f_X12_rank ln x1 s) := by
  refine dr_meti (own := RX12) (by decide) rfl (Nat.le_of_ble_eq_true rfl) hap ?_
  intro p e s0 m args below meth c A E
  unfold f_X12_rank
  refine g_eqL (lv' := [(0, .ref (ad 12)), (1, .int x1)]) rfl ?_
  refine g_iload_n E dX12_rank_0 1 rfl ?_
  refine g_cSi E [.int x1] rfl (c_X12_isHeading hap hN x1 s) ms_X12_isHeading mw_X12_isHeading rfl ml_12_185 ⟨Nat.le_of_ble_eq_true rfl, Nat.le_of_ble_eq_true rfl⟩ (Nat.le_of_ble_eq_true rfl) dX12_rank_1 (fun r2 s1 => ?_)
  refine g_if_ne E 9 dX12_rank_4 (by decide) ?_ ?_
  · refine g_aload_n E dX12_rank_9 0 rfl ?_
    refine g_cVv E [] rfl (c_X12_lists hap hN  s1) (hN 12 (by decide)) (by decide) rfl rfl mi_X12_lists msl_X12_lists mw_X12_lists rfl ml_12_274 ⟨Nat.le_of_ble_eq_true rfl, Nat.le_of_ble_eq_true rfl⟩ (Nat.le_of_ble_eq_true rfl) dX12_rank_10 (fun s3 => ?_)
    refine g_iconst E (v := 0) dX12_rank_13 (by decide) ?_
    refine g_istore_n E (lv' := [(2, .int 0), (0, .ref (ad 12)), (1, .int x1)]) dX12_rank_14 (by decide) rfl ?_
    refine g_iconst E (v := 0) dX12_rank_15 (by decide) ?_
    refine g_istore_n E (lv' := [(3, .int 0), (2, .int 0), (0, .ref (ad 12)), (1, .int x1)]) dX12_rank_16 (by decide) rfl ?_
    refine g_sub [2, 3, 1, 0] rfl ?_
    exact w_X12_rank_p17 E hap hN dr_N x1 0 0 s3
  · refine g_iconst E (v := (-1)) dX12_rank_7 (by decide) ?_
    exact g_iret E dX12_rank_8
end

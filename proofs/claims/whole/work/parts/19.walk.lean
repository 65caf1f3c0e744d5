theorem dX11_fall_0 : decode cX11_fall 0 = .ok (.iconst 0, 1) := by decide +kernel
theorem dX11_fall_1 : decode cX11_fall 1 = .ok (.istore_n 1, 1) := by decide +kernel
theorem dX11_fall_2 : decode cX11_fall 2 = .ok (.iconst 0, 1) := by decide +kernel
theorem dX11_fall_3 : decode cX11_fall 3 = .ok (.istore_n 2, 1) := by decide +kernel
theorem dX11_fall_4 : decode cX11_fall 4 = .ok (.iload_n 2, 1) := by decide +kernel
theorem dX11_fall_5 : decode cX11_fall 5 = .ok (.iconst 4, 1) := by decide +kernel
theorem dX11_fall_6 : decode cX11_fall 6 = .ok (.if_icmp .ge 50, 3) := by decide +kernel
theorem dX11_fall_9 : decode cX11_fall 9 = .ok (.aload_n 0, 1) := by decide +kernel
theorem dX11_fall_10 : decode cX11_fall 10 = .ok (.getfield 50, 3) := by decide +kernel
theorem dX11_fall_13 : decode cX11_fall 13 = .ok (.iload_n 2, 1) := by decide +kernel
theorem dX11_fall_14 : decode cX11_fall 14 = .ok (.invokevirtual 156, 3) := by decide +kernel
theorem dX11_fall_17 : decode cX11_fall 17 = .ok (.ifCond .ne 33, 3) := by decide +kernel
theorem dX11_fall_20 : decode cX11_fall 20 = .ok (.aload_n 0, 1) := by decide +kernel
theorem dX11_fall_21 : decode cX11_fall 21 = .ok (.getfield 55, 3) := by decide +kernel
theorem dX11_fall_24 : decode cX11_fall 24 = .ok (.aload_n 0, 1) := by decide +kernel
theorem dX11_fall_25 : decode cX11_fall 25 = .ok (.getfield 50, 3) := by decide +kernel
theorem dX11_fall_28 : decode cX11_fall 28 = .ok (.iload_n 2, 1) := by decide +kernel
theorem dX11_fall_29 : decode cX11_fall 29 = .ok (.iconst 2, 1) := by decide +kernel
theorem dX11_fall_30 : decode cX11_fall 30 = .ok (.invokevirtual 162, 3) := by decide +kernel
theorem dX11_fall_33 : decode cX11_fall 33 = .ok (.bipush 6, 2) := by decide +kernel
theorem dX11_fall_35 : decode cX11_fall 35 = .ok (.iconst 1, 1) := by decide +kernel
theorem dX11_fall_36 : decode cX11_fall 36 = .ok (.invokevirtual 206, 3) := by decide +kernel
theorem dX11_fall_39 : decode cX11_fall 39 = .ok (.aload_n 0, 1) := by decide +kernel
theorem dX11_fall_40 : decode cX11_fall 40 = .ok (.getfield 50, 3) := by decide +kernel
theorem dX11_fall_43 : decode cX11_fall 43 = .ok (.iload_n 2, 1) := by decide +kernel
theorem dX11_fall_44 : decode cX11_fall 44 = .ok (.invokevirtual 207, 3) := by decide +kernel
theorem dX11_fall_47 : decode cX11_fall 47 = .ok (.iinc 1 1, 3) := by decide +kernel
theorem dX11_fall_50 : decode cX11_fall 50 = .ok (.iinc 2 1, 3) := by decide +kernel
theorem dX11_fall_53 : decode cX11_fall 53 = .ok (.goto (-49), 3) := by decide +kernel
theorem dX11_fall_56 : decode cX11_fall 56 = .ok (.aload_n 0, 1) := by decide +kernel
theorem dX11_fall_57 : decode cX11_fall 57 = .ok (.getfield 43, 3) := by decide +kernel
theorem dX11_fall_60 : decode cX11_fall 60 = .ok (.invokevirtual 210, 3) := by decide +kernel
theorem dX11_fall_63 : decode cX11_fall 63 = .ok (.aload_n 0, 1) := by decide +kernel
theorem dX11_fall_64 : decode cX11_fall 64 = .ok (.getfield 107, 3) := by decide +kernel
theorem dX11_fall_67 : decode cX11_fall 67 = .ok (.invokevirtual 213, 3) := by decide +kernel
theorem dX11_fall_70 : decode cX11_fall 70 = .ok (.iload_n 1, 1) := by decide +kernel
theorem dX11_fall_71 : decode cX11_fall 71 = .ok (.ireturn, 1) := by decide +kernel
def f_X11_fall_p50 (ln : Nat → Nat) (kb4 : Int32 → Int32 → dr_S → Option (Int32 × dr_S)) (x1 : Int32) (x2 : Int32) (s : dr_S) : Option (Int32 × dr_S) := dr_let (x2 + 1) (fun y10 => (kb4 x1 y10 s))
def f_X11_fall_p4 (ln : Nat → Nat) : Nat → Int32 → Int32 → dr_S → Option (Int32 × dr_S)
  | 0, _, _, _ => none
  | n + 1, x1, x2, s => (if ((4 : Int32) ≤ x2 : Prop) then dr_bndv (f_X4_letAllGo ln  s) (fun s1 => dr_bndv (f_X0_crownTheTop ln  s1) (fun s2 => some (x1, s2))) else dr_bnd (f_X3_isIdle ln x2 s) (fun r4 s3 => (if r4 = 0 then dr_bnd (f_X3_get ln x2 2 s3) (fun r6 s5 => dr_bndv (f_X6_set ln r6 6 1 s5) (fun s7 => dr_bndv (f_X3_rest ln x2 s7) (fun s8 => dr_let (x1 + 1) (fun y9 => (f_X11_fall_p50 ln (f_X11_fall_p4 ln n) y9 x2 s8))))) else (f_X11_fall_p50 ln (f_X11_fall_p4 ln n) x1 x2 s3))))
def f_X11_fall (ln : Nat → Nat) (s : dr_S) : Option (Int32 × dr_S) := (f_X11_fall_p4 ln dr_N 0 0 s)
section
variable {p : Program} {l : Launch} {e : Env} {s0 : State} {m : MethodId} {args : Array Value} {below : List Frame} {meth : Method} {c : Code} {A : Nat → Prop} {D : va_G} {cI cZ : ClassId} {ad ln : Nat → Nat} {L : List Nat}
set_option maxHeartbeats 4000000 in
set_option maxRecDepth 20000 in
theorem w_X11_fall_p50 {kb4 : Int32 → Int32 → dr_S → Option (Int32 × dr_S)} (E : dr_E p (dr_rm 4) s0 m args meth c 0 0 A s0.heap D cI cZ ad L cX11_fall 3 RX11 (some .int)) (hap : dr_ap ad L) (hN : ∀ x ∈ nd_11, x ∈ L) (hkb4 : ∀ (x1 : Int32) (x2 : Int32) (s : dr_S), dr_G p l e (dr_rm 4) s0 m args below meth c 0 0 A s0.heap D cI cZ ad ln L 3 (dr_Zi D cI cZ ad ln L A below args s0 0 0) 4 [(0, .ref (ad 11)), (1, .int x1), (2, .int x2)] [] s (kb4 x1 x2 s)) : ∀ (x1 : Int32) (x2 : Int32) (s : dr_S), dr_G p l e (dr_rm 4) s0 m args below meth c 0 0 A s0.heap D cI cZ ad ln L 3 (dr_Zi D cI cZ ad ln L A below args s0 0 0) 50 [(0, .ref (ad 11)), (1, .int x1), (2, .int x2)] [] s (f_X11_fall_p50 ln kb4 x1 x2 s) := by
  intro x1 x2 s
  unfold f_X11_fall_p50
  refine g_iinc E (lv' := []) (lv'' := fun y10 => [(2, .int y10), (0, .ref (ad 11)), (1, .int x1)]) (v := 1) dX11_fall_50 2 rfl (by decide) (by decide) (fun _ => rfl) (fun y10 => ?_)
  refine g_goto E 4 dX11_fall_53 (by decide) ?_
  refine g_sub [1, 2, 0] rfl ?_
  exact hkb4 x1 y10 s
set_option maxHeartbeats 4000000 in
set_option maxRecDepth 20000 in
theorem w_X11_fall_p4 (E : dr_E p (dr_rm 4) s0 m args meth c 0 0 A s0.heap D cI cZ ad L cX11_fall 3 RX11 (some .int)) (hap : dr_ap ad L) (hN : ∀ x ∈ nd_11, x ∈ L) : ∀ (n : Nat) (x1 : Int32) (x2 : Int32) (s : dr_S), dr_G p l e (dr_rm 4) s0 m args below meth c 0 0 A s0.heap D cI cZ ad ln L 3 (dr_Zi D cI cZ ad ln L A below args s0 0 0) 4 [(0, .ref (ad 11)), (1, .int x1), (2, .int x2)] [] s (f_X11_fall_p4 ln n x1 x2 s) := by
  intro n
  induction n with
  | zero =>
    intro x1 x2 s
    rw [f_X11_fall_p4]
    exact g_none
  | succ n hkb4 =>
    intro x1 x2 s
    rw [f_X11_fall_p4]
    refine g_iload_n E dX11_fall_4 2 rfl ?_
    refine g_iconst E (v := 4) dX11_fall_5 (by decide) ?_
    refine g_icmp_ge E 56 dX11_fall_6 (by decide) ?_ ?_
    · refine g_aload_n E dX11_fall_56 0 rfl ?_
      refine gg_11_43 E (hN 11 (by decide)) dX11_fall_57 ?_
      refine g_cVv E [] rfl (c_X4_letAllGo hap (fun x h => hN x (ns_4_11 x h))  s) (hN 4 (by decide)) (by decide) rfl rfl mi_X4_letAllGo msl_X4_letAllGo mw_X4_letAllGo rfl ml_11_210 ⟨Nat.le_of_ble_eq_true rfl, Nat.le_of_ble_eq_true rfl⟩ (Nat.le_of_ble_eq_true rfl) dX11_fall_60 (fun s1 => ?_)
      refine g_aload_n E dX11_fall_63 0 rfl ?_
      refine gg_11_107 E (hN 11 (by decide)) dX11_fall_64 ?_
      refine g_cVv E [] rfl (c_X0_crownTheTop hap (fun x h => hN x (ns_0_11 x h))  s1) (hN 0 (by decide)) (by decide) rfl rfl mi_X0_crownTheTop msl_X0_crownTheTop mw_X0_crownTheTop rfl ml_11_213 ⟨Nat.le_of_ble_eq_true rfl, Nat.le_of_ble_eq_true rfl⟩ (Nat.le_of_ble_eq_true rfl) dX11_fall_67 (fun s2 => ?_)
      refine g_iload_n E dX11_fall_70 1 rfl ?_
      exact g_iret E dX11_fall_71
    · refine g_aload_n E dX11_fall_9 0 rfl ?_
      refine gg_11_50 E (hN 11 (by decide)) dX11_fall_10 ?_
      refine g_iload_n E dX11_fall_13 2 rfl ?_
      refine g_cVi E [.int x2] rfl (c_X3_isIdle hap (fun x h => hN x (ns_3_11 x h)) x2 s) (hN 3 (by decide)) (by decide) rfl rfl mi_X3_isIdle msl_X3_isIdle mw_X3_isIdle rfl ml_11_156 ⟨Nat.le_of_ble_eq_true rfl, Nat.le_of_ble_eq_true rfl⟩ (Nat.le_of_ble_eq_true rfl) dX11_fall_14 (fun r4 s3 => ?_)
      refine g_if_ne E 50 dX11_fall_17 (by decide) ?_ ?_
      · refine g_sub [0, 1, 2] rfl ?_
        exact w_X11_fall_p50 E hap hN hkb4 x1 x2 s3
      · refine g_aload_n E dX11_fall_20 0 rfl ?_
        refine gg_11_55 E (hN 11 (by decide)) dX11_fall_21 ?_
        refine g_aload_n E dX11_fall_24 0 rfl ?_
        refine gg_11_50 E (hN 11 (by decide)) dX11_fall_25 ?_
        refine g_iload_n E dX11_fall_28 2 rfl ?_
        refine g_iconst E (v := 2) dX11_fall_29 (by decide) ?_
        refine g_cVi E [.int x2, .int 2] rfl (c_X3_get hap (fun x h => hN x (ns_3_11 x h)) x2 2 s3) (hN 3 (by decide)) (by decide) rfl rfl mi_X3_get msl_X3_get mw_X3_get rfl ml_11_162 ⟨Nat.le_of_ble_eq_true rfl, Nat.le_of_ble_eq_true rfl⟩ (Nat.le_of_ble_eq_true rfl) dX11_fall_30 (fun r6 s5 => ?_)
        refine g_bipush E (v := 6) dX11_fall_33 (by decide) ?_
        refine g_iconst E (v := 1) dX11_fall_35 (by decide) ?_
        refine g_cVv E [.int r6, .int 6, .int 1] rfl (c_X6_set hap (fun x h => hN x (ns_6_11 x h)) r6 6 1 s5) (hN 6 (by decide)) (by decide) rfl rfl mi_X6_set msl_X6_set mw_X6_set rfl ml_11_206 ⟨Nat.le_of_ble_eq_true rfl, Nat.le_of_ble_eq_true rfl⟩ (Nat.le_of_ble_eq_true rfl) dX11_fall_36 (fun s7 => ?_)
        refine g_aload_n E dX11_fall_39 0 rfl ?_
        refine gg_11_50 E (hN 11 (by decide)) dX11_fall_40 ?_
        refine g_iload_n E dX11_fall_43 2 rfl ?_
        refine g_cVv E [.int x2] rfl (c_X3_rest hap (fun x h => hN x (ns_3_11 x h)) x2 s7) (hN 3 (by decide)) (by decide) rfl rfl mi_X3_rest msl_X3_rest mw_X3_rest rfl ml_11_207 ⟨Nat.le_of_ble_eq_true rfl, Nat.le_of_ble_eq_true rfl⟩ (Nat.le_of_ble_eq_true rfl) dX11_fall_44 (fun s8 => ?_)
        refine g_iinc E (lv' := []) (lv'' := fun y9 => [(1, .int y9), (0, .ref (ad 11)), (2, .int x2)]) (v := 1) dX11_fall_47 1 rfl (by decide) (by decide) (fun _ => rfl) (fun y9 => ?_)
        refine g_sub [1, 0, 2] rfl ?_
        exact w_X11_fall_p50 E hap hN hkb4 y9 x2 s8
set_option maxHeartbeats 4000000 in
set_option maxRecDepth 20000 in
theorem c_X11_fall (hap : dr_ap ad L) (hN : ∀ x ∈ nd_11, x ∈ L) (s : dr_S) : dr_Mi l D cI cZ ad ln L yX11_fall cX11_fall 3 (some .int) 4 [.ref (ad 11)] s (f_X11_fall ln  s) := by
  refine dr_meti (own := RX11) (by decide) rfl (Nat.le_of_ble_eq_true rfl) hap ?_
  intro p e s0 m args below meth c A E
  unfold f_X11_fall
  refine g_eqL (lv' := [(0, .ref (ad 11))]) rfl ?_
  refine g_iconst E (v := 0) dX11_fall_0 (by decide) ?_
  refine g_istore_n E (lv' := [(1, .int 0), (0, .ref (ad 11))]) dX11_fall_1 (by decide) rfl ?_
  refine g_iconst E (v := 0) dX11_fall_2 (by decide) ?_
  refine g_istore_n E (lv' := [(2, .int 0), (1, .int 0), (0, .ref (ad 11))]) dX11_fall_3 (by decide) rfl ?_
  refine g_sub [2, 1, 0] rfl ?_
  exact w_X11_fall_p4 E hap hN dr_N 0 0 s
end

theorem dX11_night_0 : decode cX11_night 0 = .ok (.iload_n 1, 1) := by decide +kernel
theorem dX11_night_1 : decode cX11_night 1 = .ok (.aload_n 0, 1) := by decide +kernel
theorem dX11_night_2 : decode cX11_night 2 = .ok (.getfield 43, 3) := by decide +kernel
theorem dX11_night_5 : decode cX11_night 5 = .ok (.invokevirtual 216, 3) := by decide +kernel
theorem dX11_night_8 : decode cX11_night 8 = .ok (.if_icmp .lt 26, 3) := by decide +kernel
theorem dX11_night_11 : decode cX11_night 11 = .ok (.iload_n 1, 1) := by decide +kernel
theorem dX11_night_12 : decode cX11_night 12 = .ok (.iconst 2, 1) := by decide +kernel
theorem dX11_night_13 : decode cX11_night 13 = .ok (.aload_n 0, 1) := by decide +kernel
theorem dX11_night_14 : decode cX11_night 14 = .ok (.getfield 43, 3) := by decide +kernel
theorem dX11_night_17 : decode cX11_night 17 = .ok (.invokevirtual 216, 3) := by decide +kernel
theorem dX11_night_20 : decode cX11_night 20 = .ok (.imul, 1) := by decide +kernel
theorem dX11_night_21 : decode cX11_night 21 = .ok (.if_icmp .gt 13, 3) := by decide +kernel
theorem dX11_night_24 : decode cX11_night 24 = .ok (.aload_n 0, 1) := by decide +kernel
theorem dX11_night_25 : decode cX11_night 25 = .ok (.getfield 50, 3) := by decide +kernel
theorem dX11_night_28 : decode cX11_night 28 = .ok (.invokevirtual 194, 3) := by decide +kernel
theorem dX11_night_31 : decode cX11_night 31 = .ok (.ifCond .le 5, 3) := by decide +kernel
theorem dX11_night_34 : decode cX11_night 34 = .ok (.iconst (-1), 1) := by decide +kernel
theorem dX11_night_35 : decode cX11_night 35 = .ok (.ireturn, 1) := by decide +kernel
theorem dX11_night_36 : decode cX11_night 36 = .ok (.aload_n 0, 1) := by decide +kernel
theorem dX11_night_37 : decode cX11_night 37 = .ok (.getfield 107, 3) := by decide +kernel
theorem dX11_night_40 : decode cX11_night 40 = .ok (.iload_n 1, 1) := by decide +kernel
theorem dX11_night_41 : decode cX11_night 41 = .ok (.invokevirtual 219, 3) := by decide +kernel
theorem dX11_night_44 : decode cX11_night 44 = .ok (.aload_n 0, 1) := by decide +kernel
theorem dX11_night_45 : decode cX11_night 45 = .ok (.getfield 43, 3) := by decide +kernel
theorem dX11_night_48 : decode cX11_night 48 = .ok (.invokevirtual 140, 3) := by decide +kernel
theorem dX11_night_51 : decode cX11_night 51 = .ok (.ireturn, 1) := by decide +kernel
def f_X11_night (ln : Nat → Nat) (x1 : Int32) (s : dr_S) : Option (Int32 × dr_S) := dr_bnd (f_X4_half ln  s) (fun r2 s1 => (if x1 < r2 then some ((-1), s1) else dr_bnd (f_X4_half ln  s1) (fun r4 s3 => (if (2 * r4) < x1 then some ((-1), s3) else dr_bnd (f_X3_atJobs ln  s3) (fun r6 s5 => (if r6 ≤ 0 then dr_bndv (f_X0_buildAnew ln x1 s5) (fun s7 => dr_bnd (f_X4_inUse ln  s7) (fun r9 s8 => some (r9, s8))) else some ((-1), s5)))))))
section
variable {p : Program} {l : Launch} {e : Env} {s0 : State} {m : MethodId} {args : Array Value} {below : List Frame} {meth : Method} {c : Code} {A : Nat → Prop} {D : va_G} {cI cZ : ClassId} {ad ln : Nat → Nat} {L : List Nat}
set_option maxHeartbeats 4000000 in
set_option maxRecDepth 20000 in
theorem c_X11_night (hap : dr_ap ad L) (hN : ∀ x ∈ nd_11, x ∈ L) (x1 : Int32) (s : dr_S) : dr_Mi l D cI cZ ad ln L yX11_night cX11_night 2 (some .int) 6 [.ref (ad 11), .int x1] s (f_X11_night ln x1 s) := by
  refine dr_meti (own := RX11) (by decide) rfl (Nat.le_of_ble_eq_true rfl) hap ?_
  intro p e s0 m args below meth c A E
  unfold f_X11_night
  refine g_eqL (lv' := [(0, .ref (ad 11)), (1, .int x1)]) rfl ?_
  refine g_iload_n E dX11_night_0 1 rfl ?_
  refine g_aload_n E dX11_night_1 0 rfl ?_
  refine gg_11_43 E (hN 11 (by decide)) dX11_night_2 ?_
  refine g_cVi E [] rfl (c_X4_half hap (fun x h => hN x (ns_4_11 x h))  s) (hN 4 (by decide)) (by decide) rfl rfl mi_X4_half msl_X4_half mw_X4_half rfl ml_11_216 ⟨Nat.le_of_ble_eq_true rfl, Nat.le_of_ble_eq_true rfl⟩ (Nat.le_of_ble_eq_true rfl) dX11_night_5 (fun r2 s1 => ?_)
  refine g_icmp_lt E 34 dX11_night_8 (by decide) ?_ ?_
  · refine g_iconst E (v := (-1)) dX11_night_34 (by decide) ?_
    exact g_iret E dX11_night_35
  · refine g_iload_n E dX11_night_11 1 rfl ?_
    refine g_iconst E (v := 2) dX11_night_12 (by decide) ?_
    refine g_aload_n E dX11_night_13 0 rfl ?_
    refine gg_11_43 E (hN 11 (by decide)) dX11_night_14 ?_
    refine g_cVi E [] rfl (c_X4_half hap (fun x h => hN x (ns_4_11 x h))  s1) (hN 4 (by decide)) (by decide) rfl rfl mi_X4_half msl_X4_half mw_X4_half rfl ml_11_216 ⟨Nat.le_of_ble_eq_true rfl, Nat.le_of_ble_eq_true rfl⟩ (Nat.le_of_ble_eq_true rfl) dX11_night_17 (fun r4 s3 => ?_)
    refine g_imul E dX11_night_20 ?_
    refine g_icmp_gt E 34 dX11_night_21 (by decide) ?_ ?_
    · refine g_iconst E (v := (-1)) dX11_night_34 (by decide) ?_
      exact g_iret E dX11_night_35
    · refine g_aload_n E dX11_night_24 0 rfl ?_
      refine gg_11_50 E (hN 11 (by decide)) dX11_night_25 ?_
      refine g_cVi E [] rfl (c_X3_atJobs hap (fun x h => hN x (ns_3_11 x h))  s3) (hN 3 (by decide)) (by decide) rfl rfl mi_X3_atJobs msl_X3_atJobs mw_X3_atJobs rfl ml_11_194 ⟨Nat.le_of_ble_eq_true rfl, Nat.le_of_ble_eq_true rfl⟩ (Nat.le_of_ble_eq_true rfl) dX11_night_28 (fun r6 s5 => ?_)
      refine g_if_le E 36 dX11_night_31 (by decide) ?_ ?_
      · refine g_aload_n E dX11_night_36 0 rfl ?_
        refine gg_11_107 E (hN 11 (by decide)) dX11_night_37 ?_
        refine g_iload_n E dX11_night_40 1 rfl ?_
        refine g_cVv E [.int x1] rfl (c_X0_buildAnew hap (fun x h => hN x (ns_0_11 x h)) x1 s5) (hN 0 (by decide)) (by decide) rfl rfl mi_X0_buildAnew msl_X0_buildAnew mw_X0_buildAnew rfl ml_11_219 ⟨Nat.le_of_ble_eq_true rfl, Nat.le_of_ble_eq_true rfl⟩ (Nat.le_of_ble_eq_true rfl) dX11_night_41 (fun s7 => ?_)
        refine g_aload_n E dX11_night_44 0 rfl ?_
        refine gg_11_43 E (hN 11 (by decide)) dX11_night_45 ?_
        refine g_cVi E [] rfl (c_X4_inUse hap (fun x h => hN x (ns_4_11 x h))  s7) (hN 4 (by decide)) (by decide) rfl rfl mi_X4_inUse msl_X4_inUse mw_X4_inUse rfl ml_11_140 ⟨Nat.le_of_ble_eq_true rfl, Nat.le_of_ble_eq_true rfl⟩ (Nat.le_of_ble_eq_true rfl) dX11_night_48 (fun r9 s8 => ?_)
        exact g_iret E dX11_night_51
      · refine g_iconst E (v := (-1)) dX11_night_34 (by decide) ?_
        exact g_iret E dX11_night_35
end

theorem dX11_count_0 : decode cX11_count 0 = .ok (.iload_n 1, 1) := by decide +kernel
theorem dX11_count_1 : decode cX11_count 1 = .ok (.tableswitch 123 0 8 #[51, 59, 67, 75, 83, 91, 99, 107, 115], 51) := by decide +kernel
theorem dX11_count_52 : decode cX11_count 52 = .ok (.aload_n 0, 1) := by decide +kernel
theorem dX11_count_53 : decode cX11_count 53 = .ok (.getfield 43, 3) := by decide +kernel
theorem dX11_count_56 : decode cX11_count 56 = .ok (.invokevirtual 216, 3) := by decide +kernel
theorem dX11_count_59 : decode cX11_count 59 = .ok (.ireturn, 1) := by decide +kernel
theorem dX11_count_60 : decode cX11_count 60 = .ok (.aload_n 0, 1) := by decide +kernel
theorem dX11_count_61 : decode cX11_count 61 = .ok (.getfield 55, 3) := by decide +kernel
theorem dX11_count_64 : decode cX11_count 64 = .ok (.invokevirtual 179, 3) := by decide +kernel
theorem dX11_count_67 : decode cX11_count 67 = .ok (.ireturn, 1) := by decide +kernel
theorem dX11_count_68 : decode cX11_count 68 = .ok (.aload_n 0, 1) := by decide +kernel
theorem dX11_count_69 : decode cX11_count 69 = .ok (.getfield 55, 3) := by decide +kernel
theorem dX11_count_72 : decode cX11_count 72 = .ok (.invokevirtual 118, 3) := by decide +kernel
theorem dX11_count_75 : decode cX11_count 75 = .ok (.ireturn, 1) := by decide +kernel
theorem dX11_count_76 : decode cX11_count 76 = .ok (.aload_n 0, 1) := by decide +kernel
theorem dX11_count_77 : decode cX11_count 77 = .ok (.getfield 43, 3) := by decide +kernel
theorem dX11_count_80 : decode cX11_count 80 = .ok (.invokevirtual 146, 3) := by decide +kernel
theorem dX11_count_83 : decode cX11_count 83 = .ok (.ireturn, 1) := by decide +kernel
theorem dX11_count_84 : decode cX11_count 84 = .ok (.aload_n 0, 1) := by decide +kernel
theorem dX11_count_85 : decode cX11_count 85 = .ok (.getfield 43, 3) := by decide +kernel
theorem dX11_count_88 : decode cX11_count 88 = .ok (.invokevirtual 140, 3) := by decide +kernel
theorem dX11_count_91 : decode cX11_count 91 = .ok (.ireturn, 1) := by decide +kernel
theorem dX11_count_92 : decode cX11_count 92 = .ok (.aload_n 0, 1) := by decide +kernel
theorem dX11_count_93 : decode cX11_count 93 = .ok (.getfield 73, 3) := by decide +kernel
theorem dX11_count_96 : decode cX11_count 96 = .ok (.invokevirtual 222, 3) := by decide +kernel
theorem dX11_count_99 : decode cX11_count 99 = .ok (.ireturn, 1) := by decide +kernel
theorem dX11_count_100 : decode cX11_count 100 = .ok (.aload_n 0, 1) := by decide +kernel
theorem dX11_count_101 : decode cX11_count 101 = .ok (.getfield 50, 3) := by decide +kernel
theorem dX11_count_104 : decode cX11_count 104 = .ok (.invokevirtual 194, 3) := by decide +kernel
theorem dX11_count_107 : decode cX11_count 107 = .ok (.ireturn, 1) := by decide +kernel
theorem dX11_count_108 : decode cX11_count 108 = .ok (.aload_n 0, 1) := by decide +kernel
theorem dX11_count_109 : decode cX11_count 109 = .ok (.getfield 43, 3) := by decide +kernel
theorem dX11_count_112 : decode cX11_count 112 = .ok (.invokevirtual 225, 3) := by decide +kernel
theorem dX11_count_115 : decode cX11_count 115 = .ok (.ireturn, 1) := by decide +kernel
theorem dX11_count_116 : decode cX11_count 116 = .ok (.aload_n 0, 1) := by decide +kernel
theorem dX11_count_117 : decode cX11_count 117 = .ok (.getfield 34, 3) := by decide +kernel
theorem dX11_count_120 : decode cX11_count 120 = .ok (.invokevirtual 228, 3) := by decide +kernel
theorem dX11_count_123 : decode cX11_count 123 = .ok (.ireturn, 1) := by decide +kernel
theorem dX11_count_124 : decode cX11_count 124 = .ok (.iconst (-1), 1) := by decide +kernel
theorem dX11_count_125 : decode cX11_count 125 = .ok (.ireturn, 1) := by decide +kernel
def f_X11_count (ln : Nat → Nat) (x1 : Int32) (s : dr_S) : Option (Int32 × dr_S) := dr_sw x1 0 8 [(dr_bnd (f_X4_half ln  s) (fun r2 s1 => some (r2, s1))), (dr_bnd (f_X6_time ln  s) (fun r4 s3 => some (r4, s3))), (dr_bnd (f_X6_begun ln  s) (fun r6 s5 => some (r6, s5))), (dr_bnd (f_X4_top ln  s) (fun r8 s7 => some (r8, s7))), (dr_bnd (f_X4_inUse ln  s) (fun r10 s9 => some (r10, s9))), (dr_bnd (f_X1_howMany ln  s) (fun r12 s11 => some (r12, s11))), (dr_bnd (f_X3_atJobs ln  s) (fun r14 s13 => some (r14, s13))), (dr_bnd (f_X4_latched ln  s) (fun r16 s15 => some (r16, s15))), (dr_bnd (f_X5_parts ln  s) (fun r18 s17 => some (r18, s17)))] (some ((-1), s))
section
variable {p : Program} {l : Launch} {e : Env} {s0 : State} {m : MethodId} {args : Array Value} {below : List Frame} {meth : Method} {c : Code} {A : Nat → Prop} {D : va_G} {cI cZ : ClassId} {ad ln : Nat → Nat} {L : List Nat}
set_option maxHeartbeats 4000000 in
set_option maxRecDepth 20000 in
theorem c_X11_count (hap : dr_ap ad L) (hN : ∀ x ∈ nd_11, x ∈ L) (x1 : Int32) (s : dr_S) : dr_Mi l D cI cZ ad ln L yX11_count cX11_count 2 (some .int) 5 [.ref (ad 11), .int x1] s (f_X11_count ln x1 s) := by
  refine dr_meti (own := RX11) (by decide) rfl (Nat.le_of_ble_eq_true rfl) hap ?_
  intro p e s0 m args below meth c A E
  unfold f_X11_count
  refine g_eqL (lv' := [(0, .ref (ad 11)), (1, .int x1)]) rfl ?_
  refine g_iload_n E dX11_count_0 1 rfl ?_
  refine g_tsw E [(dr_bnd (f_X4_half ln  s) (fun r2 s1 => some (r2, s1))), (dr_bnd (f_X6_time ln  s) (fun r4 s3 => some (r4, s3))), (dr_bnd (f_X6_begun ln  s) (fun r6 s5 => some (r6, s5))), (dr_bnd (f_X4_top ln  s) (fun r8 s7 => some (r8, s7))), (dr_bnd (f_X4_inUse ln  s) (fun r10 s9 => some (r10, s9))), (dr_bnd (f_X1_howMany ln  s) (fun r12 s11 => some (r12, s11))), (dr_bnd (f_X3_atJobs ln  s) (fun r14 s13 => some (r14, s13))), (dr_bnd (f_X4_latched ln  s) (fun r16 s15 => some (r16, s15))), (dr_bnd (f_X5_parts ln  s) (fun r18 s17 => some (r18, s17)))] (some ((-1), s)) [52, 60, 68, 76, 84, 92, 100, 108, 116] 124 dX11_count_1 (by decide) (by decide) (by decide) ?_ ?_
  · refine g_iconst E (v := (-1)) dX11_count_124 (by decide) ?_
    exact g_iret E dX11_count_125
  · refine dr_fc ?_ (dr_fc ?_ (dr_fc ?_ (dr_fc ?_ (dr_fc ?_ (dr_fc ?_ (dr_fc ?_ (dr_fc ?_ (dr_fc ?_ dr_fn))))))))
    · refine g_aload_n E dX11_count_52 0 rfl ?_
      refine gg_11_43 E (hN 11 (by decide)) dX11_count_53 ?_
      refine g_cVi E [] rfl (c_X4_half hap (fun x h => hN x (ns_4_11 x h))  s) (hN 4 (by decide)) (by decide) rfl rfl mi_X4_half msl_X4_half mw_X4_half rfl ml_11_216 ⟨Nat.le_of_ble_eq_true rfl, Nat.le_of_ble_eq_true rfl⟩ (Nat.le_of_ble_eq_true rfl) dX11_count_56 (fun r2 s1 => ?_)
      exact g_iret E dX11_count_59
    · refine g_aload_n E dX11_count_60 0 rfl ?_
      refine gg_11_55 E (hN 11 (by decide)) dX11_count_61 ?_
      refine g_cVi E [] rfl (c_X6_time hap (fun x h => hN x (ns_6_11 x h))  s) (hN 6 (by decide)) (by decide) rfl rfl mi_X6_time msl_X6_time mw_X6_time rfl ml_11_179 ⟨Nat.le_of_ble_eq_true rfl, Nat.le_of_ble_eq_true rfl⟩ (Nat.le_of_ble_eq_true rfl) dX11_count_64 (fun r4 s3 => ?_)
      exact g_iret E dX11_count_67
    · refine g_aload_n E dX11_count_68 0 rfl ?_
      refine gg_11_55 E (hN 11 (by decide)) dX11_count_69 ?_
      refine g_cVi E [] rfl (c_X6_begun hap (fun x h => hN x (ns_6_11 x h))  s) (hN 6 (by decide)) (by decide) rfl rfl mi_X6_begun msl_X6_begun mw_X6_begun rfl ml_11_118 ⟨Nat.le_of_ble_eq_true rfl, Nat.le_of_ble_eq_true rfl⟩ (Nat.le_of_ble_eq_true rfl) dX11_count_72 (fun r6 s5 => ?_)
      exact g_iret E dX11_count_75
    · refine g_aload_n E dX11_count_76 0 rfl ?_
      refine gg_11_43 E (hN 11 (by decide)) dX11_count_77 ?_
      refine g_cVi E [] rfl (c_X4_top hap (fun x h => hN x (ns_4_11 x h))  s) (hN 4 (by decide)) (by decide) rfl rfl mi_X4_top msl_X4_top mw_X4_top rfl ml_11_146 ⟨Nat.le_of_ble_eq_true rfl, Nat.le_of_ble_eq_true rfl⟩ (Nat.le_of_ble_eq_true rfl) dX11_count_80 (fun r8 s7 => ?_)
      exact g_iret E dX11_count_83
    · refine g_aload_n E dX11_count_84 0 rfl ?_
      refine gg_11_43 E (hN 11 (by decide)) dX11_count_85 ?_
      refine g_cVi E [] rfl (c_X4_inUse hap (fun x h => hN x (ns_4_11 x h))  s) (hN 4 (by decide)) (by decide) rfl rfl mi_X4_inUse msl_X4_inUse mw_X4_inUse rfl ml_11_140 ⟨Nat.le_of_ble_eq_true rfl, Nat.le_of_ble_eq_true rfl⟩ (Nat.le_of_ble_eq_true rfl) dX11_count_88 (fun r10 s9 => ?_)
      exact g_iret E dX11_count_91
    · refine g_aload_n E dX11_count_92 0 rfl ?_
      refine gg_11_73 E (hN 11 (by decide)) dX11_count_93 ?_
      refine g_cVi E [] rfl (c_X1_howMany hap (fun x h => hN x (ns_1_11 x h))  s) (hN 1 (by decide)) (by decide) rfl rfl mi_X1_howMany msl_X1_howMany mw_X1_howMany rfl ml_11_222 ⟨Nat.le_of_ble_eq_true rfl, Nat.le_of_ble_eq_true rfl⟩ (Nat.le_of_ble_eq_true rfl) dX11_count_96 (fun r12 s11 => ?_)
      exact g_iret E dX11_count_99
    · refine g_aload_n E dX11_count_100 0 rfl ?_
      refine gg_11_50 E (hN 11 (by decide)) dX11_count_101 ?_
      refine g_cVi E [] rfl (c_X3_atJobs hap (fun x h => hN x (ns_3_11 x h))  s) (hN 3 (by decide)) (by decide) rfl rfl mi_X3_atJobs msl_X3_atJobs mw_X3_atJobs rfl ml_11_194 ⟨Nat.le_of_ble_eq_true rfl, Nat.le_of_ble_eq_true rfl⟩ (Nat.le_of_ble_eq_true rfl) dX11_count_104 (fun r14 s13 => ?_)
      exact g_iret E dX11_count_107
    · refine g_aload_n E dX11_count_108 0 rfl ?_
      refine gg_11_43 E (hN 11 (by decide)) dX11_count_109 ?_
      refine g_cVi E [] rfl (c_X4_latched hap (fun x h => hN x (ns_4_11 x h))  s) (hN 4 (by decide)) (by decide) rfl rfl mi_X4_latched msl_X4_latched mw_X4_latched rfl ml_11_225 ⟨Nat.le_of_ble_eq_true rfl, Nat.le_of_ble_eq_true rfl⟩ (Nat.le_of_ble_eq_true rfl) dX11_count_112 (fun r16 s15 => ?_)
      exact g_iret E dX11_count_115
    · refine g_aload_n E dX11_count_116 0 rfl ?_
      refine gg_11_34 E (hN 11 (by decide)) dX11_count_117 ?_
      refine g_cVi E [] rfl (c_X5_parts hap (fun x h => hN x (ns_5_11 x h))  s) (hN 5 (by decide)) (by decide) rfl rfl mi_X5_parts msl_X5_parts mw_X5_parts rfl ml_11_228 ⟨Nat.le_of_ble_eq_true rfl, Nat.le_of_ble_eq_true rfl⟩ (Nat.le_of_ble_eq_true rfl) dX11_count_120 (fun r18 s17 => ?_)
      exact g_iret E dX11_count_123
end

theorem dX12_in_0 : decode cX12_in 0 = .ok (.iload_n 0, 1) := by decide +kernel
theorem dX12_in_1 : decode cX12_in 1 = .ok (.iload_n 1, 1) := by decide +kernel
theorem dX12_in_2 : decode cX12_in 2 = .ok (.if_icmp .lt 12, 3) := by decide +kernel
theorem dX12_in_5 : decode cX12_in 5 = .ok (.iload_n 0, 1) := by decide +kernel
theorem dX12_in_6 : decode cX12_in 6 = .ok (.iload_n 2, 1) := by decide +kernel
theorem dX12_in_7 : decode cX12_in 7 = .ok (.if_icmp .gt 7, 3) := by decide +kernel
theorem dX12_in_10 : decode cX12_in 10 = .ok (.iconst 1, 1) := by decide +kernel
theorem dX12_in_11 : decode cX12_in 11 = .ok (.goto 4, 3) := by decide +kernel
theorem dX12_in_14 : decode cX12_in 14 = .ok (.iconst 0, 1) := by decide +kernel
theorem dX12_in_15 : decode cX12_in 15 = .ok (.ireturn, 1) := by decide +kernel
def f_X12_in (ln : Nat → Nat) (x0 : Int32) (x1 : Int32) (x2 : Int32) (s : dr_S) : Option (Int32 × dr_S) := (if x0 < x1 then some (0, s) else (if x2 < x0 then some (0, s) else some (1, s)))
section
variable {p : Program} {l : Launch} {e : Env} {s0 : State} {m : MethodId} {args : Array Value} {below : List Frame} {meth : Method} {c : Code} {A : Nat → Prop} {D : va_G} {cI cZ : ClassId} {ad ln : Nat → Nat} {L : List Nat}
set_option maxHeartbeats 4000000 in
set_option maxRecDepth 20000 in
theorem c_X12_in (hap : dr_ap ad L) (hN : ∀ x ∈ nd_12, x ∈ L) (x0 : Int32) (x1 : Int32) (x2 : Int32) (s : dr_S) : dr_Mi l D cI cZ ad ln L yX12_in cX12_in 3 (some .boolean) 0 [.int x0, .int x1, .int x2] s (f_X12_in ln x0 x1 x2 s) := by
  refine dr_meti (own := RX12) (by decide) rfl (Nat.le_of_ble_eq_true rfl) hap ?_
  intro p e s0 m args below meth c A E
  unfold f_X12_in
  refine g_eqL (lv' := [(0, .int x0), (1, .int x1), (2, .int x2)]) rfl ?_
  refine g_iload_n E dX12_in_0 0 rfl ?_
  refine g_iload_n E dX12_in_1 1 rfl ?_
  refine g_icmp_lt E 14 dX12_in_2 (by decide) ?_ ?_
  · refine g_iconst E (v := 0) dX12_in_14 (by decide) ?_
    exact g_zret E dX12_in_15 (Or.inl rfl)
  · refine g_iload_n E dX12_in_5 0 rfl ?_
    refine g_iload_n E dX12_in_6 2 rfl ?_
    refine g_icmp_gt E 14 dX12_in_7 (by decide) ?_ ?_
    · refine g_iconst E (v := 0) dX12_in_14 (by decide) ?_
      exact g_zret E dX12_in_15 (Or.inl rfl)
    · refine g_iconst E (v := 1) dX12_in_10 (by decide) ?_
      refine g_goto E 15 dX12_in_11 (by decide) ?_
      exact g_zret E dX12_in_15 (Or.inr rfl)
end

theorem dX12_isHeading_0 : decode cX12_isHeading 0 = .ok (.iload_n 0, 1) := by decide +kernel
theorem dX12_isHeading_1 : decode cX12_isHeading 1 = .ok (.iconst 0, 1) := by decide +kernel
theorem dX12_isHeading_2 : decode cX12_isHeading 2 = .ok (.sipush 9999, 3) := by decide +kernel
theorem dX12_isHeading_5 : decode cX12_isHeading 5 = .ok (.invokestatic 160, 3) := by decide +kernel
theorem dX12_isHeading_8 : decode cX12_isHeading 8 = .ok (.ireturn, 1) := by decide +kernel
def f_X12_isHeading (ln : Nat → Nat) (x0 : Int32) (s : dr_S) : Option (Int32 × dr_S) := dr_bnd (f_X12_in ln x0 0 9999 s) (fun r2 s1 => dr_rz r2 s1)
section
variable {p : Program} {l : Launch} {e : Env} {s0 : State} {m : MethodId} {args : Array Value} {below : List Frame} {meth : Method} {c : Code} {A : Nat → Prop} {D : va_G} {cI cZ : ClassId} {ad ln : Nat → Nat} {L : List Nat}
set_option maxHeartbeats 4000000 in
set_option maxRecDepth 20000 in
theorem c_X12_isHeading (hap : dr_ap ad L) (hN : ∀ x ∈ nd_12, x ∈ L) (x0 : Int32) (s : dr_S) : dr_Mi l D cI cZ ad ln L yX12_isHeading cX12_isHeading 1 (some .boolean) 1 [.int x0] s (f_X12_isHeading ln x0 s) := by
  refine dr_meti (own := RX12) (by decide) rfl (Nat.le_of_ble_eq_true rfl) hap ?_
  intro p e s0 m args below meth c A E
  unfold f_X12_isHeading
  refine g_eqL (lv' := [(0, .int x0)]) rfl ?_
  refine g_iload_n E dX12_isHeading_0 0 rfl ?_
  refine g_iconst E (v := 0) dX12_isHeading_1 (by decide) ?_
  refine g_sipush E (v := 9999) dX12_isHeading_2 (by decide) ?_
  refine g_cSi E [.int x0, .int 0, .int 9999] rfl (c_X12_in hap hN x0 0 9999 s) ms_X12_in mw_X12_in rfl ml_12_160 ⟨Nat.le_of_ble_eq_true rfl, Nat.le_of_ble_eq_true rfl⟩ (Nat.le_of_ble_eq_true rfl) dX12_isHeading_5 (fun r2 s1 => ?_)
  exact g_zretV E dX12_isHeading_8
end

theorem dX12_clears_0 : decode cX12_clears 0 = .ok (.aload_n 0, 1) := by decide +kernel
theorem dX12_clears_1 : decode cX12_clears 1 = .ok (.getfield 17, 3) := by decide +kernel
theorem dX12_clears_4 : decode cX12_clears 4 = .ok (.iload_n 1, 1) := by decide +kernel
theorem dX12_clears_5 : decode cX12_clears 5 = .ok (.iconst 0, 1) := by decide +kernel
theorem dX12_clears_6 : decode cX12_clears 6 = .ok (.bastore, 1) := by decide +kernel
theorem dX12_clears_7 : decode cX12_clears 7 = .ok (.aload_n 0, 1) := by decide +kernel
theorem dX12_clears_8 : decode cX12_clears 8 = .ok (.getfield 20, 3) := by decide +kernel
theorem dX12_clears_11 : decode cX12_clears 11 = .ok (.iload_n 1, 1) := by decide +kernel
theorem dX12_clears_12 : decode cX12_clears 12 = .ok (.iconst 0, 1) := by decide +kernel
theorem dX12_clears_13 : decode cX12_clears 13 = .ok (.iastore, 1) := by decide +kernel
theorem dX12_clears_14 : decode cX12_clears 14 = .ok (.aload_n 0, 1) := by decide +kernel
theorem dX12_clears_15 : decode cX12_clears 15 = .ok (.getfield 23, 3) := by decide +kernel
theorem dX12_clears_18 : decode cX12_clears 18 = .ok (.iload_n 1, 1) := by decide +kernel
theorem dX12_clears_19 : decode cX12_clears 19 = .ok (.iconst 0, 1) := by decide +kernel
theorem dX12_clears_20 : decode cX12_clears 20 = .ok (.iastore, 1) := by decide +kernel
theorem dX12_clears_21 : decode cX12_clears 21 = .ok (.aload_n 0, 1) := by decide +kernel
theorem dX12_clears_22 : decode cX12_clears 22 = .ok (.getfield 32, 3) := by decide +kernel
theorem dX12_clears_25 : decode cX12_clears 25 = .ok (.iload_n 1, 1) := by decide +kernel
theorem dX12_clears_26 : decode cX12_clears 26 = .ok (.iconst (-1), 1) := by decide +kernel
theorem dX12_clears_27 : decode cX12_clears 27 = .ok (.iastore, 1) := by decide +kernel
theorem dX12_clears_28 : decode cX12_clears 28 = .ok (.aload_n 0, 1) := by decide +kernel
theorem dX12_clears_29 : decode cX12_clears 29 = .ok (.getfield 35, 3) := by decide +kernel
theorem dX12_clears_32 : decode cX12_clears 32 = .ok (.iload_n 1, 1) := by decide +kernel
theorem dX12_clears_33 : decode cX12_clears 33 = .ok (.iconst (-1), 1) := by decide +kernel
theorem dX12_clears_34 : decode cX12_clears 34 = .ok (.iastore, 1) := by decide +kernel
theorem dX12_clears_35 : decode cX12_clears 35 = .ok (.aload_n 0, 1) := by decide +kernel
theorem dX12_clears_36 : decode cX12_clears 36 = .ok (.getfield 38, 3) := by decide +kernel
theorem dX12_clears_39 : decode cX12_clears 39 = .ok (.iload_n 1, 1) := by decide +kernel
theorem dX12_clears_40 : decode cX12_clears 40 = .ok (.iconst (-1), 1) := by decide +kernel
theorem dX12_clears_41 : decode cX12_clears 41 = .ok (.iastore, 1) := by decide +kernel
theorem dX12_clears_42 : decode cX12_clears 42 = .ok (.return_, 1) := by decide +kernel
def f_X12_clears (ln : Nat → Nat) (x1 : Int32) (s : dr_S) : Option (Int32 × dr_S) := (dr_wz ln s 30 x1 0).bind (fun s1 => (dr_wr ln s1 31 x1 0).bind (fun s2 => (dr_wr ln s2 32 x1 0).bind (fun s3 => (dr_wr ln s3 35 x1 (-1)).bind (fun s4 => (dr_wr ln s4 36 x1 (-1)).bind (fun s5 => (dr_wr ln s5 37 x1 (-1)).bind (fun s6 => some (0, s6)))))))
section
variable {p : Program} {l : Launch} {e : Env} {s0 : State} {m : MethodId} {args : Array Value} {below : List Frame} {meth : Method} {c : Code} {A : Nat → Prop} {D : va_G} {cI cZ : ClassId} {ad ln : Nat → Nat} {L : List Nat}
set_option maxHeartbeats 4000000 in
set_option maxRecDepth 20000 in
theorem c_X12_clears (hap : dr_ap ad L) (hN : ∀ x ∈ nd_12, x ∈ L) (x1 : Int32) (s : dr_S) : dr_Mv l D cI cZ ad ln L yX12_clears cX12_clears 2 0 [.ref (ad 12), .int x1] s (f_X12_clears ln x1 s) := by
  refine dr_metv (own := RX12) (by decide) rfl (Nat.le_of_ble_eq_true rfl) hap ?_
  intro p e s0 m args below meth c A E
  unfold f_X12_clears
  refine g_eqL (lv' := [(0, .ref (ad 12)), (1, .int x1)]) rfl ?_
  refine g_aload_n E dX12_clears_0 0 rfl ?_
  refine gg_12_17 E (hN 12 (by decide)) dX12_clears_1 ?_
  refine g_iload_n E dX12_clears_4 1 rfl ?_
  refine g_iconst E (v := 0) dX12_clears_5 (by decide) ?_
  refine g_bastore E (hN 30 (by decide)) (by decide) rfl dX12_clears_6 (fun s1 => ?_)
  refine g_aload_n E dX12_clears_7 0 rfl ?_
  refine gg_12_20 E (hN 12 (by decide)) dX12_clears_8 ?_
  refine g_iload_n E dX12_clears_11 1 rfl ?_
  refine g_iconst E (v := 0) dX12_clears_12 (by decide) ?_
  refine g_iastore E (hN 31 (by decide)) (by decide) rfl dX12_clears_13 (fun s2 => ?_)
  refine g_aload_n E dX12_clears_14 0 rfl ?_
  refine gg_12_23 E (hN 12 (by decide)) dX12_clears_15 ?_
  refine g_iload_n E dX12_clears_18 1 rfl ?_
  refine g_iconst E (v := 0) dX12_clears_19 (by decide) ?_
  refine g_iastore E (hN 32 (by decide)) (by decide) rfl dX12_clears_20 (fun s3 => ?_)
  refine g_aload_n E dX12_clears_21 0 rfl ?_
  refine gg_12_32 E (hN 12 (by decide)) dX12_clears_22 ?_
  refine g_iload_n E dX12_clears_25 1 rfl ?_
  refine g_iconst E (v := (-1)) dX12_clears_26 (by decide) ?_
  refine g_iastore E (hN 35 (by decide)) (by decide) rfl dX12_clears_27 (fun s4 => ?_)
  refine g_aload_n E dX12_clears_28 0 rfl ?_
  refine gg_12_35 E (hN 12 (by decide)) dX12_clears_29 ?_
  refine g_iload_n E dX12_clears_32 1 rfl ?_
  refine g_iconst E (v := (-1)) dX12_clears_33 (by decide) ?_
  refine g_iastore E (hN 36 (by decide)) (by decide) rfl dX12_clears_34 (fun s5 => ?_)
  refine g_aload_n E dX12_clears_35 0 rfl ?_
  refine gg_12_38 E (hN 12 (by decide)) dX12_clears_36 ?_
  refine g_iload_n E dX12_clears_39 1 rfl ?_
  refine g_iconst E (v := (-1)) dX12_clears_40 (by decide) ?_
  refine g_iastore E (hN 37 (by decide)) (by decide) rfl dX12_clears_41 (fun s6 => ?_)
  exact g_vret E dX12_clears_42
end

theorem dX12_byteOf_0 : decode cX12_byteOf 0 = .ok (.iload_n 0, 1) := by decide +kernel
theorem dX12_byteOf_1 : decode cX12_byteOf 1 = .ok (.iconst 4, 1) := by decide +kernel
theorem dX12_byteOf_2 : decode cX12_byteOf 2 = .ok (.if_icmp .ge 7, 3) := by decide +kernel
theorem dX12_byteOf_5 : decode cX12_byteOf 5 = .ok (.iload_n 1, 1) := by decide +kernel
theorem dX12_byteOf_6 : decode cX12_byteOf 6 = .ok (.goto 36, 3) := by decide +kernel
theorem dX12_byteOf_9 : decode cX12_byteOf 9 = .ok (.iload_n 0, 1) := by decide +kernel
theorem dX12_byteOf_10 : decode cX12_byteOf 10 = .ok (.bipush 8, 2) := by decide +kernel
theorem dX12_byteOf_12 : decode cX12_byteOf 12 = .ok (.if_icmp .ge 7, 3) := by decide +kernel
theorem dX12_byteOf_15 : decode cX12_byteOf 15 = .ok (.iload_n 2, 1) := by decide +kernel
theorem dX12_byteOf_16 : decode cX12_byteOf 16 = .ok (.goto 26, 3) := by decide +kernel
theorem dX12_byteOf_19 : decode cX12_byteOf 19 = .ok (.iload_n 0, 1) := by decide +kernel
theorem dX12_byteOf_20 : decode cX12_byteOf 20 = .ok (.bipush 12, 2) := by decide +kernel
theorem dX12_byteOf_22 : decode cX12_byteOf 22 = .ok (.if_icmp .ge 7, 3) := by decide +kernel
theorem dX12_byteOf_25 : decode cX12_byteOf 25 = .ok (.iload_n 3, 1) := by decide +kernel
theorem dX12_byteOf_26 : decode cX12_byteOf 26 = .ok (.goto 16, 3) := by decide +kernel
theorem dX12_byteOf_29 : decode cX12_byteOf 29 = .ok (.iload_n 0, 1) := by decide +kernel
theorem dX12_byteOf_30 : decode cX12_byteOf 30 = .ok (.bipush 16, 2) := by decide +kernel
theorem dX12_byteOf_32 : decode cX12_byteOf 32 = .ok (.if_icmp .ge 8, 3) := by decide +kernel
theorem dX12_byteOf_35 : decode cX12_byteOf 35 = .ok (.iload 4, 2) := by decide +kernel
theorem dX12_byteOf_37 : decode cX12_byteOf 37 = .ok (.goto 5, 3) := by decide +kernel
theorem dX12_byteOf_40 : decode cX12_byteOf 40 = .ok (.iload 5, 2) := by decide +kernel
theorem dX12_byteOf_42 : decode cX12_byteOf 42 = .ok (.istore 6, 2) := by decide +kernel
theorem dX12_byteOf_44 : decode cX12_byteOf 44 = .ok (.iload 6, 2) := by decide +kernel
theorem dX12_byteOf_46 : decode cX12_byteOf 46 = .ok (.bipush 24, 2) := by decide +kernel
theorem dX12_byteOf_48 : decode cX12_byteOf 48 = .ok (.bipush 8, 2) := by decide +kernel
theorem dX12_byteOf_50 : decode cX12_byteOf 50 = .ok (.iload_n 0, 1) := by decide +kernel
theorem dX12_byteOf_51 : decode cX12_byteOf 51 = .ok (.iconst 4, 1) := by decide +kernel
theorem dX12_byteOf_52 : decode cX12_byteOf 52 = .ok (.irem, 1) := by decide +kernel
theorem dX12_byteOf_53 : decode cX12_byteOf 53 = .ok (.imul, 1) := by decide +kernel
theorem dX12_byteOf_54 : decode cX12_byteOf 54 = .ok (.isub, 1) := by decide +kernel
theorem dX12_byteOf_55 : decode cX12_byteOf 55 = .ok (.ishr, 1) := by decide +kernel
theorem dX12_byteOf_56 : decode cX12_byteOf 56 = .ok (.sipush 255, 3) := by decide +kernel
theorem dX12_byteOf_59 : decode cX12_byteOf 59 = .ok (.iand, 1) := by decide +kernel
theorem dX12_byteOf_60 : decode cX12_byteOf 60 = .ok (.ireturn, 1) := by decide +kernel
def f_X12_byteOf_p42 (ln : Nat → Nat) (x0 : Int32) (z0 : Int32) (s : dr_S) : Option (Int32 × dr_S) := some (((z0 >>> ((24 - (8 * (x0 - x0 / 4 * 4))) &&& 31)) &&& 255), s)
def f_X12_byteOf (ln : Nat → Nat) (x0 : Int32) (x1 : Int32) (x2 : Int32) (x3 : Int32) (x4 : Int32) (x5 : Int32) (s : dr_S) : Option (Int32 × dr_S) := (if ((4 : Int32) ≤ x0 : Prop) then (if ((8 : Int32) ≤ x0 : Prop) then (if ((12 : Int32) ≤ x0 : Prop) then (if ((16 : Int32) ≤ x0 : Prop) then (f_X12_byteOf_p42 ln x0 x5 s) else (f_X12_byteOf_p42 ln x0 x4 s)) else (f_X12_byteOf_p42 ln x0 x3 s)) else (f_X12_byteOf_p42 ln x0 x2 s)) else (f_X12_byteOf_p42 ln x0 x1 s))
section
variable {p : Program} {l : Launch} {e : Env} {s0 : State} {m : MethodId} {args : Array Value} {below : List Frame} {meth : Method} {c : Code} {A : Nat → Prop} {D : va_G} {cI cZ : ClassId} {ad ln : Nat → Nat} {L : List Nat}
set_option maxHeartbeats 4000000 in
set_option maxRecDepth 20000 in
theorem w_X12_byteOf_p42 (E : dr_E p (dr_rm 0) s0 m args meth c 0 0 A s0.heap D cI cZ ad L cX12_byteOf 7 RX12 (some .int)) (hap : dr_ap ad L) (hN : ∀ x ∈ nd_12, x ∈ L) : ∀ (x0 : Int32) (z0 : Int32) (s : dr_S), dr_G p l e (dr_rm 0) s0 m args below meth c 0 0 A s0.heap D cI cZ ad ln L 7 (dr_Zi D cI cZ ad ln L A below args s0 0 0) 42 [(0, .int x0)] [.int z0] s (f_X12_byteOf_p42 ln x0 z0 s) := by
  intro x0 z0 s
  unfold f_X12_byteOf_p42
  refine g_istore E (lv' := [(6, .int z0), (0, .int x0)]) dX12_byteOf_42 (by decide) rfl ?_
  refine g_iload E dX12_byteOf_44 0 rfl ?_
  refine g_bipush E (v := 24) dX12_byteOf_46 (by decide) ?_
  refine g_bipush E (v := 8) dX12_byteOf_48 (by decide) ?_
  refine g_iload_n E dX12_byteOf_50 1 rfl ?_
  refine g_iconst E (v := 4) dX12_byteOf_51 (by decide) ?_
  refine g_irem E dX12_byteOf_52 (by decide) ?_
  refine g_imul E dX12_byteOf_53 ?_
  refine g_isub E dX12_byteOf_54 ?_
  refine g_ishr E dX12_byteOf_55 ?_
  refine g_sipush E (v := 255) dX12_byteOf_56 (by decide) ?_
  refine g_iand E dX12_byteOf_59 ?_
  exact g_iret E dX12_byteOf_60
set_option maxHeartbeats 4000000 in
set_option maxRecDepth 20000 in
theorem c_X12_byteOf (hap : dr_ap ad L) (hN : ∀ x ∈ nd_12, x ∈ L) (x0 : Int32) (x1 : Int32) (x2 : Int32) (x3 : Int32) (x4 : Int32) (x5 : Int32) (s : dr_S) : dr_Mi l D cI cZ ad ln L yX12_byteOf cX12_byteOf 7 (some .int) 0 [.int x0, .int x1, .int x2, .int x3, .int x4, .int x5] s (f_X12_byteOf ln x0 x1 x2 x3 x4 x5 s) := by
  refine dr_meti (own := RX12) (by decide) rfl (Nat.le_of_ble_eq_true rfl) hap ?_
  intro p e s0 m args below meth c A E
  unfold f_X12_byteOf
  refine g_eqL (lv' := [(0, .int x0), (1, .int x1), (2, .int x2), (3, .int x3), (4, .int x4), (5, .int x5)]) rfl ?_
  refine g_iload_n E dX12_byteOf_0 0 rfl ?_
  refine g_iconst E (v := 4) dX12_byteOf_1 (by decide) ?_
  refine g_icmp_ge E 9 dX12_byteOf_2 (by decide) ?_ ?_
  · refine g_iload_n E dX12_byteOf_9 0 rfl ?_
    refine g_bipush E (v := 8) dX12_byteOf_10 (by decide) ?_
    refine g_icmp_ge E 19 dX12_byteOf_12 (by decide) ?_ ?_
    · refine g_iload_n E dX12_byteOf_19 0 rfl ?_
      refine g_bipush E (v := 12) dX12_byteOf_20 (by decide) ?_
      refine g_icmp_ge E 29 dX12_byteOf_22 (by decide) ?_ ?_
      · refine g_iload_n E dX12_byteOf_29 0 rfl ?_
        refine g_bipush E (v := 16) dX12_byteOf_30 (by decide) ?_
        refine g_icmp_ge E 40 dX12_byteOf_32 (by decide) ?_ ?_
        · refine g_iload E dX12_byteOf_40 5 rfl ?_
          refine g_sub [0] rfl ?_
          exact w_X12_byteOf_p42 E hap hN x0 x5 s
        · refine g_iload E dX12_byteOf_35 4 rfl ?_
          refine g_goto E 42 dX12_byteOf_37 (by decide) ?_
          refine g_sub [0] rfl ?_
          exact w_X12_byteOf_p42 E hap hN x0 x4 s
      · refine g_iload_n E dX12_byteOf_25 3 rfl ?_
        refine g_goto E 42 dX12_byteOf_26 (by decide) ?_
        refine g_sub [0] rfl ?_
        exact w_X12_byteOf_p42 E hap hN x0 x3 s
    · refine g_iload_n E dX12_byteOf_15 2 rfl ?_
      refine g_goto E 42 dX12_byteOf_16 (by decide) ?_
      refine g_sub [0] rfl ?_
      exact w_X12_byteOf_p42 E hap hN x0 x2 s
  · refine g_iload_n E dX12_byteOf_5 1 rfl ?_
    refine g_goto E 42 dX12_byteOf_6 (by decide) ?_
    refine g_sub [0] rfl ?_
    exact w_X12_byteOf_p42 E hap hN x0 x1 s
end

theorem dX12_isRead_0 : decode cX12_isRead 0 = .ok (.iconst 0, 1) := by decide +kernel
theorem dX12_isRead_1 : decode cX12_isRead 1 = .ok (.istore_n 2, 1) := by decide +kernel
theorem dX12_isRead_2 : decode cX12_isRead 2 = .ok (.iload_n 2, 1) := by decide +kernel
theorem dX12_isRead_3 : decode cX12_isRead 3 = .ok (.aload_n 0, 1) := by decide +kernel
theorem dX12_isRead_4 : decode cX12_isRead 4 = .ok (.getfield 164, 3) := by decide +kernel
theorem dX12_isRead_7 : decode cX12_isRead 7 = .ok (.if_icmp .ge 21, 3) := by decide +kernel
theorem dX12_isRead_10 : decode cX12_isRead 10 = .ok (.aload_n 0, 1) := by decide +kernel
theorem dX12_isRead_11 : decode cX12_isRead 11 = .ok (.getfield 107, 3) := by decide +kernel
theorem dX12_isRead_14 : decode cX12_isRead 14 = .ok (.iload_n 2, 1) := by decide +kernel
theorem dX12_isRead_15 : decode cX12_isRead 15 = .ok (.iaload, 1) := by decide +kernel
theorem dX12_isRead_16 : decode cX12_isRead 16 = .ok (.iload_n 1, 1) := by decide +kernel
theorem dX12_isRead_17 : decode cX12_isRead 17 = .ok (.if_icmp .ne 5, 3) := by decide +kernel
theorem dX12_isRead_20 : decode cX12_isRead 20 = .ok (.iconst 1, 1) := by decide +kernel
theorem dX12_isRead_21 : decode cX12_isRead 21 = .ok (.ireturn, 1) := by decide +kernel
theorem dX12_isRead_22 : decode cX12_isRead 22 = .ok (.iinc 2 1, 3) := by decide +kernel
theorem dX12_isRead_25 : decode cX12_isRead 25 = .ok (.goto (-23), 3) := by decide +kernel
theorem dX12_isRead_28 : decode cX12_isRead 28 = .ok (.iconst 0, 1) := by decide +kernel
theorem dX12_isRead_29 : decode cX12_isRead 29 = .ok (.ireturn, 1) := by decide +kernel
def f_X12_isRead_p2 (ln : Nat → Nat) : Nat → Int32 → Int32 → dr_S → Option (Int32 × dr_S)
  | 0, _, _, _ => none
  | n + 1, x1, x2, s => (if (s.2 1240) ≤ x2 then some (0, s) else (dr_rd ln s 60 x2).bind (fun v1 => (if v1 = x1 then some (1, s) else dr_let (x2 + 1) (fun y2 => (f_X12_isRead_p2 ln n x1 y2 s)))))
def f_X12_isRead (ln : Nat → Nat) (x1 : Int32) (s : dr_S) : Option (Int32 × dr_S) := (f_X12_isRead_p2 ln dr_N x1 0 s)
section
variable {p : Program} {l : Launch} {e : Env} {s0 : State} {m : MethodId} {args : Array Value} {below : List Frame} {meth : Method} {c : Code} {A : Nat → Prop} {D : va_G} {cI cZ : ClassId} {ad ln : Nat → Nat} {L : List Nat}
set_option maxHeartbeats 4000000 in
set_option maxRecDepth 20000 in
theorem w_X12_isRead_p2 (E : dr_E p (dr_rm 0) s0 m args meth c 0 0 A s0.heap D cI cZ ad L cX12_isRead 3 RX12 (some .boolean)) (hap : dr_ap ad L) (hN : ∀ x ∈ nd_12, x ∈ L) : ∀ (n : Nat) (x1 : Int32) (x2 : Int32) (s : dr_S), dr_G p l e (dr_rm 0) s0 m args below meth c 0 0 A s0.heap D cI cZ ad ln L 3 (dr_Zi D cI cZ ad ln L A below args s0 0 0) 2 [(0, .ref (ad 12)), (1, .int x1), (2, .int x2)] [] s (f_X12_isRead_p2 ln n x1 x2 s) := by
  intro n
  induction n with
  | zero =>
    intro x1 x2 s
    rw [f_X12_isRead_p2]
    exact g_none
  | succ n hkb2 =>
    intro x1 x2 s
    rw [f_X12_isRead_p2]
    refine g_iload_n E dX12_isRead_2 2 rfl ?_
    refine g_aload_n E dX12_isRead_3 0 rfl ?_
    refine gg_12_164 E (hN 12 (by decide)) dX12_isRead_4 ?_
    refine g_icmp_ge E 28 dX12_isRead_7 (by decide) ?_ ?_
    · refine g_iconst E (v := 0) dX12_isRead_28 (by decide) ?_
      exact g_zret E dX12_isRead_29 (Or.inl rfl)
    · refine g_aload_n E dX12_isRead_10 0 rfl ?_
      refine gg_12_107 E (hN 12 (by decide)) dX12_isRead_11 ?_
      refine g_iload_n E dX12_isRead_14 2 rfl ?_
      refine g_iaload E (hN 60 (by decide)) (by decide) rfl dX12_isRead_15 (fun v1 => ?_)
      refine g_iload_n E dX12_isRead_16 1 rfl ?_
      refine g_icmp_ne E 22 dX12_isRead_17 (by decide) ?_ ?_
      · refine g_iinc E (lv' := []) (lv'' := fun y2 => [(2, .int y2), (0, .ref (ad 12)), (1, .int x1)]) (v := 1) dX12_isRead_22 2 rfl (by decide) (by decide) (fun _ => rfl) (fun y2 => ?_)
        refine g_goto E 2 dX12_isRead_25 (by decide) ?_
        refine g_sub [1, 2, 0] rfl ?_
        exact hkb2 x1 y2 s
      · refine g_iconst E (v := 1) dX12_isRead_20 (by decide) ?_
        exact g_zret E dX12_isRead_21 (Or.inr rfl)
set_option maxHeartbeats 4000000 in
set_option maxRecDepth 20000 in
theorem c_X12_isRead (hap : dr_ap ad L) (hN : ∀ x ∈ nd_12, x ∈ L) (x1 : Int32) (s : dr_S) : dr_Mi l D cI cZ ad ln L yX12_isRead cX12_isRead 3 (some .boolean) 0 [.ref (ad 12), .int x1] s (f_X12_isRead ln x1 s) := by
  refine dr_meti (own := RX12) (by decide) rfl (Nat.le_of_ble_eq_true rfl) hap ?_
  intro p e s0 m args below meth c A E
  unfold f_X12_isRead
  refine g_eqL (lv' := [(0, .ref (ad 12)), (1, .int x1)]) rfl ?_
  refine g_iconst E (v := 0) dX12_isRead_0 (by decide) ?_
  refine g_istore_n E (lv' := [(2, .int 0), (0, .ref (ad 12)), (1, .int x1)]) dX12_isRead_1 (by decide) rfl ?_
  refine g_sub [1, 2, 0] rfl ?_
  exact w_X12_isRead_p2 E hap hN dr_N x1 0 s
end

theorem dX12_rule_0 : decode cX12_rule 0 = .ok (.iload_n 1, 1) := by decide +kernel
theorem dX12_rule_1 : decode cX12_rule 1 = .ok (.iconst 0, 1) := by decide +kernel
theorem dX12_rule_2 : decode cX12_rule 2 = .ok (.bipush 20, 2) := by decide +kernel
theorem dX12_rule_4 : decode cX12_rule 4 = .ok (.invokestatic 160, 3) := by decide +kernel
theorem dX12_rule_7 : decode cX12_rule 7 = .ok (.ifCond .ne 6, 3) := by decide +kernel
theorem dX12_rule_10 : decode cX12_rule 10 = .ok (.bipush (-2), 2) := by decide +kernel
theorem dX12_rule_12 : decode cX12_rule 12 = .ok (.ireturn, 1) := by decide +kernel
theorem dX12_rule_13 : decode cX12_rule 13 = .ok (.aload_n 0, 1) := by decide +kernel
theorem dX12_rule_14 : decode cX12_rule 14 = .ok (.iconst 0, 1) := by decide +kernel
theorem dX12_rule_15 : decode cX12_rule 15 = .ok (.putfield 164, 3) := by decide +kernel
theorem dX12_rule_18 : decode cX12_rule 18 = .ok (.iconst (-1), 1) := by decide +kernel
theorem dX12_rule_19 : decode cX12_rule 19 = .ok (.istore 7, 2) := by decide +kernel
theorem dX12_rule_21 : decode cX12_rule 21 = .ok (.iconst 0, 1) := by decide +kernel
theorem dX12_rule_22 : decode cX12_rule 22 = .ok (.istore 8, 2) := by decide +kernel
theorem dX12_rule_24 : decode cX12_rule 24 = .ok (.iconst 0, 1) := by decide +kernel
theorem dX12_rule_25 : decode cX12_rule 25 = .ok (.istore 9, 2) := by decide +kernel
theorem dX12_rule_27 : decode cX12_rule 27 = .ok (.iload 9, 2) := by decide +kernel
theorem dX12_rule_29 : decode cX12_rule 29 = .ok (.iload_n 1, 1) := by decide +kernel
theorem dX12_rule_30 : decode cX12_rule 30 = .ok (.if_icmp .ge 162, 3) := by decide +kernel
theorem dX12_rule_33 : decode cX12_rule 33 = .ok (.iload 9, 2) := by decide +kernel
theorem dX12_rule_35 : decode cX12_rule 35 = .ok (.iload_n 2, 1) := by decide +kernel
theorem dX12_rule_36 : decode cX12_rule 36 = .ok (.iload_n 3, 1) := by decide +kernel
theorem dX12_rule_37 : decode cX12_rule 37 = .ok (.iload 4, 2) := by decide +kernel
theorem dX12_rule_39 : decode cX12_rule 39 = .ok (.iload 5, 2) := by decide +kernel
theorem dX12_rule_41 : decode cX12_rule 41 = .ok (.iload 6, 2) := by decide +kernel
theorem dX12_rule_43 : decode cX12_rule 43 = .ok (.invokestatic 167, 3) := by decide +kernel
theorem dX12_rule_46 : decode cX12_rule 46 = .ok (.istore 10, 2) := by decide +kernel
theorem dX12_rule_48 : decode cX12_rule 48 = .ok (.iload 10, 2) := by decide +kernel
theorem dX12_rule_50 : decode cX12_rule 50 = .ok (.bipush 32, 2) := by decide +kernel
theorem dX12_rule_52 : decode cX12_rule 52 = .ok (.if_icmp .ne 6, 3) := by decide +kernel
theorem dX12_rule_55 : decode cX12_rule 55 = .ok (.goto 131, 3) := by decide +kernel
theorem dX12_rule_58 : decode cX12_rule 58 = .ok (.iload 8, 2) := by decide +kernel
theorem dX12_rule_60 : decode cX12_rule 60 = .ok (.ifCond .eq 6, 3) := by decide +kernel
theorem dX12_rule_63 : decode cX12_rule 63 = .ok (.iload 9, 2) := by decide +kernel
theorem dX12_rule_65 : decode cX12_rule 65 = .ok (.ireturn, 1) := by decide +kernel
theorem dX12_rule_66 : decode cX12_rule 66 = .ok (.iload 7, 2) := by decide +kernel
theorem dX12_rule_68 : decode cX12_rule 68 = .ok (.iconst (-1), 1) := by decide +kernel
theorem dX12_rule_69 : decode cX12_rule 69 = .ok (.if_icmp .eq 68, 3) := by decide +kernel
theorem dX12_rule_72 : decode cX12_rule 72 = .ok (.iload 10, 2) := by decide +kernel
theorem dX12_rule_74 : decode cX12_rule 74 = .ok (.bipush 43, 2) := by decide +kernel
theorem dX12_rule_76 : decode cX12_rule 76 = .ok (.if_icmp .eq 13, 3) := by decide +kernel
theorem dX12_rule_79 : decode cX12_rule 79 = .ok (.iload 10, 2) := by decide +kernel
theorem dX12_rule_81 : decode cX12_rule 81 = .ok (.bipush 45, 2) := by decide +kernel
theorem dX12_rule_83 : decode cX12_rule 83 = .ok (.if_icmp .eq 6, 3) := by decide +kernel
theorem dX12_rule_86 : decode cX12_rule 86 = .ok (.iload 9, 2) := by decide +kernel
theorem dX12_rule_88 : decode cX12_rule 88 = .ok (.ireturn, 1) := by decide +kernel
theorem dX12_rule_89 : decode cX12_rule 89 = .ok (.aload_n 0, 1) := by decide +kernel
theorem dX12_rule_90 : decode cX12_rule 90 = .ok (.getfield 107, 3) := by decide +kernel
theorem dX12_rule_93 : decode cX12_rule 93 = .ok (.aload_n 0, 1) := by decide +kernel
theorem dX12_rule_94 : decode cX12_rule 94 = .ok (.getfield 164, 3) := by decide +kernel
theorem dX12_rule_97 : decode cX12_rule 97 = .ok (.iload 7, 2) := by decide +kernel
theorem dX12_rule_99 : decode cX12_rule 99 = .ok (.iastore, 1) := by decide +kernel
theorem dX12_rule_100 : decode cX12_rule 100 = .ok (.aload_n 0, 1) := by decide +kernel
theorem dX12_rule_101 : decode cX12_rule 101 = .ok (.getfield 110, 3) := by decide +kernel
theorem dX12_rule_104 : decode cX12_rule 104 = .ok (.aload_n 0, 1) := by decide +kernel
theorem dX12_rule_105 : decode cX12_rule 105 = .ok (.getfield 164, 3) := by decide +kernel
theorem dX12_rule_108 : decode cX12_rule 108 = .ok (.iload 10, 2) := by decide +kernel
theorem dX12_rule_110 : decode cX12_rule 110 = .ok (.bipush 45, 2) := by decide +kernel
theorem dX12_rule_112 : decode cX12_rule 112 = .ok (.if_icmp .ne 7, 3) := by decide +kernel
theorem dX12_rule_115 : decode cX12_rule 115 = .ok (.iconst 1, 1) := by decide +kernel
theorem dX12_rule_116 : decode cX12_rule 116 = .ok (.goto 4, 3) := by decide +kernel
theorem dX12_rule_119 : decode cX12_rule 119 = .ok (.iconst 0, 1) := by decide +kernel
theorem dX12_rule_120 : decode cX12_rule 120 = .ok (.bastore, 1) := by decide +kernel
theorem dX12_rule_121 : decode cX12_rule 121 = .ok (.aload_n 0, 1) := by decide +kernel
theorem dX12_rule_122 : decode cX12_rule 122 = .ok (.dup, 1) := by decide +kernel
theorem dX12_rule_123 : decode cX12_rule 123 = .ok (.getfield 164, 3) := by decide +kernel
theorem dX12_rule_126 : decode cX12_rule 126 = .ok (.iconst 1, 1) := by decide +kernel
theorem dX12_rule_127 : decode cX12_rule 127 = .ok (.iadd, 1) := by decide +kernel
theorem dX12_rule_128 : decode cX12_rule 128 = .ok (.putfield 164, 3) := by decide +kernel
theorem dX12_rule_131 : decode cX12_rule 131 = .ok (.iconst (-1), 1) := by decide +kernel
theorem dX12_rule_132 : decode cX12_rule 132 = .ok (.istore 7, 2) := by decide +kernel
theorem dX12_rule_134 : decode cX12_rule 134 = .ok (.goto 52, 3) := by decide +kernel
theorem dX12_rule_137 : decode cX12_rule 137 = .ok (.iload 10, 2) := by decide +kernel
theorem dX12_rule_139 : decode cX12_rule 139 = .ok (.bipush 59, 2) := by decide +kernel
theorem dX12_rule_141 : decode cX12_rule 141 = .ok (.if_icmp .ne 9, 3) := by decide +kernel
theorem dX12_rule_144 : decode cX12_rule 144 = .ok (.iconst 1, 1) := by decide +kernel
theorem dX12_rule_145 : decode cX12_rule 145 = .ok (.istore 8, 2) := by decide +kernel
theorem dX12_rule_147 : decode cX12_rule 147 = .ok (.goto 39, 3) := by decide +kernel
theorem dX12_rule_150 : decode cX12_rule 150 = .ok (.iload 10, 2) := by decide +kernel
theorem dX12_rule_152 : decode cX12_rule 152 = .ok (.bipush 97, 2) := by decide +kernel
theorem dX12_rule_154 : decode cX12_rule 154 = .ok (.if_icmp .lt 22, 3) := by decide +kernel
theorem dX12_rule_157 : decode cX12_rule 157 = .ok (.iload 10, 2) := by decide +kernel
theorem dX12_rule_159 : decode cX12_rule 159 = .ok (.bipush 100, 2) := by decide +kernel
theorem dX12_rule_161 : decode cX12_rule 161 = .ok (.if_icmp .gt 15, 3) := by decide +kernel
theorem dX12_rule_164 : decode cX12_rule 164 = .ok (.aload_n 0, 1) := by decide +kernel
theorem dX12_rule_165 : decode cX12_rule 165 = .ok (.iload 10, 2) := by decide +kernel
theorem dX12_rule_167 : decode cX12_rule 167 = .ok (.bipush 97, 2) := by decide +kernel
theorem dX12_rule_169 : decode cX12_rule 169 = .ok (.isub, 1) := by decide +kernel
theorem dX12_rule_170 : decode cX12_rule 170 = .ok (.invokevirtual 171, 3) := by decide +kernel
theorem dX12_rule_173 : decode cX12_rule 173 = .ok (.ifCond .eq 6, 3) := by decide +kernel
theorem dX12_rule_176 : decode cX12_rule 176 = .ok (.iload 9, 2) := by decide +kernel
theorem dX12_rule_178 : decode cX12_rule 178 = .ok (.ireturn, 1) := by decide +kernel
theorem dX12_rule_179 : decode cX12_rule 179 = .ok (.iload 10, 2) := by decide +kernel
theorem dX12_rule_181 : decode cX12_rule 181 = .ok (.bipush 97, 2) := by decide +kernel
theorem dX12_rule_183 : decode cX12_rule 183 = .ok (.isub, 1) := by decide +kernel
theorem dX12_rule_184 : decode cX12_rule 184 = .ok (.istore 7, 2) := by decide +kernel
theorem dX12_rule_186 : decode cX12_rule 186 = .ok (.iinc 9 1, 3) := by decide +kernel
theorem dX12_rule_189 : decode cX12_rule 189 = .ok (.goto (-162), 3) := by decide +kernel
theorem dX12_rule_192 : decode cX12_rule 192 = .ok (.iload 8, 2) := by decide +kernel
theorem dX12_rule_194 : decode cX12_rule 194 = .ok (.ifCond .ne 5, 3) := by decide +kernel
theorem dX12_rule_197 : decode cX12_rule 197 = .ok (.iload_n 1, 1) := by decide +kernel
theorem dX12_rule_198 : decode cX12_rule 198 = .ok (.ireturn, 1) := by decide +kernel
theorem dX12_rule_199 : decode cX12_rule 199 = .ok (.aload_n 0, 1) := by decide +kernel
theorem dX12_rule_200 : decode cX12_rule 200 = .ok (.getfield 175, 3) := by decide +kernel
theorem dX12_rule_203 : decode cX12_rule 203 = .ok (.ifCond .le 5, 3) := by decide +kernel
theorem dX12_rule_206 : decode cX12_rule 206 = .ok (.iconst (-1), 1) := by decide +kernel
theorem dX12_rule_207 : decode cX12_rule 207 = .ok (.ireturn, 1) := by decide +kernel
theorem dX12_rule_208 : decode cX12_rule 208 = .ok (.aload_n 0, 1) := by decide +kernel
theorem dX12_rule_209 : decode cX12_rule 209 = .ok (.aload_n 0, 1) := by decide +kernel
theorem dX12_rule_210 : decode cX12_rule 210 = .ok (.getfield 164, 3) := by decide +kernel
theorem dX12_rule_213 : decode cX12_rule 213 = .ok (.putfield 178, 3) := by decide +kernel
theorem dX12_rule_216 : decode cX12_rule 216 = .ok (.iconst 0, 1) := by decide +kernel
theorem dX12_rule_217 : decode cX12_rule 217 = .ok (.istore 9, 2) := by decide +kernel
theorem dX12_rule_219 : decode cX12_rule 219 = .ok (.iload 9, 2) := by decide +kernel
theorem dX12_rule_221 : decode cX12_rule 221 = .ok (.aload_n 0, 1) := by decide +kernel
theorem dX12_rule_222 : decode cX12_rule 222 = .ok (.getfield 178, 3) := by decide +kernel
theorem dX12_rule_225 : decode cX12_rule 225 = .ok (.if_icmp .ge 37, 3) := by decide +kernel
theorem dX12_rule_228 : decode cX12_rule 228 = .ok (.aload_n 0, 1) := by decide +kernel
theorem dX12_rule_229 : decode cX12_rule 229 = .ok (.getfield 7, 3) := by decide +kernel
theorem dX12_rule_232 : decode cX12_rule 232 = .ok (.iload 9, 2) := by decide +kernel
theorem dX12_rule_234 : decode cX12_rule 234 = .ok (.aload_n 0, 1) := by decide +kernel
theorem dX12_rule_235 : decode cX12_rule 235 = .ok (.getfield 107, 3) := by decide +kernel
theorem dX12_rule_238 : decode cX12_rule 238 = .ok (.iload 9, 2) := by decide +kernel
theorem dX12_rule_240 : decode cX12_rule 240 = .ok (.iaload, 1) := by decide +kernel
theorem dX12_rule_241 : decode cX12_rule 241 = .ok (.iastore, 1) := by decide +kernel
theorem dX12_rule_242 : decode cX12_rule 242 = .ok (.aload_n 0, 1) := by decide +kernel
theorem dX12_rule_243 : decode cX12_rule 243 = .ok (.getfield 13, 3) := by decide +kernel
theorem dX12_rule_246 : decode cX12_rule 246 = .ok (.iload 9, 2) := by decide +kernel
theorem dX12_rule_248 : decode cX12_rule 248 = .ok (.aload_n 0, 1) := by decide +kernel
theorem dX12_rule_249 : decode cX12_rule 249 = .ok (.getfield 110, 3) := by decide +kernel
theorem dX12_rule_252 : decode cX12_rule 252 = .ok (.iload 9, 2) := by decide +kernel
theorem dX12_rule_254 : decode cX12_rule 254 = .ok (.baload, 1) := by decide +kernel
theorem dX12_rule_255 : decode cX12_rule 255 = .ok (.bastore, 1) := by decide +kernel
theorem dX12_rule_256 : decode cX12_rule 256 = .ok (.iinc 9 1, 3) := by decide +kernel
theorem dX12_rule_259 : decode cX12_rule 259 = .ok (.goto (-40), 3) := by decide +kernel
theorem dX12_rule_262 : decode cX12_rule 262 = .ok (.iconst (-1), 1) := by decide +kernel
theorem dX12_rule_263 : decode cX12_rule 263 = .ok (.ireturn, 1) := by decide +kernel
def f_X12_rule_p219 (ln : Nat → Nat) : Nat → Int32 → dr_S → Option (Int32 × dr_S)
  | 0, _, _ => none
  | n + 1, x9, s => (if (s.2 1201) ≤ x9 then some ((-1), s) else (dr_rd ln s 60 x9).bind (fun v14 => (dr_wr ln s 28 x9 v14).bind (fun s15 => (dr_rd ln s15 61 x9).bind (fun v16 => (dr_wz ln s15 29 x9 v16).bind (fun s17 => dr_let (x9 + 1) (fun y18 => (f_X12_rule_p219 ln n y18 s17)))))))
def f_X12_rule_p186 (ln : Nat → Nat) (kb27 : Int32 → Int32 → Int32 → Int32 → Int32 → Int32 → Int32 → Int32 → Int32 → dr_S → Option (Int32 × dr_S)) (x1 : Int32) (x2 : Int32) (x3 : Int32) (x4 : Int32) (x5 : Int32) (x6 : Int32) (x7 : Int32) (x8 : Int32) (x9 : Int32) (s : dr_S) : Option (Int32 × dr_S) := dr_let (x9 + 1) (fun y10 => (kb27 x1 x2 x3 x4 x5 x6 x7 x8 y10 s))
def f_X12_rule_p120 (ln : Nat → Nat) (kb27 : Int32 → Int32 → Int32 → Int32 → Int32 → Int32 → Int32 → Int32 → Int32 → dr_S → Option (Int32 × dr_S)) (x1 : Int32) (x2 : Int32) (x3 : Int32) (x4 : Int32) (x5 : Int32) (x6 : Int32) (x8 : Int32) (x9 : Int32) (z0 : Int32) (z1 : Int32) (s : dr_S) : Option (Int32 × dr_S) := (dr_wz ln s 61 z1 z0).bind (fun s12 => dr_letS (dr_pf s12 1240 ((s12.2 1240) + 1)) (fun s13 => (f_X12_rule_p186 ln kb27 x1 x2 x3 x4 x5 x6 ((-1)) x8 x9 s13)))
def f_X12_rule_p89 (ln : Nat → Nat) (kb27 : Int32 → Int32 → Int32 → Int32 → Int32 → Int32 → Int32 → Int32 → Int32 → dr_S → Option (Int32 × dr_S)) (x1 : Int32) (x2 : Int32) (x3 : Int32) (x4 : Int32) (x5 : Int32) (x6 : Int32) (x7 : Int32) (x8 : Int32) (x9 : Int32) (x10 : Int32) (s : dr_S) : Option (Int32 × dr_S) := (dr_wr ln s 60 (s.2 1240) x7).bind (fun s11 => (if x10 = 45 then (f_X12_rule_p120 ln kb27 x1 x2 x3 x4 x5 x6 x8 x9 1 ((s11.2 1240)) s11) else (f_X12_rule_p120 ln kb27 x1 x2 x3 x4 x5 x6 x8 x9 0 ((s11.2 1240)) s11)))
def f_X12_rule_p27 (ln : Nat → Nat) : Nat → Int32 → Int32 → Int32 → Int32 → Int32 → Int32 → Int32 → Int32 → Int32 → dr_S → Option (Int32 × dr_S)
  | 0, _, _, _, _, _, _, _, _, _, _ => none
  | n + 1, x1, x2, x3, x4, x5, x6, x7, x8, x9, s => (if x1 ≤ x9 then (if x8 = 0 then some (x1, s) else (if (s.2 1226) ≤ 0 then dr_letS (dr_pf s 1201 (s.2 1240)) (fun s4 => (f_X12_rule_p219 ln dr_N 0 s4)) else some ((-1), s))) else dr_bnd (f_X12_byteOf ln x9 x2 x3 x4 x5 x6 s) (fun r6 s5 => (if r6 = 32 then (f_X12_rule_p186 ln (f_X12_rule_p27 ln n) x1 x2 x3 x4 x5 x6 x7 x8 x9 s5) else (if x8 = 0 then (if x7 = (-1) then (if r6 = 59 then (f_X12_rule_p186 ln (f_X12_rule_p27 ln n) x1 x2 x3 x4 x5 x6 x7 1 x9 s5) else (if r6 < 97 then some (x9, s5) else (if ((100 : Int32) < r6 : Prop) then some (x9, s5) else dr_bnd (f_X12_isRead ln ((r6 - 97)) s5) (fun r8 s7 => (if r8 = 0 then dr_let (r6 - 97) (fun y9 => (f_X12_rule_p186 ln (f_X12_rule_p27 ln n) x1 x2 x3 x4 x5 x6 y9 x8 x9 s7)) else some (x9, s7)))))) else (if r6 = 43 then (f_X12_rule_p89 ln (f_X12_rule_p27 ln n) x1 x2 x3 x4 x5 x6 x7 x8 x9 r6 s5) else (if r6 = 45 then (f_X12_rule_p89 ln (f_X12_rule_p27 ln n) x1 x2 x3 x4 x5 x6 x7 x8 x9 r6 s5) else some (x9, s5)))) else some (x9, s5)))))
def f_X12_rule (ln : Nat → Nat) (x1 : Int32) (x2 : Int32) (x3 : Int32) (x4 : Int32) (x5 : Int32) (x6 : Int32) (s : dr_S) : Option (Int32 × dr_S) := dr_bnd (f_X12_in ln x1 0 20 s) (fun r2 s1 => (if r2 = 0 then some ((-2), s1) else dr_letS (dr_pf s1 1240 0) (fun s3 => (f_X12_rule_p27 ln dr_N x1 x2 x3 x4 x5 x6 ((-1)) 0 0 s3))))
section
variable {p : Program} {l : Launch} {e : Env} {s0 : State} {m : MethodId} {args : Array Value} {below : List Frame} {meth : Method} {c : Code} {A : Nat → Prop} {D : va_G} {cI cZ : ClassId} {ad ln : Nat → Nat} {L : List Nat}
set_option maxHeartbeats 4000000 in
set_option maxRecDepth 20000 in
theorem w_X12_rule_p219 (E : dr_E p (dr_rm 1) s0 m args meth c 0 0 A s0.heap D cI cZ ad L cX12_rule 11 RX12 (some .int)) (hap : dr_ap ad L) (hN : ∀ x ∈ nd_12, x ∈ L) : ∀ (n : Nat) (x9 : Int32) (s : dr_S), dr_G p l e (dr_rm 1) s0 m args below meth c 0 0 A s0.heap D cI cZ ad ln L 11 (dr_Zi D cI cZ ad ln L A below args s0 0 0) 219 [(0, .ref (ad 12)), (9, .int x9)] [] s (f_X12_rule_p219 ln n x9 s) := by
  intro n
  induction n with
  | zero =>
    intro x9 s
    rw [f_X12_rule_p219]
    exact g_none
  | succ n hkb219 =>
    intro x9 s
    rw [f_X12_rule_p219]
    refine g_iload E dX12_rule_219 1 rfl ?_
    refine g_aload_n E dX12_rule_221 0 rfl ?_
    refine gg_12_178 E (hN 12 (by decide)) dX12_rule_222 ?_
    refine g_icmp_ge E 262 dX12_rule_225 (by decide) ?_ ?_
    · refine g_iconst E (v := (-1)) dX12_rule_262 (by decide) ?_
      exact g_iret E dX12_rule_263
    · refine g_aload_n E dX12_rule_228 0 rfl ?_
      refine gg_12_7 E (hN 12 (by decide)) dX12_rule_229 ?_
      refine g_iload E dX12_rule_232 1 rfl ?_
      refine g_aload_n E dX12_rule_234 0 rfl ?_
      refine gg_12_107 E (hN 12 (by decide)) dX12_rule_235 ?_
      refine g_iload E dX12_rule_238 1 rfl ?_
      refine g_iaload E (hN 60 (by decide)) (by decide) rfl dX12_rule_240 (fun v14 => ?_)
      refine g_iastore E (hN 28 (by decide)) (by decide) rfl dX12_rule_241 (fun s15 => ?_)
      refine g_aload_n E dX12_rule_242 0 rfl ?_
      refine gg_12_13 E (hN 12 (by decide)) dX12_rule_243 ?_
      refine g_iload E dX12_rule_246 1 rfl ?_
      refine g_aload_n E dX12_rule_248 0 rfl ?_
      refine gg_12_110 E (hN 12 (by decide)) dX12_rule_249 ?_
      refine g_iload E dX12_rule_252 1 rfl ?_
      refine g_baload E (hN 61 (by decide)) (by decide) rfl dX12_rule_254 (fun v16 => ?_)
      refine g_bastore E (hN 29 (by decide)) (by decide) rfl dX12_rule_255 (fun s17 => ?_)
      refine g_iinc E (lv' := []) (lv'' := fun y18 => [(9, .int y18), (0, .ref (ad 12))]) (v := 1) dX12_rule_256 1 rfl (by decide) (by decide) (fun _ => rfl) (fun y18 => ?_)
      refine g_goto E 219 dX12_rule_259 (by decide) ?_
      refine g_sub [1, 0] rfl ?_
      exact hkb219 y18 s17
set_option maxHeartbeats 4000000 in
set_option maxRecDepth 20000 in
theorem w_X12_rule_p186 {kb27 : Int32 → Int32 → Int32 → Int32 → Int32 → Int32 → Int32 → Int32 → Int32 → dr_S → Option (Int32 × dr_S)} (E : dr_E p (dr_rm 1) s0 m args meth c 0 0 A s0.heap D cI cZ ad L cX12_rule 11 RX12 (some .int)) (hap : dr_ap ad L) (hN : ∀ x ∈ nd_12, x ∈ L) (hkb27 : ∀ (x1 : Int32) (x2 : Int32) (x3 : Int32) (x4 : Int32) (x5 : Int32) (x6 : Int32) (x7 : Int32) (x8 : Int32) (x9 : Int32) (s : dr_S), dr_G p l e (dr_rm 1) s0 m args below meth c 0 0 A s0.heap D cI cZ ad ln L 11 (dr_Zi D cI cZ ad ln L A below args s0 0 0) 27 [(0, .ref (ad 12)), (1, .int x1), (2, .int x2), (3, .int x3), (4, .int x4), (5, .int x5), (6, .int x6), (7, .int x7), (8, .int x8), (9, .int x9)] [] s (kb27 x1 x2 x3 x4 x5 x6 x7 x8 x9 s)) : ∀ (x1 : Int32) (x2 : Int32) (x3 : Int32) (x4 : Int32) (x5 : Int32) (x6 : Int32) (x7 : Int32) (x8 : Int32) (x9 : Int32) (s : dr_S), dr_G p l e (dr_rm 1) s0 m args below meth c 0 0 A s0.heap D cI cZ ad ln L 11 (dr_Zi D cI cZ ad ln L A below args s0 0 0) 186 [(0, .ref (ad 12)), (1, .int x1), (2, .int x2), (3, .int x3), (4, .int x4), (5, .int x5), (6, .int x6), (7, .int x7), (8, .int x8), (9, .int x9)] [] s (f_X12_rule_p186 ln kb27 x1 x2 x3 x4 x5 x6 x7 x8 x9 s) := by
  intro x1 x2 x3 x4 x5 x6 x7 x8 x9 s
  unfold f_X12_rule_p186
  refine g_iinc E (lv' := []) (lv'' := fun y10 => [(9, .int y10), (0, .ref (ad 12)), (1, .int x1), (2, .int x2), (3, .int x3), (4, .int x4), (5, .int x5), (6, .int x6), (7, .int x7), (8, .int x8)]) (v := 1) dX12_rule_186 9 rfl (by decide) (by decide) (fun _ => rfl) (fun y10 => ?_)
  refine g_goto E 27 dX12_rule_189 (by decide) ?_
  refine g_sub [1, 2, 3, 4, 5, 6, 7, 8, 9, 0] rfl ?_
  exact hkb27 x1 x2 x3 x4 x5 x6 x7 x8 y10 s
set_option maxHeartbeats 4000000 in
set_option maxRecDepth 20000 in
theorem w_X12_rule_p120 {kb27 : Int32 → Int32 → Int32 → Int32 → Int32 → Int32 → Int32 → Int32 → Int32 → dr_S → Option (Int32 × dr_S)} (E : dr_E p (dr_rm 1) s0 m args meth c 0 0 A s0.heap D cI cZ ad L cX12_rule 11 RX12 (some .int)) (hap : dr_ap ad L) (hN : ∀ x ∈ nd_12, x ∈ L) (hkb27 : ∀ (x1 : Int32) (x2 : Int32) (x3 : Int32) (x4 : Int32) (x5 : Int32) (x6 : Int32) (x7 : Int32) (x8 : Int32) (x9 : Int32) (s : dr_S), dr_G p l e (dr_rm 1) s0 m args below meth c 0 0 A s0.heap D cI cZ ad ln L 11 (dr_Zi D cI cZ ad ln L A below args s0 0 0) 27 [(0, .ref (ad 12)), (1, .int x1), (2, .int x2), (3, .int x3), (4, .int x4), (5, .int x5), (6, .int x6), (7, .int x7), (8, .int x8), (9, .int x9)] [] s (kb27 x1 x2 x3 x4 x5 x6 x7 x8 x9 s)) : ∀ (x1 : Int32) (x2 : Int32) (x3 : Int32) (x4 : Int32) (x5 : Int32) (x6 : Int32) (x8 : Int32) (x9 : Int32) (z0 : Int32) (z1 : Int32) (s : dr_S), dr_G p l e (dr_rm 1) s0 m args below meth c 0 0 A s0.heap D cI cZ ad ln L 11 (dr_Zi D cI cZ ad ln L A below args s0 0 0) 120 [(0, .ref (ad 12)), (1, .int x1), (2, .int x2), (3, .int x3), (4, .int x4), (5, .int x5), (6, .int x6), (8, .int x8), (9, .int x9)] [.int z0, .int z1, .ref (ad 61)] s (f_X12_rule_p120 ln kb27 x1 x2 x3 x4 x5 x6 x8 x9 z0 z1 s) := by
  intro x1 x2 x3 x4 x5 x6 x8 x9 z0 z1 s
  unfold f_X12_rule_p120
  refine g_bastore E (hN 61 (by decide)) (by decide) rfl dX12_rule_120 (fun s12 => ?_)
  refine g_aload_n E dX12_rule_121 0 rfl ?_
  refine g_dup E dX12_rule_122 rfl ?_
  refine gg_12_164 E (hN 12 (by decide)) dX12_rule_123 ?_
  refine g_iconst E (v := 1) dX12_rule_126 (by decide) ?_
  refine g_iadd E dX12_rule_127 ?_
  refine gp_12_164 E (hN 12 (by decide)) dX12_rule_128 (fun s13 => ?_)
  refine g_iconst E (v := (-1)) dX12_rule_131 (by decide) ?_
  refine g_istore E (lv' := [(7, .int (-1)), (0, .ref (ad 12)), (1, .int x1), (2, .int x2), (3, .int x3), (4, .int x4), (5, .int x5), (6, .int x6), (8, .int x8), (9, .int x9)]) dX12_rule_132 (by decide) rfl ?_
  refine g_goto E 186 dX12_rule_134 (by decide) ?_
  refine g_sub [1, 2, 3, 4, 5, 6, 7, 0, 8, 9] rfl ?_
  exact w_X12_rule_p186 E hap hN hkb27 x1 x2 x3 x4 x5 x6 ((-1)) x8 x9 s13
set_option maxHeartbeats 4000000 in
set_option maxRecDepth 20000 in
theorem w_X12_rule_p89 {kb27 : Int32 → Int32 → Int32 → Int32 → Int32 → Int32 → Int32 → Int32 → Int32 → dr_S → Option (Int32 × dr_S)} (E : dr_E p (dr_rm 1) s0 m args meth c 0 0 A s0.heap D cI cZ ad L cX12_rule 11 RX12 (some .int)) (hap : dr_ap ad L) (hN : ∀ x ∈ nd_12, x ∈ L) (hkb27 : ∀ (x1 : Int32) (x2 : Int32) (x3 : Int32) (x4 : Int32) (x5 : Int32) (x6 : Int32) (x7 : Int32) (x8 : Int32) (x9 : Int32) (s : dr_S), dr_G p l e (dr_rm 1) s0 m args below meth c 0 0 A s0.heap D cI cZ ad ln L 11 (dr_Zi D cI cZ ad ln L A below args s0 0 0) 27 [(0, .ref (ad 12)), (1, .int x1), (2, .int x2), (3, .int x3), (4, .int x4), (5, .int x5), (6, .int x6), (7, .int x7), (8, .int x8), (9, .int x9)] [] s (kb27 x1 x2 x3 x4 x5 x6 x7 x8 x9 s)) : ∀ (x1 : Int32) (x2 : Int32) (x3 : Int32) (x4 : Int32) (x5 : Int32) (x6 : Int32) (x7 : Int32) (x8 : Int32) (x9 : Int32) (x10 : Int32) (s : dr_S), dr_G p l e (dr_rm 1) s0 m args below meth c 0 0 A s0.heap D cI cZ ad ln L 11 (dr_Zi D cI cZ ad ln L A below args s0 0 0) 89 [(0, .ref (ad 12)), (1, .int x1), (2, .int x2), (3, .int x3), (4, .int x4), (5, .int x5), (6, .int x6), (7, .int x7), (8, .int x8), (9, .int x9), (10, .int x10)] [] s (f_X12_rule_p89 ln kb27 x1 x2 x3 x4 x5 x6 x7 x8 x9 x10 s) := by
  intro x1 x2 x3 x4 x5 x6 x7 x8 x9 x10 s
  unfold f_X12_rule_p89
  refine g_aload_n E dX12_rule_89 0 rfl ?_
  refine gg_12_107 E (hN 12 (by decide)) dX12_rule_90 ?_
  refine g_aload_n E dX12_rule_93 0 rfl ?_
  refine gg_12_164 E (hN 12 (by decide)) dX12_rule_94 ?_
  refine g_iload E dX12_rule_97 7 rfl ?_
  refine g_iastore E (hN 60 (by decide)) (by decide) rfl dX12_rule_99 (fun s11 => ?_)
  refine g_aload_n E dX12_rule_100 0 rfl ?_
  refine gg_12_110 E (hN 12 (by decide)) dX12_rule_101 ?_
  refine g_aload_n E dX12_rule_104 0 rfl ?_
  refine gg_12_164 E (hN 12 (by decide)) dX12_rule_105 ?_
  refine g_iload E dX12_rule_108 10 rfl ?_
  refine g_bipush E (v := 45) dX12_rule_110 (by decide) ?_
  refine g_icmp_ne E 119 dX12_rule_112 (by decide) ?_ ?_
  · refine g_iconst E (v := 0) dX12_rule_119 (by decide) ?_
    refine g_sub [0, 1, 2, 3, 4, 5, 6, 8, 9] rfl ?_
    exact w_X12_rule_p120 E hap hN hkb27 x1 x2 x3 x4 x5 x6 x8 x9 0 ((s11.2 1240)) s11
  · refine g_iconst E (v := 1) dX12_rule_115 (by decide) ?_
    refine g_goto E 120 dX12_rule_116 (by decide) ?_
    refine g_sub [0, 1, 2, 3, 4, 5, 6, 8, 9] rfl ?_
    exact w_X12_rule_p120 E hap hN hkb27 x1 x2 x3 x4 x5 x6 x8 x9 1 ((s11.2 1240)) s11
set_option maxHeartbeats 4000000 in
set_option maxRecDepth 20000 in
theorem w_X12_rule_p27 (E : dr_E p (dr_rm 1) s0 m args meth c 0 0 A s0.heap D cI cZ ad L cX12_rule 11 RX12 (some .int)) (hap : dr_ap ad L) (hN : ∀ x ∈ nd_12, x ∈ L) : ∀ (n : Nat) (x1 : Int32) (x2 : Int32) (x3 : Int32) (x4 : Int32) (x5 : Int32) (x6 : Int32) (x7 : Int32) (x8 : Int32) (x9 : Int32) (s : dr_S), dr_G p l e (dr_rm 1) s0 m args below meth c 0 0 A s0.heap D cI cZ ad ln L 11 (dr_Zi D cI cZ ad ln L A below args s0 0 0) 27 [(0, .ref (ad 12)), (1, .int x1), (2, .int x2), (3, .int x3), (4, .int x4), (5, .int x5), (6, .int x6), (7, .int x7), (8, .int x8), (9, .int x9)] [] s (f_X12_rule_p27 ln n x1 x2 x3 x4 x5 x6 x7 x8 x9 s) := by
  intro n
  induction n with
  | zero =>
    intro x1 x2 x3 x4 x5 x6 x7 x8 x9 s
    rw [f_X12_rule_p27]
    exact g_none
  | succ n hkb27 =>
    intro x1 x2 x3 x4 x5 x6 x7 x8 x9 s
    rw [f_X12_rule_p27]
    refine g_iload E dX12_rule_27 9 rfl ?_
    refine g_iload_n E dX12_rule_29 1 rfl ?_
    refine g_icmp_ge E 192 dX12_rule_30 (by decide) ?_ ?_
    · refine g_iload E dX12_rule_192 8 rfl ?_
      refine g_if_ne E 199 dX12_rule_194 (by decide) ?_ ?_
      · refine g_aload_n E dX12_rule_199 0 rfl ?_
        refine gg_12_175 E (hN 12 (by decide)) dX12_rule_200 ?_
        refine g_if_le E 208 dX12_rule_203 (by decide) ?_ ?_
        · refine g_aload_n E dX12_rule_208 0 rfl ?_
          refine g_aload_n E dX12_rule_209 0 rfl ?_
          refine gg_12_164 E (hN 12 (by decide)) dX12_rule_210 ?_
          refine gp_12_178 E (hN 12 (by decide)) dX12_rule_213 (fun s4 => ?_)
          refine g_iconst E (v := 0) dX12_rule_216 (by decide) ?_
          refine g_istore E (lv' := [(9, .int 0), (0, .ref (ad 12)), (1, .int x1), (2, .int x2), (3, .int x3), (4, .int x4), (5, .int x5), (6, .int x6), (7, .int x7), (8, .int x8)]) dX12_rule_217 (by decide) rfl ?_
          refine g_sub [1, 0] rfl ?_
          exact w_X12_rule_p219 E hap hN dr_N 0 s4
        · refine g_iconst E (v := (-1)) dX12_rule_206 (by decide) ?_
          exact g_iret E dX12_rule_207
      · refine g_iload_n E dX12_rule_197 1 rfl ?_
        exact g_iret E dX12_rule_198
    · refine g_iload E dX12_rule_33 9 rfl ?_
      refine g_iload_n E dX12_rule_35 2 rfl ?_
      refine g_iload_n E dX12_rule_36 3 rfl ?_
      refine g_iload E dX12_rule_37 4 rfl ?_
      refine g_iload E dX12_rule_39 5 rfl ?_
      refine g_iload E dX12_rule_41 6 rfl ?_
      refine g_cSi E [.int x9, .int x2, .int x3, .int x4, .int x5, .int x6] rfl (c_X12_byteOf hap hN x9 x2 x3 x4 x5 x6 s) ms_X12_byteOf mw_X12_byteOf rfl ml_12_167 ⟨Nat.le_of_ble_eq_true rfl, Nat.le_of_ble_eq_true rfl⟩ (Nat.le_of_ble_eq_true rfl) dX12_rule_43 (fun r6 s5 => ?_)
      refine g_istore E (lv' := [(10, .int r6), (0, .ref (ad 12)), (1, .int x1), (2, .int x2), (3, .int x3), (4, .int x4), (5, .int x5), (6, .int x6), (7, .int x7), (8, .int x8), (9, .int x9)]) dX12_rule_46 (by decide) rfl ?_
      refine g_iload E dX12_rule_48 0 rfl ?_
      refine g_bipush E (v := 32) dX12_rule_50 (by decide) ?_
      refine g_icmp_ne E 58 dX12_rule_52 (by decide) ?_ ?_
      · refine g_iload E dX12_rule_58 9 rfl ?_
        refine g_if_eq E 66 dX12_rule_60 (by decide) ?_ ?_
        · refine g_iload E dX12_rule_66 8 rfl ?_
          refine g_iconst E (v := (-1)) dX12_rule_68 (by decide) ?_
          refine g_icmp_eq E 137 dX12_rule_69 (by decide) ?_ ?_
          · refine g_iload E dX12_rule_137 0 rfl ?_
            refine g_bipush E (v := 59) dX12_rule_139 (by decide) ?_
            refine g_icmp_ne E 150 dX12_rule_141 (by decide) ?_ ?_
            · refine g_iload E dX12_rule_150 0 rfl ?_
              refine g_bipush E (v := 97) dX12_rule_152 (by decide) ?_
              refine g_icmp_lt E 176 dX12_rule_154 (by decide) ?_ ?_
              · refine g_iload E dX12_rule_176 10 rfl ?_
                exact g_iret E dX12_rule_178
              · refine g_iload E dX12_rule_157 0 rfl ?_
                refine g_bipush E (v := 100) dX12_rule_159 (by decide) ?_
                refine g_icmp_gt E 176 dX12_rule_161 (by decide) ?_ ?_
                · refine g_iload E dX12_rule_176 10 rfl ?_
                  exact g_iret E dX12_rule_178
                · refine g_aload_n E dX12_rule_164 1 rfl ?_
                  refine g_iload E dX12_rule_165 0 rfl ?_
                  refine g_bipush E (v := 97) dX12_rule_167 (by decide) ?_
                  refine g_isub E dX12_rule_169 ?_
                  refine g_cVi E [.int (r6 - 97)] rfl (c_X12_isRead hap hN ((r6 - 97)) s5) (hN 12 (by decide)) (by decide) rfl rfl mi_X12_isRead msl_X12_isRead mw_X12_isRead rfl ml_12_171 ⟨Nat.le_of_ble_eq_true rfl, Nat.le_of_ble_eq_true rfl⟩ (Nat.le_of_ble_eq_true rfl) dX12_rule_170 (fun r8 s7 => ?_)
                  refine g_if_eq E 179 dX12_rule_173 (by decide) ?_ ?_
                  · refine g_iload E dX12_rule_179 0 rfl ?_
                    refine g_bipush E (v := 97) dX12_rule_181 (by decide) ?_
                    refine g_isub E dX12_rule_183 ?_
                    refine g_let (fun y9 => ?_)
                    refine g_istore E (lv' := [(7, .int y9), (10, .int r6), (0, .ref (ad 12)), (1, .int x1), (2, .int x2), (3, .int x3), (4, .int x4), (5, .int x5), (6, .int x6), (8, .int x8), (9, .int x9)]) dX12_rule_184 (by decide) rfl ?_
                    refine g_sub [2, 3, 4, 5, 6, 7, 8, 0, 9, 10] rfl ?_
                    exact w_X12_rule_p186 E hap hN hkb27 x1 x2 x3 x4 x5 x6 y9 x8 x9 s7
                  · refine g_iload E dX12_rule_176 10 rfl ?_
                    exact g_iret E dX12_rule_178
            · refine g_iconst E (v := 1) dX12_rule_144 (by decide) ?_
              refine g_istore E (lv' := [(8, .int 1), (10, .int r6), (0, .ref (ad 12)), (1, .int x1), (2, .int x2), (3, .int x3), (4, .int x4), (5, .int x5), (6, .int x6), (7, .int x7), (9, .int x9)]) dX12_rule_145 (by decide) rfl ?_
              refine g_goto E 186 dX12_rule_147 (by decide) ?_
              refine g_sub [2, 3, 4, 5, 6, 7, 8, 9, 0, 10] rfl ?_
              exact w_X12_rule_p186 E hap hN hkb27 x1 x2 x3 x4 x5 x6 x7 1 x9 s5
          · refine g_iload E dX12_rule_72 0 rfl ?_
            refine g_bipush E (v := 43) dX12_rule_74 (by decide) ?_
            refine g_icmp_eq E 89 dX12_rule_76 (by decide) ?_ ?_
            · refine g_sub [1, 2, 3, 4, 5, 6, 7, 8, 9, 10, 0] rfl ?_
              exact w_X12_rule_p89 E hap hN hkb27 x1 x2 x3 x4 x5 x6 x7 x8 x9 r6 s5
            · refine g_iload E dX12_rule_79 0 rfl ?_
              refine g_bipush E (v := 45) dX12_rule_81 (by decide) ?_
              refine g_icmp_eq E 89 dX12_rule_83 (by decide) ?_ ?_
              · refine g_sub [1, 2, 3, 4, 5, 6, 7, 8, 9, 10, 0] rfl ?_
                exact w_X12_rule_p89 E hap hN hkb27 x1 x2 x3 x4 x5 x6 x7 x8 x9 r6 s5
              · refine g_iload E dX12_rule_86 10 rfl ?_
                exact g_iret E dX12_rule_88
        · refine g_iload E dX12_rule_63 10 rfl ?_
          exact g_iret E dX12_rule_65
      · refine g_goto E 186 dX12_rule_55 (by decide) ?_
        refine g_sub [1, 2, 3, 4, 5, 6, 7, 8, 9, 10] rfl ?_
        exact w_X12_rule_p186 E hap hN hkb27 x1 x2 x3 x4 x5 x6 x7 x8 x9 s5
set_option maxHeartbeats 4000000 in
set_option maxRecDepth 20000 in
theorem c_X12_rule (hap : dr_ap ad L) (hN : ∀ x ∈ nd_12, x ∈ L) (x1 : Int32) (x2 : Int32) (x3 : Int32) (x4 : Int32) (x5 : Int32) (x6 : Int32) (s : dr_S) : dr_Mi l D cI cZ ad ln L yX12_rule cX12_rule 11 (some .int) 1 [.ref (ad 12), .int x1, .int x2, .int x3, .int x4, .int x5, .int x6] s (f_X12_rule ln x1 x2 x3 x4 x5 x6 s) := by
  refine dr_meti (own := RX12) (by decide) rfl (Nat.le_of_ble_eq_true rfl) hap ?_
  intro p e s0 m args below meth c A E
  unfold f_X12_rule
  refine g_eqL (lv' := [(0, .ref (ad 12)), (1, .int x1), (2, .int x2), (3, .int x3), (4, .int x4), (5, .int x5), (6, .int x6)]) rfl ?_
  refine g_iload_n E dX12_rule_0 1 rfl ?_
  refine g_iconst E (v := 0) dX12_rule_1 (by decide) ?_
  refine g_bipush E (v := 20) dX12_rule_2 (by decide) ?_
  refine g_cSi E [.int x1, .int 0, .int 20] rfl (c_X12_in hap hN x1 0 20 s) ms_X12_in mw_X12_in rfl ml_12_160 ⟨Nat.le_of_ble_eq_true rfl, Nat.le_of_ble_eq_true rfl⟩ (Nat.le_of_ble_eq_true rfl) dX12_rule_4 (fun r2 s1 => ?_)
  refine g_if_ne E 13 dX12_rule_7 (by decide) ?_ ?_
  · refine g_aload_n E dX12_rule_13 0 rfl ?_
    refine g_iconst E (v := 0) dX12_rule_14 (by decide) ?_
    refine gp_12_164 E (hN 12 (by decide)) dX12_rule_15 (fun s3 => ?_)
    refine g_iconst E (v := (-1)) dX12_rule_18 (by decide) ?_
    refine g_istore E (lv' := [(7, .int (-1)), (0, .ref (ad 12)), (1, .int x1), (2, .int x2), (3, .int x3), (4, .int x4), (5, .int x5), (6, .int x6)]) dX12_rule_19 (by decide) rfl ?_
    refine g_iconst E (v := 0) dX12_rule_21 (by decide) ?_
    refine g_istore E (lv' := [(8, .int 0), (7, .int (-1)), (0, .ref (ad 12)), (1, .int x1), (2, .int x2), (3, .int x3), (4, .int x4), (5, .int x5), (6, .int x6)]) dX12_rule_22 (by decide) rfl ?_
    refine g_iconst E (v := 0) dX12_rule_24 (by decide) ?_
    refine g_istore E (lv' := [(9, .int 0), (8, .int 0), (7, .int (-1)), (0, .ref (ad 12)), (1, .int x1), (2, .int x2), (3, .int x3), (4, .int x4), (5, .int x5), (6, .int x6)]) dX12_rule_25 (by decide) rfl ?_
    refine g_sub [3, 4, 5, 6, 7, 8, 9, 2, 1, 0] rfl ?_
    exact w_X12_rule_p27 E hap hN dr_N x1 x2 x3 x4 x5 x6 ((-1)) 0 0 s3
  · refine g_bipush E (v := (-2)) dX12_rule_10 (by decide) ?_
    exact g_iret E dX12_rule_12
end

theorem dX12_digit_0 : decode cX12_digit 0 = .ok (.iload_n 1, 1) := by decide +kernel
theorem dX12_digit_1 : decode cX12_digit 1 = .ok (.ifCond .ne 11, 3) := by decide +kernel
theorem dX12_digit_4 : decode cX12_digit 4 = .ok (.iload_n 0, 1) := by decide +kernel
theorem dX12_digit_5 : decode cX12_digit 5 = .ok (.sipush 1000, 3) := by decide +kernel
theorem dX12_digit_8 : decode cX12_digit 8 = .ok (.idiv, 1) := by decide +kernel
theorem dX12_digit_9 : decode cX12_digit 9 = .ok (.goto 37, 3) := by decide +kernel
theorem dX12_digit_12 : decode cX12_digit 12 = .ok (.iload_n 1, 1) := by decide +kernel
theorem dX12_digit_13 : decode cX12_digit 13 = .ok (.iconst 1, 1) := by decide +kernel
theorem dX12_digit_14 : decode cX12_digit 14 = .ok (.if_icmp .ne 13, 3) := by decide +kernel
theorem dX12_digit_17 : decode cX12_digit 17 = .ok (.iload_n 0, 1) := by decide +kernel
theorem dX12_digit_18 : decode cX12_digit 18 = .ok (.bipush 100, 2) := by decide +kernel
theorem dX12_digit_20 : decode cX12_digit 20 = .ok (.idiv, 1) := by decide +kernel
theorem dX12_digit_21 : decode cX12_digit 21 = .ok (.bipush 10, 2) := by decide +kernel
theorem dX12_digit_23 : decode cX12_digit 23 = .ok (.irem, 1) := by decide +kernel
theorem dX12_digit_24 : decode cX12_digit 24 = .ok (.goto 22, 3) := by decide +kernel
theorem dX12_digit_27 : decode cX12_digit 27 = .ok (.iload_n 1, 1) := by decide +kernel
theorem dX12_digit_28 : decode cX12_digit 28 = .ok (.iconst 2, 1) := by decide +kernel
theorem dX12_digit_29 : decode cX12_digit 29 = .ok (.if_icmp .ne 13, 3) := by decide +kernel
theorem dX12_digit_32 : decode cX12_digit 32 = .ok (.iload_n 0, 1) := by decide +kernel
theorem dX12_digit_33 : decode cX12_digit 33 = .ok (.bipush 10, 2) := by decide +kernel
theorem dX12_digit_35 : decode cX12_digit 35 = .ok (.idiv, 1) := by decide +kernel
theorem dX12_digit_36 : decode cX12_digit 36 = .ok (.bipush 10, 2) := by decide +kernel
theorem dX12_digit_38 : decode cX12_digit 38 = .ok (.irem, 1) := by decide +kernel
theorem dX12_digit_39 : decode cX12_digit 39 = .ok (.goto 7, 3) := by decide +kernel
theorem dX12_digit_42 : decode cX12_digit 42 = .ok (.iload_n 0, 1) := by decide +kernel
theorem dX12_digit_43 : decode cX12_digit 43 = .ok (.bipush 10, 2) := by decide +kernel
theorem dX12_digit_45 : decode cX12_digit 45 = .ok (.irem, 1) := by decide +kernel
theorem dX12_digit_46 : decode cX12_digit 46 = .ok (.ireturn, 1) := by decide +kernel
def f_X12_digit (ln : Nat → Nat) (x0 : Int32) (x1 : Int32) (s : dr_S) : Option (Int32 × dr_S) := (if x1 = 0 then some ((x0 / 1000), s) else (if x1 = 1 then some (((x0 / 100) - (x0 / 100) / 10 * 10), s) else (if x1 = 2 then some (((x0 / 10) - (x0 / 10) / 10 * 10), s) else some ((x0 - x0 / 10 * 10), s))))
section
variable {p : Program} {l : Launch} {e : Env} {s0 : State} {m : MethodId} {args : Array Value} {below : List Frame} {meth : Method} {c : Code} {A : Nat → Prop} {D : va_G} {cI cZ : ClassId} {ad ln : Nat → Nat} {L : List Nat}
set_option maxHeartbeats 4000000 in
set_option maxRecDepth 20000 in
theorem c_X12_digit (hap : dr_ap ad L) (hN : ∀ x ∈ nd_12, x ∈ L) (x0 : Int32) (x1 : Int32) (s : dr_S) : dr_Mi l D cI cZ ad ln L yX12_digit cX12_digit 2 (some .int) 0 [.int x0, .int x1] s (f_X12_digit ln x0 x1 s) := by
  refine dr_meti (own := RX12) (by decide) rfl (Nat.le_of_ble_eq_true rfl) hap ?_
  intro p e s0 m args below meth c A E
  unfold f_X12_digit
  refine g_eqL (lv' := [(0, .int x0), (1, .int x1)]) rfl ?_
  refine g_iload_n E dX12_digit_0 1 rfl ?_
  refine g_if_ne E 12 dX12_digit_1 (by decide) ?_ ?_
  · refine g_iload_n E dX12_digit_12 1 rfl ?_
    refine g_iconst E (v := 1) dX12_digit_13 (by decide) ?_
    refine g_icmp_ne E 27 dX12_digit_14 (by decide) ?_ ?_
    · refine g_iload_n E dX12_digit_27 1 rfl ?_
      refine g_iconst E (v := 2) dX12_digit_28 (by decide) ?_
      refine g_icmp_ne E 42 dX12_digit_29 (by decide) ?_ ?_
      · refine g_iload_n E dX12_digit_42 0 rfl ?_
        refine g_bipush E (v := 10) dX12_digit_43 (by decide) ?_
        refine g_irem E dX12_digit_45 (by decide) ?_
        exact g_iret E dX12_digit_46
      · refine g_iload_n E dX12_digit_32 0 rfl ?_
        refine g_bipush E (v := 10) dX12_digit_33 (by decide) ?_
        refine g_idiv E dX12_digit_35 (by decide) ?_
        refine g_bipush E (v := 10) dX12_digit_36 (by decide) ?_
        refine g_irem E dX12_digit_38 (by decide) ?_
        refine g_goto E 46 dX12_digit_39 (by decide) ?_
        exact g_iret E dX12_digit_46
    · refine g_iload_n E dX12_digit_17 0 rfl ?_
      refine g_bipush E (v := 100) dX12_digit_18 (by decide) ?_
      refine g_idiv E dX12_digit_20 (by decide) ?_
      refine g_bipush E (v := 10) dX12_digit_21 (by decide) ?_
      refine g_irem E dX12_digit_23 (by decide) ?_
      refine g_goto E 46 dX12_digit_24 (by decide) ?_
      exact g_iret E dX12_digit_46
  · refine g_iload_n E dX12_digit_4 0 rfl ?_
    refine g_sipush E (v := 1000) dX12_digit_5 (by decide) ?_
    refine g_idiv E dX12_digit_8 (by decide) ?_
    refine g_goto E 46 dX12_digit_9 (by decide) ?_
    exact g_iret E dX12_digit_46
end

theorem dX12_isAhead_0 : decode cX12_isAhead 0 = .ok (.iconst 0, 1) := by decide +kernel
theorem dX12_isAhead_1 : decode cX12_isAhead 1 = .ok (.istore_n 3, 1) := by decide +kernel
theorem dX12_isAhead_2 : decode cX12_isAhead 2 = .ok (.iload_n 3, 1) := by decide +kernel
theorem dX12_isAhead_3 : decode cX12_isAhead 3 = .ok (.aload_n 0, 1) := by decide +kernel
theorem dX12_isAhead_4 : decode cX12_isAhead 4 = .ok (.getfield 178, 3) := by decide +kernel
theorem dX12_isAhead_7 : decode cX12_isAhead 7 = .ok (.if_icmp .ge 77, 3) := by decide +kernel
theorem dX12_isAhead_10 : decode cX12_isAhead 10 = .ok (.iload_n 1, 1) := by decide +kernel
theorem dX12_isAhead_11 : decode cX12_isAhead 11 = .ok (.aload_n 0, 1) := by decide +kernel
theorem dX12_isAhead_12 : decode cX12_isAhead 12 = .ok (.getfield 7, 3) := by decide +kernel
theorem dX12_isAhead_15 : decode cX12_isAhead 15 = .ok (.iload_n 3, 1) := by decide +kernel
theorem dX12_isAhead_16 : decode cX12_isAhead 16 = .ok (.iaload, 1) := by decide +kernel
theorem dX12_isAhead_17 : decode cX12_isAhead 17 = .ok (.invokestatic 181, 3) := by decide +kernel
theorem dX12_isAhead_20 : decode cX12_isAhead 20 = .ok (.istore 4, 2) := by decide +kernel
theorem dX12_isAhead_22 : decode cX12_isAhead 22 = .ok (.iload_n 2, 1) := by decide +kernel
theorem dX12_isAhead_23 : decode cX12_isAhead 23 = .ok (.aload_n 0, 1) := by decide +kernel
theorem dX12_isAhead_24 : decode cX12_isAhead 24 = .ok (.getfield 7, 3) := by decide +kernel
theorem dX12_isAhead_27 : decode cX12_isAhead 27 = .ok (.iload_n 3, 1) := by decide +kernel
theorem dX12_isAhead_28 : decode cX12_isAhead 28 = .ok (.iaload, 1) := by decide +kernel
theorem dX12_isAhead_29 : decode cX12_isAhead 29 = .ok (.invokestatic 181, 3) := by decide +kernel
theorem dX12_isAhead_32 : decode cX12_isAhead 32 = .ok (.istore 5, 2) := by decide +kernel
theorem dX12_isAhead_34 : decode cX12_isAhead 34 = .ok (.iload 4, 2) := by decide +kernel
theorem dX12_isAhead_36 : decode cX12_isAhead 36 = .ok (.iload 5, 2) := by decide +kernel
theorem dX12_isAhead_38 : decode cX12_isAhead 38 = .ok (.if_icmp .eq 40, 3) := by decide +kernel
theorem dX12_isAhead_41 : decode cX12_isAhead 41 = .ok (.aload_n 0, 1) := by decide +kernel
theorem dX12_isAhead_42 : decode cX12_isAhead 42 = .ok (.getfield 13, 3) := by decide +kernel
theorem dX12_isAhead_45 : decode cX12_isAhead 45 = .ok (.iload_n 3, 1) := by decide +kernel
theorem dX12_isAhead_46 : decode cX12_isAhead 46 = .ok (.baload, 1) := by decide +kernel
theorem dX12_isAhead_47 : decode cX12_isAhead 47 = .ok (.ifCond .eq 18, 3) := by decide +kernel
theorem dX12_isAhead_50 : decode cX12_isAhead 50 = .ok (.iload 4, 2) := by decide +kernel
theorem dX12_isAhead_52 : decode cX12_isAhead 52 = .ok (.iload 5, 2) := by decide +kernel
theorem dX12_isAhead_54 : decode cX12_isAhead 54 = .ok (.if_icmp .le 7, 3) := by decide +kernel
theorem dX12_isAhead_57 : decode cX12_isAhead 57 = .ok (.iconst 1, 1) := by decide +kernel
theorem dX12_isAhead_58 : decode cX12_isAhead 58 = .ok (.goto 19, 3) := by decide +kernel
theorem dX12_isAhead_61 : decode cX12_isAhead 61 = .ok (.iconst 0, 1) := by decide +kernel
theorem dX12_isAhead_62 : decode cX12_isAhead 62 = .ok (.goto 15, 3) := by decide +kernel
theorem dX12_isAhead_65 : decode cX12_isAhead 65 = .ok (.iload 4, 2) := by decide +kernel
theorem dX12_isAhead_67 : decode cX12_isAhead 67 = .ok (.iload 5, 2) := by decide +kernel
theorem dX12_isAhead_69 : decode cX12_isAhead 69 = .ok (.if_icmp .ge 7, 3) := by decide +kernel
theorem dX12_isAhead_72 : decode cX12_isAhead 72 = .ok (.iconst 1, 1) := by decide +kernel
theorem dX12_isAhead_73 : decode cX12_isAhead 73 = .ok (.goto 4, 3) := by decide +kernel
theorem dX12_isAhead_76 : decode cX12_isAhead 76 = .ok (.iconst 0, 1) := by decide +kernel
theorem dX12_isAhead_77 : decode cX12_isAhead 77 = .ok (.ireturn, 1) := by decide +kernel
theorem dX12_isAhead_78 : decode cX12_isAhead 78 = .ok (.iinc 3 1, 3) := by decide +kernel
theorem dX12_isAhead_81 : decode cX12_isAhead 81 = .ok (.goto (-79), 3) := by decide +kernel
theorem dX12_isAhead_84 : decode cX12_isAhead 84 = .ok (.iload_n 1, 1) := by decide +kernel
theorem dX12_isAhead_85 : decode cX12_isAhead 85 = .ok (.iload_n 2, 1) := by decide +kernel
theorem dX12_isAhead_86 : decode cX12_isAhead 86 = .ok (.if_icmp .ge 7, 3) := by decide +kernel
theorem dX12_isAhead_89 : decode cX12_isAhead 89 = .ok (.iconst 1, 1) := by decide +kernel
theorem dX12_isAhead_90 : decode cX12_isAhead 90 = .ok (.goto 4, 3) := by decide +kernel
theorem dX12_isAhead_93 : decode cX12_isAhead 93 = .ok (.iconst 0, 1) := by decide +kernel
theorem dX12_isAhead_94 : decode cX12_isAhead 94 = .ok (.ireturn, 1) := by decide +kernel
def f_X12_isAhead_p2 (ln : Nat → Nat) : Nat → Int32 → Int32 → Int32 → dr_S → Option (Int32 × dr_S)
  | 0, _, _, _, _ => none
  | n + 1, x1, x2, x3, s => (if (s.2 1201) ≤ x3 then (if x2 ≤ x1 then some (0, s) else some (1, s)) else (dr_rd ln s 28 x3).bind (fun v1 => dr_bnd (f_X12_digit ln x1 v1 s) (fun r3 s2 => (dr_rd ln s2 28 x3).bind (fun v4 => dr_bnd (f_X12_digit ln x2 v4 s2) (fun r6 s5 => (if r3 = r6 then dr_let (x3 + 1) (fun y7 => (f_X12_isAhead_p2 ln n x1 x2 y7 s5)) else (dr_rd ln s5 29 x3).bind (fun v8 => (if v8 = 0 then (if r6 ≤ r3 then some (0, s5) else some (1, s5)) else (if r3 ≤ r6 then some (0, s5) else some (1, s5))))))))))
def f_X12_isAhead (ln : Nat → Nat) (x1 : Int32) (x2 : Int32) (s : dr_S) : Option (Int32 × dr_S) := (f_X12_isAhead_p2 ln dr_N x1 x2 0 s)
section
variable {p : Program} {l : Launch} {e : Env} {s0 : State} {m : MethodId} {args : Array Value} {below : List Frame} {meth : Method} {c : Code} {A : Nat → Prop} {D : va_G} {cI cZ : ClassId} {ad ln : Nat → Nat} {L : List Nat}
set_option maxHeartbeats 4000000 in
set_option maxRecDepth 20000 in
theorem w_X12_isAhead_p2 (E : dr_E p (dr_rm 1) s0 m args meth c 0 0 A s0.heap D cI cZ ad L cX12_isAhead 6 RX12 (some .boolean)) (hap : dr_ap ad L) (hN : ∀ x ∈ nd_12, x ∈ L) : ∀ (n : Nat) (x1 : Int32) (x2 : Int32) (x3 : Int32) (s : dr_S), dr_G p l e (dr_rm 1) s0 m args below meth c 0 0 A s0.heap D cI cZ ad ln L 6 (dr_Zi D cI cZ ad ln L A below args s0 0 0) 2 [(0, .ref (ad 12)), (1, .int x1), (2, .int x2), (3, .int x3)] [] s (f_X12_isAhead_p2 ln n x1 x2 x3 s) := by
  intro n
  induction n with
  | zero =>
    intro x1 x2 x3 s
    rw [f_X12_isAhead_p2]
    exact g_none
  | succ n hkb2 =>
    intro x1 x2 x3 s
    rw [f_X12_isAhead_p2]
    refine g_iload_n E dX12_isAhead_2 3 rfl ?_
    refine g_aload_n E dX12_isAhead_3 0 rfl ?_
    refine gg_12_178 E (hN 12 (by decide)) dX12_isAhead_4 ?_
    refine g_icmp_ge E 84 dX12_isAhead_7 (by decide) ?_ ?_
    · refine g_iload_n E dX12_isAhead_84 1 rfl ?_
      refine g_iload_n E dX12_isAhead_85 2 rfl ?_
      refine g_icmp_ge E 93 dX12_isAhead_86 (by decide) ?_ ?_
      · refine g_iconst E (v := 0) dX12_isAhead_93 (by decide) ?_
        exact g_zret E dX12_isAhead_94 (Or.inl rfl)
      · refine g_iconst E (v := 1) dX12_isAhead_89 (by decide) ?_
        refine g_goto E 94 dX12_isAhead_90 (by decide) ?_
        exact g_zret E dX12_isAhead_94 (Or.inr rfl)
    · refine g_iload_n E dX12_isAhead_10 1 rfl ?_
      refine g_aload_n E dX12_isAhead_11 0 rfl ?_
      refine gg_12_7 E (hN 12 (by decide)) dX12_isAhead_12 ?_
      refine g_iload_n E dX12_isAhead_15 3 rfl ?_
      refine g_iaload E (hN 28 (by decide)) (by decide) rfl dX12_isAhead_16 (fun v1 => ?_)
      refine g_cSi E [.int x1, .int v1] rfl (c_X12_digit hap hN x1 v1 s) ms_X12_digit mw_X12_digit rfl ml_12_181 ⟨Nat.le_of_ble_eq_true rfl, Nat.le_of_ble_eq_true rfl⟩ (Nat.le_of_ble_eq_true rfl) dX12_isAhead_17 (fun r3 s2 => ?_)
      refine g_istore E (lv' := [(4, .int r3), (0, .ref (ad 12)), (1, .int x1), (2, .int x2), (3, .int x3)]) dX12_isAhead_20 (by decide) rfl ?_
      refine g_iload_n E dX12_isAhead_22 3 rfl ?_
      refine g_aload_n E dX12_isAhead_23 1 rfl ?_
      refine gg_12_7 E (hN 12 (by decide)) dX12_isAhead_24 ?_
      refine g_iload_n E dX12_isAhead_27 4 rfl ?_
      refine g_iaload E (hN 28 (by decide)) (by decide) rfl dX12_isAhead_28 (fun v4 => ?_)
      refine g_cSi E [.int x2, .int v4] rfl (c_X12_digit hap hN x2 v4 s2) ms_X12_digit mw_X12_digit rfl ml_12_181 ⟨Nat.le_of_ble_eq_true rfl, Nat.le_of_ble_eq_true rfl⟩ (Nat.le_of_ble_eq_true rfl) dX12_isAhead_29 (fun r6 s5 => ?_)
      refine g_istore E (lv' := [(5, .int r6), (4, .int r3), (0, .ref (ad 12)), (1, .int x1), (2, .int x2), (3, .int x3)]) dX12_isAhead_32 (by decide) rfl ?_
      refine g_iload E dX12_isAhead_34 1 rfl ?_
      refine g_iload E dX12_isAhead_36 0 rfl ?_
      refine g_icmp_eq E 78 dX12_isAhead_38 (by decide) ?_ ?_
      · refine g_iinc E (lv' := []) (lv'' := fun y7 => [(3, .int y7), (5, .int r6), (4, .int r3), (0, .ref (ad 12)), (1, .int x1), (2, .int x2)]) (v := 1) dX12_isAhead_78 5 rfl (by decide) (by decide) (fun _ => rfl) (fun y7 => ?_)
        refine g_goto E 2 dX12_isAhead_81 (by decide) ?_
        refine g_sub [3, 4, 5, 0] rfl ?_
        exact hkb2 x1 x2 y7 s5
      · refine g_aload_n E dX12_isAhead_41 2 rfl ?_
        refine gg_12_13 E (hN 12 (by decide)) dX12_isAhead_42 ?_
        refine g_iload_n E dX12_isAhead_45 5 rfl ?_
        refine g_baload E (hN 29 (by decide)) (by decide) rfl dX12_isAhead_46 (fun v8 => ?_)
        refine g_if_eq E 65 dX12_isAhead_47 (by decide) ?_ ?_
        · refine g_iload E dX12_isAhead_65 1 rfl ?_
          refine g_iload E dX12_isAhead_67 0 rfl ?_
          refine g_icmp_ge E 76 dX12_isAhead_69 (by decide) ?_ ?_
          · refine g_iconst E (v := 0) dX12_isAhead_76 (by decide) ?_
            exact g_zret E dX12_isAhead_77 (Or.inl rfl)
          · refine g_iconst E (v := 1) dX12_isAhead_72 (by decide) ?_
            refine g_goto E 77 dX12_isAhead_73 (by decide) ?_
            exact g_zret E dX12_isAhead_77 (Or.inr rfl)
        · refine g_iload E dX12_isAhead_50 1 rfl ?_
          refine g_iload E dX12_isAhead_52 0 rfl ?_
          refine g_icmp_le E 61 dX12_isAhead_54 (by decide) ?_ ?_
          · refine g_iconst E (v := 0) dX12_isAhead_61 (by decide) ?_
            refine g_goto E 77 dX12_isAhead_62 (by decide) ?_
            exact g_zret E dX12_isAhead_77 (Or.inl rfl)
          · refine g_iconst E (v := 1) dX12_isAhead_57 (by decide) ?_
            refine g_goto E 77 dX12_isAhead_58 (by decide) ?_
            exact g_zret E dX12_isAhead_77 (Or.inr rfl)
set_option maxHeartbeats 4000000 in
set_option maxRecDepth 20000 in
theorem c_X12_isAhead (hap : dr_ap ad L) (hN : ∀ x ∈ nd_12, x ∈ L) (x1 : Int32) (x2 : Int32) (s : dr_S) : dr_Mi l D cI cZ ad ln L yX12_isAhead cX12_isAhead 6 (some .boolean) 1 [.ref (ad 12), .int x1, .int x2] s (f_X12_isAhead ln x1 x2 s) := by
  refine dr_meti (own := RX12) (by decide) rfl (Nat.le_of_ble_eq_true rfl) hap ?_
  intro p e s0 m args below meth c A E
  unfold f_X12_isAhead
  refine g_eqL (lv' := [(0, .ref (ad 12)), (1, .int x1), (2, .int x2)]) rfl ?_
  refine g_iconst E (v := 0) dX12_isAhead_0 (by decide) ?_
  refine g_istore_n E (lv' := [(3, .int 0), (0, .ref (ad 12)), (1, .int x1), (2, .int x2)]) dX12_isAhead_1 (by decide) rfl ?_
  refine g_sub [1, 2, 3, 0] rfl ?_
  exact w_X12_isAhead_p2 E hap hN dr_N x1 x2 0 s
end

theorem dX2_get_0 : decode cX2_get 0 = .ok (.iload_n 1, 1) := by decide +kernel
theorem dX2_get_1 : decode cX2_get 1 = .ok (.ifCond .lt 21, 3) := by decide +kernel
theorem dX2_get_4 : decode cX2_get 4 = .ok (.iload_n 1, 1) := by decide +kernel
theorem dX2_get_5 : decode cX2_get 5 = .ok (.aload_n 0, 1) := by decide +kernel
theorem dX2_get_6 : decode cX2_get 6 = .ok (.getfield 32, 3) := by decide +kernel
theorem dX2_get_9 : decode cX2_get 9 = .ok (.arraylength, 1) := by decide +kernel
theorem dX2_get_10 : decode cX2_get 10 = .ok (.if_icmp .ge 12, 3) := by decide +kernel
theorem dX2_get_13 : decode cX2_get 13 = .ok (.aload_n 0, 1) := by decide +kernel
theorem dX2_get_14 : decode cX2_get 14 = .ok (.getfield 32, 3) := by decide +kernel
theorem dX2_get_17 : decode cX2_get 17 = .ok (.iload_n 1, 1) := by decide +kernel
theorem dX2_get_18 : decode cX2_get 18 = .ok (.iaload, 1) := by decide +kernel
theorem dX2_get_19 : decode cX2_get 19 = .ok (.goto 4, 3) := by decide +kernel
theorem dX2_get_22 : decode cX2_get 22 = .ok (.iconst (-1), 1) := by decide +kernel
theorem dX2_get_23 : decode cX2_get 23 = .ok (.ireturn, 1) := by decide +kernel
def f_X2_get (ln : Nat → Nat) (x1 : Int32) (s : dr_S) : Option (Int32 × dr_S) := (if x1 < 0 then some ((-1), s) else (if (Int32.ofNat (ln 14)) ≤ x1 then some ((-1), s) else (dr_rd ln s 14 x1).bind (fun v1 => some (v1, s))))
section
variable {p : Program} {l : Launch} {e : Env} {s0 : State} {m : MethodId} {args : Array Value} {below : List Frame} {meth : Method} {c : Code} {A : Nat → Prop} {D : va_G} {cI cZ : ClassId} {ad ln : Nat → Nat} {L : List Nat}
set_option maxHeartbeats 4000000 in
set_option maxRecDepth 20000 in
theorem c_X2_get (hap : dr_ap ad L) (hN : ∀ x ∈ nd_2, x ∈ L) (x1 : Int32) (s : dr_S) : dr_Mi l D cI cZ ad ln L yX2_get cX2_get 2 (some .int) 0 [.ref (ad 2), .int x1] s (f_X2_get ln x1 s) := by
  refine dr_meti (own := RX2) (by decide) rfl (Nat.le_of_ble_eq_true rfl) hap ?_
  intro p e s0 m args below meth c A E
  unfold f_X2_get
  refine g_eqL (lv' := [(0, .ref (ad 2)), (1, .int x1)]) rfl ?_
  refine g_iload_n E dX2_get_0 1 rfl ?_
  refine g_if_lt E 22 dX2_get_1 (by decide) ?_ ?_
  · refine g_iconst E (v := (-1)) dX2_get_22 (by decide) ?_
    exact g_iret E dX2_get_23
  · refine g_iload_n E dX2_get_4 1 rfl ?_
    refine g_aload_n E dX2_get_5 0 rfl ?_
    refine gg_2_32 E (hN 2 (by decide)) dX2_get_6 ?_
    refine g_alen E (hN 14 (by decide)) (by decide) rfl dX2_get_9 ?_
    refine g_icmp_ge E 22 dX2_get_10 (by decide) ?_ ?_
    · refine g_iconst E (v := (-1)) dX2_get_22 (by decide) ?_
      exact g_iret E dX2_get_23
    · refine g_aload_n E dX2_get_13 0 rfl ?_
      refine gg_2_32 E (hN 2 (by decide)) dX2_get_14 ?_
      refine g_iload_n E dX2_get_17 1 rfl ?_
      refine g_iaload E (hN 14 (by decide)) (by decide) rfl dX2_get_18 (fun v1 => ?_)
      refine g_goto E 23 dX2_get_19 (by decide) ?_
      exact g_iret E dX2_get_23
end

theorem dX4_top_0 : decode cX4_top 0 = .ok (.aload_n 0, 1) := by decide +kernel
theorem dX4_top_1 : decode cX4_top 1 = .ok (.getfield 9, 3) := by decide +kernel
theorem dX4_top_4 : decode cX4_top 4 = .ok (.aload_n 0, 1) := by decide +kernel
theorem dX4_top_5 : decode cX4_top 5 = .ok (.getfield 33, 3) := by decide +kernel
theorem dX4_top_8 : decode cX4_top 8 = .ok (.invokevirtual 49, 3) := by decide +kernel
theorem dX4_top_11 : decode cX4_top 11 = .ok (.ireturn, 1) := by decide +kernel
def f_X4_top (ln : Nat → Nat) (s : dr_S) : Option (Int32 × dr_S) := dr_bnd (f_X2_get ln ((s.2 405)) s) (fun r2 s1 => some (r2, s1))
section
variable {p : Program} {l : Launch} {e : Env} {s0 : State} {m : MethodId} {args : Array Value} {below : List Frame} {meth : Method} {c : Code} {A : Nat → Prop} {D : va_G} {cI cZ : ClassId} {ad ln : Nat → Nat} {L : List Nat}
set_option maxHeartbeats 4000000 in
set_option maxRecDepth 20000 in
theorem c_X4_top (hap : dr_ap ad L) (hN : ∀ x ∈ nd_4, x ∈ L) (s : dr_S) : dr_Mi l D cI cZ ad ln L yX4_top cX4_top 1 (some .int) 1 [.ref (ad 4)] s (f_X4_top ln  s) := by
  refine dr_meti (own := RX4) (by decide) rfl (Nat.le_of_ble_eq_true rfl) hap ?_
  intro p e s0 m args below meth c A E
  unfold f_X4_top
  refine g_eqL (lv' := [(0, .ref (ad 4))]) rfl ?_
  refine g_aload_n E dX4_top_0 0 rfl ?_
  refine gg_4_9 E (hN 4 (by decide)) dX4_top_1 ?_
  refine g_aload_n E dX4_top_4 0 rfl ?_
  refine gg_4_33 E (hN 4 (by decide)) dX4_top_5 ?_
  refine g_cVi E [.int (s.2 405)] rfl (c_X2_get hap (fun x h => hN x (ns_2_4 x h)) ((s.2 405)) s) (hN 2 (by decide)) (by decide) rfl rfl mi_X2_get msl_X2_get mw_X2_get rfl ml_4_49 ⟨Nat.le_of_ble_eq_true rfl, Nat.le_of_ble_eq_true rfl⟩ (Nat.le_of_ble_eq_true rfl) dX4_top_8 (fun r2 s1 => ?_)
  exact g_iret E dX4_top_11
end

theorem dX4_get_0 : decode cX4_get 0 = .ok (.aload_n 0, 1) := by decide +kernel
theorem dX4_get_1 : decode cX4_get 1 = .ok (.getfield 9, 3) := by decide +kernel
theorem dX4_get_4 : decode cX4_get 4 = .ok (.iload_n 1, 1) := by decide +kernel
theorem dX4_get_5 : decode cX4_get 5 = .ok (.aload_n 0, 1) := by decide +kernel
theorem dX4_get_6 : decode cX4_get 6 = .ok (.getfield 27, 3) := by decide +kernel
theorem dX4_get_9 : decode cX4_get 9 = .ok (.imul, 1) := by decide +kernel
theorem dX4_get_10 : decode cX4_get 10 = .ok (.iload_n 2, 1) := by decide +kernel
theorem dX4_get_11 : decode cX4_get 11 = .ok (.iadd, 1) := by decide +kernel
theorem dX4_get_12 : decode cX4_get 12 = .ok (.invokevirtual 49, 3) := by decide +kernel
theorem dX4_get_15 : decode cX4_get 15 = .ok (.ireturn, 1) := by decide +kernel
def f_X4_get (ln : Nat → Nat) (x1 : Int32) (x2 : Int32) (s : dr_S) : Option (Int32 × dr_S) := dr_bnd (f_X2_get ln (((x1 * (s.2 403)) + x2)) s) (fun r2 s1 => some (r2, s1))
section
variable {p : Program} {l : Launch} {e : Env} {s0 : State} {m : MethodId} {args : Array Value} {below : List Frame} {meth : Method} {c : Code} {A : Nat → Prop} {D : va_G} {cI cZ : ClassId} {ad ln : Nat → Nat} {L : List Nat}
set_option maxHeartbeats 4000000 in
set_option maxRecDepth 20000 in
theorem c_X4_get (hap : dr_ap ad L) (hN : ∀ x ∈ nd_4, x ∈ L) (x1 : Int32) (x2 : Int32) (s : dr_S) : dr_Mi l D cI cZ ad ln L yX4_get cX4_get 3 (some .int) 1 [.ref (ad 4), .int x1, .int x2] s (f_X4_get ln x1 x2 s) := by
  refine dr_meti (own := RX4) (by decide) rfl (Nat.le_of_ble_eq_true rfl) hap ?_
  intro p e s0 m args below meth c A E
  unfold f_X4_get
  refine g_eqL (lv' := [(0, .ref (ad 4)), (1, .int x1), (2, .int x2)]) rfl ?_
  refine g_aload_n E dX4_get_0 0 rfl ?_
  refine gg_4_9 E (hN 4 (by decide)) dX4_get_1 ?_
  refine g_iload_n E dX4_get_4 1 rfl ?_
  refine g_aload_n E dX4_get_5 0 rfl ?_
  refine gg_4_27 E (hN 4 (by decide)) dX4_get_6 ?_
  refine g_imul E dX4_get_9 ?_
  refine g_iload_n E dX4_get_10 2 rfl ?_
  refine g_iadd E dX4_get_11 ?_
  refine g_cVi E [.int ((x1 * (s.2 403)) + x2)] rfl (c_X2_get hap (fun x h => hN x (ns_2_4 x h)) (((x1 * (s.2 403)) + x2)) s) (hN 2 (by decide)) (by decide) rfl rfl mi_X2_get msl_X2_get mw_X2_get rfl ml_4_49 ⟨Nat.le_of_ble_eq_true rfl, Nat.le_of_ble_eq_true rfl⟩ (Nat.le_of_ble_eq_true rfl) dX4_get_12 (fun r2 s1 => ?_)
  exact g_iret E dX4_get_15
end

theorem dX4_inUse_0 : decode cX4_inUse 0 = .ok (.aload_n 0, 1) := by decide +kernel
theorem dX4_inUse_1 : decode cX4_inUse 1 = .ok (.getfield 9, 3) := by decide +kernel
theorem dX4_inUse_4 : decode cX4_inUse 4 = .ok (.aload_n 0, 1) := by decide +kernel
theorem dX4_inUse_5 : decode cX4_inUse 5 = .ok (.getfield 36, 3) := by decide +kernel
theorem dX4_inUse_8 : decode cX4_inUse 8 = .ok (.invokevirtual 49, 3) := by decide +kernel
theorem dX4_inUse_11 : decode cX4_inUse 11 = .ok (.ireturn, 1) := by decide +kernel
def f_X4_inUse (ln : Nat → Nat) (s : dr_S) : Option (Int32 × dr_S) := dr_bnd (f_X2_get ln ((s.2 406)) s) (fun r2 s1 => some (r2, s1))
section
variable {p : Program} {l : Launch} {e : Env} {s0 : State} {m : MethodId} {args : Array Value} {below : List Frame} {meth : Method} {c : Code} {A : Nat → Prop} {D : va_G} {cI cZ : ClassId} {ad ln : Nat → Nat} {L : List Nat}
set_option maxHeartbeats 4000000 in
set_option maxRecDepth 20000 in
theorem c_X4_inUse (hap : dr_ap ad L) (hN : ∀ x ∈ nd_4, x ∈ L) (s : dr_S) : dr_Mi l D cI cZ ad ln L yX4_inUse cX4_inUse 1 (some .int) 1 [.ref (ad 4)] s (f_X4_inUse ln  s) := by
  refine dr_meti (own := RX4) (by decide) rfl (Nat.le_of_ble_eq_true rfl) hap ?_
  intro p e s0 m args below meth c A E
  unfold f_X4_inUse
  refine g_eqL (lv' := [(0, .ref (ad 4))]) rfl ?_
  refine g_aload_n E dX4_inUse_0 0 rfl ?_
  refine gg_4_9 E (hN 4 (by decide)) dX4_inUse_1 ?_
  refine g_aload_n E dX4_inUse_4 0 rfl ?_
  refine gg_4_36 E (hN 4 (by decide)) dX4_inUse_5 ?_
  refine g_cVi E [.int (s.2 406)] rfl (c_X2_get hap (fun x h => hN x (ns_2_4 x h)) ((s.2 406)) s) (hN 2 (by decide)) (by decide) rfl rfl mi_X2_get msl_X2_get mw_X2_get rfl ml_4_49 ⟨Nat.le_of_ble_eq_true rfl, Nat.le_of_ble_eq_true rfl⟩ (Nat.le_of_ble_eq_true rfl) dX4_inUse_8 (fun r2 s1 => ?_)
  exact g_iret E dX4_inUse_11
end

theorem dX2_put_0 : decode cX2_put 0 = .ok (.iload_n 1, 1) := by decide +kernel
theorem dX2_put_1 : decode cX2_put 1 = .ok (.ifCond .lt 22, 3) := by decide +kernel
theorem dX2_put_4 : decode cX2_put 4 = .ok (.iload_n 1, 1) := by decide +kernel
theorem dX2_put_5 : decode cX2_put 5 = .ok (.aload_n 0, 1) := by decide +kernel
theorem dX2_put_6 : decode cX2_put 6 = .ok (.getfield 32, 3) := by decide +kernel
theorem dX2_put_9 : decode cX2_put 9 = .ok (.arraylength, 1) := by decide +kernel
theorem dX2_put_10 : decode cX2_put 10 = .ok (.if_icmp .ge 13, 3) := by decide +kernel
theorem dX2_put_13 : decode cX2_put 13 = .ok (.aload_n 0, 1) := by decide +kernel
theorem dX2_put_14 : decode cX2_put 14 = .ok (.getfield 32, 3) := by decide +kernel
theorem dX2_put_17 : decode cX2_put 17 = .ok (.iload_n 1, 1) := by decide +kernel
theorem dX2_put_18 : decode cX2_put 18 = .ok (.iaload, 1) := by decide +kernel
theorem dX2_put_19 : decode cX2_put 19 = .ok (.iload_n 2, 1) := by decide +kernel
theorem dX2_put_20 : decode cX2_put 20 = .ok (.if_icmp .ne 4, 3) := by decide +kernel
theorem dX2_put_23 : decode cX2_put 23 = .ok (.return_, 1) := by decide +kernel
theorem dX2_put_24 : decode cX2_put 24 = .ok (.aload_n 0, 1) := by decide +kernel
theorem dX2_put_25 : decode cX2_put 25 = .ok (.getfield 22, 3) := by decide +kernel
theorem dX2_put_28 : decode cX2_put 28 = .ok (.ifCond .eq 56, 3) := by decide +kernel
theorem dX2_put_31 : decode cX2_put 31 = .ok (.aload_n 0, 1) := by decide +kernel
theorem dX2_put_32 : decode cX2_put 32 = .ok (.getfield 18, 3) := by decide +kernel
theorem dX2_put_35 : decode cX2_put 35 = .ok (.ifCond .lt 13, 3) := by decide +kernel
theorem dX2_put_38 : decode cX2_put 38 = .ok (.aload_n 0, 1) := by decide +kernel
theorem dX2_put_39 : decode cX2_put 39 = .ok (.getfield 18, 3) := by decide +kernel
theorem dX2_put_42 : decode cX2_put 42 = .ok (.sipush 1024, 3) := by decide +kernel
theorem dX2_put_45 : decode cX2_put 45 = .ok (.if_icmp .lt 4, 3) := by decide +kernel
theorem dX2_put_48 : decode cX2_put 48 = .ok (.return_, 1) := by decide +kernel
theorem dX2_put_49 : decode cX2_put 49 = .ok (.aload_n 0, 1) := by decide +kernel
theorem dX2_put_50 : decode cX2_put 50 = .ok (.getfield 11, 3) := by decide +kernel
theorem dX2_put_53 : decode cX2_put 53 = .ok (.aload_n 0, 1) := by decide +kernel
theorem dX2_put_54 : decode cX2_put 54 = .ok (.getfield 18, 3) := by decide +kernel
theorem dX2_put_57 : decode cX2_put 57 = .ok (.iload_n 1, 1) := by decide +kernel
theorem dX2_put_58 : decode cX2_put 58 = .ok (.iastore, 1) := by decide +kernel
theorem dX2_put_59 : decode cX2_put 59 = .ok (.aload_n 0, 1) := by decide +kernel
theorem dX2_put_60 : decode cX2_put 60 = .ok (.getfield 15, 3) := by decide +kernel
theorem dX2_put_63 : decode cX2_put 63 = .ok (.aload_n 0, 1) := by decide +kernel
theorem dX2_put_64 : decode cX2_put 64 = .ok (.getfield 18, 3) := by decide +kernel
theorem dX2_put_67 : decode cX2_put 67 = .ok (.aload_n 0, 1) := by decide +kernel
theorem dX2_put_68 : decode cX2_put 68 = .ok (.getfield 32, 3) := by decide +kernel
theorem dX2_put_71 : decode cX2_put 71 = .ok (.iload_n 1, 1) := by decide +kernel
theorem dX2_put_72 : decode cX2_put 72 = .ok (.iaload, 1) := by decide +kernel
theorem dX2_put_73 : decode cX2_put 73 = .ok (.iastore, 1) := by decide +kernel
theorem dX2_put_74 : decode cX2_put 74 = .ok (.aload_n 0, 1) := by decide +kernel
theorem dX2_put_75 : decode cX2_put 75 = .ok (.dup, 1) := by decide +kernel
theorem dX2_put_76 : decode cX2_put 76 = .ok (.getfield 18, 3) := by decide +kernel
theorem dX2_put_79 : decode cX2_put 79 = .ok (.iconst 1, 1) := by decide +kernel
theorem dX2_put_80 : decode cX2_put 80 = .ok (.iadd, 1) := by decide +kernel
theorem dX2_put_81 : decode cX2_put 81 = .ok (.putfield 18, 3) := by decide +kernel
theorem dX2_put_84 : decode cX2_put 84 = .ok (.aload_n 0, 1) := by decide +kernel
theorem dX2_put_85 : decode cX2_put 85 = .ok (.getfield 32, 3) := by decide +kernel
theorem dX2_put_88 : decode cX2_put 88 = .ok (.iload_n 1, 1) := by decide +kernel
theorem dX2_put_89 : decode cX2_put 89 = .ok (.iload_n 2, 1) := by decide +kernel
theorem dX2_put_90 : decode cX2_put 90 = .ok (.iastore, 1) := by decide +kernel
theorem dX2_put_91 : decode cX2_put 91 = .ok (.return_, 1) := by decide +kernel
def f_X2_put_p84 (ln : Nat → Nat) (x1 : Int32) (x2 : Int32) (s : dr_S) : Option (Int32 × dr_S) := (dr_wr ln s 14 x1 x2).bind (fun s6 => some (0, s6))
def f_X2_put (ln : Nat → Nat) (x1 : Int32) (x2 : Int32) (s : dr_S) : Option (Int32 × dr_S) := (if x1 < 0 then some (0, s) else (if (Int32.ofNat (ln 14)) ≤ x1 then some (0, s) else (dr_rd ln s 14 x1).bind (fun v1 => (if v1 = x2 then some (0, s) else (if (s.2 204) = 0 then (f_X2_put_p84 ln x1 x2 s) else (if (s.2 203) < 0 then some (0, s) else (if (s.2 203) < 1024 then (dr_wr ln s 15 (s.2 203) x1).bind (fun s2 => (dr_rd ln s2 14 x1).bind (fun v3 => (dr_wr ln s2 16 (s2.2 203) v3).bind (fun s4 => dr_letS (dr_pf s4 203 ((s4.2 203) + 1)) (fun s5 => (f_X2_put_p84 ln x1 x2 s5))))) else some (0, s))))))))
section
variable {p : Program} {l : Launch} {e : Env} {s0 : State} {m : MethodId} {args : Array Value} {below : List Frame} {meth : Method} {c : Code} {A : Nat → Prop} {D : va_G} {cI cZ : ClassId} {ad ln : Nat → Nat} {L : List Nat}
set_option maxHeartbeats 4000000 in
set_option maxRecDepth 20000 in
theorem w_X2_put_p84 (E : dr_E p (dr_rm 0) s0 m args meth c 0 0 A s0.heap D cI cZ ad L cX2_put 3 RX2 none) (hap : dr_ap ad L) (hN : ∀ x ∈ nd_2, x ∈ L) : ∀ (x1 : Int32) (x2 : Int32) (s : dr_S), dr_G p l e (dr_rm 0) s0 m args below meth c 0 0 A s0.heap D cI cZ ad ln L 3 (dr_Zv D cI cZ ad ln L A below args s0 0 0) 84 [(0, .ref (ad 2)), (1, .int x1), (2, .int x2)] [] s (f_X2_put_p84 ln x1 x2 s) := by
  intro x1 x2 s
  unfold f_X2_put_p84
  refine g_aload_n E dX2_put_84 0 rfl ?_
  refine gg_2_32 E (hN 2 (by decide)) dX2_put_85 ?_
  refine g_iload_n E dX2_put_88 1 rfl ?_
  refine g_iload_n E dX2_put_89 2 rfl ?_
  refine g_iastore E (hN 14 (by decide)) (by decide) rfl dX2_put_90 (fun s6 => ?_)
  exact g_vret E dX2_put_91
set_option maxHeartbeats 4000000 in
set_option maxRecDepth 20000 in
theorem c_X2_put (hap : dr_ap ad L) (hN : ∀ x ∈ nd_2, x ∈ L) (x1 : Int32) (x2 : Int32) (s : dr_S) : dr_Mv l D cI cZ ad ln L yX2_put cX2_put 3 0 [.ref (ad 2), .int x1, .int x2] s (f_X2_put ln x1 x2 s) := by
  refine dr_metv (own := RX2) (by decide) rfl (Nat.le_of_ble_eq_true rfl) hap ?_
  intro p e s0 m args below meth c A E
  unfold f_X2_put
  refine g_eqL (lv' := [(0, .ref (ad 2)), (1, .int x1), (2, .int x2)]) rfl ?_
  refine g_iload_n E dX2_put_0 1 rfl ?_
  refine g_if_lt E 23 dX2_put_1 (by decide) ?_ ?_
  · exact g_vret E dX2_put_23
  · refine g_iload_n E dX2_put_4 1 rfl ?_
    refine g_aload_n E dX2_put_5 0 rfl ?_
    refine gg_2_32 E (hN 2 (by decide)) dX2_put_6 ?_
    refine g_alen E (hN 14 (by decide)) (by decide) rfl dX2_put_9 ?_
    refine g_icmp_ge E 23 dX2_put_10 (by decide) ?_ ?_
    · exact g_vret E dX2_put_23
    · refine g_aload_n E dX2_put_13 0 rfl ?_
      refine gg_2_32 E (hN 2 (by decide)) dX2_put_14 ?_
      refine g_iload_n E dX2_put_17 1 rfl ?_
      refine g_iaload E (hN 14 (by decide)) (by decide) rfl dX2_put_18 (fun v1 => ?_)
      refine g_iload_n E dX2_put_19 2 rfl ?_
      refine g_icmp_ne E 24 dX2_put_20 (by decide) ?_ ?_
      · refine g_aload_n E dX2_put_24 0 rfl ?_
        refine gg_2_22 E (hN 2 (by decide)) dX2_put_25 ?_
        refine g_if_eq E 84 dX2_put_28 (by decide) ?_ ?_
        · refine g_sub [0, 1, 2] rfl ?_
          exact w_X2_put_p84 E hap hN x1 x2 s
        · refine g_aload_n E dX2_put_31 0 rfl ?_
          refine gg_2_18 E (hN 2 (by decide)) dX2_put_32 ?_
          refine g_if_lt E 48 dX2_put_35 (by decide) ?_ ?_
          · exact g_vret E dX2_put_48
          · refine g_aload_n E dX2_put_38 0 rfl ?_
            refine gg_2_18 E (hN 2 (by decide)) dX2_put_39 ?_
            refine g_sipush E (v := 1024) dX2_put_42 (by decide) ?_
            refine g_icmp_lt E 49 dX2_put_45 (by decide) ?_ ?_
            · refine g_aload_n E dX2_put_49 0 rfl ?_
              refine gg_2_11 E (hN 2 (by decide)) dX2_put_50 ?_
              refine g_aload_n E dX2_put_53 0 rfl ?_
              refine gg_2_18 E (hN 2 (by decide)) dX2_put_54 ?_
              refine g_iload_n E dX2_put_57 1 rfl ?_
              refine g_iastore E (hN 15 (by decide)) (by decide) rfl dX2_put_58 (fun s2 => ?_)
              refine g_aload_n E dX2_put_59 0 rfl ?_
              refine gg_2_15 E (hN 2 (by decide)) dX2_put_60 ?_
              refine g_aload_n E dX2_put_63 0 rfl ?_
              refine gg_2_18 E (hN 2 (by decide)) dX2_put_64 ?_
              refine g_aload_n E dX2_put_67 0 rfl ?_
              refine gg_2_32 E (hN 2 (by decide)) dX2_put_68 ?_
              refine g_iload_n E dX2_put_71 1 rfl ?_
              refine g_iaload E (hN 14 (by decide)) (by decide) rfl dX2_put_72 (fun v3 => ?_)
              refine g_iastore E (hN 16 (by decide)) (by decide) rfl dX2_put_73 (fun s4 => ?_)
              refine g_aload_n E dX2_put_74 0 rfl ?_
              refine g_dup E dX2_put_75 rfl ?_
              refine gg_2_18 E (hN 2 (by decide)) dX2_put_76 ?_
              refine g_iconst E (v := 1) dX2_put_79 (by decide) ?_
              refine g_iadd E dX2_put_80 ?_
              refine gp_2_18 E (hN 2 (by decide)) dX2_put_81 (fun s5 => ?_)
              refine g_sub [0, 1, 2] rfl ?_
              exact w_X2_put_p84 E hap hN x1 x2 s5
            · exact g_vret E dX2_put_48
      · exact g_vret E dX2_put_23
end

theorem dX4_set_0 : decode cX4_set 0 = .ok (.aload_n 0, 1) := by decide +kernel
theorem dX4_set_1 : decode cX4_set 1 = .ok (.getfield 9, 3) := by decide +kernel
theorem dX4_set_4 : decode cX4_set 4 = .ok (.iload_n 1, 1) := by decide +kernel
theorem dX4_set_5 : decode cX4_set 5 = .ok (.aload_n 0, 1) := by decide +kernel
theorem dX4_set_6 : decode cX4_set 6 = .ok (.getfield 27, 3) := by decide +kernel
theorem dX4_set_9 : decode cX4_set 9 = .ok (.imul, 1) := by decide +kernel
theorem dX4_set_10 : decode cX4_set 10 = .ok (.iload_n 2, 1) := by decide +kernel
theorem dX4_set_11 : decode cX4_set 11 = .ok (.iadd, 1) := by decide +kernel
theorem dX4_set_12 : decode cX4_set 12 = .ok (.iload_n 3, 1) := by decide +kernel
theorem dX4_set_13 : decode cX4_set 13 = .ok (.invokevirtual 54, 3) := by decide +kernel
theorem dX4_set_16 : decode cX4_set 16 = .ok (.return_, 1) := by decide +kernel
def f_X4_set (ln : Nat → Nat) (x1 : Int32) (x2 : Int32) (x3 : Int32) (s : dr_S) : Option (Int32 × dr_S) := dr_bndv (f_X2_put ln (((x1 * (s.2 403)) + x2)) x3 s) (fun s1 => some (0, s1))
section
variable {p : Program} {l : Launch} {e : Env} {s0 : State} {m : MethodId} {args : Array Value} {below : List Frame} {meth : Method} {c : Code} {A : Nat → Prop} {D : va_G} {cI cZ : ClassId} {ad ln : Nat → Nat} {L : List Nat}
set_option maxHeartbeats 4000000 in
set_option maxRecDepth 20000 in
theorem c_X4_set (hap : dr_ap ad L) (hN : ∀ x ∈ nd_4, x ∈ L) (x1 : Int32) (x2 : Int32) (x3 : Int32) (s : dr_S) : dr_Mv l D cI cZ ad ln L yX4_set cX4_set 4 1 [.ref (ad 4), .int x1, .int x2, .int x3] s (f_X4_set ln x1 x2 x3 s) := by
  refine dr_metv (own := RX4) (by decide) rfl (Nat.le_of_ble_eq_true rfl) hap ?_
  intro p e s0 m args below meth c A E
  unfold f_X4_set
  refine g_eqL (lv' := [(0, .ref (ad 4)), (1, .int x1), (2, .int x2), (3, .int x3)]) rfl ?_
  refine g_aload_n E dX4_set_0 0 rfl ?_
  refine gg_4_9 E (hN 4 (by decide)) dX4_set_1 ?_
  refine g_iload_n E dX4_set_4 1 rfl ?_
  refine g_aload_n E dX4_set_5 0 rfl ?_
  refine gg_4_27 E (hN 4 (by decide)) dX4_set_6 ?_
  refine g_imul E dX4_set_9 ?_
  refine g_iload_n E dX4_set_10 2 rfl ?_
  refine g_iadd E dX4_set_11 ?_
  refine g_iload_n E dX4_set_12 3 rfl ?_
  refine g_cVv E [.int ((x1 * (s.2 403)) + x2), .int x3] rfl (c_X2_put hap (fun x h => hN x (ns_2_4 x h)) (((x1 * (s.2 403)) + x2)) x3 s) (hN 2 (by decide)) (by decide) rfl rfl mi_X2_put msl_X2_put mw_X2_put rfl ml_4_54 ⟨Nat.le_of_ble_eq_true rfl, Nat.le_of_ble_eq_true rfl⟩ (Nat.le_of_ble_eq_true rfl) dX4_set_13 (fun s1 => ?_)
  exact g_vret E dX4_set_16
end

theorem dX4_open_0 : decode cX4_open 0 = .ok (.aload_n 0, 1) := by decide +kernel
theorem dX4_open_1 : decode cX4_open 1 = .ok (.invokevirtual 61, 3) := by decide +kernel
theorem dX4_open_4 : decode cX4_open 4 = .ok (.istore_n 2, 1) := by decide +kernel
theorem dX4_open_5 : decode cX4_open 5 = .ok (.iload_n 2, 1) := by decide +kernel
theorem dX4_open_6 : decode cX4_open 6 = .ok (.sipush 256, 3) := by decide +kernel
theorem dX4_open_9 : decode cX4_open 9 = .ok (.if_icmp .lt 5, 3) := by decide +kernel
theorem dX4_open_12 : decode cX4_open 12 = .ok (.iconst (-1), 1) := by decide +kernel
theorem dX4_open_13 : decode cX4_open 13 = .ok (.ireturn, 1) := by decide +kernel
theorem dX4_open_14 : decode cX4_open 14 = .ok (.aload_n 0, 1) := by decide +kernel
theorem dX4_open_15 : decode cX4_open 15 = .ok (.getfield 9, 3) := by decide +kernel
theorem dX4_open_18 : decode cX4_open 18 = .ok (.aload_n 0, 1) := by decide +kernel
theorem dX4_open_19 : decode cX4_open 19 = .ok (.getfield 36, 3) := by decide +kernel
theorem dX4_open_22 : decode cX4_open 22 = .ok (.iload_n 2, 1) := by decide +kernel
theorem dX4_open_23 : decode cX4_open 23 = .ok (.iconst 1, 1) := by decide +kernel
theorem dX4_open_24 : decode cX4_open 24 = .ok (.iadd, 1) := by decide +kernel
theorem dX4_open_25 : decode cX4_open 25 = .ok (.invokevirtual 54, 3) := by decide +kernel
theorem dX4_open_28 : decode cX4_open 28 = .ok (.aload_n 0, 1) := by decide +kernel
theorem dX4_open_29 : decode cX4_open 29 = .ok (.iload_n 2, 1) := by decide +kernel
theorem dX4_open_30 : decode cX4_open 30 = .ok (.iconst 0, 1) := by decide +kernel
theorem dX4_open_31 : decode cX4_open 31 = .ok (.iload_n 1, 1) := by decide +kernel
theorem dX4_open_32 : decode cX4_open 32 = .ok (.invokevirtual 65, 3) := by decide +kernel
theorem dX4_open_35 : decode cX4_open 35 = .ok (.aload_n 0, 1) := by decide +kernel
theorem dX4_open_36 : decode cX4_open 36 = .ok (.iload_n 2, 1) := by decide +kernel
theorem dX4_open_37 : decode cX4_open 37 = .ok (.iconst 1, 1) := by decide +kernel
theorem dX4_open_38 : decode cX4_open 38 = .ok (.iconst 0, 1) := by decide +kernel
theorem dX4_open_39 : decode cX4_open 39 = .ok (.invokevirtual 65, 3) := by decide +kernel
theorem dX4_open_42 : decode cX4_open 42 = .ok (.aload_n 0, 1) := by decide +kernel
theorem dX4_open_43 : decode cX4_open 43 = .ok (.iload_n 2, 1) := by decide +kernel
theorem dX4_open_44 : decode cX4_open 44 = .ok (.iconst 2, 1) := by decide +kernel
theorem dX4_open_45 : decode cX4_open 45 = .ok (.iconst (-1), 1) := by decide +kernel
theorem dX4_open_46 : decode cX4_open 46 = .ok (.invokevirtual 65, 3) := by decide +kernel
theorem dX4_open_49 : decode cX4_open 49 = .ok (.aload_n 0, 1) := by decide +kernel
theorem dX4_open_50 : decode cX4_open 50 = .ok (.iload_n 2, 1) := by decide +kernel
theorem dX4_open_51 : decode cX4_open 51 = .ok (.iconst 3, 1) := by decide +kernel
theorem dX4_open_52 : decode cX4_open 52 = .ok (.iconst (-1), 1) := by decide +kernel
theorem dX4_open_53 : decode cX4_open 53 = .ok (.invokevirtual 65, 3) := by decide +kernel
theorem dX4_open_56 : decode cX4_open 56 = .ok (.aload_n 0, 1) := by decide +kernel
theorem dX4_open_57 : decode cX4_open 57 = .ok (.iload_n 2, 1) := by decide +kernel
theorem dX4_open_58 : decode cX4_open 58 = .ok (.iconst 4, 1) := by decide +kernel
theorem dX4_open_59 : decode cX4_open 59 = .ok (.iconst (-1), 1) := by decide +kernel
theorem dX4_open_60 : decode cX4_open 60 = .ok (.invokevirtual 65, 3) := by decide +kernel
theorem dX4_open_63 : decode cX4_open 63 = .ok (.iload_n 2, 1) := by decide +kernel
theorem dX4_open_64 : decode cX4_open 64 = .ok (.ireturn, 1) := by decide +kernel
def f_X4_open (ln : Nat → Nat) (x1 : Int32) (s : dr_S) : Option (Int32 × dr_S) := dr_bnd (f_X4_inUse ln  s) (fun r2 s1 => (if r2 < 256 then dr_bndv (f_X2_put ln ((s1.2 406)) ((r2 + 1)) s1) (fun s3 => dr_bndv (f_X4_set ln r2 0 x1 s3) (fun s4 => dr_bndv (f_X4_set ln r2 1 0 s4) (fun s5 => dr_bndv (f_X4_set ln r2 2 ((-1)) s5) (fun s6 => dr_bndv (f_X4_set ln r2 3 ((-1)) s6) (fun s7 => dr_bndv (f_X4_set ln r2 4 ((-1)) s7) (fun s8 => some (r2, s8))))))) else some ((-1), s1)))
section
variable {p : Program} {l : Launch} {e : Env} {s0 : State} {m : MethodId} {args : Array Value} {below : List Frame} {meth : Method} {c : Code} {A : Nat → Prop} {D : va_G} {cI cZ : ClassId} {ad ln : Nat → Nat} {L : List Nat}
set_option maxHeartbeats 4000000 in
set_option maxRecDepth 20000 in
theorem c_X4_open (hap : dr_ap ad L) (hN : ∀ x ∈ nd_4, x ∈ L) (x1 : Int32) (s : dr_S) : dr_Mi l D cI cZ ad ln L yX4_open cX4_open 3 (some .int) 2 [.ref (ad 4), .int x1] s (f_X4_open ln x1 s) := by
  refine dr_meti (own := RX4) (by decide) rfl (Nat.le_of_ble_eq_true rfl) hap ?_
  intro p e s0 m args below meth c A E
  unfold f_X4_open
  refine g_eqL (lv' := [(0, .ref (ad 4)), (1, .int x1)]) rfl ?_
  refine g_aload_n E dX4_open_0 0 rfl ?_
  refine g_cVi E [] rfl (c_X4_inUse hap hN  s) (hN 4 (by decide)) (by decide) rfl rfl mi_X4_inUse msl_X4_inUse mw_X4_inUse rfl ml_4_61 ⟨Nat.le_of_ble_eq_true rfl, Nat.le_of_ble_eq_true rfl⟩ (Nat.le_of_ble_eq_true rfl) dX4_open_1 (fun r2 s1 => ?_)
  refine g_istore_n E (lv' := [(2, .int r2), (0, .ref (ad 4)), (1, .int x1)]) dX4_open_4 (by decide) rfl ?_
  refine g_iload_n E dX4_open_5 0 rfl ?_
  refine g_sipush E (v := 256) dX4_open_6 (by decide) ?_
  refine g_icmp_lt E 14 dX4_open_9 (by decide) ?_ ?_
  · refine g_aload_n E dX4_open_14 1 rfl ?_
    refine gg_4_9 E (hN 4 (by decide)) dX4_open_15 ?_
    refine g_aload_n E dX4_open_18 1 rfl ?_
    refine gg_4_36 E (hN 4 (by decide)) dX4_open_19 ?_
    refine g_iload_n E dX4_open_22 0 rfl ?_
    refine g_iconst E (v := 1) dX4_open_23 (by decide) ?_
    refine g_iadd E dX4_open_24 ?_
    refine g_cVv E [.int (s1.2 406), .int (r2 + 1)] rfl (c_X2_put hap (fun x h => hN x (ns_2_4 x h)) ((s1.2 406)) ((r2 + 1)) s1) (hN 2 (by decide)) (by decide) rfl rfl mi_X2_put msl_X2_put mw_X2_put rfl ml_4_54 ⟨Nat.le_of_ble_eq_true rfl, Nat.le_of_ble_eq_true rfl⟩ (Nat.le_of_ble_eq_true rfl) dX4_open_25 (fun s3 => ?_)
    refine g_aload_n E dX4_open_28 1 rfl ?_
    refine g_iload_n E dX4_open_29 0 rfl ?_
    refine g_iconst E (v := 0) dX4_open_30 (by decide) ?_
    refine g_iload_n E dX4_open_31 2 rfl ?_
    refine g_cVv E [.int r2, .int 0, .int x1] rfl (c_X4_set hap hN r2 0 x1 s3) (hN 4 (by decide)) (by decide) rfl rfl mi_X4_set msl_X4_set mw_X4_set rfl ml_4_65 ⟨Nat.le_of_ble_eq_true rfl, Nat.le_of_ble_eq_true rfl⟩ (Nat.le_of_ble_eq_true rfl) dX4_open_32 (fun s4 => ?_)
    refine g_aload_n E dX4_open_35 1 rfl ?_
    refine g_iload_n E dX4_open_36 0 rfl ?_
    refine g_iconst E (v := 1) dX4_open_37 (by decide) ?_
    refine g_iconst E (v := 0) dX4_open_38 (by decide) ?_
    refine g_cVv E [.int r2, .int 1, .int 0] rfl (c_X4_set hap hN r2 1 0 s4) (hN 4 (by decide)) (by decide) rfl rfl mi_X4_set msl_X4_set mw_X4_set rfl ml_4_65 ⟨Nat.le_of_ble_eq_true rfl, Nat.le_of_ble_eq_true rfl⟩ (Nat.le_of_ble_eq_true rfl) dX4_open_39 (fun s5 => ?_)
    refine g_aload_n E dX4_open_42 1 rfl ?_
    refine g_iload_n E dX4_open_43 0 rfl ?_
    refine g_iconst E (v := 2) dX4_open_44 (by decide) ?_
    refine g_iconst E (v := (-1)) dX4_open_45 (by decide) ?_
    refine g_cVv E [.int r2, .int 2, .int (-1)] rfl (c_X4_set hap hN r2 2 ((-1)) s5) (hN 4 (by decide)) (by decide) rfl rfl mi_X4_set msl_X4_set mw_X4_set rfl ml_4_65 ⟨Nat.le_of_ble_eq_true rfl, Nat.le_of_ble_eq_true rfl⟩ (Nat.le_of_ble_eq_true rfl) dX4_open_46 (fun s6 => ?_)
    refine g_aload_n E dX4_open_49 1 rfl ?_
    refine g_iload_n E dX4_open_50 0 rfl ?_
    refine g_iconst E (v := 3) dX4_open_51 (by decide) ?_
    refine g_iconst E (v := (-1)) dX4_open_52 (by decide) ?_
    refine g_cVv E [.int r2, .int 3, .int (-1)] rfl (c_X4_set hap hN r2 3 ((-1)) s6) (hN 4 (by decide)) (by decide) rfl rfl mi_X4_set msl_X4_set mw_X4_set rfl ml_4_65 ⟨Nat.le_of_ble_eq_true rfl, Nat.le_of_ble_eq_true rfl⟩ (Nat.le_of_ble_eq_true rfl) dX4_open_53 (fun s7 => ?_)
    refine g_aload_n E dX4_open_56 1 rfl ?_
    refine g_iload_n E dX4_open_57 0 rfl ?_
    refine g_iconst E (v := 4) dX4_open_58 (by decide) ?_
    refine g_iconst E (v := (-1)) dX4_open_59 (by decide) ?_
    refine g_cVv E [.int r2, .int 4, .int (-1)] rfl (c_X4_set hap hN r2 4 ((-1)) s7) (hN 4 (by decide)) (by decide) rfl rfl mi_X4_set msl_X4_set mw_X4_set rfl ml_4_65 ⟨Nat.le_of_ble_eq_true rfl, Nat.le_of_ble_eq_true rfl⟩ (Nat.le_of_ble_eq_true rfl) dX4_open_60 (fun s8 => ?_)
    refine g_iload_n E dX4_open_63 0 rfl ?_
    exact g_iret E dX4_open_64
  · refine g_iconst E (v := (-1)) dX4_open_12 (by decide) ?_
    exact g_iret E dX4_open_13
end

theorem dX4_half_0 : decode cX4_half 0 = .ok (.aload_n 0, 1) := by decide +kernel
theorem dX4_half_1 : decode cX4_half 1 = .ok (.getfield 19, 3) := by decide +kernel
theorem dX4_half_4 : decode cX4_half 4 = .ok (.ireturn, 1) := by decide +kernel
def f_X4_half (ln : Nat → Nat) (s : dr_S) : Option (Int32 × dr_S) := some ((s.2 402), s)
section
variable {p : Program} {l : Launch} {e : Env} {s0 : State} {m : MethodId} {args : Array Value} {below : List Frame} {meth : Method} {c : Code} {A : Nat → Prop} {D : va_G} {cI cZ : ClassId} {ad ln : Nat → Nat} {L : List Nat}
set_option maxHeartbeats 4000000 in
set_option maxRecDepth 20000 in
theorem c_X4_half (hap : dr_ap ad L) (hN : ∀ x ∈ nd_4, x ∈ L) (s : dr_S) : dr_Mi l D cI cZ ad ln L yX4_half cX4_half 1 (some .int) 0 [.ref (ad 4)] s (f_X4_half ln  s) := by
  refine dr_meti (own := RX4) (by decide) rfl (Nat.le_of_ble_eq_true rfl) hap ?_
  intro p e s0 m args below meth c A E
  unfold f_X4_half
  refine g_eqL (lv' := [(0, .ref (ad 4))]) rfl ?_
  refine g_aload_n E dX4_half_0 0 rfl ?_
  refine gg_4_19 E (hN 4 (by decide)) dX4_half_1 ?_
  exact g_iret E dX4_half_4
end

theorem dX4_addHeading_0 : decode cX4_addHeading 0 = .ok (.aload_n 0, 1) := by decide +kernel
theorem dX4_addHeading_1 : decode cX4_addHeading 1 = .ok (.iload_n 1, 1) := by decide +kernel
theorem dX4_addHeading_2 : decode cX4_addHeading 2 = .ok (.iconst 1, 1) := by decide +kernel
theorem dX4_addHeading_3 : decode cX4_addHeading 3 = .ok (.invokevirtual 58, 3) := by decide +kernel
theorem dX4_addHeading_6 : decode cX4_addHeading 6 = .ok (.istore_n 3, 1) := by decide +kernel
theorem dX4_addHeading_7 : decode cX4_addHeading 7 = .ok (.iload_n 3, 1) := by decide +kernel
theorem dX4_addHeading_8 : decode cX4_addHeading 8 = .ok (.ifCond .lt 40, 3) := by decide +kernel
theorem dX4_addHeading_11 : decode cX4_addHeading 11 = .ok (.iload_n 3, 1) := by decide +kernel
theorem dX4_addHeading_12 : decode cX4_addHeading 12 = .ok (.iconst 2, 1) := by decide +kernel
theorem dX4_addHeading_13 : decode cX4_addHeading 13 = .ok (.aload_n 0, 1) := by decide +kernel
theorem dX4_addHeading_14 : decode cX4_addHeading 14 = .ok (.getfield 19, 3) := by decide +kernel
theorem dX4_addHeading_17 : decode cX4_addHeading 17 = .ok (.imul, 1) := by decide +kernel
theorem dX4_addHeading_18 : decode cX4_addHeading 18 = .ok (.if_icmp .gt 30, 3) := by decide +kernel
theorem dX4_addHeading_21 : decode cX4_addHeading 21 = .ok (.aload_n 0, 1) := by decide +kernel
theorem dX4_addHeading_22 : decode cX4_addHeading 22 = .ok (.getfield 9, 3) := by decide +kernel
theorem dX4_addHeading_25 : decode cX4_addHeading 25 = .ok (.iload_n 1, 1) := by decide +kernel
theorem dX4_addHeading_26 : decode cX4_addHeading 26 = .ok (.aload_n 0, 1) := by decide +kernel
theorem dX4_addHeading_27 : decode cX4_addHeading 27 = .ok (.getfield 27, 3) := by decide +kernel
theorem dX4_addHeading_30 : decode cX4_addHeading 30 = .ok (.imul, 1) := by decide +kernel
theorem dX4_addHeading_31 : decode cX4_addHeading 31 = .ok (.iconst 5, 1) := by decide +kernel
theorem dX4_addHeading_32 : decode cX4_addHeading 32 = .ok (.iadd, 1) := by decide +kernel
theorem dX4_addHeading_33 : decode cX4_addHeading 33 = .ok (.iload_n 3, 1) := by decide +kernel
theorem dX4_addHeading_34 : decode cX4_addHeading 34 = .ok (.iadd, 1) := by decide +kernel
theorem dX4_addHeading_35 : decode cX4_addHeading 35 = .ok (.iload_n 2, 1) := by decide +kernel
theorem dX4_addHeading_36 : decode cX4_addHeading 36 = .ok (.invokevirtual 54, 3) := by decide +kernel
theorem dX4_addHeading_39 : decode cX4_addHeading 39 = .ok (.aload_n 0, 1) := by decide +kernel
theorem dX4_addHeading_40 : decode cX4_addHeading 40 = .ok (.iload_n 1, 1) := by decide +kernel
theorem dX4_addHeading_41 : decode cX4_addHeading 41 = .ok (.iconst 1, 1) := by decide +kernel
theorem dX4_addHeading_42 : decode cX4_addHeading 42 = .ok (.iload_n 3, 1) := by decide +kernel
theorem dX4_addHeading_43 : decode cX4_addHeading 43 = .ok (.iconst 1, 1) := by decide +kernel
theorem dX4_addHeading_44 : decode cX4_addHeading 44 = .ok (.iadd, 1) := by decide +kernel
theorem dX4_addHeading_45 : decode cX4_addHeading 45 = .ok (.invokevirtual 65, 3) := by decide +kernel
theorem dX4_addHeading_48 : decode cX4_addHeading 48 = .ok (.return_, 1) := by decide +kernel
def f_X4_addHeading (ln : Nat → Nat) (x1 : Int32) (x2 : Int32) (s : dr_S) : Option (Int32 × dr_S) := dr_bnd (f_X4_get ln x1 1 s) (fun r2 s1 => (if r2 < 0 then some (0, s1) else (if (2 * (s1.2 402)) < r2 then some (0, s1) else dr_bndv (f_X2_put ln ((((x1 * (s1.2 403)) + 5) + r2)) x2 s1) (fun s3 => dr_bndv (f_X4_set ln x1 1 ((r2 + 1)) s3) (fun s4 => some (0, s4))))))
section
variable {p : Program} {l : Launch} {e : Env} {s0 : State} {m : MethodId} {args : Array Value} {below : List Frame} {meth : Method} {c : Code} {A : Nat → Prop} {D : va_G} {cI cZ : ClassId} {ad ln : Nat → Nat} {L : List Nat}
set_option maxHeartbeats 4000000 in
set_option maxRecDepth 20000 in
theorem c_X4_addHeading (hap : dr_ap ad L) (hN : ∀ x ∈ nd_4, x ∈ L) (x1 : Int32) (x2 : Int32) (s : dr_S) : dr_Mv l D cI cZ ad ln L yX4_addHeading cX4_addHeading 4 2 [.ref (ad 4), .int x1, .int x2] s (f_X4_addHeading ln x1 x2 s) := by
  refine dr_metv (own := RX4) (by decide) rfl (Nat.le_of_ble_eq_true rfl) hap ?_
  intro p e s0 m args below meth c A E
  unfold f_X4_addHeading
  refine g_eqL (lv' := [(0, .ref (ad 4)), (1, .int x1), (2, .int x2)]) rfl ?_
  refine g_aload_n E dX4_addHeading_0 0 rfl ?_
  refine g_iload_n E dX4_addHeading_1 1 rfl ?_
  refine g_iconst E (v := 1) dX4_addHeading_2 (by decide) ?_
  refine g_cVi E [.int x1, .int 1] rfl (c_X4_get hap hN x1 1 s) (hN 4 (by decide)) (by decide) rfl rfl mi_X4_get msl_X4_get mw_X4_get rfl ml_4_58 ⟨Nat.le_of_ble_eq_true rfl, Nat.le_of_ble_eq_true rfl⟩ (Nat.le_of_ble_eq_true rfl) dX4_addHeading_3 (fun r2 s1 => ?_)
  refine g_istore_n E (lv' := [(3, .int r2), (0, .ref (ad 4)), (1, .int x1), (2, .int x2)]) dX4_addHeading_6 (by decide) rfl ?_
  refine g_iload_n E dX4_addHeading_7 0 rfl ?_
  refine g_if_lt E 48 dX4_addHeading_8 (by decide) ?_ ?_
  · exact g_vret E dX4_addHeading_48
  · refine g_iload_n E dX4_addHeading_11 0 rfl ?_
    refine g_iconst E (v := 2) dX4_addHeading_12 (by decide) ?_
    refine g_aload_n E dX4_addHeading_13 1 rfl ?_
    refine gg_4_19 E (hN 4 (by decide)) dX4_addHeading_14 ?_
    refine g_imul E dX4_addHeading_17 ?_
    refine g_icmp_gt E 48 dX4_addHeading_18 (by decide) ?_ ?_
    · exact g_vret E dX4_addHeading_48
    · refine g_aload_n E dX4_addHeading_21 1 rfl ?_
      refine gg_4_9 E (hN 4 (by decide)) dX4_addHeading_22 ?_
      refine g_iload_n E dX4_addHeading_25 2 rfl ?_
      refine g_aload_n E dX4_addHeading_26 1 rfl ?_
      refine gg_4_27 E (hN 4 (by decide)) dX4_addHeading_27 ?_
      refine g_imul E dX4_addHeading_30 ?_
      refine g_iconst E (v := 5) dX4_addHeading_31 (by decide) ?_
      refine g_iadd E dX4_addHeading_32 ?_
      refine g_iload_n E dX4_addHeading_33 0 rfl ?_
      refine g_iadd E dX4_addHeading_34 ?_
      refine g_iload_n E dX4_addHeading_35 3 rfl ?_
      refine g_cVv E [.int (((x1 * (s1.2 403)) + 5) + r2), .int x2] rfl (c_X2_put hap (fun x h => hN x (ns_2_4 x h)) ((((x1 * (s1.2 403)) + 5) + r2)) x2 s1) (hN 2 (by decide)) (by decide) rfl rfl mi_X2_put msl_X2_put mw_X2_put rfl ml_4_54 ⟨Nat.le_of_ble_eq_true rfl, Nat.le_of_ble_eq_true rfl⟩ (Nat.le_of_ble_eq_true rfl) dX4_addHeading_36 (fun s3 => ?_)
      refine g_aload_n E dX4_addHeading_39 1 rfl ?_
      refine g_iload_n E dX4_addHeading_40 2 rfl ?_
      refine g_iconst E (v := 1) dX4_addHeading_41 (by decide) ?_
      refine g_iload_n E dX4_addHeading_42 0 rfl ?_
      refine g_iconst E (v := 1) dX4_addHeading_43 (by decide) ?_
      refine g_iadd E dX4_addHeading_44 ?_
      refine g_cVv E [.int x1, .int 1, .int (r2 + 1)] rfl (c_X4_set hap hN x1 1 ((r2 + 1)) s3) (hN 4 (by decide)) (by decide) rfl rfl mi_X4_set msl_X4_set mw_X4_set rfl ml_4_65 ⟨Nat.le_of_ble_eq_true rfl, Nat.le_of_ble_eq_true rfl⟩ (Nat.le_of_ble_eq_true rfl) dX4_addHeading_45 (fun s4 => ?_)
      exact g_vret E dX4_addHeading_48
end

theorem dX4_setChild_0 : decode cX4_setChild 0 = .ok (.iload_n 2, 1) := by decide +kernel
theorem dX4_setChild_1 : decode cX4_setChild 1 = .ok (.ifCond .lt 36, 3) := by decide +kernel
theorem dX4_setChild_4 : decode cX4_setChild 4 = .ok (.iload_n 2, 1) := by decide +kernel
theorem dX4_setChild_5 : decode cX4_setChild 5 = .ok (.iconst 2, 1) := by decide +kernel
theorem dX4_setChild_6 : decode cX4_setChild 6 = .ok (.aload_n 0, 1) := by decide +kernel
theorem dX4_setChild_7 : decode cX4_setChild 7 = .ok (.getfield 19, 3) := by decide +kernel
theorem dX4_setChild_10 : decode cX4_setChild 10 = .ok (.imul, 1) := by decide +kernel
theorem dX4_setChild_11 : decode cX4_setChild 11 = .ok (.iconst 1, 1) := by decide +kernel
theorem dX4_setChild_12 : decode cX4_setChild 12 = .ok (.iadd, 1) := by decide +kernel
theorem dX4_setChild_13 : decode cX4_setChild 13 = .ok (.if_icmp .gt 24, 3) := by decide +kernel
theorem dX4_setChild_16 : decode cX4_setChild 16 = .ok (.aload_n 0, 1) := by decide +kernel
theorem dX4_setChild_17 : decode cX4_setChild 17 = .ok (.getfield 9, 3) := by decide +kernel
theorem dX4_setChild_20 : decode cX4_setChild 20 = .ok (.iload_n 1, 1) := by decide +kernel
theorem dX4_setChild_21 : decode cX4_setChild 21 = .ok (.aload_n 0, 1) := by decide +kernel
theorem dX4_setChild_22 : decode cX4_setChild 22 = .ok (.getfield 27, 3) := by decide +kernel
theorem dX4_setChild_25 : decode cX4_setChild 25 = .ok (.imul, 1) := by decide +kernel
theorem dX4_setChild_26 : decode cX4_setChild 26 = .ok (.aload_n 0, 1) := by decide +kernel
theorem dX4_setChild_27 : decode cX4_setChild 27 = .ok (.getfield 30, 3) := by decide +kernel
theorem dX4_setChild_30 : decode cX4_setChild 30 = .ok (.iadd, 1) := by decide +kernel
theorem dX4_setChild_31 : decode cX4_setChild 31 = .ok (.iload_n 2, 1) := by decide +kernel
theorem dX4_setChild_32 : decode cX4_setChild 32 = .ok (.iadd, 1) := by decide +kernel
theorem dX4_setChild_33 : decode cX4_setChild 33 = .ok (.iload_n 3, 1) := by decide +kernel
theorem dX4_setChild_34 : decode cX4_setChild 34 = .ok (.invokevirtual 54, 3) := by decide +kernel
theorem dX4_setChild_37 : decode cX4_setChild 37 = .ok (.return_, 1) := by decide +kernel
def f_X4_setChild (ln : Nat → Nat) (x1 : Int32) (x2 : Int32) (x3 : Int32) (s : dr_S) : Option (Int32 × dr_S) := (if x2 < 0 then some (0, s) else (if ((2 * (s.2 402)) + 1) < x2 then some (0, s) else dr_bndv (f_X2_put ln ((((x1 * (s.2 403)) + (s.2 404)) + x2)) x3 s) (fun s1 => some (0, s1))))
section
variable {p : Program} {l : Launch} {e : Env} {s0 : State} {m : MethodId} {args : Array Value} {below : List Frame} {meth : Method} {c : Code} {A : Nat → Prop} {D : va_G} {cI cZ : ClassId} {ad ln : Nat → Nat} {L : List Nat}
set_option maxHeartbeats 4000000 in
set_option maxRecDepth 20000 in
theorem c_X4_setChild (hap : dr_ap ad L) (hN : ∀ x ∈ nd_4, x ∈ L) (x1 : Int32) (x2 : Int32) (x3 : Int32) (s : dr_S) : dr_Mv l D cI cZ ad ln L yX4_setChild cX4_setChild 4 1 [.ref (ad 4), .int x1, .int x2, .int x3] s (f_X4_setChild ln x1 x2 x3 s) := by
  refine dr_metv (own := RX4) (by decide) rfl (Nat.le_of_ble_eq_true rfl) hap ?_
  intro p e s0 m args below meth c A E
  unfold f_X4_setChild
  refine g_eqL (lv' := [(0, .ref (ad 4)), (1, .int x1), (2, .int x2), (3, .int x3)]) rfl ?_
  refine g_iload_n E dX4_setChild_0 2 rfl ?_
  refine g_if_lt E 37 dX4_setChild_1 (by decide) ?_ ?_
  · exact g_vret E dX4_setChild_37
  · refine g_iload_n E dX4_setChild_4 2 rfl ?_
    refine g_iconst E (v := 2) dX4_setChild_5 (by decide) ?_
    refine g_aload_n E dX4_setChild_6 0 rfl ?_
    refine gg_4_19 E (hN 4 (by decide)) dX4_setChild_7 ?_
    refine g_imul E dX4_setChild_10 ?_
    refine g_iconst E (v := 1) dX4_setChild_11 (by decide) ?_
    refine g_iadd E dX4_setChild_12 ?_
    refine g_icmp_gt E 37 dX4_setChild_13 (by decide) ?_ ?_
    · exact g_vret E dX4_setChild_37
    · refine g_aload_n E dX4_setChild_16 0 rfl ?_
      refine gg_4_9 E (hN 4 (by decide)) dX4_setChild_17 ?_
      refine g_iload_n E dX4_setChild_20 1 rfl ?_
      refine g_aload_n E dX4_setChild_21 0 rfl ?_
      refine gg_4_27 E (hN 4 (by decide)) dX4_setChild_22 ?_
      refine g_imul E dX4_setChild_25 ?_
      refine g_aload_n E dX4_setChild_26 0 rfl ?_
      refine gg_4_30 E (hN 4 (by decide)) dX4_setChild_27 ?_
      refine g_iadd E dX4_setChild_30 ?_
      refine g_iload_n E dX4_setChild_31 2 rfl ?_
      refine g_iadd E dX4_setChild_32 ?_
      refine g_iload_n E dX4_setChild_33 3 rfl ?_
      refine g_cVv E [.int (((x1 * (s.2 403)) + (s.2 404)) + x2), .int x3] rfl (c_X2_put hap (fun x h => hN x (ns_2_4 x h)) ((((x1 * (s.2 403)) + (s.2 404)) + x2)) x3 s) (hN 2 (by decide)) (by decide) rfl rfl mi_X2_put msl_X2_put mw_X2_put rfl ml_4_54 ⟨Nat.le_of_ble_eq_true rfl, Nat.le_of_ble_eq_true rfl⟩ (Nat.le_of_ble_eq_true rfl) dX4_setChild_34 (fun s1 => ?_)
      exact g_vret E dX4_setChild_37
end

theorem dX4_setTop_0 : decode cX4_setTop 0 = .ok (.aload_n 0, 1) := by decide +kernel
theorem dX4_setTop_1 : decode cX4_setTop 1 = .ok (.getfield 9, 3) := by decide +kernel
theorem dX4_setTop_4 : decode cX4_setTop 4 = .ok (.aload_n 0, 1) := by decide +kernel
theorem dX4_setTop_5 : decode cX4_setTop 5 = .ok (.getfield 33, 3) := by decide +kernel
theorem dX4_setTop_8 : decode cX4_setTop 8 = .ok (.iload_n 1, 1) := by decide +kernel
theorem dX4_setTop_9 : decode cX4_setTop 9 = .ok (.invokevirtual 54, 3) := by decide +kernel
theorem dX4_setTop_12 : decode cX4_setTop 12 = .ok (.return_, 1) := by decide +kernel
def f_X4_setTop (ln : Nat → Nat) (x1 : Int32) (s : dr_S) : Option (Int32 × dr_S) := dr_bndv (f_X2_put ln ((s.2 405)) x1 s) (fun s1 => some (0, s1))
section
variable {p : Program} {l : Launch} {e : Env} {s0 : State} {m : MethodId} {args : Array Value} {below : List Frame} {meth : Method} {c : Code} {A : Nat → Prop} {D : va_G} {cI cZ : ClassId} {ad ln : Nat → Nat} {L : List Nat}
set_option maxHeartbeats 4000000 in
set_option maxRecDepth 20000 in
theorem c_X4_setTop (hap : dr_ap ad L) (hN : ∀ x ∈ nd_4, x ∈ L) (x1 : Int32) (s : dr_S) : dr_Mv l D cI cZ ad ln L yX4_setTop cX4_setTop 2 1 [.ref (ad 4), .int x1] s (f_X4_setTop ln x1 s) := by
  refine dr_metv (own := RX4) (by decide) rfl (Nat.le_of_ble_eq_true rfl) hap ?_
  intro p e s0 m args below meth c A E
  unfold f_X4_setTop
  refine g_eqL (lv' := [(0, .ref (ad 4)), (1, .int x1)]) rfl ?_
  refine g_aload_n E dX4_setTop_0 0 rfl ?_
  refine gg_4_9 E (hN 4 (by decide)) dX4_setTop_1 ?_
  refine g_aload_n E dX4_setTop_4 0 rfl ?_
  refine gg_4_33 E (hN 4 (by decide)) dX4_setTop_5 ?_
  refine g_iload_n E dX4_setTop_8 1 rfl ?_
  refine g_cVv E [.int (s.2 405), .int x1] rfl (c_X2_put hap (fun x h => hN x (ns_2_4 x h)) ((s.2 405)) x1 s) (hN 2 (by decide)) (by decide) rfl rfl mi_X2_put msl_X2_put mw_X2_put rfl ml_4_54 ⟨Nat.le_of_ble_eq_true rfl, Nat.le_of_ble_eq_true rfl⟩ (Nat.le_of_ble_eq_true rfl) dX4_setTop_9 (fun s1 => ?_)
  exact g_vret E dX4_setTop_12
end

theorem dX0_crownTheTop_0 : decode cX0_crownTheTop 0 = .ok (.aload_n 0, 1) := by decide +kernel
theorem dX0_crownTheTop_1 : decode cX0_crownTheTop 1 = .ok (.getfield 9, 3) := by decide +kernel
theorem dX0_crownTheTop_4 : decode cX0_crownTheTop 4 = .ok (.invokevirtual 19, 3) := by decide +kernel
theorem dX0_crownTheTop_7 : decode cX0_crownTheTop 7 = .ok (.istore_n 1, 1) := by decide +kernel
theorem dX0_crownTheTop_8 : decode cX0_crownTheTop 8 = .ok (.aload_n 0, 1) := by decide +kernel
theorem dX0_crownTheTop_9 : decode cX0_crownTheTop 9 = .ok (.getfield 9, 3) := by decide +kernel
theorem dX0_crownTheTop_12 : decode cX0_crownTheTop 12 = .ok (.iload_n 1, 1) := by decide +kernel
theorem dX0_crownTheTop_13 : decode cX0_crownTheTop 13 = .ok (.iconst 3, 1) := by decide +kernel
theorem dX0_crownTheTop_14 : decode cX0_crownTheTop 14 = .ok (.invokevirtual 25, 3) := by decide +kernel
theorem dX0_crownTheTop_17 : decode cX0_crownTheTop 17 = .ok (.iconst (-1), 1) := by decide +kernel
theorem dX0_crownTheTop_18 : decode cX0_crownTheTop 18 = .ok (.if_icmp .ne 4, 3) := by decide +kernel
theorem dX0_crownTheTop_21 : decode cX0_crownTheTop 21 = .ok (.return_, 1) := by decide +kernel
theorem dX0_crownTheTop_22 : decode cX0_crownTheTop 22 = .ok (.aload_n 0, 1) := by decide +kernel
theorem dX0_crownTheTop_23 : decode cX0_crownTheTop 23 = .ok (.getfield 9, 3) := by decide +kernel
theorem dX0_crownTheTop_26 : decode cX0_crownTheTop 26 = .ok (.aload_n 0, 1) := by decide +kernel
theorem dX0_crownTheTop_27 : decode cX0_crownTheTop 27 = .ok (.getfield 9, 3) := by decide +kernel
theorem dX0_crownTheTop_30 : decode cX0_crownTheTop 30 = .ok (.iload_n 1, 1) := by decide +kernel
theorem dX0_crownTheTop_31 : decode cX0_crownTheTop 31 = .ok (.iconst 0, 1) := by decide +kernel
theorem dX0_crownTheTop_32 : decode cX0_crownTheTop 32 = .ok (.invokevirtual 25, 3) := by decide +kernel
theorem dX0_crownTheTop_35 : decode cX0_crownTheTop 35 = .ok (.iconst 1, 1) := by decide +kernel
theorem dX0_crownTheTop_36 : decode cX0_crownTheTop 36 = .ok (.iadd, 1) := by decide +kernel
theorem dX0_crownTheTop_37 : decode cX0_crownTheTop 37 = .ok (.invokevirtual 29, 3) := by decide +kernel
theorem dX0_crownTheTop_40 : decode cX0_crownTheTop 40 = .ok (.istore_n 2, 1) := by decide +kernel
theorem dX0_crownTheTop_41 : decode cX0_crownTheTop 41 = .ok (.iload_n 2, 1) := by decide +kernel
theorem dX0_crownTheTop_42 : decode cX0_crownTheTop 42 = .ok (.iconst (-1), 1) := by decide +kernel
theorem dX0_crownTheTop_43 : decode cX0_crownTheTop 43 = .ok (.if_icmp .ne 4, 3) := by decide +kernel
theorem dX0_crownTheTop_46 : decode cX0_crownTheTop 46 = .ok (.return_, 1) := by decide +kernel
theorem dX0_crownTheTop_47 : decode cX0_crownTheTop 47 = .ok (.iconst 2, 1) := by decide +kernel
theorem dX0_crownTheTop_48 : decode cX0_crownTheTop 48 = .ok (.aload_n 0, 1) := by decide +kernel
theorem dX0_crownTheTop_49 : decode cX0_crownTheTop 49 = .ok (.getfield 9, 3) := by decide +kernel
theorem dX0_crownTheTop_52 : decode cX0_crownTheTop 52 = .ok (.invokevirtual 33, 3) := by decide +kernel
theorem dX0_crownTheTop_55 : decode cX0_crownTheTop 55 = .ok (.imul, 1) := by decide +kernel
theorem dX0_crownTheTop_56 : decode cX0_crownTheTop 56 = .ok (.iconst 1, 1) := by decide +kernel
theorem dX0_crownTheTop_57 : decode cX0_crownTheTop 57 = .ok (.iadd, 1) := by decide +kernel
theorem dX0_crownTheTop_58 : decode cX0_crownTheTop 58 = .ok (.istore_n 3, 1) := by decide +kernel
theorem dX0_crownTheTop_59 : decode cX0_crownTheTop 59 = .ok (.iconst (-1), 1) := by decide +kernel
theorem dX0_crownTheTop_60 : decode cX0_crownTheTop 60 = .ok (.istore 4, 2) := by decide +kernel
theorem dX0_crownTheTop_62 : decode cX0_crownTheTop 62 = .ok (.iconst 0, 1) := by decide +kernel
theorem dX0_crownTheTop_63 : decode cX0_crownTheTop 63 = .ok (.istore 5, 2) := by decide +kernel
theorem dX0_crownTheTop_65 : decode cX0_crownTheTop 65 = .ok (.iload 5, 2) := by decide +kernel
theorem dX0_crownTheTop_67 : decode cX0_crownTheTop 67 = .ok (.iload_n 3, 1) := by decide +kernel
theorem dX0_crownTheTop_68 : decode cX0_crownTheTop 68 = .ok (.if_icmp .ge 61, 3) := by decide +kernel
theorem dX0_crownTheTop_71 : decode cX0_crownTheTop 71 = .ok (.iload_n 1, 1) := by decide +kernel
theorem dX0_crownTheTop_72 : decode cX0_crownTheTop 72 = .ok (.iconst (-1), 1) := by decide +kernel
theorem dX0_crownTheTop_73 : decode cX0_crownTheTop 73 = .ok (.if_icmp .eq 56, 3) := by decide +kernel
theorem dX0_crownTheTop_76 : decode cX0_crownTheTop 76 = .ok (.iload 5, 2) := by decide +kernel
theorem dX0_crownTheTop_78 : decode cX0_crownTheTop 78 = .ok (.ifCond .le 21, 3) := by decide +kernel
theorem dX0_crownTheTop_81 : decode cX0_crownTheTop 81 = .ok (.aload_n 0, 1) := by decide +kernel
theorem dX0_crownTheTop_82 : decode cX0_crownTheTop 82 = .ok (.getfield 9, 3) := by decide +kernel
theorem dX0_crownTheTop_85 : decode cX0_crownTheTop 85 = .ok (.iload_n 2, 1) := by decide +kernel
theorem dX0_crownTheTop_86 : decode cX0_crownTheTop 86 = .ok (.aload_n 0, 1) := by decide +kernel
theorem dX0_crownTheTop_87 : decode cX0_crownTheTop 87 = .ok (.getfield 9, 3) := by decide +kernel
theorem dX0_crownTheTop_90 : decode cX0_crownTheTop 90 = .ok (.iload 4, 2) := by decide +kernel
theorem dX0_crownTheTop_92 : decode cX0_crownTheTop 92 = .ok (.iconst 2, 1) := by decide +kernel
theorem dX0_crownTheTop_93 : decode cX0_crownTheTop 93 = .ok (.invokevirtual 25, 3) := by decide +kernel
theorem dX0_crownTheTop_96 : decode cX0_crownTheTop 96 = .ok (.invokevirtual 36, 3) := by decide +kernel
theorem dX0_crownTheTop_99 : decode cX0_crownTheTop 99 = .ok (.aload_n 0, 1) := by decide +kernel
theorem dX0_crownTheTop_100 : decode cX0_crownTheTop 100 = .ok (.getfield 9, 3) := by decide +kernel
theorem dX0_crownTheTop_103 : decode cX0_crownTheTop 103 = .ok (.iload_n 2, 1) := by decide +kernel
theorem dX0_crownTheTop_104 : decode cX0_crownTheTop 104 = .ok (.iload 5, 2) := by decide +kernel
theorem dX0_crownTheTop_106 : decode cX0_crownTheTop 106 = .ok (.iload_n 1, 1) := by decide +kernel
theorem dX0_crownTheTop_107 : decode cX0_crownTheTop 107 = .ok (.invokevirtual 40, 3) := by decide +kernel
theorem dX0_crownTheTop_110 : decode cX0_crownTheTop 110 = .ok (.iload_n 1, 1) := by decide +kernel
theorem dX0_crownTheTop_111 : decode cX0_crownTheTop 111 = .ok (.istore 4, 2) := by decide +kernel
theorem dX0_crownTheTop_113 : decode cX0_crownTheTop 113 = .ok (.aload_n 0, 1) := by decide +kernel
theorem dX0_crownTheTop_114 : decode cX0_crownTheTop 114 = .ok (.getfield 9, 3) := by decide +kernel
theorem dX0_crownTheTop_117 : decode cX0_crownTheTop 117 = .ok (.iload_n 1, 1) := by decide +kernel
theorem dX0_crownTheTop_118 : decode cX0_crownTheTop 118 = .ok (.iconst 3, 1) := by decide +kernel
theorem dX0_crownTheTop_119 : decode cX0_crownTheTop 119 = .ok (.invokevirtual 25, 3) := by decide +kernel
theorem dX0_crownTheTop_122 : decode cX0_crownTheTop 122 = .ok (.istore_n 1, 1) := by decide +kernel
theorem dX0_crownTheTop_123 : decode cX0_crownTheTop 123 = .ok (.iinc 5 1, 3) := by decide +kernel
theorem dX0_crownTheTop_126 : decode cX0_crownTheTop 126 = .ok (.goto (-61), 3) := by decide +kernel
theorem dX0_crownTheTop_129 : decode cX0_crownTheTop 129 = .ok (.aload_n 0, 1) := by decide +kernel
theorem dX0_crownTheTop_130 : decode cX0_crownTheTop 130 = .ok (.getfield 9, 3) := by decide +kernel
theorem dX0_crownTheTop_133 : decode cX0_crownTheTop 133 = .ok (.iload_n 2, 1) := by decide +kernel
theorem dX0_crownTheTop_134 : decode cX0_crownTheTop 134 = .ok (.invokevirtual 44, 3) := by decide +kernel
theorem dX0_crownTheTop_137 : decode cX0_crownTheTop 137 = .ok (.return_, 1) := by decide +kernel
def f_X0_crownTheTop_p129 (ln : Nat → Nat) (x2 : Int32) (s : dr_S) : Option (Int32 × dr_S) := dr_bndv (f_X4_setTop ln x2 s) (fun s19 => some (0, s19))
def f_X0_crownTheTop_p99 (ln : Nat → Nat) (kb65 : Int32 → Int32 → Int32 → Int32 → Int32 → dr_S → Option (Int32 × dr_S)) (x1 : Int32) (x2 : Int32) (x3 : Int32) (x5 : Int32) (s : dr_S) : Option (Int32 × dr_S) := dr_bndv (f_X4_setChild ln x2 x5 x1 s) (fun s15 => dr_bnd (f_X4_get ln x1 3 s15) (fun r17 s16 => dr_let (x5 + 1) (fun y18 => (kb65 r17 x2 x3 x1 y18 s16))))
def f_X0_crownTheTop_p65 (ln : Nat → Nat) : Nat → Int32 → Int32 → Int32 → Int32 → Int32 → dr_S → Option (Int32 × dr_S)
  | 0, _, _, _, _, _, _ => none
  | n + 1, x1, x2, x3, x4, x5, s => (if x3 ≤ x5 then (f_X0_crownTheTop_p129 ln x2 s) else (if x1 = (-1) then (f_X0_crownTheTop_p129 ln x2 s) else (if x5 ≤ 0 then (f_X0_crownTheTop_p99 ln (f_X0_crownTheTop_p65 ln n) x1 x2 x3 x5 s) else dr_bnd (f_X4_get ln x4 2 s) (fun r13 s12 => dr_bndv (f_X4_addHeading ln x2 r13 s12) (fun s14 => (f_X0_crownTheTop_p99 ln (f_X0_crownTheTop_p65 ln n) x1 x2 x3 x5 s14))))))
def f_X0_crownTheTop (ln : Nat → Nat) (s : dr_S) : Option (Int32 × dr_S) := dr_bnd (f_X4_top ln  s) (fun r2 s1 => dr_bnd (f_X4_get ln r2 3 s1) (fun r4 s3 => (if r4 = (-1) then some (0, s3) else dr_bnd (f_X4_get ln r2 0 s3) (fun r6 s5 => dr_bnd (f_X4_open ln ((r6 + 1)) s5) (fun r8 s7 => (if r8 = (-1) then some (0, s7) else dr_bnd (f_X4_half ln  s7) (fun r10 s9 => dr_let ((2 * r10) + 1) (fun y11 => (f_X0_crownTheTop_p65 ln dr_N r2 r8 y11 ((-1)) 0 s9)))))))))
section
variable {p : Program} {l : Launch} {e : Env} {s0 : State} {m : MethodId} {args : Array Value} {below : List Frame} {meth : Method} {c : Code} {A : Nat → Prop} {D : va_G} {cI cZ : ClassId} {ad ln : Nat → Nat} {L : List Nat}
set_option maxHeartbeats 4000000 in
set_option maxRecDepth 20000 in
theorem w_X0_crownTheTop_p129 (E : dr_E p (dr_rm 3) s0 m args meth c 0 0 A s0.heap D cI cZ ad L cX0_crownTheTop 6 RX0 none) (hap : dr_ap ad L) (hN : ∀ x ∈ nd_0, x ∈ L) : ∀ (x2 : Int32) (s : dr_S), dr_G p l e (dr_rm 3) s0 m args below meth c 0 0 A s0.heap D cI cZ ad ln L 6 (dr_Zv D cI cZ ad ln L A below args s0 0 0) 129 [(0, .ref (ad 0)), (2, .int x2)] [] s (f_X0_crownTheTop_p129 ln x2 s) := by
  intro x2 s
  unfold f_X0_crownTheTop_p129
  refine g_aload_n E dX0_crownTheTop_129 0 rfl ?_
  refine gg_0_9 E (hN 0 (by decide)) dX0_crownTheTop_130 ?_
  refine g_iload_n E dX0_crownTheTop_133 1 rfl ?_
  refine g_cVv E [.int x2] rfl (c_X4_setTop hap (fun x h => hN x (ns_4_0 x h)) x2 s) (hN 4 (by decide)) (by decide) rfl rfl mi_X4_setTop msl_X4_setTop mw_X4_setTop rfl ml_0_44 ⟨Nat.le_of_ble_eq_true rfl, Nat.le_of_ble_eq_true rfl⟩ (Nat.le_of_ble_eq_true rfl) dX0_crownTheTop_134 (fun s19 => ?_)
  exact g_vret E dX0_crownTheTop_137
set_option maxHeartbeats 4000000 in
set_option maxRecDepth 20000 in
theorem w_X0_crownTheTop_p99 {kb65 : Int32 → Int32 → Int32 → Int32 → Int32 → dr_S → Option (Int32 × dr_S)} (E : dr_E p (dr_rm 3) s0 m args meth c 0 0 A s0.heap D cI cZ ad L cX0_crownTheTop 6 RX0 none) (hap : dr_ap ad L) (hN : ∀ x ∈ nd_0, x ∈ L) (hkb65 : ∀ (x1 : Int32) (x2 : Int32) (x3 : Int32) (x4 : Int32) (x5 : Int32) (s : dr_S), dr_G p l e (dr_rm 3) s0 m args below meth c 0 0 A s0.heap D cI cZ ad ln L 6 (dr_Zv D cI cZ ad ln L A below args s0 0 0) 65 [(0, .ref (ad 0)), (1, .int x1), (2, .int x2), (3, .int x3), (4, .int x4), (5, .int x5)] [] s (kb65 x1 x2 x3 x4 x5 s)) : ∀ (x1 : Int32) (x2 : Int32) (x3 : Int32) (x5 : Int32) (s : dr_S), dr_G p l e (dr_rm 3) s0 m args below meth c 0 0 A s0.heap D cI cZ ad ln L 6 (dr_Zv D cI cZ ad ln L A below args s0 0 0) 99 [(0, .ref (ad 0)), (1, .int x1), (2, .int x2), (3, .int x3), (5, .int x5)] [] s (f_X0_crownTheTop_p99 ln kb65 x1 x2 x3 x5 s) := by
  intro x1 x2 x3 x5 s
  unfold f_X0_crownTheTop_p99
  refine g_aload_n E dX0_crownTheTop_99 0 rfl ?_
  refine gg_0_9 E (hN 0 (by decide)) dX0_crownTheTop_100 ?_
  refine g_iload_n E dX0_crownTheTop_103 2 rfl ?_
  refine g_iload E dX0_crownTheTop_104 4 rfl ?_
  refine g_iload_n E dX0_crownTheTop_106 1 rfl ?_
  refine g_cVv E [.int x2, .int x5, .int x1] rfl (c_X4_setChild hap (fun x h => hN x (ns_4_0 x h)) x2 x5 x1 s) (hN 4 (by decide)) (by decide) rfl rfl mi_X4_setChild msl_X4_setChild mw_X4_setChild rfl ml_0_40 ⟨Nat.le_of_ble_eq_true rfl, Nat.le_of_ble_eq_true rfl⟩ (Nat.le_of_ble_eq_true rfl) dX0_crownTheTop_107 (fun s15 => ?_)
  refine g_iload_n E dX0_crownTheTop_110 1 rfl ?_
  refine g_istore E (lv' := [(4, .int x1), (0, .ref (ad 0)), (1, .int x1), (2, .int x2), (3, .int x3), (5, .int x5)]) dX0_crownTheTop_111 (by decide) rfl ?_
  refine g_aload_n E dX0_crownTheTop_113 1 rfl ?_
  refine gg_0_9 E (hN 0 (by decide)) dX0_crownTheTop_114 ?_
  refine g_iload_n E dX0_crownTheTop_117 2 rfl ?_
  refine g_iconst E (v := 3) dX0_crownTheTop_118 (by decide) ?_
  refine g_cVi E [.int x1, .int 3] rfl (c_X4_get hap (fun x h => hN x (ns_4_0 x h)) x1 3 s15) (hN 4 (by decide)) (by decide) rfl rfl mi_X4_get msl_X4_get mw_X4_get rfl ml_0_25 ⟨Nat.le_of_ble_eq_true rfl, Nat.le_of_ble_eq_true rfl⟩ (Nat.le_of_ble_eq_true rfl) dX0_crownTheTop_119 (fun r17 s16 => ?_)
  refine g_istore_n E (lv' := [(1, .int r17), (4, .int x1), (0, .ref (ad 0)), (2, .int x2), (3, .int x3), (5, .int x5)]) dX0_crownTheTop_122 (by decide) rfl ?_
  refine g_iinc E (lv' := []) (lv'' := fun y18 => [(5, .int y18), (1, .int r17), (4, .int x1), (0, .ref (ad 0)), (2, .int x2), (3, .int x3)]) (v := 1) dX0_crownTheTop_123 5 rfl (by decide) (by decide) (fun _ => rfl) (fun y18 => ?_)
  refine g_goto E 65 dX0_crownTheTop_126 (by decide) ?_
  refine g_sub [3, 1, 4, 5, 2, 0] rfl ?_
  exact hkb65 r17 x2 x3 x1 y18 s16
set_option maxHeartbeats 4000000 in
set_option maxRecDepth 20000 in
theorem w_X0_crownTheTop_p65 (E : dr_E p (dr_rm 3) s0 m args meth c 0 0 A s0.heap D cI cZ ad L cX0_crownTheTop 6 RX0 none) (hap : dr_ap ad L) (hN : ∀ x ∈ nd_0, x ∈ L) : ∀ (n : Nat) (x1 : Int32) (x2 : Int32) (x3 : Int32) (x4 : Int32) (x5 : Int32) (s : dr_S), dr_G p l e (dr_rm 3) s0 m args below meth c 0 0 A s0.heap D cI cZ ad ln L 6 (dr_Zv D cI cZ ad ln L A below args s0 0 0) 65 [(0, .ref (ad 0)), (1, .int x1), (2, .int x2), (3, .int x3), (4, .int x4), (5, .int x5)] [] s (f_X0_crownTheTop_p65 ln n x1 x2 x3 x4 x5 s) := by
  intro n
  induction n with
  | zero =>
    intro x1 x2 x3 x4 x5 s
    rw [f_X0_crownTheTop_p65]
    exact g_none
  | succ n hkb65 =>
    intro x1 x2 x3 x4 x5 s
    rw [f_X0_crownTheTop_p65]
    refine g_iload E dX0_crownTheTop_65 5 rfl ?_
    refine g_iload_n E dX0_crownTheTop_67 3 rfl ?_
    refine g_icmp_ge E 129 dX0_crownTheTop_68 (by decide) ?_ ?_
    · refine g_sub [0, 2] rfl ?_
      exact w_X0_crownTheTop_p129 E hap hN x2 s
    · refine g_iload_n E dX0_crownTheTop_71 1 rfl ?_
      refine g_iconst E (v := (-1)) dX0_crownTheTop_72 (by decide) ?_
      refine g_icmp_eq E 129 dX0_crownTheTop_73 (by decide) ?_ ?_
      · refine g_sub [0, 2] rfl ?_
        exact w_X0_crownTheTop_p129 E hap hN x2 s
      · refine g_iload E dX0_crownTheTop_76 5 rfl ?_
        refine g_if_le E 99 dX0_crownTheTop_78 (by decide) ?_ ?_
        · refine g_sub [0, 1, 2, 3, 5] rfl ?_
          exact w_X0_crownTheTop_p99 E hap hN hkb65 x1 x2 x3 x5 s
        · refine g_aload_n E dX0_crownTheTop_81 0 rfl ?_
          refine gg_0_9 E (hN 0 (by decide)) dX0_crownTheTop_82 ?_
          refine g_iload_n E dX0_crownTheTop_85 2 rfl ?_
          refine g_aload_n E dX0_crownTheTop_86 0 rfl ?_
          refine gg_0_9 E (hN 0 (by decide)) dX0_crownTheTop_87 ?_
          refine g_iload E dX0_crownTheTop_90 4 rfl ?_
          refine g_iconst E (v := 2) dX0_crownTheTop_92 (by decide) ?_
          refine g_cVi E [.int x4, .int 2] rfl (c_X4_get hap (fun x h => hN x (ns_4_0 x h)) x4 2 s) (hN 4 (by decide)) (by decide) rfl rfl mi_X4_get msl_X4_get mw_X4_get rfl ml_0_25 ⟨Nat.le_of_ble_eq_true rfl, Nat.le_of_ble_eq_true rfl⟩ (Nat.le_of_ble_eq_true rfl) dX0_crownTheTop_93 (fun r13 s12 => ?_)
          refine g_cVv E [.int x2, .int r13] rfl (c_X4_addHeading hap (fun x h => hN x (ns_4_0 x h)) x2 r13 s12) (hN 4 (by decide)) (by decide) rfl rfl mi_X4_addHeading msl_X4_addHeading mw_X4_addHeading rfl ml_0_36 ⟨Nat.le_of_ble_eq_true rfl, Nat.le_of_ble_eq_true rfl⟩ (Nat.le_of_ble_eq_true rfl) dX0_crownTheTop_96 (fun s14 => ?_)
          refine g_sub [0, 1, 2, 3, 5] rfl ?_
          exact w_X0_crownTheTop_p99 E hap hN hkb65 x1 x2 x3 x5 s14
set_option maxHeartbeats 4000000 in
set_option maxRecDepth 20000 in
theorem c_X0_crownTheTop (hap : dr_ap ad L) (hN : ∀ x ∈ nd_0, x ∈ L) (s : dr_S) : dr_Mv l D cI cZ ad ln L yX0_crownTheTop cX0_crownTheTop 6 3 [.ref (ad 0)] s (f_X0_crownTheTop ln  s) := by
  refine dr_metv (own := RX0) (by decide) rfl (Nat.le_of_ble_eq_true rfl) hap ?_
  intro p e s0 m args below meth c A E
  unfold f_X0_crownTheTop
  refine g_eqL (lv' := [(0, .ref (ad 0))]) rfl ?_
  refine g_aload_n E dX0_crownTheTop_0 0 rfl ?_
  refine gg_0_9 E (hN 0 (by decide)) dX0_crownTheTop_1 ?_
  refine g_cVi E [] rfl (c_X4_top hap (fun x h => hN x (ns_4_0 x h))  s) (hN 4 (by decide)) (by decide) rfl rfl mi_X4_top msl_X4_top mw_X4_top rfl ml_0_19 ⟨Nat.le_of_ble_eq_true rfl, Nat.le_of_ble_eq_true rfl⟩ (Nat.le_of_ble_eq_true rfl) dX0_crownTheTop_4 (fun r2 s1 => ?_)
  refine g_istore_n E (lv' := [(1, .int r2), (0, .ref (ad 0))]) dX0_crownTheTop_7 (by decide) rfl ?_
  refine g_aload_n E dX0_crownTheTop_8 1 rfl ?_
  refine gg_0_9 E (hN 0 (by decide)) dX0_crownTheTop_9 ?_
  refine g_iload_n E dX0_crownTheTop_12 0 rfl ?_
  refine g_iconst E (v := 3) dX0_crownTheTop_13 (by decide) ?_
  refine g_cVi E [.int r2, .int 3] rfl (c_X4_get hap (fun x h => hN x (ns_4_0 x h)) r2 3 s1) (hN 4 (by decide)) (by decide) rfl rfl mi_X4_get msl_X4_get mw_X4_get rfl ml_0_25 ⟨Nat.le_of_ble_eq_true rfl, Nat.le_of_ble_eq_true rfl⟩ (Nat.le_of_ble_eq_true rfl) dX0_crownTheTop_14 (fun r4 s3 => ?_)
  refine g_iconst E (v := (-1)) dX0_crownTheTop_17 (by decide) ?_
  refine g_icmp_ne E 22 dX0_crownTheTop_18 (by decide) ?_ ?_
  · refine g_aload_n E dX0_crownTheTop_22 1 rfl ?_
    refine gg_0_9 E (hN 0 (by decide)) dX0_crownTheTop_23 ?_
    refine g_aload_n E dX0_crownTheTop_26 1 rfl ?_
    refine gg_0_9 E (hN 0 (by decide)) dX0_crownTheTop_27 ?_
    refine g_iload_n E dX0_crownTheTop_30 0 rfl ?_
    refine g_iconst E (v := 0) dX0_crownTheTop_31 (by decide) ?_
    refine g_cVi E [.int r2, .int 0] rfl (c_X4_get hap (fun x h => hN x (ns_4_0 x h)) r2 0 s3) (hN 4 (by decide)) (by decide) rfl rfl mi_X4_get msl_X4_get mw_X4_get rfl ml_0_25 ⟨Nat.le_of_ble_eq_true rfl, Nat.le_of_ble_eq_true rfl⟩ (Nat.le_of_ble_eq_true rfl) dX0_crownTheTop_32 (fun r6 s5 => ?_)
    refine g_iconst E (v := 1) dX0_crownTheTop_35 (by decide) ?_
    refine g_iadd E dX0_crownTheTop_36 ?_
    refine g_cVi E [.int (r6 + 1)] rfl (c_X4_open hap (fun x h => hN x (ns_4_0 x h)) ((r6 + 1)) s5) (hN 4 (by decide)) (by decide) rfl rfl mi_X4_open msl_X4_open mw_X4_open rfl ml_0_29 ⟨Nat.le_of_ble_eq_true rfl, Nat.le_of_ble_eq_true rfl⟩ (Nat.le_of_ble_eq_true rfl) dX0_crownTheTop_37 (fun r8 s7 => ?_)
    refine g_istore_n E (lv' := [(2, .int r8), (1, .int r2), (0, .ref (ad 0))]) dX0_crownTheTop_40 (by decide) rfl ?_
    refine g_iload_n E dX0_crownTheTop_41 0 rfl ?_
    refine g_iconst E (v := (-1)) dX0_crownTheTop_42 (by decide) ?_
    refine g_icmp_ne E 47 dX0_crownTheTop_43 (by decide) ?_ ?_
    · refine g_iconst E (v := 2) dX0_crownTheTop_47 (by decide) ?_
      refine g_aload_n E dX0_crownTheTop_48 2 rfl ?_
      refine gg_0_9 E (hN 0 (by decide)) dX0_crownTheTop_49 ?_
      refine g_cVi E [] rfl (c_X4_half hap (fun x h => hN x (ns_4_0 x h))  s7) (hN 4 (by decide)) (by decide) rfl rfl mi_X4_half msl_X4_half mw_X4_half rfl ml_0_33 ⟨Nat.le_of_ble_eq_true rfl, Nat.le_of_ble_eq_true rfl⟩ (Nat.le_of_ble_eq_true rfl) dX0_crownTheTop_52 (fun r10 s9 => ?_)
      refine g_imul E dX0_crownTheTop_55 ?_
      refine g_iconst E (v := 1) dX0_crownTheTop_56 (by decide) ?_
      refine g_iadd E dX0_crownTheTop_57 ?_
      refine g_let (fun y11 => ?_)
      refine g_istore_n E (lv' := [(3, .int y11), (2, .int r8), (1, .int r2), (0, .ref (ad 0))]) dX0_crownTheTop_58 (by decide) rfl ?_
      refine g_iconst E (v := (-1)) dX0_crownTheTop_59 (by decide) ?_
      refine g_istore E (lv' := [(4, .int (-1)), (3, .int y11), (2, .int r8), (1, .int r2), (0, .ref (ad 0))]) dX0_crownTheTop_60 (by decide) rfl ?_
      refine g_iconst E (v := 0) dX0_crownTheTop_62 (by decide) ?_
      refine g_istore E (lv' := [(5, .int 0), (4, .int (-1)), (3, .int y11), (2, .int r8), (1, .int r2), (0, .ref (ad 0))]) dX0_crownTheTop_63 (by decide) rfl ?_
      refine g_sub [5, 4, 3, 2, 1, 0] rfl ?_
      exact w_X0_crownTheTop_p65 E hap hN dr_N r2 r8 y11 ((-1)) 0 s9
    · exact g_vret E dX0_crownTheTop_46
  · exact g_vret E dX0_crownTheTop_21
end

theorem dX4_child_0 : decode cX4_child 0 = .ok (.aload_n 0, 1) := by decide +kernel
theorem dX4_child_1 : decode cX4_child 1 = .ok (.iload_n 1, 1) := by decide +kernel
theorem dX4_child_2 : decode cX4_child 2 = .ok (.iconst 0, 1) := by decide +kernel
theorem dX4_child_3 : decode cX4_child 3 = .ok (.invokevirtual 58, 3) := by decide +kernel
theorem dX4_child_6 : decode cX4_child 6 = .ok (.ifCond .le 21, 3) := by decide +kernel
theorem dX4_child_9 : decode cX4_child 9 = .ok (.iload_n 2, 1) := by decide +kernel
theorem dX4_child_10 : decode cX4_child 10 = .ok (.ifCond .lt 17, 3) := by decide +kernel
theorem dX4_child_13 : decode cX4_child 13 = .ok (.iload_n 2, 1) := by decide +kernel
theorem dX4_child_14 : decode cX4_child 14 = .ok (.aload_n 0, 1) := by decide +kernel
theorem dX4_child_15 : decode cX4_child 15 = .ok (.iload_n 1, 1) := by decide +kernel
theorem dX4_child_16 : decode cX4_child 16 = .ok (.iconst 1, 1) := by decide +kernel
theorem dX4_child_17 : decode cX4_child 17 = .ok (.invokevirtual 58, 3) := by decide +kernel
theorem dX4_child_20 : decode cX4_child 20 = .ok (.if_icmp .gt 7, 3) := by decide +kernel
theorem dX4_child_23 : decode cX4_child 23 = .ok (.iconst 1, 1) := by decide +kernel
theorem dX4_child_24 : decode cX4_child 24 = .ok (.goto 4, 3) := by decide +kernel
theorem dX4_child_27 : decode cX4_child 27 = .ok (.iconst 0, 1) := by decide +kernel
theorem dX4_child_28 : decode cX4_child 28 = .ok (.istore_n 3, 1) := by decide +kernel
theorem dX4_child_29 : decode cX4_child 29 = .ok (.iload_n 3, 1) := by decide +kernel
theorem dX4_child_30 : decode cX4_child 30 = .ok (.ifCond .eq 26, 3) := by decide +kernel
theorem dX4_child_33 : decode cX4_child 33 = .ok (.aload_n 0, 1) := by decide +kernel
theorem dX4_child_34 : decode cX4_child 34 = .ok (.getfield 9, 3) := by decide +kernel
theorem dX4_child_37 : decode cX4_child 37 = .ok (.iload_n 1, 1) := by decide +kernel
theorem dX4_child_38 : decode cX4_child 38 = .ok (.aload_n 0, 1) := by decide +kernel
theorem dX4_child_39 : decode cX4_child 39 = .ok (.getfield 27, 3) := by decide +kernel
theorem dX4_child_42 : decode cX4_child 42 = .ok (.imul, 1) := by decide +kernel
theorem dX4_child_43 : decode cX4_child 43 = .ok (.aload_n 0, 1) := by decide +kernel
theorem dX4_child_44 : decode cX4_child 44 = .ok (.getfield 30, 3) := by decide +kernel
theorem dX4_child_47 : decode cX4_child 47 = .ok (.iadd, 1) := by decide +kernel
theorem dX4_child_48 : decode cX4_child 48 = .ok (.iload_n 2, 1) := by decide +kernel
theorem dX4_child_49 : decode cX4_child 49 = .ok (.iadd, 1) := by decide +kernel
theorem dX4_child_50 : decode cX4_child 50 = .ok (.invokevirtual 49, 3) := by decide +kernel
theorem dX4_child_53 : decode cX4_child 53 = .ok (.goto 4, 3) := by decide +kernel
theorem dX4_child_56 : decode cX4_child 56 = .ok (.iconst (-1), 1) := by decide +kernel
theorem dX4_child_57 : decode cX4_child 57 = .ok (.ireturn, 1) := by decide +kernel
def f_X4_child_p28 (ln : Nat → Nat) (x1 : Int32) (x2 : Int32) (z0 : Int32) (s : dr_S) : Option (Int32 × dr_S) := (if z0 = 0 then some ((-1), s) else dr_bnd (f_X2_get ln ((((x1 * (s.2 403)) + (s.2 404)) + x2)) s) (fun r6 s5 => some (r6, s5)))
def f_X4_child_p27 (ln : Nat → Nat) (x1 : Int32) (x2 : Int32) (s : dr_S) : Option (Int32 × dr_S) := (f_X4_child_p28 ln x1 x2 0 s)
def f_X4_child (ln : Nat → Nat) (x1 : Int32) (x2 : Int32) (s : dr_S) : Option (Int32 × dr_S) := dr_bnd (f_X4_get ln x1 0 s) (fun r2 s1 => (if r2 ≤ 0 then (f_X4_child_p27 ln x1 x2 s1) else (if x2 < 0 then (f_X4_child_p27 ln x1 x2 s1) else dr_bnd (f_X4_get ln x1 1 s1) (fun r4 s3 => (if r4 < x2 then (f_X4_child_p27 ln x1 x2 s3) else (f_X4_child_p28 ln x1 x2 1 s3))))))
section
variable {p : Program} {l : Launch} {e : Env} {s0 : State} {m : MethodId} {args : Array Value} {below : List Frame} {meth : Method} {c : Code} {A : Nat → Prop} {D : va_G} {cI cZ : ClassId} {ad ln : Nat → Nat} {L : List Nat}
set_option maxHeartbeats 4000000 in
set_option maxRecDepth 20000 in
theorem w_X4_child_p28 (E : dr_E p (dr_rm 2) s0 m args meth c 0 0 A s0.heap D cI cZ ad L cX4_child 4 RX4 (some .int)) (hap : dr_ap ad L) (hN : ∀ x ∈ nd_4, x ∈ L) : ∀ (x1 : Int32) (x2 : Int32) (z0 : Int32) (s : dr_S), dr_G p l e (dr_rm 2) s0 m args below meth c 0 0 A s0.heap D cI cZ ad ln L 4 (dr_Zi D cI cZ ad ln L A below args s0 0 0) 28 [(0, .ref (ad 4)), (1, .int x1), (2, .int x2)] [.int z0] s (f_X4_child_p28 ln x1 x2 z0 s) := by
  intro x1 x2 z0 s
  unfold f_X4_child_p28
  refine g_istore_n E (lv' := [(3, .int z0), (0, .ref (ad 4)), (1, .int x1), (2, .int x2)]) dX4_child_28 (by decide) rfl ?_
  refine g_iload_n E dX4_child_29 0 rfl ?_
  refine g_if_eq E 56 dX4_child_30 (by decide) ?_ ?_
  · refine g_iconst E (v := (-1)) dX4_child_56 (by decide) ?_
    exact g_iret E dX4_child_57
  · refine g_aload_n E dX4_child_33 1 rfl ?_
    refine gg_4_9 E (hN 4 (by decide)) dX4_child_34 ?_
    refine g_iload_n E dX4_child_37 2 rfl ?_
    refine g_aload_n E dX4_child_38 1 rfl ?_
    refine gg_4_27 E (hN 4 (by decide)) dX4_child_39 ?_
    refine g_imul E dX4_child_42 ?_
    refine g_aload_n E dX4_child_43 1 rfl ?_
    refine gg_4_30 E (hN 4 (by decide)) dX4_child_44 ?_
    refine g_iadd E dX4_child_47 ?_
    refine g_iload_n E dX4_child_48 3 rfl ?_
    refine g_iadd E dX4_child_49 ?_
    refine g_cVi E [.int (((x1 * (s.2 403)) + (s.2 404)) + x2)] rfl (c_X2_get hap (fun x h => hN x (ns_2_4 x h)) ((((x1 * (s.2 403)) + (s.2 404)) + x2)) s) (hN 2 (by decide)) (by decide) rfl rfl mi_X2_get msl_X2_get mw_X2_get rfl ml_4_49 ⟨Nat.le_of_ble_eq_true rfl, Nat.le_of_ble_eq_true rfl⟩ (Nat.le_of_ble_eq_true rfl) dX4_child_50 (fun r6 s5 => ?_)
    refine g_goto E 57 dX4_child_53 (by decide) ?_
    exact g_iret E dX4_child_57
set_option maxHeartbeats 4000000 in
set_option maxRecDepth 20000 in
theorem w_X4_child_p27 (E : dr_E p (dr_rm 2) s0 m args meth c 0 0 A s0.heap D cI cZ ad L cX4_child 4 RX4 (some .int)) (hap : dr_ap ad L) (hN : ∀ x ∈ nd_4, x ∈ L) : ∀ (x1 : Int32) (x2 : Int32) (s : dr_S), dr_G p l e (dr_rm 2) s0 m args below meth c 0 0 A s0.heap D cI cZ ad ln L 4 (dr_Zi D cI cZ ad ln L A below args s0 0 0) 27 [(0, .ref (ad 4)), (1, .int x1), (2, .int x2)] [] s (f_X4_child_p27 ln x1 x2 s) := by
  intro x1 x2 s
  unfold f_X4_child_p27
  refine g_iconst E (v := 0) dX4_child_27 (by decide) ?_
  refine g_sub [0, 1, 2] rfl ?_
  exact w_X4_child_p28 E hap hN x1 x2 0 s
set_option maxHeartbeats 4000000 in
set_option maxRecDepth 20000 in
theorem c_X4_child (hap : dr_ap ad L) (hN : ∀ x ∈ nd_4, x ∈ L) (x1 : Int32) (x2 : Int32) (s : dr_S) : dr_Mi l D cI cZ ad ln L yX4_child cX4_child 4 (some .int) 2 [.ref (ad 4), .int x1, .int x2] s (f_X4_child ln x1 x2 s) := by
  refine dr_meti (own := RX4) (by decide) rfl (Nat.le_of_ble_eq_true rfl) hap ?_
  intro p e s0 m args below meth c A E
  unfold f_X4_child
  refine g_eqL (lv' := [(0, .ref (ad 4)), (1, .int x1), (2, .int x2)]) rfl ?_
  refine g_aload_n E dX4_child_0 0 rfl ?_
  refine g_iload_n E dX4_child_1 1 rfl ?_
  refine g_iconst E (v := 0) dX4_child_2 (by decide) ?_
  refine g_cVi E [.int x1, .int 0] rfl (c_X4_get hap hN x1 0 s) (hN 4 (by decide)) (by decide) rfl rfl mi_X4_get msl_X4_get mw_X4_get rfl ml_4_58 ⟨Nat.le_of_ble_eq_true rfl, Nat.le_of_ble_eq_true rfl⟩ (Nat.le_of_ble_eq_true rfl) dX4_child_3 (fun r2 s1 => ?_)
  refine g_if_le E 27 dX4_child_6 (by decide) ?_ ?_
  · refine g_sub [0, 1, 2] rfl ?_
    exact w_X4_child_p27 E hap hN x1 x2 s1
  · refine g_iload_n E dX4_child_9 2 rfl ?_
    refine g_if_lt E 27 dX4_child_10 (by decide) ?_ ?_
    · refine g_sub [0, 1, 2] rfl ?_
      exact w_X4_child_p27 E hap hN x1 x2 s1
    · refine g_iload_n E dX4_child_13 2 rfl ?_
      refine g_aload_n E dX4_child_14 0 rfl ?_
      refine g_iload_n E dX4_child_15 1 rfl ?_
      refine g_iconst E (v := 1) dX4_child_16 (by decide) ?_
      refine g_cVi E [.int x1, .int 1] rfl (c_X4_get hap hN x1 1 s1) (hN 4 (by decide)) (by decide) rfl rfl mi_X4_get msl_X4_get mw_X4_get rfl ml_4_58 ⟨Nat.le_of_ble_eq_true rfl, Nat.le_of_ble_eq_true rfl⟩ (Nat.le_of_ble_eq_true rfl) dX4_child_17 (fun r4 s3 => ?_)
      refine g_icmp_gt E 27 dX4_child_20 (by decide) ?_ ?_
      · refine g_sub [0, 1, 2] rfl ?_
        exact w_X4_child_p27 E hap hN x1 x2 s3
      · refine g_iconst E (v := 1) dX4_child_23 (by decide) ?_
        refine g_goto E 28 dX4_child_24 (by decide) ?_
        refine g_sub [0, 1, 2] rfl ?_
        exact w_X4_child_p28 E hap hN x1 x2 1 s3
end

theorem dX4_firstOf_0 : decode cX4_firstOf 0 = .ok (.aload_n 0, 1) := by decide +kernel
theorem dX4_firstOf_1 : decode cX4_firstOf 1 = .ok (.invokevirtual 84, 3) := by decide +kernel
theorem dX4_firstOf_4 : decode cX4_firstOf 4 = .ok (.istore_n 2, 1) := by decide +kernel
theorem dX4_firstOf_5 : decode cX4_firstOf 5 = .ok (.iconst 0, 1) := by decide +kernel
theorem dX4_firstOf_6 : decode cX4_firstOf 6 = .ok (.istore_n 3, 1) := by decide +kernel
theorem dX4_firstOf_7 : decode cX4_firstOf 7 = .ok (.iload_n 3, 1) := by decide +kernel
theorem dX4_firstOf_8 : decode cX4_firstOf 8 = .ok (.sipush 256, 3) := by decide +kernel
theorem dX4_firstOf_11 : decode cX4_firstOf 11 = .ok (.if_icmp .ge 26, 3) := by decide +kernel
theorem dX4_firstOf_14 : decode cX4_firstOf 14 = .ok (.aload_n 0, 1) := by decide +kernel
theorem dX4_firstOf_15 : decode cX4_firstOf 15 = .ok (.iload_n 2, 1) := by decide +kernel
theorem dX4_firstOf_16 : decode cX4_firstOf 16 = .ok (.iconst 0, 1) := by decide +kernel
theorem dX4_firstOf_17 : decode cX4_firstOf 17 = .ok (.invokevirtual 58, 3) := by decide +kernel
theorem dX4_firstOf_20 : decode cX4_firstOf 20 = .ok (.iload_n 1, 1) := by decide +kernel
theorem dX4_firstOf_21 : decode cX4_firstOf 21 = .ok (.if_icmp .le 16, 3) := by decide +kernel
theorem dX4_firstOf_24 : decode cX4_firstOf 24 = .ok (.aload_n 0, 1) := by decide +kernel
theorem dX4_firstOf_25 : decode cX4_firstOf 25 = .ok (.iload_n 2, 1) := by decide +kernel
theorem dX4_firstOf_26 : decode cX4_firstOf 26 = .ok (.iconst 0, 1) := by decide +kernel
theorem dX4_firstOf_27 : decode cX4_firstOf 27 = .ok (.invokevirtual 87, 3) := by decide +kernel
theorem dX4_firstOf_30 : decode cX4_firstOf 30 = .ok (.istore_n 2, 1) := by decide +kernel
theorem dX4_firstOf_31 : decode cX4_firstOf 31 = .ok (.iinc 3 1, 3) := by decide +kernel
theorem dX4_firstOf_34 : decode cX4_firstOf 34 = .ok (.goto (-27), 3) := by decide +kernel
theorem dX4_firstOf_37 : decode cX4_firstOf 37 = .ok (.aload_n 0, 1) := by decide +kernel
theorem dX4_firstOf_38 : decode cX4_firstOf 38 = .ok (.iload_n 2, 1) := by decide +kernel
theorem dX4_firstOf_39 : decode cX4_firstOf 39 = .ok (.iconst 0, 1) := by decide +kernel
theorem dX4_firstOf_40 : decode cX4_firstOf 40 = .ok (.invokevirtual 58, 3) := by decide +kernel
theorem dX4_firstOf_43 : decode cX4_firstOf 43 = .ok (.iload_n 1, 1) := by decide +kernel
theorem dX4_firstOf_44 : decode cX4_firstOf 44 = .ok (.if_icmp .ne 7, 3) := by decide +kernel
theorem dX4_firstOf_47 : decode cX4_firstOf 47 = .ok (.iload_n 2, 1) := by decide +kernel
theorem dX4_firstOf_48 : decode cX4_firstOf 48 = .ok (.goto 4, 3) := by decide +kernel
theorem dX4_firstOf_51 : decode cX4_firstOf 51 = .ok (.iconst (-1), 1) := by decide +kernel
theorem dX4_firstOf_52 : decode cX4_firstOf 52 = .ok (.ireturn, 1) := by decide +kernel
def f_X4_firstOf_p37 (ln : Nat → Nat) (x1 : Int32) (x2 : Int32) (s : dr_S) : Option (Int32 × dr_S) := dr_bnd (f_X4_get ln x2 0 s) (fun r9 s8 => (if r9 = x1 then some (x2, s8) else some ((-1), s8)))
def f_X4_firstOf_p7 (ln : Nat → Nat) : Nat → Int32 → Int32 → Int32 → dr_S → Option (Int32 × dr_S)
  | 0, _, _, _, _ => none
  | n + 1, x1, x2, x3, s => (if ((256 : Int32) ≤ x3 : Prop) then (f_X4_firstOf_p37 ln x1 x2 s) else dr_bnd (f_X4_get ln x2 0 s) (fun r4 s3 => (if r4 ≤ x1 then (f_X4_firstOf_p37 ln x1 x2 s3) else dr_bnd (f_X4_child ln x2 0 s3) (fun r6 s5 => dr_let (x3 + 1) (fun y7 => (f_X4_firstOf_p7 ln n x1 r6 y7 s5))))))
def f_X4_firstOf (ln : Nat → Nat) (x1 : Int32) (s : dr_S) : Option (Int32 × dr_S) := dr_bnd (f_X4_top ln  s) (fun r2 s1 => (f_X4_firstOf_p7 ln dr_N x1 r2 0 s1))
section
variable {p : Program} {l : Launch} {e : Env} {s0 : State} {m : MethodId} {args : Array Value} {below : List Frame} {meth : Method} {c : Code} {A : Nat → Prop} {D : va_G} {cI cZ : ClassId} {ad ln : Nat → Nat} {L : List Nat}
set_option maxHeartbeats 4000000 in
set_option maxRecDepth 20000 in
theorem w_X4_firstOf_p37 (E : dr_E p (dr_rm 3) s0 m args meth c 0 0 A s0.heap D cI cZ ad L cX4_firstOf 4 RX4 (some .int)) (hap : dr_ap ad L) (hN : ∀ x ∈ nd_4, x ∈ L) : ∀ (x1 : Int32) (x2 : Int32) (s : dr_S), dr_G p l e (dr_rm 3) s0 m args below meth c 0 0 A s0.heap D cI cZ ad ln L 4 (dr_Zi D cI cZ ad ln L A below args s0 0 0) 37 [(0, .ref (ad 4)), (1, .int x1), (2, .int x2)] [] s (f_X4_firstOf_p37 ln x1 x2 s) := by
  intro x1 x2 s
  unfold f_X4_firstOf_p37
  refine g_aload_n E dX4_firstOf_37 0 rfl ?_
  refine g_iload_n E dX4_firstOf_38 2 rfl ?_
  refine g_iconst E (v := 0) dX4_firstOf_39 (by decide) ?_
  refine g_cVi E [.int x2, .int 0] rfl (c_X4_get hap hN x2 0 s) (hN 4 (by decide)) (by decide) rfl rfl mi_X4_get msl_X4_get mw_X4_get rfl ml_4_58 ⟨Nat.le_of_ble_eq_true rfl, Nat.le_of_ble_eq_true rfl⟩ (Nat.le_of_ble_eq_true rfl) dX4_firstOf_40 (fun r9 s8 => ?_)
  refine g_iload_n E dX4_firstOf_43 1 rfl ?_
  refine g_icmp_ne E 51 dX4_firstOf_44 (by decide) ?_ ?_
  · refine g_iconst E (v := (-1)) dX4_firstOf_51 (by decide) ?_
    exact g_iret E dX4_firstOf_52
  · refine g_iload_n E dX4_firstOf_47 2 rfl ?_
    refine g_goto E 52 dX4_firstOf_48 (by decide) ?_
    exact g_iret E dX4_firstOf_52
set_option maxHeartbeats 4000000 in
set_option maxRecDepth 20000 in
theorem w_X4_firstOf_p7 (E : dr_E p (dr_rm 3) s0 m args meth c 0 0 A s0.heap D cI cZ ad L cX4_firstOf 4 RX4 (some .int)) (hap : dr_ap ad L) (hN : ∀ x ∈ nd_4, x ∈ L) : ∀ (n : Nat) (x1 : Int32) (x2 : Int32) (x3 : Int32) (s : dr_S), dr_G p l e (dr_rm 3) s0 m args below meth c 0 0 A s0.heap D cI cZ ad ln L 4 (dr_Zi D cI cZ ad ln L A below args s0 0 0) 7 [(0, .ref (ad 4)), (1, .int x1), (2, .int x2), (3, .int x3)] [] s (f_X4_firstOf_p7 ln n x1 x2 x3 s) := by
  intro n
  induction n with
  | zero =>
    intro x1 x2 x3 s
    rw [f_X4_firstOf_p7]
    exact g_none
  | succ n hkb7 =>
    intro x1 x2 x3 s
    rw [f_X4_firstOf_p7]
    refine g_iload_n E dX4_firstOf_7 3 rfl ?_
    refine g_sipush E (v := 256) dX4_firstOf_8 (by decide) ?_
    refine g_icmp_ge E 37 dX4_firstOf_11 (by decide) ?_ ?_
    · refine g_sub [0, 1, 2] rfl ?_
      exact w_X4_firstOf_p37 E hap hN x1 x2 s
    · refine g_aload_n E dX4_firstOf_14 0 rfl ?_
      refine g_iload_n E dX4_firstOf_15 2 rfl ?_
      refine g_iconst E (v := 0) dX4_firstOf_16 (by decide) ?_
      refine g_cVi E [.int x2, .int 0] rfl (c_X4_get hap hN x2 0 s) (hN 4 (by decide)) (by decide) rfl rfl mi_X4_get msl_X4_get mw_X4_get rfl ml_4_58 ⟨Nat.le_of_ble_eq_true rfl, Nat.le_of_ble_eq_true rfl⟩ (Nat.le_of_ble_eq_true rfl) dX4_firstOf_17 (fun r4 s3 => ?_)
      refine g_iload_n E dX4_firstOf_20 1 rfl ?_
      refine g_icmp_le E 37 dX4_firstOf_21 (by decide) ?_ ?_
      · refine g_sub [0, 1, 2] rfl ?_
        exact w_X4_firstOf_p37 E hap hN x1 x2 s3
      · refine g_aload_n E dX4_firstOf_24 0 rfl ?_
        refine g_iload_n E dX4_firstOf_25 2 rfl ?_
        refine g_iconst E (v := 0) dX4_firstOf_26 (by decide) ?_
        refine g_cVi E [.int x2, .int 0] rfl (c_X4_child hap hN x2 0 s3) (hN 4 (by decide)) (by decide) rfl rfl mi_X4_child msl_X4_child mw_X4_child rfl ml_4_87 ⟨Nat.le_of_ble_eq_true rfl, Nat.le_of_ble_eq_true rfl⟩ (Nat.le_of_ble_eq_true rfl) dX4_firstOf_27 (fun r6 s5 => ?_)
        refine g_istore_n E (lv' := [(2, .int r6), (0, .ref (ad 4)), (1, .int x1), (3, .int x3)]) dX4_firstOf_30 (by decide) rfl ?_
        refine g_iinc E (lv' := []) (lv'' := fun y7 => [(3, .int y7), (2, .int r6), (0, .ref (ad 4)), (1, .int x1)]) (v := 1) dX4_firstOf_31 3 rfl (by decide) (by decide) (fun _ => rfl) (fun y7 => ?_)
        refine g_goto E 7 dX4_firstOf_34 (by decide) ?_
        refine g_sub [2, 3, 1, 0] rfl ?_
        exact hkb7 x1 r6 y7 s5
set_option maxHeartbeats 4000000 in
set_option maxRecDepth 20000 in
theorem c_X4_firstOf (hap : dr_ap ad L) (hN : ∀ x ∈ nd_4, x ∈ L) (x1 : Int32) (s : dr_S) : dr_Mi l D cI cZ ad ln L yX4_firstOf cX4_firstOf 4 (some .int) 3 [.ref (ad 4), .int x1] s (f_X4_firstOf ln x1 s) := by
  refine dr_meti (own := RX4) (by decide) rfl (Nat.le_of_ble_eq_true rfl) hap ?_
  intro p e s0 m args below meth c A E
  unfold f_X4_firstOf
  refine g_eqL (lv' := [(0, .ref (ad 4)), (1, .int x1)]) rfl ?_
  refine g_aload_n E dX4_firstOf_0 0 rfl ?_
  refine g_cVi E [] rfl (c_X4_top hap hN  s) (hN 4 (by decide)) (by decide) rfl rfl mi_X4_top msl_X4_top mw_X4_top rfl ml_4_84 ⟨Nat.le_of_ble_eq_true rfl, Nat.le_of_ble_eq_true rfl⟩ (Nat.le_of_ble_eq_true rfl) dX4_firstOf_1 (fun r2 s1 => ?_)
  refine g_istore_n E (lv' := [(2, .int r2), (0, .ref (ad 4)), (1, .int x1)]) dX4_firstOf_4 (by decide) rfl ?_
  refine g_iconst E (v := 0) dX4_firstOf_5 (by decide) ?_
  refine g_istore_n E (lv' := [(3, .int 0), (2, .int r2), (0, .ref (ad 4)), (1, .int x1)]) dX4_firstOf_6 (by decide) rfl ?_
  refine g_sub [2, 3, 1, 0] rfl ?_
  exact w_X4_firstOf_p7 E hap hN dr_N x1 r2 0 s1
end

theorem dX4_heading_0 : decode cX4_heading 0 = .ok (.iload_n 2, 1) := by decide +kernel
theorem dX4_heading_1 : decode cX4_heading 1 = .ok (.ifCond .lt 33, 3) := by decide +kernel
theorem dX4_heading_4 : decode cX4_heading 4 = .ok (.iload_n 2, 1) := by decide +kernel
theorem dX4_heading_5 : decode cX4_heading 5 = .ok (.aload_n 0, 1) := by decide +kernel
theorem dX4_heading_6 : decode cX4_heading 6 = .ok (.iload_n 1, 1) := by decide +kernel
theorem dX4_heading_7 : decode cX4_heading 7 = .ok (.iconst 1, 1) := by decide +kernel
theorem dX4_heading_8 : decode cX4_heading 8 = .ok (.invokevirtual 58, 3) := by decide +kernel
theorem dX4_heading_11 : decode cX4_heading 11 = .ok (.if_icmp .ge 23, 3) := by decide +kernel
theorem dX4_heading_14 : decode cX4_heading 14 = .ok (.aload_n 0, 1) := by decide +kernel
theorem dX4_heading_15 : decode cX4_heading 15 = .ok (.getfield 9, 3) := by decide +kernel
theorem dX4_heading_18 : decode cX4_heading 18 = .ok (.iload_n 1, 1) := by decide +kernel
theorem dX4_heading_19 : decode cX4_heading 19 = .ok (.aload_n 0, 1) := by decide +kernel
theorem dX4_heading_20 : decode cX4_heading 20 = .ok (.getfield 27, 3) := by decide +kernel
theorem dX4_heading_23 : decode cX4_heading 23 = .ok (.imul, 1) := by decide +kernel
theorem dX4_heading_24 : decode cX4_heading 24 = .ok (.iconst 5, 1) := by decide +kernel
theorem dX4_heading_25 : decode cX4_heading 25 = .ok (.iadd, 1) := by decide +kernel
theorem dX4_heading_26 : decode cX4_heading 26 = .ok (.iload_n 2, 1) := by decide +kernel
theorem dX4_heading_27 : decode cX4_heading 27 = .ok (.iadd, 1) := by decide +kernel
theorem dX4_heading_28 : decode cX4_heading 28 = .ok (.invokevirtual 49, 3) := by decide +kernel
theorem dX4_heading_31 : decode cX4_heading 31 = .ok (.goto 4, 3) := by decide +kernel
theorem dX4_heading_34 : decode cX4_heading 34 = .ok (.iconst (-1), 1) := by decide +kernel
theorem dX4_heading_35 : decode cX4_heading 35 = .ok (.ireturn, 1) := by decide +kernel
def f_X4_heading (ln : Nat → Nat) (x1 : Int32) (x2 : Int32) (s : dr_S) : Option (Int32 × dr_S) := (if x2 < 0 then some ((-1), s) else dr_bnd (f_X4_get ln x1 1 s) (fun r2 s1 => (if r2 ≤ x2 then some ((-1), s1) else dr_bnd (f_X2_get ln ((((x1 * (s1.2 403)) + 5) + x2)) s1) (fun r4 s3 => some (r4, s3)))))
section
variable {p : Program} {l : Launch} {e : Env} {s0 : State} {m : MethodId} {args : Array Value} {below : List Frame} {meth : Method} {c : Code} {A : Nat → Prop} {D : va_G} {cI cZ : ClassId} {ad ln : Nat → Nat} {L : List Nat}
set_option maxHeartbeats 4000000 in
set_option maxRecDepth 20000 in
theorem c_X4_heading (hap : dr_ap ad L) (hN : ∀ x ∈ nd_4, x ∈ L) (x1 : Int32) (x2 : Int32) (s : dr_S) : dr_Mi l D cI cZ ad ln L yX4_heading cX4_heading 3 (some .int) 2 [.ref (ad 4), .int x1, .int x2] s (f_X4_heading ln x1 x2 s) := by
  refine dr_meti (own := RX4) (by decide) rfl (Nat.le_of_ble_eq_true rfl) hap ?_
  intro p e s0 m args below meth c A E
  unfold f_X4_heading
  refine g_eqL (lv' := [(0, .ref (ad 4)), (1, .int x1), (2, .int x2)]) rfl ?_
  refine g_iload_n E dX4_heading_0 2 rfl ?_
  refine g_if_lt E 34 dX4_heading_1 (by decide) ?_ ?_
  · refine g_iconst E (v := (-1)) dX4_heading_34 (by decide) ?_
    exact g_iret E dX4_heading_35
  · refine g_iload_n E dX4_heading_4 2 rfl ?_
    refine g_aload_n E dX4_heading_5 0 rfl ?_
    refine g_iload_n E dX4_heading_6 1 rfl ?_
    refine g_iconst E (v := 1) dX4_heading_7 (by decide) ?_
    refine g_cVi E [.int x1, .int 1] rfl (c_X4_get hap hN x1 1 s) (hN 4 (by decide)) (by decide) rfl rfl mi_X4_get msl_X4_get mw_X4_get rfl ml_4_58 ⟨Nat.le_of_ble_eq_true rfl, Nat.le_of_ble_eq_true rfl⟩ (Nat.le_of_ble_eq_true rfl) dX4_heading_8 (fun r2 s1 => ?_)
    refine g_icmp_ge E 34 dX4_heading_11 (by decide) ?_ ?_
    · refine g_iconst E (v := (-1)) dX4_heading_34 (by decide) ?_
      exact g_iret E dX4_heading_35
    · refine g_aload_n E dX4_heading_14 0 rfl ?_
      refine gg_4_9 E (hN 4 (by decide)) dX4_heading_15 ?_
      refine g_iload_n E dX4_heading_18 1 rfl ?_
      refine g_aload_n E dX4_heading_19 0 rfl ?_
      refine gg_4_27 E (hN 4 (by decide)) dX4_heading_20 ?_
      refine g_imul E dX4_heading_23 ?_
      refine g_iconst E (v := 5) dX4_heading_24 (by decide) ?_
      refine g_iadd E dX4_heading_25 ?_
      refine g_iload_n E dX4_heading_26 2 rfl ?_
      refine g_iadd E dX4_heading_27 ?_
      refine g_cVi E [.int (((x1 * (s1.2 403)) + 5) + x2)] rfl (c_X2_get hap (fun x h => hN x (ns_2_4 x h)) ((((x1 * (s1.2 403)) + 5) + x2)) s1) (hN 2 (by decide)) (by decide) rfl rfl mi_X2_get msl_X2_get mw_X2_get rfl ml_4_49 ⟨Nat.le_of_ble_eq_true rfl, Nat.le_of_ble_eq_true rfl⟩ (Nat.le_of_ble_eq_true rfl) dX4_heading_28 (fun r4 s3 => ?_)
      refine g_goto E 35 dX4_heading_31 (by decide) ?_
      exact g_iret E dX4_heading_35
end

theorem dX5_isAhead_0 : decode cX5_isAhead 0 = .ok (.iconst 0, 1) := by decide +kernel
theorem dX5_isAhead_1 : decode cX5_isAhead 1 = .ok (.istore_n 3, 1) := by decide +kernel
theorem dX5_isAhead_2 : decode cX5_isAhead 2 = .ok (.iload_n 3, 1) := by decide +kernel
theorem dX5_isAhead_3 : decode cX5_isAhead 3 = .ok (.aload_n 0, 1) := by decide +kernel
theorem dX5_isAhead_4 : decode cX5_isAhead 4 = .ok (.getfield 21, 3) := by decide +kernel
theorem dX5_isAhead_7 : decode cX5_isAhead 7 = .ok (.if_icmp .ge 119, 3) := by decide +kernel
theorem dX5_isAhead_10 : decode cX5_isAhead 10 = .ok (.iload_n 3, 1) := by decide +kernel
theorem dX5_isAhead_11 : decode cX5_isAhead 11 = .ok (.iconst 4, 1) := by decide +kernel
theorem dX5_isAhead_12 : decode cX5_isAhead 12 = .ok (.if_icmp .ge 114, 3) := by decide +kernel
theorem dX5_isAhead_15 : decode cX5_isAhead 15 = .ok (.aload_n 0, 1) := by decide +kernel
theorem dX5_isAhead_16 : decode cX5_isAhead 16 = .ok (.getfield 15, 3) := by decide +kernel
theorem dX5_isAhead_19 : decode cX5_isAhead 19 = .ok (.iload_n 3, 1) := by decide +kernel
theorem dX5_isAhead_20 : decode cX5_isAhead 20 = .ok (.iaload, 1) := by decide +kernel
theorem dX5_isAhead_21 : decode cX5_isAhead 21 = .ok (.ifCond .le 7, 3) := by decide +kernel
theorem dX5_isAhead_24 : decode cX5_isAhead 24 = .ok (.iconst 1, 1) := by decide +kernel
theorem dX5_isAhead_25 : decode cX5_isAhead 25 = .ok (.goto 4, 3) := by decide +kernel
theorem dX5_isAhead_28 : decode cX5_isAhead 28 = .ok (.iconst 0, 1) := by decide +kernel
theorem dX5_isAhead_29 : decode cX5_isAhead 29 = .ok (.istore 4, 2) := by decide +kernel
theorem dX5_isAhead_31 : decode cX5_isAhead 31 = .ok (.iload 4, 2) := by decide +kernel
theorem dX5_isAhead_33 : decode cX5_isAhead 33 = .ok (.ifCond .eq 12, 3) := by decide +kernel
theorem dX5_isAhead_36 : decode cX5_isAhead 36 = .ok (.aload_n 0, 1) := by decide +kernel
theorem dX5_isAhead_37 : decode cX5_isAhead 37 = .ok (.getfield 15, 3) := by decide +kernel
theorem dX5_isAhead_40 : decode cX5_isAhead 40 = .ok (.iload_n 3, 1) := by decide +kernel
theorem dX5_isAhead_41 : decode cX5_isAhead 41 = .ok (.iaload, 1) := by decide +kernel
theorem dX5_isAhead_42 : decode cX5_isAhead 42 = .ok (.goto 10, 3) := by decide +kernel
theorem dX5_isAhead_45 : decode cX5_isAhead 45 = .ok (.aload_n 0, 1) := by decide +kernel
theorem dX5_isAhead_46 : decode cX5_isAhead 46 = .ok (.getfield 15, 3) := by decide +kernel
theorem dX5_isAhead_49 : decode cX5_isAhead 49 = .ok (.iload_n 3, 1) := by decide +kernel
theorem dX5_isAhead_50 : decode cX5_isAhead 50 = .ok (.iaload, 1) := by decide +kernel
theorem dX5_isAhead_51 : decode cX5_isAhead 51 = .ok (.ineg, 1) := by decide +kernel
theorem dX5_isAhead_52 : decode cX5_isAhead 52 = .ok (.istore 5, 2) := by decide +kernel
theorem dX5_isAhead_54 : decode cX5_isAhead 54 = .ok (.iload 5, 2) := by decide +kernel
theorem dX5_isAhead_56 : decode cX5_isAhead 56 = .ok (.ifCond .ne 7, 3) := by decide +kernel
theorem dX5_isAhead_59 : decode cX5_isAhead 59 = .ok (.iconst 0, 1) := by decide +kernel
theorem dX5_isAhead_60 : decode cX5_isAhead 60 = .ok (.goto 10, 3) := by decide +kernel
theorem dX5_isAhead_63 : decode cX5_isAhead 63 = .ok (.iload_n 1, 1) := by decide +kernel
theorem dX5_isAhead_64 : decode cX5_isAhead 64 = .ok (.iload 5, 2) := by decide +kernel
theorem dX5_isAhead_66 : decode cX5_isAhead 66 = .ok (.idiv, 1) := by decide +kernel
theorem dX5_isAhead_67 : decode cX5_isAhead 67 = .ok (.bipush 10, 2) := by decide +kernel
theorem dX5_isAhead_69 : decode cX5_isAhead 69 = .ok (.irem, 1) := by decide +kernel
theorem dX5_isAhead_70 : decode cX5_isAhead 70 = .ok (.istore 6, 2) := by decide +kernel
theorem dX5_isAhead_72 : decode cX5_isAhead 72 = .ok (.iload 5, 2) := by decide +kernel
theorem dX5_isAhead_74 : decode cX5_isAhead 74 = .ok (.ifCond .ne 7, 3) := by decide +kernel
theorem dX5_isAhead_77 : decode cX5_isAhead 77 = .ok (.iconst 0, 1) := by decide +kernel
theorem dX5_isAhead_78 : decode cX5_isAhead 78 = .ok (.goto 10, 3) := by decide +kernel
theorem dX5_isAhead_81 : decode cX5_isAhead 81 = .ok (.iload_n 2, 1) := by decide +kernel
theorem dX5_isAhead_82 : decode cX5_isAhead 82 = .ok (.iload 5, 2) := by decide +kernel
theorem dX5_isAhead_84 : decode cX5_isAhead 84 = .ok (.idiv, 1) := by decide +kernel
theorem dX5_isAhead_85 : decode cX5_isAhead 85 = .ok (.bipush 10, 2) := by decide +kernel
theorem dX5_isAhead_87 : decode cX5_isAhead 87 = .ok (.irem, 1) := by decide +kernel
theorem dX5_isAhead_88 : decode cX5_isAhead 88 = .ok (.istore 7, 2) := by decide +kernel
theorem dX5_isAhead_90 : decode cX5_isAhead 90 = .ok (.iload 6, 2) := by decide +kernel
theorem dX5_isAhead_92 : decode cX5_isAhead 92 = .ok (.iload 7, 2) := by decide +kernel
theorem dX5_isAhead_94 : decode cX5_isAhead 94 = .ok (.if_icmp .eq 26, 3) := by decide +kernel
theorem dX5_isAhead_97 : decode cX5_isAhead 97 = .ok (.iload 4, 2) := by decide +kernel
theorem dX5_isAhead_99 : decode cX5_isAhead 99 = .ok (.iload 6, 2) := by decide +kernel
theorem dX5_isAhead_101 : decode cX5_isAhead 101 = .ok (.iload 7, 2) := by decide +kernel
theorem dX5_isAhead_103 : decode cX5_isAhead 103 = .ok (.if_icmp .ge 7, 3) := by decide +kernel
theorem dX5_isAhead_106 : decode cX5_isAhead 106 = .ok (.iconst 1, 1) := by decide +kernel
theorem dX5_isAhead_107 : decode cX5_isAhead 107 = .ok (.goto 4, 3) := by decide +kernel
theorem dX5_isAhead_110 : decode cX5_isAhead 110 = .ok (.iconst 0, 1) := by decide +kernel
theorem dX5_isAhead_111 : decode cX5_isAhead 111 = .ok (.if_icmp .ne 7, 3) := by decide +kernel
theorem dX5_isAhead_114 : decode cX5_isAhead 114 = .ok (.iconst 1, 1) := by decide +kernel
theorem dX5_isAhead_115 : decode cX5_isAhead 115 = .ok (.goto 4, 3) := by decide +kernel
theorem dX5_isAhead_118 : decode cX5_isAhead 118 = .ok (.iconst 0, 1) := by decide +kernel
theorem dX5_isAhead_119 : decode cX5_isAhead 119 = .ok (.ireturn, 1) := by decide +kernel
theorem dX5_isAhead_120 : decode cX5_isAhead 120 = .ok (.iinc 3 1, 3) := by decide +kernel
theorem dX5_isAhead_123 : decode cX5_isAhead 123 = .ok (.goto (-121), 3) := by decide +kernel
theorem dX5_isAhead_126 : decode cX5_isAhead 126 = .ok (.iload_n 1, 1) := by decide +kernel
theorem dX5_isAhead_127 : decode cX5_isAhead 127 = .ok (.iload_n 2, 1) := by decide +kernel
theorem dX5_isAhead_128 : decode cX5_isAhead 128 = .ok (.if_icmp .ge 7, 3) := by decide +kernel
theorem dX5_isAhead_131 : decode cX5_isAhead 131 = .ok (.iconst 1, 1) := by decide +kernel
theorem dX5_isAhead_132 : decode cX5_isAhead 132 = .ok (.goto 4, 3) := by decide +kernel
theorem dX5_isAhead_135 : decode cX5_isAhead 135 = .ok (.iconst 0, 1) := by decide +kernel
theorem dX5_isAhead_136 : decode cX5_isAhead 136 = .ok (.ireturn, 1) := by decide +kernel
def f_X5_isAhead_p126 (ln : Nat → Nat) (x1 : Int32) (x2 : Int32) (s : dr_S) : Option (Int32 × dr_S) := (if x2 ≤ x1 then some (0, s) else some (1, s))
def f_X5_isAhead_p111 (ln : Nat → Nat) (z0 : Int32) (z1 : Int32) (s : dr_S) : Option (Int32 × dr_S) := (if z1 = z0 then some (1, s) else some (0, s))
def f_X5_isAhead_p88 (ln : Nat → Nat) (kb2 : Int32 → Int32 → Int32 → dr_S → Option (Int32 × dr_S)) (x1 : Int32) (x2 : Int32) (x3 : Int32) (x4 : Int32) (x6 : Int32) (z0 : Int32) (s : dr_S) : Option (Int32 × dr_S) := (if x6 = z0 then dr_let (x3 + 1) (fun y4 => (kb2 x1 x2 y4 s)) else (if z0 ≤ x6 then (f_X5_isAhead_p111 ln 0 x4 s) else (f_X5_isAhead_p111 ln 1 x4 s)))
def f_X5_isAhead_p70 (ln : Nat → Nat) (kb2 : Int32 → Int32 → Int32 → dr_S → Option (Int32 × dr_S)) (x1 : Int32) (x2 : Int32) (x3 : Int32) (x4 : Int32) (x5 : Int32) (z0 : Int32) (s : dr_S) : Option (Int32 × dr_S) := (if x5 = 0 then (f_X5_isAhead_p88 ln kb2 x1 x2 x3 x4 z0 0 s) else dr_nz x5 ((f_X5_isAhead_p88 ln kb2 x1 x2 x3 x4 z0 (((x2 / x5) - (x2 / x5) / 10 * 10)) s)))
def f_X5_isAhead_p52 (ln : Nat → Nat) (kb2 : Int32 → Int32 → Int32 → dr_S → Option (Int32 × dr_S)) (x1 : Int32) (x2 : Int32) (x3 : Int32) (x4 : Int32) (z0 : Int32) (s : dr_S) : Option (Int32 × dr_S) := (if z0 = 0 then (f_X5_isAhead_p70 ln kb2 x1 x2 x3 x4 z0 0 s) else dr_nz z0 ((f_X5_isAhead_p70 ln kb2 x1 x2 x3 x4 z0 (((x1 / z0) - (x1 / z0) / 10 * 10)) s)))
def f_X5_isAhead_p29 (ln : Nat → Nat) (kb2 : Int32 → Int32 → Int32 → dr_S → Option (Int32 × dr_S)) (x1 : Int32) (x2 : Int32) (x3 : Int32) (z0 : Int32) (s : dr_S) : Option (Int32 × dr_S) := (if z0 = 0 then (dr_rd ln s 18 x3).bind (fun v2 => (f_X5_isAhead_p52 ln kb2 x1 x2 x3 z0 ((-v2)) s)) else (dr_rd ln s 18 x3).bind (fun v3 => (f_X5_isAhead_p52 ln kb2 x1 x2 x3 z0 v3 s)))
def f_X5_isAhead_p2 (ln : Nat → Nat) : Nat → Int32 → Int32 → Int32 → dr_S → Option (Int32 × dr_S)
  | 0, _, _, _, _ => none
  | n + 1, x1, x2, x3, s => (if (s.2 503) ≤ x3 then (f_X5_isAhead_p126 ln x1 x2 s) else (if ((4 : Int32) ≤ x3 : Prop) then (f_X5_isAhead_p126 ln x1 x2 s) else (dr_rd ln s 18 x3).bind (fun v1 => (if v1 ≤ 0 then (f_X5_isAhead_p29 ln (f_X5_isAhead_p2 ln n) x1 x2 x3 0 s) else (f_X5_isAhead_p29 ln (f_X5_isAhead_p2 ln n) x1 x2 x3 1 s)))))
def f_X5_isAhead (ln : Nat → Nat) (x1 : Int32) (x2 : Int32) (s : dr_S) : Option (Int32 × dr_S) := (f_X5_isAhead_p2 ln dr_N x1 x2 0 s)
section
variable {p : Program} {l : Launch} {e : Env} {s0 : State} {m : MethodId} {args : Array Value} {below : List Frame} {meth : Method} {c : Code} {A : Nat → Prop} {D : va_G} {cI cZ : ClassId} {ad ln : Nat → Nat} {L : List Nat}
set_option maxHeartbeats 4000000 in
set_option maxRecDepth 20000 in
theorem w_X5_isAhead_p126 (E : dr_E p (dr_rm 0) s0 m args meth c 0 0 A s0.heap D cI cZ ad L cX5_isAhead 8 RX5 (some .boolean)) (hap : dr_ap ad L) (hN : ∀ x ∈ nd_5, x ∈ L) : ∀ (x1 : Int32) (x2 : Int32) (s : dr_S), dr_G p l e (dr_rm 0) s0 m args below meth c 0 0 A s0.heap D cI cZ ad ln L 8 (dr_Zi D cI cZ ad ln L A below args s0 0 0) 126 [(1, .int x1), (2, .int x2)] [] s (f_X5_isAhead_p126 ln x1 x2 s) := by
  intro x1 x2 s
  unfold f_X5_isAhead_p126
  refine g_iload_n E dX5_isAhead_126 0 rfl ?_
  refine g_iload_n E dX5_isAhead_127 1 rfl ?_
  refine g_icmp_ge E 135 dX5_isAhead_128 (by decide) ?_ ?_
  · refine g_iconst E (v := 0) dX5_isAhead_135 (by decide) ?_
    exact g_zret E dX5_isAhead_136 (Or.inl rfl)
  · refine g_iconst E (v := 1) dX5_isAhead_131 (by decide) ?_
    refine g_goto E 136 dX5_isAhead_132 (by decide) ?_
    exact g_zret E dX5_isAhead_136 (Or.inr rfl)
set_option maxHeartbeats 4000000 in
set_option maxRecDepth 20000 in
theorem w_X5_isAhead_p111 (E : dr_E p (dr_rm 0) s0 m args meth c 0 0 A s0.heap D cI cZ ad L cX5_isAhead 8 RX5 (some .boolean)) (hap : dr_ap ad L) (hN : ∀ x ∈ nd_5, x ∈ L) : ∀ (z0 : Int32) (z1 : Int32) (s : dr_S), dr_G p l e (dr_rm 0) s0 m args below meth c 0 0 A s0.heap D cI cZ ad ln L 8 (dr_Zi D cI cZ ad ln L A below args s0 0 0) 111 [] [.int z0, .int z1] s (f_X5_isAhead_p111 ln z0 z1 s) := by
  intro z0 z1 s
  unfold f_X5_isAhead_p111
  refine g_icmp_ne E 118 dX5_isAhead_111 (by decide) ?_ ?_
  · refine g_iconst E (v := 0) dX5_isAhead_118 (by decide) ?_
    exact g_zret E dX5_isAhead_119 (Or.inl rfl)
  · refine g_iconst E (v := 1) dX5_isAhead_114 (by decide) ?_
    refine g_goto E 119 dX5_isAhead_115 (by decide) ?_
    exact g_zret E dX5_isAhead_119 (Or.inr rfl)
set_option maxHeartbeats 4000000 in
set_option maxRecDepth 20000 in
theorem w_X5_isAhead_p88 {kb2 : Int32 → Int32 → Int32 → dr_S → Option (Int32 × dr_S)} (E : dr_E p (dr_rm 0) s0 m args meth c 0 0 A s0.heap D cI cZ ad L cX5_isAhead 8 RX5 (some .boolean)) (hap : dr_ap ad L) (hN : ∀ x ∈ nd_5, x ∈ L) (hkb2 : ∀ (x1 : Int32) (x2 : Int32) (x3 : Int32) (s : dr_S), dr_G p l e (dr_rm 0) s0 m args below meth c 0 0 A s0.heap D cI cZ ad ln L 8 (dr_Zi D cI cZ ad ln L A below args s0 0 0) 2 [(0, .ref (ad 5)), (1, .int x1), (2, .int x2), (3, .int x3)] [] s (kb2 x1 x2 x3 s)) : ∀ (x1 : Int32) (x2 : Int32) (x3 : Int32) (x4 : Int32) (x6 : Int32) (z0 : Int32) (s : dr_S), dr_G p l e (dr_rm 0) s0 m args below meth c 0 0 A s0.heap D cI cZ ad ln L 8 (dr_Zi D cI cZ ad ln L A below args s0 0 0) 88 [(0, .ref (ad 5)), (1, .int x1), (2, .int x2), (3, .int x3), (4, .int x4), (6, .int x6)] [.int z0] s (f_X5_isAhead_p88 ln kb2 x1 x2 x3 x4 x6 z0 s) := by
  intro x1 x2 x3 x4 x6 z0 s
  unfold f_X5_isAhead_p88
  refine g_istore E (lv' := [(7, .int z0), (0, .ref (ad 5)), (1, .int x1), (2, .int x2), (3, .int x3), (4, .int x4), (6, .int x6)]) dX5_isAhead_88 (by decide) rfl ?_
  refine g_iload E dX5_isAhead_90 6 rfl ?_
  refine g_iload E dX5_isAhead_92 0 rfl ?_
  refine g_icmp_eq E 120 dX5_isAhead_94 (by decide) ?_ ?_
  · refine g_iinc E (lv' := []) (lv'' := fun y4 => [(3, .int y4), (7, .int z0), (0, .ref (ad 5)), (1, .int x1), (2, .int x2), (4, .int x4), (6, .int x6)]) (v := 1) dX5_isAhead_120 4 rfl (by decide) (by decide) (fun _ => rfl) (fun y4 => ?_)
    refine g_goto E 2 dX5_isAhead_123 (by decide) ?_
    refine g_sub [2, 3, 4, 0] rfl ?_
    exact hkb2 x1 x2 y4 s
  · refine g_iload E dX5_isAhead_97 5 rfl ?_
    refine g_iload E dX5_isAhead_99 6 rfl ?_
    refine g_iload E dX5_isAhead_101 0 rfl ?_
    refine g_icmp_ge E 110 dX5_isAhead_103 (by decide) ?_ ?_
    · refine g_iconst E (v := 0) dX5_isAhead_110 (by decide) ?_
      refine g_sub [] rfl ?_
      exact w_X5_isAhead_p111 E hap hN 0 x4 s
    · refine g_iconst E (v := 1) dX5_isAhead_106 (by decide) ?_
      refine g_goto E 111 dX5_isAhead_107 (by decide) ?_
      refine g_sub [] rfl ?_
      exact w_X5_isAhead_p111 E hap hN 1 x4 s
set_option maxHeartbeats 4000000 in
set_option maxRecDepth 20000 in
theorem w_X5_isAhead_p70 {kb2 : Int32 → Int32 → Int32 → dr_S → Option (Int32 × dr_S)} (E : dr_E p (dr_rm 0) s0 m args meth c 0 0 A s0.heap D cI cZ ad L cX5_isAhead 8 RX5 (some .boolean)) (hap : dr_ap ad L) (hN : ∀ x ∈ nd_5, x ∈ L) (hkb2 : ∀ (x1 : Int32) (x2 : Int32) (x3 : Int32) (s : dr_S), dr_G p l e (dr_rm 0) s0 m args below meth c 0 0 A s0.heap D cI cZ ad ln L 8 (dr_Zi D cI cZ ad ln L A below args s0 0 0) 2 [(0, .ref (ad 5)), (1, .int x1), (2, .int x2), (3, .int x3)] [] s (kb2 x1 x2 x3 s)) : ∀ (x1 : Int32) (x2 : Int32) (x3 : Int32) (x4 : Int32) (x5 : Int32) (z0 : Int32) (s : dr_S), dr_G p l e (dr_rm 0) s0 m args below meth c 0 0 A s0.heap D cI cZ ad ln L 8 (dr_Zi D cI cZ ad ln L A below args s0 0 0) 70 [(0, .ref (ad 5)), (1, .int x1), (2, .int x2), (3, .int x3), (4, .int x4), (5, .int x5)] [.int z0] s (f_X5_isAhead_p70 ln kb2 x1 x2 x3 x4 x5 z0 s) := by
  intro x1 x2 x3 x4 x5 z0 s
  unfold f_X5_isAhead_p70
  refine g_istore E (lv' := [(6, .int z0), (0, .ref (ad 5)), (1, .int x1), (2, .int x2), (3, .int x3), (4, .int x4), (5, .int x5)]) dX5_isAhead_70 (by decide) rfl ?_
  refine g_iload E dX5_isAhead_72 6 rfl ?_
  refine g_if_ne E 81 dX5_isAhead_74 (by decide) ?_ ?_
  · refine g_iload_n E dX5_isAhead_81 3 rfl ?_
    refine g_iload E dX5_isAhead_82 6 rfl ?_
    refine g_idivN E dX5_isAhead_84 ?_
    refine g_bipush E (v := 10) dX5_isAhead_85 (by decide) ?_
    refine g_irem E dX5_isAhead_87 (by decide) ?_
    refine g_sub [1, 2, 3, 4, 5, 0] rfl ?_
    exact w_X5_isAhead_p88 E hap hN hkb2 x1 x2 x3 x4 z0 (((x2 / x5) - (x2 / x5) / 10 * 10)) s
  · refine g_iconst E (v := 0) dX5_isAhead_77 (by decide) ?_
    refine g_goto E 88 dX5_isAhead_78 (by decide) ?_
    refine g_sub [1, 2, 3, 4, 5, 0] rfl ?_
    exact w_X5_isAhead_p88 E hap hN hkb2 x1 x2 x3 x4 z0 0 s
set_option maxHeartbeats 4000000 in
set_option maxRecDepth 20000 in
theorem w_X5_isAhead_p52 {kb2 : Int32 → Int32 → Int32 → dr_S → Option (Int32 × dr_S)} (E : dr_E p (dr_rm 0) s0 m args meth c 0 0 A s0.heap D cI cZ ad L cX5_isAhead 8 RX5 (some .boolean)) (hap : dr_ap ad L) (hN : ∀ x ∈ nd_5, x ∈ L) (hkb2 : ∀ (x1 : Int32) (x2 : Int32) (x3 : Int32) (s : dr_S), dr_G p l e (dr_rm 0) s0 m args below meth c 0 0 A s0.heap D cI cZ ad ln L 8 (dr_Zi D cI cZ ad ln L A below args s0 0 0) 2 [(0, .ref (ad 5)), (1, .int x1), (2, .int x2), (3, .int x3)] [] s (kb2 x1 x2 x3 s)) : ∀ (x1 : Int32) (x2 : Int32) (x3 : Int32) (x4 : Int32) (z0 : Int32) (s : dr_S), dr_G p l e (dr_rm 0) s0 m args below meth c 0 0 A s0.heap D cI cZ ad ln L 8 (dr_Zi D cI cZ ad ln L A below args s0 0 0) 52 [(0, .ref (ad 5)), (1, .int x1), (2, .int x2), (3, .int x3), (4, .int x4)] [.int z0] s (f_X5_isAhead_p52 ln kb2 x1 x2 x3 x4 z0 s) := by
  intro x1 x2 x3 x4 z0 s
  unfold f_X5_isAhead_p52
  refine g_istore E (lv' := [(5, .int z0), (0, .ref (ad 5)), (1, .int x1), (2, .int x2), (3, .int x3), (4, .int x4)]) dX5_isAhead_52 (by decide) rfl ?_
  refine g_iload E dX5_isAhead_54 0 rfl ?_
  refine g_if_ne E 63 dX5_isAhead_56 (by decide) ?_ ?_
  · refine g_iload_n E dX5_isAhead_63 2 rfl ?_
    refine g_iload E dX5_isAhead_64 0 rfl ?_
    refine g_idivN E dX5_isAhead_66 ?_
    refine g_bipush E (v := 10) dX5_isAhead_67 (by decide) ?_
    refine g_irem E dX5_isAhead_69 (by decide) ?_
    refine g_sub [1, 2, 3, 4, 5, 0] rfl ?_
    exact w_X5_isAhead_p70 E hap hN hkb2 x1 x2 x3 x4 z0 (((x1 / z0) - (x1 / z0) / 10 * 10)) s
  · refine g_iconst E (v := 0) dX5_isAhead_59 (by decide) ?_
    refine g_goto E 70 dX5_isAhead_60 (by decide) ?_
    refine g_sub [1, 2, 3, 4, 5, 0] rfl ?_
    exact w_X5_isAhead_p70 E hap hN hkb2 x1 x2 x3 x4 z0 0 s
set_option maxHeartbeats 4000000 in
set_option maxRecDepth 20000 in
theorem w_X5_isAhead_p29 {kb2 : Int32 → Int32 → Int32 → dr_S → Option (Int32 × dr_S)} (E : dr_E p (dr_rm 0) s0 m args meth c 0 0 A s0.heap D cI cZ ad L cX5_isAhead 8 RX5 (some .boolean)) (hap : dr_ap ad L) (hN : ∀ x ∈ nd_5, x ∈ L) (hkb2 : ∀ (x1 : Int32) (x2 : Int32) (x3 : Int32) (s : dr_S), dr_G p l e (dr_rm 0) s0 m args below meth c 0 0 A s0.heap D cI cZ ad ln L 8 (dr_Zi D cI cZ ad ln L A below args s0 0 0) 2 [(0, .ref (ad 5)), (1, .int x1), (2, .int x2), (3, .int x3)] [] s (kb2 x1 x2 x3 s)) : ∀ (x1 : Int32) (x2 : Int32) (x3 : Int32) (z0 : Int32) (s : dr_S), dr_G p l e (dr_rm 0) s0 m args below meth c 0 0 A s0.heap D cI cZ ad ln L 8 (dr_Zi D cI cZ ad ln L A below args s0 0 0) 29 [(0, .ref (ad 5)), (1, .int x1), (2, .int x2), (3, .int x3)] [.int z0] s (f_X5_isAhead_p29 ln kb2 x1 x2 x3 z0 s) := by
  intro x1 x2 x3 z0 s
  unfold f_X5_isAhead_p29
  refine g_istore E (lv' := [(4, .int z0), (0, .ref (ad 5)), (1, .int x1), (2, .int x2), (3, .int x3)]) dX5_isAhead_29 (by decide) rfl ?_
  refine g_iload E dX5_isAhead_31 0 rfl ?_
  refine g_if_eq E 45 dX5_isAhead_33 (by decide) ?_ ?_
  · refine g_aload_n E dX5_isAhead_45 1 rfl ?_
    refine gg_5_15 E (hN 5 (by decide)) dX5_isAhead_46 ?_
    refine g_iload_n E dX5_isAhead_49 4 rfl ?_
    refine g_iaload E (hN 18 (by decide)) (by decide) rfl dX5_isAhead_50 (fun v2 => ?_)
    refine g_ineg E dX5_isAhead_51 ?_
    refine g_sub [1, 2, 3, 4, 0] rfl ?_
    exact w_X5_isAhead_p52 E hap hN hkb2 x1 x2 x3 z0 ((-v2)) s
  · refine g_aload_n E dX5_isAhead_36 1 rfl ?_
    refine gg_5_15 E (hN 5 (by decide)) dX5_isAhead_37 ?_
    refine g_iload_n E dX5_isAhead_40 4 rfl ?_
    refine g_iaload E (hN 18 (by decide)) (by decide) rfl dX5_isAhead_41 (fun v3 => ?_)
    refine g_goto E 52 dX5_isAhead_42 (by decide) ?_
    refine g_sub [1, 2, 3, 4, 0] rfl ?_
    exact w_X5_isAhead_p52 E hap hN hkb2 x1 x2 x3 z0 v3 s
set_option maxHeartbeats 4000000 in
set_option maxRecDepth 20000 in
theorem w_X5_isAhead_p2 (E : dr_E p (dr_rm 0) s0 m args meth c 0 0 A s0.heap D cI cZ ad L cX5_isAhead 8 RX5 (some .boolean)) (hap : dr_ap ad L) (hN : ∀ x ∈ nd_5, x ∈ L) : ∀ (n : Nat) (x1 : Int32) (x2 : Int32) (x3 : Int32) (s : dr_S), dr_G p l e (dr_rm 0) s0 m args below meth c 0 0 A s0.heap D cI cZ ad ln L 8 (dr_Zi D cI cZ ad ln L A below args s0 0 0) 2 [(0, .ref (ad 5)), (1, .int x1), (2, .int x2), (3, .int x3)] [] s (f_X5_isAhead_p2 ln n x1 x2 x3 s) := by
  intro n
  induction n with
  | zero =>
    intro x1 x2 x3 s
    rw [f_X5_isAhead_p2]
    exact g_none
  | succ n hkb2 =>
    intro x1 x2 x3 s
    rw [f_X5_isAhead_p2]
    refine g_iload_n E dX5_isAhead_2 3 rfl ?_
    refine g_aload_n E dX5_isAhead_3 0 rfl ?_
    refine gg_5_21 E (hN 5 (by decide)) dX5_isAhead_4 ?_
    refine g_icmp_ge E 126 dX5_isAhead_7 (by decide) ?_ ?_
    · refine g_sub [1, 2] rfl ?_
      exact w_X5_isAhead_p126 E hap hN x1 x2 s
    · refine g_iload_n E dX5_isAhead_10 3 rfl ?_
      refine g_iconst E (v := 4) dX5_isAhead_11 (by decide) ?_
      refine g_icmp_ge E 126 dX5_isAhead_12 (by decide) ?_ ?_
      · refine g_sub [1, 2] rfl ?_
        exact w_X5_isAhead_p126 E hap hN x1 x2 s
      · refine g_aload_n E dX5_isAhead_15 0 rfl ?_
        refine gg_5_15 E (hN 5 (by decide)) dX5_isAhead_16 ?_
        refine g_iload_n E dX5_isAhead_19 3 rfl ?_
        refine g_iaload E (hN 18 (by decide)) (by decide) rfl dX5_isAhead_20 (fun v1 => ?_)
        refine g_if_le E 28 dX5_isAhead_21 (by decide) ?_ ?_
        · refine g_iconst E (v := 0) dX5_isAhead_28 (by decide) ?_
          refine g_sub [0, 1, 2, 3] rfl ?_
          exact w_X5_isAhead_p29 E hap hN hkb2 x1 x2 x3 0 s
        · refine g_iconst E (v := 1) dX5_isAhead_24 (by decide) ?_
          refine g_goto E 29 dX5_isAhead_25 (by decide) ?_
          refine g_sub [0, 1, 2, 3] rfl ?_
          exact w_X5_isAhead_p29 E hap hN hkb2 x1 x2 x3 1 s
set_option maxHeartbeats 4000000 in
set_option maxRecDepth 20000 in
theorem c_X5_isAhead (hap : dr_ap ad L) (hN : ∀ x ∈ nd_5, x ∈ L) (x1 : Int32) (x2 : Int32) (s : dr_S) : dr_Mi l D cI cZ ad ln L yX5_isAhead cX5_isAhead 8 (some .boolean) 0 [.ref (ad 5), .int x1, .int x2] s (f_X5_isAhead ln x1 x2 s) := by
  refine dr_meti (own := RX5) (by decide) rfl (Nat.le_of_ble_eq_true rfl) hap ?_
  intro p e s0 m args below meth c A E
  unfold f_X5_isAhead
  refine g_eqL (lv' := [(0, .ref (ad 5)), (1, .int x1), (2, .int x2)]) rfl ?_
  refine g_iconst E (v := 0) dX5_isAhead_0 (by decide) ?_
  refine g_istore_n E (lv' := [(3, .int 0), (0, .ref (ad 5)), (1, .int x1), (2, .int x2)]) dX5_isAhead_1 (by decide) rfl ?_
  refine g_sub [1, 2, 3, 0] rfl ?_
  exact w_X5_isAhead_p2 E hap hN dr_N x1 x2 0 s
end

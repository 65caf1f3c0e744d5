theorem dX12_latches_0 : decode cX12_latches 0 = .ok (.aload_n 0, 1) := by decide +kernel
theorem dX12_latches_1 : decode cX12_latches 1 = .ok (.getfield 41, 3) := by decide +kernel
theorem dX12_latches_4 : decode cX12_latches 4 = .ok (.iload_n 1, 1) := by decide +kernel
theorem dX12_latches_5 : decode cX12_latches 5 = .ok (.iaload, 1) := by decide +kernel
theorem dX12_latches_6 : decode cX12_latches 6 = .ok (.iconst 2, 1) := by decide +kernel
theorem dX12_latches_7 : decode cX12_latches 7 = .ok (.if_icmp .eq 10, 3) := by decide +kernel
theorem dX12_latches_10 : decode cX12_latches 10 = .ok (.aload_n 0, 1) := by decide +kernel
theorem dX12_latches_11 : decode cX12_latches 11 = .ok (.getfield 38, 3) := by decide +kernel
theorem dX12_latches_14 : decode cX12_latches 14 = .ok (.iload_n 2, 1) := by decide +kernel
theorem dX12_latches_15 : decode cX12_latches 15 = .ok (.iload_n 1, 1) := by decide +kernel
theorem dX12_latches_16 : decode cX12_latches 16 = .ok (.iastore, 1) := by decide +kernel
theorem dX12_latches_17 : decode cX12_latches 17 = .ok (.return_, 1) := by decide +kernel
def f_X12_latches (ln : Nat → Nat) (x1 : Int32) (x2 : Int32) (s : dr_S) : Option (Int32 × dr_S) := (dr_rd ln s 38 x1).bind (fun v1 => (if v1 = 2 then some (0, s) else (dr_wr ln s 37 x2 x1).bind (fun s2 => some (0, s2))))
section
variable {p : Program} {l : Launch} {e : Env} {s0 : State} {m : MethodId} {args : Array Value} {below : List Frame} {meth : Method} {c : Code} {A : Nat → Prop} {D : va_G} {cI cZ : ClassId} {ad ln : Nat → Nat} {L : List Nat}
set_option maxHeartbeats 4000000 in
set_option maxRecDepth 20000 in
theorem c_X12_latches (hap : dr_ap ad L) (hN : ∀ x ∈ nd_12, x ∈ L) (x1 : Int32) (x2 : Int32) (s : dr_S) : dr_Mv l D cI cZ ad ln L yX12_latches cX12_latches 3 0 [.ref (ad 12), .int x1, .int x2] s (f_X12_latches ln x1 x2 s) := by
  refine dr_metv (own := RX12) (by decide) rfl (Nat.le_of_ble_eq_true rfl) hap ?_
  intro p e s0 m args below meth c A E
  unfold f_X12_latches
  refine g_eqL (lv' := [(0, .ref (ad 12)), (1, .int x1), (2, .int x2)]) rfl ?_
  refine g_aload_n E dX12_latches_0 0 rfl ?_
  refine gg_12_41 E (hN 12 (by decide)) dX12_latches_1 ?_
  refine g_iload_n E dX12_latches_4 1 rfl ?_
  refine g_iaload E (hN 38 (by decide)) (by decide) rfl dX12_latches_5 (fun v1 => ?_)
  refine g_iconst E (v := 2) dX12_latches_6 (by decide) ?_
  refine g_icmp_eq E 17 dX12_latches_7 (by decide) ?_ ?_
  · exact g_vret E dX12_latches_17
  · refine g_aload_n E dX12_latches_10 0 rfl ?_
    refine gg_12_38 E (hN 12 (by decide)) dX12_latches_11 ?_
    refine g_iload_n E dX12_latches_14 2 rfl ?_
    refine g_iload_n E dX12_latches_15 1 rfl ?_
    refine g_iastore E (hN 37 (by decide)) (by decide) rfl dX12_latches_16 (fun s2 => ?_)
    exact g_vret E dX12_latches_17
end

theorem dX12_letsGo_0 : decode cX12_letsGo 0 = .ok (.aload_n 0, 1) := by decide +kernel
theorem dX12_letsGo_1 : decode cX12_letsGo 1 = .ok (.getfield 41, 3) := by decide +kernel
theorem dX12_letsGo_4 : decode cX12_letsGo 4 = .ok (.iload_n 1, 1) := by decide +kernel
theorem dX12_letsGo_5 : decode cX12_letsGo 5 = .ok (.iaload, 1) := by decide +kernel
theorem dX12_letsGo_6 : decode cX12_letsGo 6 = .ok (.iconst 2, 1) := by decide +kernel
theorem dX12_letsGo_7 : decode cX12_letsGo 7 = .ok (.if_icmp .eq 10, 3) := by decide +kernel
theorem dX12_letsGo_10 : decode cX12_letsGo 10 = .ok (.aload_n 0, 1) := by decide +kernel
theorem dX12_letsGo_11 : decode cX12_letsGo 11 = .ok (.getfield 38, 3) := by decide +kernel
theorem dX12_letsGo_14 : decode cX12_letsGo 14 = .ok (.iload_n 2, 1) := by decide +kernel
theorem dX12_letsGo_15 : decode cX12_letsGo 15 = .ok (.iconst (-1), 1) := by decide +kernel
theorem dX12_letsGo_16 : decode cX12_letsGo 16 = .ok (.iastore, 1) := by decide +kernel
theorem dX12_letsGo_17 : decode cX12_letsGo 17 = .ok (.return_, 1) := by decide +kernel
def f_X12_letsGo (ln : Nat → Nat) (x1 : Int32) (x2 : Int32) (s : dr_S) : Option (Int32 × dr_S) := (dr_rd ln s 38 x1).bind (fun v1 => (if v1 = 2 then some (0, s) else (dr_wr ln s 37 x2 (-1)).bind (fun s2 => some (0, s2))))
section
variable {p : Program} {l : Launch} {e : Env} {s0 : State} {m : MethodId} {args : Array Value} {below : List Frame} {meth : Method} {c : Code} {A : Nat → Prop} {D : va_G} {cI cZ : ClassId} {ad ln : Nat → Nat} {L : List Nat}
set_option maxHeartbeats 4000000 in
set_option maxRecDepth 20000 in
theorem c_X12_letsGo (hap : dr_ap ad L) (hN : ∀ x ∈ nd_12, x ∈ L) (x1 : Int32) (x2 : Int32) (s : dr_S) : dr_Mv l D cI cZ ad ln L yX12_letsGo cX12_letsGo 3 0 [.ref (ad 12), .int x1, .int x2] s (f_X12_letsGo ln x1 x2 s) := by
  refine dr_metv (own := RX12) (by decide) rfl (Nat.le_of_ble_eq_true rfl) hap ?_
  intro p e s0 m args below meth c A E
  unfold f_X12_letsGo
  refine g_eqL (lv' := [(0, .ref (ad 12)), (1, .int x1), (2, .int x2)]) rfl ?_
  refine g_aload_n E dX12_letsGo_0 0 rfl ?_
  refine gg_12_41 E (hN 12 (by decide)) dX12_letsGo_1 ?_
  refine g_iload_n E dX12_letsGo_4 1 rfl ?_
  refine g_iaload E (hN 38 (by decide)) (by decide) rfl dX12_letsGo_5 (fun v1 => ?_)
  refine g_iconst E (v := 2) dX12_letsGo_6 (by decide) ?_
  refine g_icmp_eq E 17 dX12_letsGo_7 (by decide) ?_ ?_
  · exact g_vret E dX12_letsGo_17
  · refine g_aload_n E dX12_letsGo_10 0 rfl ?_
    refine gg_12_38 E (hN 12 (by decide)) dX12_letsGo_11 ?_
    refine g_iload_n E dX12_letsGo_14 2 rfl ?_
    refine g_iconst E (v := (-1)) dX12_letsGo_15 (by decide) ?_
    refine g_iastore E (hN 37 (by decide)) (by decide) rfl dX12_letsGo_16 (fun s2 => ?_)
    exact g_vret E dX12_letsGo_17
end

theorem dX12_ends_0 : decode cX12_ends 0 = .ok (.aload_n 0, 1) := by decide +kernel
theorem dX12_ends_1 : decode cX12_ends 1 = .ok (.getfield 83, 3) := by decide +kernel
theorem dX12_ends_4 : decode cX12_ends 4 = .ok (.aload_n 0, 1) := by decide +kernel
theorem dX12_ends_5 : decode cX12_ends 5 = .ok (.getfield 50, 3) := by decide +kernel
theorem dX12_ends_8 : decode cX12_ends 8 = .ok (.iload_n 1, 1) := by decide +kernel
theorem dX12_ends_9 : decode cX12_ends 9 = .ok (.iaload, 1) := by decide +kernel
theorem dX12_ends_10 : decode cX12_ends 10 = .ok (.iload_n 2, 1) := by decide +kernel
theorem dX12_ends_11 : decode cX12_ends 11 = .ok (.iastore, 1) := by decide +kernel
theorem dX12_ends_12 : decode cX12_ends 12 = .ok (.aload_n 0, 1) := by decide +kernel
theorem dX12_ends_13 : decode cX12_ends 13 = .ok (.getfield 89, 3) := by decide +kernel
theorem dX12_ends_16 : decode cX12_ends 16 = .ok (.aload_n 0, 1) := by decide +kernel
theorem dX12_ends_17 : decode cX12_ends 17 = .ok (.getfield 50, 3) := by decide +kernel
theorem dX12_ends_20 : decode cX12_ends 20 = .ok (.iload_n 1, 1) := by decide +kernel
theorem dX12_ends_21 : decode cX12_ends 21 = .ok (.iaload, 1) := by decide +kernel
theorem dX12_ends_22 : decode cX12_ends 22 = .ok (.aload_n 0, 1) := by decide +kernel
theorem dX12_ends_23 : decode cX12_ends 23 = .ok (.getfield 199, 3) := by decide +kernel
theorem dX12_ends_26 : decode cX12_ends 26 = .ok (.iastore, 1) := by decide +kernel
theorem dX12_ends_27 : decode cX12_ends 27 = .ok (.aload_n 0, 1) := by decide +kernel
theorem dX12_ends_28 : decode cX12_ends 28 = .ok (.getfield 44, 3) := by decide +kernel
theorem dX12_ends_31 : decode cX12_ends 31 = .ok (.iload_n 1, 1) := by decide +kernel
theorem dX12_ends_32 : decode cX12_ends 32 = .ok (.iconst 0, 1) := by decide +kernel
theorem dX12_ends_33 : decode cX12_ends 33 = .ok (.iastore, 1) := by decide +kernel
theorem dX12_ends_34 : decode cX12_ends 34 = .ok (.aload_n 0, 1) := by decide +kernel
theorem dX12_ends_35 : decode cX12_ends 35 = .ok (.getfield 56, 3) := by decide +kernel
theorem dX12_ends_38 : decode cX12_ends 38 = .ok (.iload_n 1, 1) := by decide +kernel
theorem dX12_ends_39 : decode cX12_ends 39 = .ok (.iconst (-1), 1) := by decide +kernel
theorem dX12_ends_40 : decode cX12_ends 40 = .ok (.iastore, 1) := by decide +kernel
theorem dX12_ends_41 : decode cX12_ends 41 = .ok (.return_, 1) := by decide +kernel
def f_X12_ends (ln : Nat → Nat) (x1 : Int32) (x2 : Int32) (s : dr_S) : Option (Int32 × dr_S) := (dr_rd ln s 41 x1).bind (fun v1 => (dr_wr ln s 52 v1 x2).bind (fun s2 => (dr_rd ln s2 41 x1).bind (fun v3 => (dr_wr ln s2 54 v3 (s2.2 1204)).bind (fun s4 => (dr_wr ln s4 39 x1 0).bind (fun s5 => (dr_wr ln s5 43 x1 (-1)).bind (fun s6 => some (0, s6)))))))
section
variable {p : Program} {l : Launch} {e : Env} {s0 : State} {m : MethodId} {args : Array Value} {below : List Frame} {meth : Method} {c : Code} {A : Nat → Prop} {D : va_G} {cI cZ : ClassId} {ad ln : Nat → Nat} {L : List Nat}
set_option maxHeartbeats 4000000 in
set_option maxRecDepth 20000 in
theorem c_X12_ends (hap : dr_ap ad L) (hN : ∀ x ∈ nd_12, x ∈ L) (x1 : Int32) (x2 : Int32) (s : dr_S) : dr_Mv l D cI cZ ad ln L yX12_ends cX12_ends 3 0 [.ref (ad 12), .int x1, .int x2] s (f_X12_ends ln x1 x2 s) := by
  refine dr_metv (own := RX12) (by decide) rfl (Nat.le_of_ble_eq_true rfl) hap ?_
  intro p e s0 m args below meth c A E
  unfold f_X12_ends
  refine g_eqL (lv' := [(0, .ref (ad 12)), (1, .int x1), (2, .int x2)]) rfl ?_
  refine g_aload_n E dX12_ends_0 0 rfl ?_
  refine gg_12_83 E (hN 12 (by decide)) dX12_ends_1 ?_
  refine g_aload_n E dX12_ends_4 0 rfl ?_
  refine gg_12_50 E (hN 12 (by decide)) dX12_ends_5 ?_
  refine g_iload_n E dX12_ends_8 1 rfl ?_
  refine g_iaload E (hN 41 (by decide)) (by decide) rfl dX12_ends_9 (fun v1 => ?_)
  refine g_iload_n E dX12_ends_10 2 rfl ?_
  refine g_iastore E (hN 52 (by decide)) (by decide) rfl dX12_ends_11 (fun s2 => ?_)
  refine g_aload_n E dX12_ends_12 0 rfl ?_
  refine gg_12_89 E (hN 12 (by decide)) dX12_ends_13 ?_
  refine g_aload_n E dX12_ends_16 0 rfl ?_
  refine gg_12_50 E (hN 12 (by decide)) dX12_ends_17 ?_
  refine g_iload_n E dX12_ends_20 1 rfl ?_
  refine g_iaload E (hN 41 (by decide)) (by decide) rfl dX12_ends_21 (fun v3 => ?_)
  refine g_aload_n E dX12_ends_22 0 rfl ?_
  refine gg_12_199 E (hN 12 (by decide)) dX12_ends_23 ?_
  refine g_iastore E (hN 54 (by decide)) (by decide) rfl dX12_ends_26 (fun s4 => ?_)
  refine g_aload_n E dX12_ends_27 0 rfl ?_
  refine gg_12_44 E (hN 12 (by decide)) dX12_ends_28 ?_
  refine g_iload_n E dX12_ends_31 1 rfl ?_
  refine g_iconst E (v := 0) dX12_ends_32 (by decide) ?_
  refine g_iastore E (hN 39 (by decide)) (by decide) rfl dX12_ends_33 (fun s5 => ?_)
  refine g_aload_n E dX12_ends_34 0 rfl ?_
  refine gg_12_56 E (hN 12 (by decide)) dX12_ends_35 ?_
  refine g_iload_n E dX12_ends_38 1 rfl ?_
  refine g_iconst E (v := (-1)) dX12_ends_39 (by decide) ?_
  refine g_iastore E (hN 43 (by decide)) (by decide) rfl dX12_ends_40 (fun s6 => ?_)
  exact g_vret E dX12_ends_41
end

theorem dX12_looksFor_0 : decode cX12_looksFor 0 = .ok (.aload_n 0, 1) := by decide +kernel
theorem dX12_looksFor_1 : decode cX12_looksFor 1 = .ok (.getfield 44, 3) := by decide +kernel
theorem dX12_looksFor_4 : decode cX12_looksFor 4 = .ok (.iload_n 1, 1) := by decide +kernel
theorem dX12_looksFor_5 : decode cX12_looksFor 5 = .ok (.iaload, 1) := by decide +kernel
theorem dX12_looksFor_6 : decode cX12_looksFor 6 = .ok (.iconst 1, 1) := by decide +kernel
theorem dX12_looksFor_7 : decode cX12_looksFor 7 = .ok (.if_icmp .eq 27, 3) := by decide +kernel
theorem dX12_looksFor_10 : decode cX12_looksFor 10 = .ok (.aload_n 0, 1) := by decide +kernel
theorem dX12_looksFor_11 : decode cX12_looksFor 11 = .ok (.getfield 44, 3) := by decide +kernel
theorem dX12_looksFor_14 : decode cX12_looksFor 14 = .ok (.iload_n 1, 1) := by decide +kernel
theorem dX12_looksFor_15 : decode cX12_looksFor 15 = .ok (.iaload, 1) := by decide +kernel
theorem dX12_looksFor_16 : decode cX12_looksFor 16 = .ok (.iconst 4, 1) := by decide +kernel
theorem dX12_looksFor_17 : decode cX12_looksFor 17 = .ok (.if_icmp .eq 31, 3) := by decide +kernel
theorem dX12_looksFor_20 : decode cX12_looksFor 20 = .ok (.aload_n 0, 1) := by decide +kernel
theorem dX12_looksFor_21 : decode cX12_looksFor 21 = .ok (.getfield 20, 3) := by decide +kernel
theorem dX12_looksFor_24 : decode cX12_looksFor 24 = .ok (.aload_n 0, 1) := by decide +kernel
theorem dX12_looksFor_25 : decode cX12_looksFor 25 = .ok (.getfield 47, 3) := by decide +kernel
theorem dX12_looksFor_28 : decode cX12_looksFor 28 = .ok (.iload_n 1, 1) := by decide +kernel
theorem dX12_looksFor_29 : decode cX12_looksFor 29 = .ok (.iaload, 1) := by decide +kernel
theorem dX12_looksFor_30 : decode cX12_looksFor 30 = .ok (.iaload, 1) := by decide +kernel
theorem dX12_looksFor_31 : decode cX12_looksFor 31 = .ok (.ifCond .ne 17, 3) := by decide +kernel
theorem dX12_looksFor_34 : decode cX12_looksFor 34 = .ok (.aload_n 0, 1) := by decide +kernel
theorem dX12_looksFor_35 : decode cX12_looksFor 35 = .ok (.getfield 80, 3) := by decide +kernel
theorem dX12_looksFor_38 : decode cX12_looksFor 38 = .ok (.aload_n 0, 1) := by decide +kernel
theorem dX12_looksFor_39 : decode cX12_looksFor 39 = .ok (.getfield 50, 3) := by decide +kernel
theorem dX12_looksFor_42 : decode cX12_looksFor 42 = .ok (.iload_n 1, 1) := by decide +kernel
theorem dX12_looksFor_43 : decode cX12_looksFor 43 = .ok (.iaload, 1) := by decide +kernel
theorem dX12_looksFor_44 : decode cX12_looksFor 44 = .ok (.iaload, 1) := by decide +kernel
theorem dX12_looksFor_45 : decode cX12_looksFor 45 = .ok (.goto 9, 3) := by decide +kernel
theorem dX12_looksFor_48 : decode cX12_looksFor 48 = .ok (.aload_n 0, 1) := by decide +kernel
theorem dX12_looksFor_49 : decode cX12_looksFor 49 = .ok (.getfield 53, 3) := by decide +kernel
theorem dX12_looksFor_52 : decode cX12_looksFor 52 = .ok (.iload_n 1, 1) := by decide +kernel
theorem dX12_looksFor_53 : decode cX12_looksFor 53 = .ok (.iaload, 1) := by decide +kernel
theorem dX12_looksFor_54 : decode cX12_looksFor 54 = .ok (.ireturn, 1) := by decide +kernel
def f_X12_looksFor_p34 (ln : Nat → Nat) (x1 : Int32) (s : dr_S) : Option (Int32 × dr_S) := (dr_rd ln s 41 x1).bind (fun v7 => (dr_rd ln s 51 v7).bind (fun v8 => some (v8, s)))
def f_X12_looksFor (ln : Nat → Nat) (x1 : Int32) (s : dr_S) : Option (Int32 × dr_S) := (dr_rd ln s 39 x1).bind (fun v1 => (if v1 = 1 then (f_X12_looksFor_p34 ln x1 s) else (dr_rd ln s 39 x1).bind (fun v2 => (if v2 = 4 then (dr_rd ln s 42 x1).bind (fun v3 => some (v3, s)) else (dr_rd ln s 40 x1).bind (fun v4 => (dr_rd ln s 31 v4).bind (fun v5 => (if v5 = 0 then (f_X12_looksFor_p34 ln x1 s) else (dr_rd ln s 42 x1).bind (fun v6 => some (v6, s)))))))))
section
variable {p : Program} {l : Launch} {e : Env} {s0 : State} {m : MethodId} {args : Array Value} {below : List Frame} {meth : Method} {c : Code} {A : Nat → Prop} {D : va_G} {cI cZ : ClassId} {ad ln : Nat → Nat} {L : List Nat}
set_option maxHeartbeats 4000000 in
set_option maxRecDepth 20000 in
theorem w_X12_looksFor_p34 (E : dr_E p (dr_rm 0) s0 m args meth c 0 0 A s0.heap D cI cZ ad L cX12_looksFor 2 RX12 (some .int)) (hap : dr_ap ad L) (hN : ∀ x ∈ nd_12, x ∈ L) : ∀ (x1 : Int32) (s : dr_S), dr_G p l e (dr_rm 0) s0 m args below meth c 0 0 A s0.heap D cI cZ ad ln L 2 (dr_Zi D cI cZ ad ln L A below args s0 0 0) 34 [(0, .ref (ad 12)), (1, .int x1)] [] s (f_X12_looksFor_p34 ln x1 s) := by
  intro x1 s
  unfold f_X12_looksFor_p34
  refine g_aload_n E dX12_looksFor_34 0 rfl ?_
  refine gg_12_80 E (hN 12 (by decide)) dX12_looksFor_35 ?_
  refine g_aload_n E dX12_looksFor_38 0 rfl ?_
  refine gg_12_50 E (hN 12 (by decide)) dX12_looksFor_39 ?_
  refine g_iload_n E dX12_looksFor_42 1 rfl ?_
  refine g_iaload E (hN 41 (by decide)) (by decide) rfl dX12_looksFor_43 (fun v7 => ?_)
  refine g_iaload E (hN 51 (by decide)) (by decide) rfl dX12_looksFor_44 (fun v8 => ?_)
  refine g_goto E 54 dX12_looksFor_45 (by decide) ?_
  exact g_iret E dX12_looksFor_54
set_option maxHeartbeats 4000000 in
set_option maxRecDepth 20000 in
theorem c_X12_looksFor (hap : dr_ap ad L) (hN : ∀ x ∈ nd_12, x ∈ L) (x1 : Int32) (s : dr_S) : dr_Mi l D cI cZ ad ln L yX12_looksFor cX12_looksFor 2 (some .int) 0 [.ref (ad 12), .int x1] s (f_X12_looksFor ln x1 s) := by
  refine dr_meti (own := RX12) (by decide) rfl (Nat.le_of_ble_eq_true rfl) hap ?_
  intro p e s0 m args below meth c A E
  unfold f_X12_looksFor
  refine g_eqL (lv' := [(0, .ref (ad 12)), (1, .int x1)]) rfl ?_
  refine g_aload_n E dX12_looksFor_0 0 rfl ?_
  refine gg_12_44 E (hN 12 (by decide)) dX12_looksFor_1 ?_
  refine g_iload_n E dX12_looksFor_4 1 rfl ?_
  refine g_iaload E (hN 39 (by decide)) (by decide) rfl dX12_looksFor_5 (fun v1 => ?_)
  refine g_iconst E (v := 1) dX12_looksFor_6 (by decide) ?_
  refine g_icmp_eq E 34 dX12_looksFor_7 (by decide) ?_ ?_
  · refine g_sub [0, 1] rfl ?_
    exact w_X12_looksFor_p34 E hap hN x1 s
  · refine g_aload_n E dX12_looksFor_10 0 rfl ?_
    refine gg_12_44 E (hN 12 (by decide)) dX12_looksFor_11 ?_
    refine g_iload_n E dX12_looksFor_14 1 rfl ?_
    refine g_iaload E (hN 39 (by decide)) (by decide) rfl dX12_looksFor_15 (fun v2 => ?_)
    refine g_iconst E (v := 4) dX12_looksFor_16 (by decide) ?_
    refine g_icmp_eq E 48 dX12_looksFor_17 (by decide) ?_ ?_
    · refine g_aload_n E dX12_looksFor_48 0 rfl ?_
      refine gg_12_53 E (hN 12 (by decide)) dX12_looksFor_49 ?_
      refine g_iload_n E dX12_looksFor_52 1 rfl ?_
      refine g_iaload E (hN 42 (by decide)) (by decide) rfl dX12_looksFor_53 (fun v3 => ?_)
      exact g_iret E dX12_looksFor_54
    · refine g_aload_n E dX12_looksFor_20 0 rfl ?_
      refine gg_12_20 E (hN 12 (by decide)) dX12_looksFor_21 ?_
      refine g_aload_n E dX12_looksFor_24 0 rfl ?_
      refine gg_12_47 E (hN 12 (by decide)) dX12_looksFor_25 ?_
      refine g_iload_n E dX12_looksFor_28 1 rfl ?_
      refine g_iaload E (hN 40 (by decide)) (by decide) rfl dX12_looksFor_29 (fun v4 => ?_)
      refine g_iaload E (hN 31 (by decide)) (by decide) rfl dX12_looksFor_30 (fun v5 => ?_)
      refine g_if_ne E 48 dX12_looksFor_31 (by decide) ?_ ?_
      · refine g_aload_n E dX12_looksFor_48 0 rfl ?_
        refine gg_12_53 E (hN 12 (by decide)) dX12_looksFor_49 ?_
        refine g_iload_n E dX12_looksFor_52 1 rfl ?_
        refine g_iaload E (hN 42 (by decide)) (by decide) rfl dX12_looksFor_53 (fun v6 => ?_)
        exact g_iret E dX12_looksFor_54
      · refine g_sub [0, 1] rfl ?_
        exact w_X12_looksFor_p34 E hap hN x1 s
end

theorem dX12_covered_0 : decode cX12_covered 0 = .ok (.aload_n 0, 1) := by decide +kernel
theorem dX12_covered_1 : decode cX12_covered 1 = .ok (.getfield 41, 3) := by decide +kernel
theorem dX12_covered_4 : decode cX12_covered 4 = .ok (.iload_n 1, 1) := by decide +kernel
theorem dX12_covered_5 : decode cX12_covered 5 = .ok (.iaload, 1) := by decide +kernel
theorem dX12_covered_6 : decode cX12_covered 6 = .ok (.iconst 1, 1) := by decide +kernel
theorem dX12_covered_7 : decode cX12_covered 7 = .ok (.if_icmp .eq 12, 3) := by decide +kernel
theorem dX12_covered_10 : decode cX12_covered 10 = .ok (.aload_n 0, 1) := by decide +kernel
theorem dX12_covered_11 : decode cX12_covered 11 = .ok (.iload_n 2, 1) := by decide +kernel
theorem dX12_covered_12 : decode cX12_covered 12 = .ok (.iload_n 3, 1) := by decide +kernel
theorem dX12_covered_13 : decode cX12_covered 13 = .ok (.invokevirtual 205, 3) := by decide +kernel
theorem dX12_covered_16 : decode cX12_covered 16 = .ok (.ifCond .eq 7, 3) := by decide +kernel
theorem dX12_covered_19 : decode cX12_covered 19 = .ok (.iconst 1, 1) := by decide +kernel
theorem dX12_covered_20 : decode cX12_covered 20 = .ok (.goto 4, 3) := by decide +kernel
theorem dX12_covered_23 : decode cX12_covered 23 = .ok (.iconst 0, 1) := by decide +kernel
theorem dX12_covered_24 : decode cX12_covered 24 = .ok (.ireturn, 1) := by decide +kernel
def f_X12_covered (ln : Nat → Nat) (x1 : Int32) (x2 : Int32) (x3 : Int32) (s : dr_S) : Option (Int32 × dr_S) := (dr_rd ln s 38 x1).bind (fun v1 => (if v1 = 1 then some (1, s) else dr_bnd (f_X12_covers ln x2 x3 s) (fun r3 s2 => (if r3 = 0 then some (0, s2) else some (1, s2)))))
section
variable {p : Program} {l : Launch} {e : Env} {s0 : State} {m : MethodId} {args : Array Value} {below : List Frame} {meth : Method} {c : Code} {A : Nat → Prop} {D : va_G} {cI cZ : ClassId} {ad ln : Nat → Nat} {L : List Nat}
set_option maxHeartbeats 4000000 in
set_option maxRecDepth 20000 in
theorem c_X12_covered (hap : dr_ap ad L) (hN : ∀ x ∈ nd_12, x ∈ L) (x1 : Int32) (x2 : Int32) (x3 : Int32) (s : dr_S) : dr_Mi l D cI cZ ad ln L yX12_covered cX12_covered 4 (some .boolean) 3 [.ref (ad 12), .int x1, .int x2, .int x3] s (f_X12_covered ln x1 x2 x3 s) := by
  refine dr_meti (own := RX12) (by decide) rfl (Nat.le_of_ble_eq_true rfl) hap ?_
  intro p e s0 m args below meth c A E
  unfold f_X12_covered
  refine g_eqL (lv' := [(0, .ref (ad 12)), (1, .int x1), (2, .int x2), (3, .int x3)]) rfl ?_
  refine g_aload_n E dX12_covered_0 0 rfl ?_
  refine gg_12_41 E (hN 12 (by decide)) dX12_covered_1 ?_
  refine g_iload_n E dX12_covered_4 1 rfl ?_
  refine g_iaload E (hN 38 (by decide)) (by decide) rfl dX12_covered_5 (fun v1 => ?_)
  refine g_iconst E (v := 1) dX12_covered_6 (by decide) ?_
  refine g_icmp_eq E 19 dX12_covered_7 (by decide) ?_ ?_
  · refine g_iconst E (v := 1) dX12_covered_19 (by decide) ?_
    refine g_goto E 24 dX12_covered_20 (by decide) ?_
    exact g_zret E dX12_covered_24 (Or.inr rfl)
  · refine g_aload_n E dX12_covered_10 0 rfl ?_
    refine g_iload_n E dX12_covered_11 2 rfl ?_
    refine g_iload_n E dX12_covered_12 3 rfl ?_
    refine g_cVi E [.int x2, .int x3] rfl (c_X12_covers hap hN x2 x3 s) (hN 12 (by decide)) (by decide) rfl rfl mi_X12_covers msl_X12_covers mw_X12_covers rfl ml_12_205 ⟨Nat.le_of_ble_eq_true rfl, Nat.le_of_ble_eq_true rfl⟩ (Nat.le_of_ble_eq_true rfl) dX12_covered_13 (fun r3 s2 => ?_)
    refine g_if_eq E 23 dX12_covered_16 (by decide) ?_ ?_
    · refine g_iconst E (v := 0) dX12_covered_23 (by decide) ?_
      exact g_zret E dX12_covered_24 (Or.inl rfl)
    · refine g_iconst E (v := 1) dX12_covered_19 (by decide) ?_
      refine g_goto E 24 dX12_covered_20 (by decide) ?_
      exact g_zret E dX12_covered_24 (Or.inr rfl)
end

theorem dX12_hasCard_0 : decode cX12_hasCard 0 = .ok (.iconst 0, 1) := by decide +kernel
theorem dX12_hasCard_1 : decode cX12_hasCard 1 = .ok (.istore_n 3, 1) := by decide +kernel
theorem dX12_hasCard_2 : decode cX12_hasCard 2 = .ok (.iload_n 3, 1) := by decide +kernel
theorem dX12_hasCard_3 : decode cX12_hasCard 3 = .ok (.aload_n 0, 1) := by decide +kernel
theorem dX12_hasCard_4 : decode cX12_hasCard 4 = .ok (.getfield 23, 3) := by decide +kernel
theorem dX12_hasCard_7 : decode cX12_hasCard 7 = .ok (.iload_n 1, 1) := by decide +kernel
theorem dX12_hasCard_8 : decode cX12_hasCard 8 = .ok (.iaload, 1) := by decide +kernel
theorem dX12_hasCard_9 : decode cX12_hasCard 9 = .ok (.if_icmp .ge 26, 3) := by decide +kernel
theorem dX12_hasCard_12 : decode cX12_hasCard 12 = .ok (.aload_n 0, 1) := by decide +kernel
theorem dX12_hasCard_13 : decode cX12_hasCard 13 = .ok (.getfield 26, 3) := by decide +kernel
theorem dX12_hasCard_16 : decode cX12_hasCard 16 = .ok (.bipush 14, 2) := by decide +kernel
theorem dX12_hasCard_18 : decode cX12_hasCard 18 = .ok (.iload_n 1, 1) := by decide +kernel
theorem dX12_hasCard_19 : decode cX12_hasCard 19 = .ok (.imul, 1) := by decide +kernel
theorem dX12_hasCard_20 : decode cX12_hasCard 20 = .ok (.iload_n 3, 1) := by decide +kernel
theorem dX12_hasCard_21 : decode cX12_hasCard 21 = .ok (.iadd, 1) := by decide +kernel
theorem dX12_hasCard_22 : decode cX12_hasCard 22 = .ok (.iaload, 1) := by decide +kernel
theorem dX12_hasCard_23 : decode cX12_hasCard 23 = .ok (.iload_n 2, 1) := by decide +kernel
theorem dX12_hasCard_24 : decode cX12_hasCard 24 = .ok (.if_icmp .ne 5, 3) := by decide +kernel
theorem dX12_hasCard_27 : decode cX12_hasCard 27 = .ok (.iconst 1, 1) := by decide +kernel
theorem dX12_hasCard_28 : decode cX12_hasCard 28 = .ok (.ireturn, 1) := by decide +kernel
theorem dX12_hasCard_29 : decode cX12_hasCard 29 = .ok (.iinc 3 1, 3) := by decide +kernel
theorem dX12_hasCard_32 : decode cX12_hasCard 32 = .ok (.goto (-30), 3) := by decide +kernel
theorem dX12_hasCard_35 : decode cX12_hasCard 35 = .ok (.iconst 0, 1) := by decide +kernel
theorem dX12_hasCard_36 : decode cX12_hasCard 36 = .ok (.ireturn, 1) := by decide +kernel
def f_X12_hasCard_p2 (ln : Nat → Nat) : Nat → Int32 → Int32 → Int32 → dr_S → Option (Int32 × dr_S)
  | 0, _, _, _, _ => none
  | n + 1, x1, x2, x3, s => (dr_rd ln s 32 x1).bind (fun v1 => (if v1 ≤ x3 then some (0, s) else (dr_rd ln s 33 ((14 * x1) + x3)).bind (fun v2 => (if v2 = x2 then some (1, s) else dr_let (x3 + 1) (fun y3 => (f_X12_hasCard_p2 ln n x1 x2 y3 s))))))
def f_X12_hasCard (ln : Nat → Nat) (x1 : Int32) (x2 : Int32) (s : dr_S) : Option (Int32 × dr_S) := (f_X12_hasCard_p2 ln dr_N x1 x2 0 s)
section
variable {p : Program} {l : Launch} {e : Env} {s0 : State} {m : MethodId} {args : Array Value} {below : List Frame} {meth : Method} {c : Code} {A : Nat → Prop} {D : va_G} {cI cZ : ClassId} {ad ln : Nat → Nat} {L : List Nat}
set_option maxHeartbeats 4000000 in
set_option maxRecDepth 20000 in
theorem w_X12_hasCard_p2 (E : dr_E p (dr_rm 0) s0 m args meth c 0 0 A s0.heap D cI cZ ad L cX12_hasCard 4 RX12 (some .boolean)) (hap : dr_ap ad L) (hN : ∀ x ∈ nd_12, x ∈ L) : ∀ (n : Nat) (x1 : Int32) (x2 : Int32) (x3 : Int32) (s : dr_S), dr_G p l e (dr_rm 0) s0 m args below meth c 0 0 A s0.heap D cI cZ ad ln L 4 (dr_Zi D cI cZ ad ln L A below args s0 0 0) 2 [(0, .ref (ad 12)), (1, .int x1), (2, .int x2), (3, .int x3)] [] s (f_X12_hasCard_p2 ln n x1 x2 x3 s) := by
  intro n
  induction n with
  | zero =>
    intro x1 x2 x3 s
    rw [f_X12_hasCard_p2]
    exact g_none
  | succ n hkb2 =>
    intro x1 x2 x3 s
    rw [f_X12_hasCard_p2]
    refine g_iload_n E dX12_hasCard_2 3 rfl ?_
    refine g_aload_n E dX12_hasCard_3 0 rfl ?_
    refine gg_12_23 E (hN 12 (by decide)) dX12_hasCard_4 ?_
    refine g_iload_n E dX12_hasCard_7 1 rfl ?_
    refine g_iaload E (hN 32 (by decide)) (by decide) rfl dX12_hasCard_8 (fun v1 => ?_)
    refine g_icmp_ge E 35 dX12_hasCard_9 (by decide) ?_ ?_
    · refine g_iconst E (v := 0) dX12_hasCard_35 (by decide) ?_
      exact g_zret E dX12_hasCard_36 (Or.inl rfl)
    · refine g_aload_n E dX12_hasCard_12 0 rfl ?_
      refine gg_12_26 E (hN 12 (by decide)) dX12_hasCard_13 ?_
      refine g_bipush E (v := 14) dX12_hasCard_16 (by decide) ?_
      refine g_iload_n E dX12_hasCard_18 1 rfl ?_
      refine g_imul E dX12_hasCard_19 ?_
      refine g_iload_n E dX12_hasCard_20 3 rfl ?_
      refine g_iadd E dX12_hasCard_21 ?_
      refine g_iaload E (hN 33 (by decide)) (by decide) rfl dX12_hasCard_22 (fun v2 => ?_)
      refine g_iload_n E dX12_hasCard_23 2 rfl ?_
      refine g_icmp_ne E 29 dX12_hasCard_24 (by decide) ?_ ?_
      · refine g_iinc E (lv' := []) (lv'' := fun y3 => [(3, .int y3), (0, .ref (ad 12)), (1, .int x1), (2, .int x2)]) (v := 1) dX12_hasCard_29 3 rfl (by decide) (by decide) (fun _ => rfl) (fun y3 => ?_)
        refine g_goto E 2 dX12_hasCard_32 (by decide) ?_
        refine g_sub [1, 2, 3, 0] rfl ?_
        exact hkb2 x1 x2 y3 s
      · refine g_iconst E (v := 1) dX12_hasCard_27 (by decide) ?_
        exact g_zret E dX12_hasCard_28 (Or.inr rfl)
set_option maxHeartbeats 4000000 in
set_option maxRecDepth 20000 in
theorem c_X12_hasCard (hap : dr_ap ad L) (hN : ∀ x ∈ nd_12, x ∈ L) (x1 : Int32) (x2 : Int32) (s : dr_S) : dr_Mi l D cI cZ ad ln L yX12_hasCard cX12_hasCard 4 (some .boolean) 0 [.ref (ad 12), .int x1, .int x2] s (f_X12_hasCard ln x1 x2 s) := by
  refine dr_meti (own := RX12) (by decide) rfl (Nat.le_of_ble_eq_true rfl) hap ?_
  intro p e s0 m args below meth c A E
  unfold f_X12_hasCard
  refine g_eqL (lv' := [(0, .ref (ad 12)), (1, .int x1), (2, .int x2)]) rfl ?_
  refine g_iconst E (v := 0) dX12_hasCard_0 (by decide) ?_
  refine g_istore_n E (lv' := [(3, .int 0), (0, .ref (ad 12)), (1, .int x1), (2, .int x2)]) dX12_hasCard_1 (by decide) rfl ?_
  refine g_sub [1, 2, 3, 0] rfl ?_
  exact w_X12_hasCard_p2 E hap hN dr_N x1 x2 0 s
end

theorem dX12_reads_0 : decode cX12_reads 0 = .ok (.aload_n 0, 1) := by decide +kernel
theorem dX12_reads_1 : decode cX12_reads 1 = .ok (.getfield 47, 3) := by decide +kernel
theorem dX12_reads_4 : decode cX12_reads 4 = .ok (.iload_n 1, 1) := by decide +kernel
theorem dX12_reads_5 : decode cX12_reads 5 = .ok (.iaload, 1) := by decide +kernel
theorem dX12_reads_6 : decode cX12_reads 6 = .ok (.istore_n 2, 1) := by decide +kernel
theorem dX12_reads_7 : decode cX12_reads 7 = .ok (.aload_n 0, 1) := by decide +kernel
theorem dX12_reads_8 : decode cX12_reads 8 = .ok (.getfield 80, 3) := by decide +kernel
theorem dX12_reads_11 : decode cX12_reads 11 = .ok (.aload_n 0, 1) := by decide +kernel
theorem dX12_reads_12 : decode cX12_reads 12 = .ok (.getfield 50, 3) := by decide +kernel
theorem dX12_reads_15 : decode cX12_reads 15 = .ok (.iload_n 1, 1) := by decide +kernel
theorem dX12_reads_16 : decode cX12_reads 16 = .ok (.iaload, 1) := by decide +kernel
theorem dX12_reads_17 : decode cX12_reads 17 = .ok (.iaload, 1) := by decide +kernel
theorem dX12_reads_18 : decode cX12_reads 18 = .ok (.istore_n 3, 1) := by decide +kernel
theorem dX12_reads_19 : decode cX12_reads 19 = .ok (.aload_n 0, 1) := by decide +kernel
theorem dX12_reads_20 : decode cX12_reads 20 = .ok (.iload_n 1, 1) := by decide +kernel
theorem dX12_reads_21 : decode cX12_reads 21 = .ok (.iload_n 2, 1) := by decide +kernel
theorem dX12_reads_22 : decode cX12_reads 22 = .ok (.iload_n 3, 1) := by decide +kernel
theorem dX12_reads_23 : decode cX12_reads 23 = .ok (.invokevirtual 208, 3) := by decide +kernel
theorem dX12_reads_26 : decode cX12_reads 26 = .ok (.ifCond .ne 28, 3) := by decide +kernel
theorem dX12_reads_29 : decode cX12_reads 29 = .ok (.aload_n 0, 1) := by decide +kernel
theorem dX12_reads_30 : decode cX12_reads 30 = .ok (.getfield 35, 3) := by decide +kernel
theorem dX12_reads_33 : decode cX12_reads 33 = .ok (.iload_n 2, 1) := by decide +kernel
theorem dX12_reads_34 : decode cX12_reads 34 = .ok (.iaload, 1) := by decide +kernel
theorem dX12_reads_35 : decode cX12_reads 35 = .ok (.iconst (-1), 1) := by decide +kernel
theorem dX12_reads_36 : decode cX12_reads 36 = .ok (.if_icmp .eq 117, 3) := by decide +kernel
theorem dX12_reads_39 : decode cX12_reads 39 = .ok (.aload_n 0, 1) := by decide +kernel
theorem dX12_reads_40 : decode cX12_reads 40 = .ok (.getfield 47, 3) := by decide +kernel
theorem dX12_reads_43 : decode cX12_reads 43 = .ok (.iload_n 1, 1) := by decide +kernel
theorem dX12_reads_44 : decode cX12_reads 44 = .ok (.aload_n 0, 1) := by decide +kernel
theorem dX12_reads_45 : decode cX12_reads 45 = .ok (.getfield 35, 3) := by decide +kernel
theorem dX12_reads_48 : decode cX12_reads 48 = .ok (.iload_n 2, 1) := by decide +kernel
theorem dX12_reads_49 : decode cX12_reads 49 = .ok (.iaload, 1) := by decide +kernel
theorem dX12_reads_50 : decode cX12_reads 50 = .ok (.iastore, 1) := by decide +kernel
theorem dX12_reads_51 : decode cX12_reads 51 = .ok (.goto 102, 3) := by decide +kernel
theorem dX12_reads_54 : decode cX12_reads 54 = .ok (.aload_n 0, 1) := by decide +kernel
theorem dX12_reads_55 : decode cX12_reads 55 = .ok (.getfield 20, 3) := by decide +kernel
theorem dX12_reads_58 : decode cX12_reads 58 = .ok (.iload_n 2, 1) := by decide +kernel
theorem dX12_reads_59 : decode cX12_reads 59 = .ok (.iaload, 1) := by decide +kernel
theorem dX12_reads_60 : decode cX12_reads 60 = .ok (.ifCond .le 35, 3) := by decide +kernel
theorem dX12_reads_63 : decode cX12_reads 63 = .ok (.aload_n 0, 1) := by decide +kernel
theorem dX12_reads_64 : decode cX12_reads 64 = .ok (.getfield 59, 3) := by decide +kernel
theorem dX12_reads_67 : decode cX12_reads 67 = .ok (.bipush 64, 2) := by decide +kernel
theorem dX12_reads_69 : decode cX12_reads 69 = .ok (.iload_n 1, 1) := by decide +kernel
theorem dX12_reads_70 : decode cX12_reads 70 = .ok (.imul, 1) := by decide +kernel
theorem dX12_reads_71 : decode cX12_reads 71 = .ok (.aload_n 0, 1) := by decide +kernel
theorem dX12_reads_72 : decode cX12_reads 72 = .ok (.getfield 20, 3) := by decide +kernel
theorem dX12_reads_75 : decode cX12_reads 75 = .ok (.iload_n 2, 1) := by decide +kernel
theorem dX12_reads_76 : decode cX12_reads 76 = .ok (.iaload, 1) := by decide +kernel
theorem dX12_reads_77 : decode cX12_reads 77 = .ok (.iadd, 1) := by decide +kernel
theorem dX12_reads_78 : decode cX12_reads 78 = .ok (.iload_n 2, 1) := by decide +kernel
theorem dX12_reads_79 : decode cX12_reads 79 = .ok (.iastore, 1) := by decide +kernel
theorem dX12_reads_80 : decode cX12_reads 80 = .ok (.aload_n 0, 1) := by decide +kernel
theorem dX12_reads_81 : decode cX12_reads 81 = .ok (.getfield 47, 3) := by decide +kernel
theorem dX12_reads_84 : decode cX12_reads 84 = .ok (.iload_n 1, 1) := by decide +kernel
theorem dX12_reads_85 : decode cX12_reads 85 = .ok (.aload_n 0, 1) := by decide +kernel
theorem dX12_reads_86 : decode cX12_reads 86 = .ok (.iload_n 2, 1) := by decide +kernel
theorem dX12_reads_87 : decode cX12_reads 87 = .ok (.iload_n 3, 1) := by decide +kernel
theorem dX12_reads_88 : decode cX12_reads 88 = .ok (.invokevirtual 211, 3) := by decide +kernel
theorem dX12_reads_91 : decode cX12_reads 91 = .ok (.iastore, 1) := by decide +kernel
theorem dX12_reads_92 : decode cX12_reads 92 = .ok (.goto 61, 3) := by decide +kernel
theorem dX12_reads_95 : decode cX12_reads 95 = .ok (.aload_n 0, 1) := by decide +kernel
theorem dX12_reads_96 : decode cX12_reads 96 = .ok (.getfield 77, 3) := by decide +kernel
theorem dX12_reads_99 : decode cX12_reads 99 = .ok (.aload_n 0, 1) := by decide +kernel
theorem dX12_reads_100 : decode cX12_reads 100 = .ok (.getfield 50, 3) := by decide +kernel
theorem dX12_reads_103 : decode cX12_reads 103 = .ok (.iload_n 1, 1) := by decide +kernel
theorem dX12_reads_104 : decode cX12_reads 104 = .ok (.iaload, 1) := by decide +kernel
theorem dX12_reads_105 : decode cX12_reads 105 = .ok (.iaload, 1) := by decide +kernel
theorem dX12_reads_106 : decode cX12_reads 106 = .ok (.ifCond .ne 25, 3) := by decide +kernel
theorem dX12_reads_109 : decode cX12_reads 109 = .ok (.aload_n 0, 1) := by decide +kernel
theorem dX12_reads_110 : decode cX12_reads 110 = .ok (.iload_n 1, 1) := by decide +kernel
theorem dX12_reads_111 : decode cX12_reads 111 = .ok (.aload_n 0, 1) := by decide +kernel
theorem dX12_reads_112 : decode cX12_reads 112 = .ok (.iload_n 2, 1) := by decide +kernel
theorem dX12_reads_113 : decode cX12_reads 113 = .ok (.iload_n 3, 1) := by decide +kernel
theorem dX12_reads_114 : decode cX12_reads 114 = .ok (.invokevirtual 214, 3) := by decide +kernel
theorem dX12_reads_117 : decode cX12_reads 117 = .ok (.ifCond .eq 7, 3) := by decide +kernel
theorem dX12_reads_120 : decode cX12_reads 120 = .ok (.iconst 1, 1) := by decide +kernel
theorem dX12_reads_121 : decode cX12_reads 121 = .ok (.goto 4, 3) := by decide +kernel
theorem dX12_reads_124 : decode cX12_reads 124 = .ok (.iconst 0, 1) := by decide +kernel
theorem dX12_reads_125 : decode cX12_reads 125 = .ok (.invokevirtual 217, 3) := by decide +kernel
theorem dX12_reads_128 : decode cX12_reads 128 = .ok (.goto 25, 3) := by decide +kernel
theorem dX12_reads_131 : decode cX12_reads 131 = .ok (.aload_n 0, 1) := by decide +kernel
theorem dX12_reads_132 : decode cX12_reads 132 = .ok (.iload_n 1, 1) := by decide +kernel
theorem dX12_reads_133 : decode cX12_reads 133 = .ok (.iload_n 2, 1) := by decide +kernel
theorem dX12_reads_134 : decode cX12_reads 134 = .ok (.invokevirtual 221, 3) := by decide +kernel
theorem dX12_reads_137 : decode cX12_reads 137 = .ok (.ifCond .ne 16, 3) := by decide +kernel
theorem dX12_reads_140 : decode cX12_reads 140 = .ok (.aload_n 0, 1) := by decide +kernel
theorem dX12_reads_141 : decode cX12_reads 141 = .ok (.iload_n 1, 1) := by decide +kernel
theorem dX12_reads_142 : decode cX12_reads 142 = .ok (.iload_n 2, 1) := by decide +kernel
theorem dX12_reads_143 : decode cX12_reads 143 = .ok (.invokevirtual 224, 3) := by decide +kernel
theorem dX12_reads_146 : decode cX12_reads 146 = .ok (.aload_n 0, 1) := by decide +kernel
theorem dX12_reads_147 : decode cX12_reads 147 = .ok (.getfield 44, 3) := by decide +kernel
theorem dX12_reads_150 : decode cX12_reads 150 = .ok (.iload_n 1, 1) := by decide +kernel
theorem dX12_reads_151 : decode cX12_reads 151 = .ok (.iconst 2, 1) := by decide +kernel
theorem dX12_reads_152 : decode cX12_reads 152 = .ok (.iastore, 1) := by decide +kernel
theorem dX12_reads_153 : decode cX12_reads 153 = .ok (.return_, 1) := by decide +kernel
def f_X12_reads_p125 (ln : Nat → Nat) (z0 : Int32) (z1 : Int32) (s : dr_S) : Option (Int32 × dr_S) := dr_bndv (f_X12_ends ln z1 z0 s) (fun s23 => some (0, s23))
def f_X12_reads (ln : Nat → Nat) (x1 : Int32) (s : dr_S) : Option (Int32 × dr_S) := (dr_rd ln s 40 x1).bind (fun v1 => (dr_rd ln s 41 x1).bind (fun v2 => (dr_rd ln s 51 v2).bind (fun v3 => dr_bnd (f_X12_covered ln x1 v1 v3 s) (fun r5 s4 => (if r5 = 0 then (dr_rd ln s4 36 v1).bind (fun v20 => (if v20 = (-1) then some (0, s4) else (dr_rd ln s4 36 v1).bind (fun v21 => (dr_wr ln s4 40 x1 v21).bind (fun s22 => some (0, s22))))) else (dr_rd ln s4 31 v1).bind (fun v6 => (if v6 ≤ 0 then (dr_rd ln s4 41 x1).bind (fun v7 => (dr_rd ln s4 50 v7).bind (fun v8 => (if v8 = 0 then dr_bnd (f_X12_hasCard ln v1 v3 s4) (fun r14 s13 => (if r14 = 0 then (f_X12_reads_p125 ln 0 x1 s13) else (f_X12_reads_p125 ln 1 x1 s13))) else dr_bnd (f_X12_isOthers ln x1 v1 s4) (fun r10 s9 => (if r10 = 0 then dr_bndv (f_X12_latches ln x1 v1 s9) (fun s11 => (dr_wr ln s11 39 x1 2).bind (fun s12 => some (0, s12))) else some (0, s9)))))) else (dr_rd ln s4 31 v1).bind (fun v15 => (dr_wr ln s4 44 ((64 * x1) + v15) v1).bind (fun s16 => dr_bnd (f_X12_way ln v1 v3 s16) (fun r18 s17 => (dr_wr ln s17 40 x1 r18).bind (fun s19 => some (0, s19))))))))))))
section
variable {p : Program} {l : Launch} {e : Env} {s0 : State} {m : MethodId} {args : Array Value} {below : List Frame} {meth : Method} {c : Code} {A : Nat → Prop} {D : va_G} {cI cZ : ClassId} {ad ln : Nat → Nat} {L : List Nat}
set_option maxHeartbeats 4000000 in
set_option maxRecDepth 20000 in
theorem w_X12_reads_p125 (E : dr_E p (dr_rm 4) s0 m args meth c 0 0 A s0.heap D cI cZ ad L cX12_reads 4 RX12 none) (hap : dr_ap ad L) (hN : ∀ x ∈ nd_12, x ∈ L) : ∀ (z0 : Int32) (z1 : Int32) (s : dr_S), dr_G p l e (dr_rm 4) s0 m args below meth c 0 0 A s0.heap D cI cZ ad ln L 4 (dr_Zv D cI cZ ad ln L A below args s0 0 0) 125 [] [.int z0, .int z1, .ref (ad 12)] s (f_X12_reads_p125 ln z0 z1 s) := by
  intro z0 z1 s
  unfold f_X12_reads_p125
  refine g_cVv E [.int z1, .int z0] rfl (c_X12_ends hap hN z1 z0 s) (hN 12 (by decide)) (by decide) rfl rfl mi_X12_ends msl_X12_ends mw_X12_ends rfl ml_12_217 ⟨Nat.le_of_ble_eq_true rfl, Nat.le_of_ble_eq_true rfl⟩ (Nat.le_of_ble_eq_true rfl) dX12_reads_125 (fun s23 => ?_)
  refine g_goto E 153 dX12_reads_128 (by decide) ?_
  exact g_vret E dX12_reads_153
set_option maxHeartbeats 4000000 in
set_option maxRecDepth 20000 in
theorem c_X12_reads (hap : dr_ap ad L) (hN : ∀ x ∈ nd_12, x ∈ L) (x1 : Int32) (s : dr_S) : dr_Mv l D cI cZ ad ln L yX12_reads cX12_reads 4 4 [.ref (ad 12), .int x1] s (f_X12_reads ln x1 s) := by
  refine dr_metv (own := RX12) (by decide) rfl (Nat.le_of_ble_eq_true rfl) hap ?_
  intro p e s0 m args below meth c A E
  unfold f_X12_reads
  refine g_eqL (lv' := [(0, .ref (ad 12)), (1, .int x1)]) rfl ?_
  refine g_aload_n E dX12_reads_0 0 rfl ?_
  refine gg_12_47 E (hN 12 (by decide)) dX12_reads_1 ?_
  refine g_iload_n E dX12_reads_4 1 rfl ?_
  refine g_iaload E (hN 40 (by decide)) (by decide) rfl dX12_reads_5 (fun v1 => ?_)
  refine g_istore_n E (lv' := [(2, .int v1), (0, .ref (ad 12)), (1, .int x1)]) dX12_reads_6 (by decide) rfl ?_
  refine g_aload_n E dX12_reads_7 1 rfl ?_
  refine gg_12_80 E (hN 12 (by decide)) dX12_reads_8 ?_
  refine g_aload_n E dX12_reads_11 1 rfl ?_
  refine gg_12_50 E (hN 12 (by decide)) dX12_reads_12 ?_
  refine g_iload_n E dX12_reads_15 2 rfl ?_
  refine g_iaload E (hN 41 (by decide)) (by decide) rfl dX12_reads_16 (fun v2 => ?_)
  refine g_iaload E (hN 51 (by decide)) (by decide) rfl dX12_reads_17 (fun v3 => ?_)
  refine g_istore_n E (lv' := [(3, .int v3), (2, .int v1), (0, .ref (ad 12)), (1, .int x1)]) dX12_reads_18 (by decide) rfl ?_
  refine g_aload_n E dX12_reads_19 2 rfl ?_
  refine g_iload_n E dX12_reads_20 3 rfl ?_
  refine g_iload_n E dX12_reads_21 1 rfl ?_
  refine g_iload_n E dX12_reads_22 0 rfl ?_
  refine g_cVi E [.int x1, .int v1, .int v3] rfl (c_X12_covered hap hN x1 v1 v3 s) (hN 12 (by decide)) (by decide) rfl rfl mi_X12_covered msl_X12_covered mw_X12_covered rfl ml_12_208 ⟨Nat.le_of_ble_eq_true rfl, Nat.le_of_ble_eq_true rfl⟩ (Nat.le_of_ble_eq_true rfl) dX12_reads_23 (fun r5 s4 => ?_)
  refine g_if_ne E 54 dX12_reads_26 (by decide) ?_ ?_
  · refine g_aload_n E dX12_reads_54 2 rfl ?_
    refine gg_12_20 E (hN 12 (by decide)) dX12_reads_55 ?_
    refine g_iload_n E dX12_reads_58 1 rfl ?_
    refine g_iaload E (hN 31 (by decide)) (by decide) rfl dX12_reads_59 (fun v6 => ?_)
    refine g_if_le E 95 dX12_reads_60 (by decide) ?_ ?_
    · refine g_aload_n E dX12_reads_95 2 rfl ?_
      refine gg_12_77 E (hN 12 (by decide)) dX12_reads_96 ?_
      refine g_aload_n E dX12_reads_99 2 rfl ?_
      refine gg_12_50 E (hN 12 (by decide)) dX12_reads_100 ?_
      refine g_iload_n E dX12_reads_103 3 rfl ?_
      refine g_iaload E (hN 41 (by decide)) (by decide) rfl dX12_reads_104 (fun v7 => ?_)
      refine g_iaload E (hN 50 (by decide)) (by decide) rfl dX12_reads_105 (fun v8 => ?_)
      refine g_if_ne E 131 dX12_reads_106 (by decide) ?_ ?_
      · refine g_aload_n E dX12_reads_131 2 rfl ?_
        refine g_iload_n E dX12_reads_132 3 rfl ?_
        refine g_iload_n E dX12_reads_133 1 rfl ?_
        refine g_cVi E [.int x1, .int v1] rfl (c_X12_isOthers hap hN x1 v1 s4) (hN 12 (by decide)) (by decide) rfl rfl mi_X12_isOthers msl_X12_isOthers mw_X12_isOthers rfl ml_12_221 ⟨Nat.le_of_ble_eq_true rfl, Nat.le_of_ble_eq_true rfl⟩ (Nat.le_of_ble_eq_true rfl) dX12_reads_134 (fun r10 s9 => ?_)
        refine g_if_ne E 153 dX12_reads_137 (by decide) ?_ ?_
        · exact g_vret E dX12_reads_153
        · refine g_aload_n E dX12_reads_140 2 rfl ?_
          refine g_iload_n E dX12_reads_141 3 rfl ?_
          refine g_iload_n E dX12_reads_142 1 rfl ?_
          refine g_cVv E [.int x1, .int v1] rfl (c_X12_latches hap hN x1 v1 s9) (hN 12 (by decide)) (by decide) rfl rfl mi_X12_latches msl_X12_latches mw_X12_latches rfl ml_12_224 ⟨Nat.le_of_ble_eq_true rfl, Nat.le_of_ble_eq_true rfl⟩ (Nat.le_of_ble_eq_true rfl) dX12_reads_143 (fun s11 => ?_)
          refine g_aload_n E dX12_reads_146 2 rfl ?_
          refine gg_12_44 E (hN 12 (by decide)) dX12_reads_147 ?_
          refine g_iload_n E dX12_reads_150 3 rfl ?_
          refine g_iconst E (v := 2) dX12_reads_151 (by decide) ?_
          refine g_iastore E (hN 39 (by decide)) (by decide) rfl dX12_reads_152 (fun s12 => ?_)
          exact g_vret E dX12_reads_153
      · refine g_aload_n E dX12_reads_109 2 rfl ?_
        refine g_iload_n E dX12_reads_110 3 rfl ?_
        refine g_aload_n E dX12_reads_111 2 rfl ?_
        refine g_iload_n E dX12_reads_112 1 rfl ?_
        refine g_iload_n E dX12_reads_113 0 rfl ?_
        refine g_cVi E [.int v1, .int v3] rfl (c_X12_hasCard hap hN v1 v3 s4) (hN 12 (by decide)) (by decide) rfl rfl mi_X12_hasCard msl_X12_hasCard mw_X12_hasCard rfl ml_12_214 ⟨Nat.le_of_ble_eq_true rfl, Nat.le_of_ble_eq_true rfl⟩ (Nat.le_of_ble_eq_true rfl) dX12_reads_114 (fun r14 s13 => ?_)
        refine g_if_eq E 124 dX12_reads_117 (by decide) ?_ ?_
        · refine g_iconst E (v := 0) dX12_reads_124 (by decide) ?_
          refine g_sub [] rfl ?_
          exact w_X12_reads_p125 E hap hN 0 x1 s13
        · refine g_iconst E (v := 1) dX12_reads_120 (by decide) ?_
          refine g_goto E 125 dX12_reads_121 (by decide) ?_
          refine g_sub [] rfl ?_
          exact w_X12_reads_p125 E hap hN 1 x1 s13
    · refine g_aload_n E dX12_reads_63 2 rfl ?_
      refine gg_12_59 E (hN 12 (by decide)) dX12_reads_64 ?_
      refine g_bipush E (v := 64) dX12_reads_67 (by decide) ?_
      refine g_iload_n E dX12_reads_69 3 rfl ?_
      refine g_imul E dX12_reads_70 ?_
      refine g_aload_n E dX12_reads_71 2 rfl ?_
      refine gg_12_20 E (hN 12 (by decide)) dX12_reads_72 ?_
      refine g_iload_n E dX12_reads_75 1 rfl ?_
      refine g_iaload E (hN 31 (by decide)) (by decide) rfl dX12_reads_76 (fun v15 => ?_)
      refine g_iadd E dX12_reads_77 ?_
      refine g_iload_n E dX12_reads_78 1 rfl ?_
      refine g_iastore E (hN 44 (by decide)) (by decide) rfl dX12_reads_79 (fun s16 => ?_)
      refine g_aload_n E dX12_reads_80 2 rfl ?_
      refine gg_12_47 E (hN 12 (by decide)) dX12_reads_81 ?_
      refine g_iload_n E dX12_reads_84 3 rfl ?_
      refine g_aload_n E dX12_reads_85 2 rfl ?_
      refine g_iload_n E dX12_reads_86 1 rfl ?_
      refine g_iload_n E dX12_reads_87 0 rfl ?_
      refine g_cVi E [.int v1, .int v3] rfl (c_X12_way hap hN v1 v3 s16) (hN 12 (by decide)) (by decide) rfl rfl mi_X12_way msl_X12_way mw_X12_way rfl ml_12_211 ⟨Nat.le_of_ble_eq_true rfl, Nat.le_of_ble_eq_true rfl⟩ (Nat.le_of_ble_eq_true rfl) dX12_reads_88 (fun r18 s17 => ?_)
      refine g_iastore E (hN 40 (by decide)) (by decide) rfl dX12_reads_91 (fun s19 => ?_)
      refine g_goto E 153 dX12_reads_92 (by decide) ?_
      exact g_vret E dX12_reads_153
  · refine g_aload_n E dX12_reads_29 2 rfl ?_
    refine gg_12_35 E (hN 12 (by decide)) dX12_reads_30 ?_
    refine g_iload_n E dX12_reads_33 1 rfl ?_
    refine g_iaload E (hN 36 (by decide)) (by decide) rfl dX12_reads_34 (fun v20 => ?_)
    refine g_iconst E (v := (-1)) dX12_reads_35 (by decide) ?_
    refine g_icmp_eq E 153 dX12_reads_36 (by decide) ?_ ?_
    · exact g_vret E dX12_reads_153
    · refine g_aload_n E dX12_reads_39 2 rfl ?_
      refine gg_12_47 E (hN 12 (by decide)) dX12_reads_40 ?_
      refine g_iload_n E dX12_reads_43 3 rfl ?_
      refine g_aload_n E dX12_reads_44 2 rfl ?_
      refine gg_12_35 E (hN 12 (by decide)) dX12_reads_45 ?_
      refine g_iload_n E dX12_reads_48 1 rfl ?_
      refine g_iaload E (hN 36 (by decide)) (by decide) rfl dX12_reads_49 (fun v21 => ?_)
      refine g_iastore E (hN 40 (by decide)) (by decide) rfl dX12_reads_50 (fun s22 => ?_)
      refine g_goto E 153 dX12_reads_51 (by decide) ?_
      exact g_vret E dX12_reads_153
end

theorem dX12_holds_0 : decode cX12_holds 0 = .ok (.aload_n 0, 1) := by decide +kernel
theorem dX12_holds_1 : decode cX12_holds 1 = .ok (.getfield 47, 3) := by decide +kernel
theorem dX12_holds_4 : decode cX12_holds 4 = .ok (.iload_n 1, 1) := by decide +kernel
theorem dX12_holds_5 : decode cX12_holds 5 = .ok (.iaload, 1) := by decide +kernel
theorem dX12_holds_6 : decode cX12_holds 6 = .ok (.istore_n 2, 1) := by decide +kernel
theorem dX12_holds_7 : decode cX12_holds 7 = .ok (.aload_n 0, 1) := by decide +kernel
theorem dX12_holds_8 : decode cX12_holds 8 = .ok (.iload_n 1, 1) := by decide +kernel
theorem dX12_holds_9 : decode cX12_holds 9 = .ok (.iload_n 2, 1) := by decide +kernel
theorem dX12_holds_10 : decode cX12_holds 10 = .ok (.aload_n 0, 1) := by decide +kernel
theorem dX12_holds_11 : decode cX12_holds 11 = .ok (.iload_n 1, 1) := by decide +kernel
theorem dX12_holds_12 : decode cX12_holds 12 = .ok (.invokevirtual 227, 3) := by decide +kernel
theorem dX12_holds_15 : decode cX12_holds 15 = .ok (.invokevirtual 208, 3) := by decide +kernel
theorem dX12_holds_18 : decode cX12_holds 18 = .ok (.ifCond .ne 45, 3) := by decide +kernel
theorem dX12_holds_21 : decode cX12_holds 21 = .ok (.aload_n 0, 1) := by decide +kernel
theorem dX12_holds_22 : decode cX12_holds 22 = .ok (.getfield 35, 3) := by decide +kernel
theorem dX12_holds_25 : decode cX12_holds 25 = .ok (.iload_n 2, 1) := by decide +kernel
theorem dX12_holds_26 : decode cX12_holds 26 = .ok (.iaload, 1) := by decide +kernel
theorem dX12_holds_27 : decode cX12_holds 27 = .ok (.istore_n 3, 1) := by decide +kernel
theorem dX12_holds_28 : decode cX12_holds 28 = .ok (.iload_n 3, 1) := by decide +kernel
theorem dX12_holds_29 : decode cX12_holds 29 = .ok (.iconst (-1), 1) := by decide +kernel
theorem dX12_holds_30 : decode cX12_holds 30 = .ok (.if_icmp .eq 12, 3) := by decide +kernel
theorem dX12_holds_33 : decode cX12_holds 33 = .ok (.aload_n 0, 1) := by decide +kernel
theorem dX12_holds_34 : decode cX12_holds 34 = .ok (.iload_n 1, 1) := by decide +kernel
theorem dX12_holds_35 : decode cX12_holds 35 = .ok (.iload_n 3, 1) := by decide +kernel
theorem dX12_holds_36 : decode cX12_holds 36 = .ok (.invokevirtual 221, 3) := by decide +kernel
theorem dX12_holds_39 : decode cX12_holds 39 = .ok (.ifCond .eq 4, 3) := by decide +kernel
theorem dX12_holds_42 : decode cX12_holds 42 = .ok (.return_, 1) := by decide +kernel
theorem dX12_holds_43 : decode cX12_holds 43 = .ok (.aload_n 0, 1) := by decide +kernel
theorem dX12_holds_44 : decode cX12_holds 44 = .ok (.iload_n 1, 1) := by decide +kernel
theorem dX12_holds_45 : decode cX12_holds 45 = .ok (.iload_n 3, 1) := by decide +kernel
theorem dX12_holds_46 : decode cX12_holds 46 = .ok (.invokevirtual 224, 3) := by decide +kernel
theorem dX12_holds_49 : decode cX12_holds 49 = .ok (.aload_n 0, 1) := by decide +kernel
theorem dX12_holds_50 : decode cX12_holds 50 = .ok (.iload_n 1, 1) := by decide +kernel
theorem dX12_holds_51 : decode cX12_holds 51 = .ok (.iload_n 2, 1) := by decide +kernel
theorem dX12_holds_52 : decode cX12_holds 52 = .ok (.invokevirtual 231, 3) := by decide +kernel
theorem dX12_holds_55 : decode cX12_holds 55 = .ok (.aload_n 0, 1) := by decide +kernel
theorem dX12_holds_56 : decode cX12_holds 56 = .ok (.getfield 47, 3) := by decide +kernel
theorem dX12_holds_59 : decode cX12_holds 59 = .ok (.iload_n 1, 1) := by decide +kernel
theorem dX12_holds_60 : decode cX12_holds 60 = .ok (.iload_n 3, 1) := by decide +kernel
theorem dX12_holds_61 : decode cX12_holds 61 = .ok (.iastore, 1) := by decide +kernel
theorem dX12_holds_62 : decode cX12_holds 62 = .ok (.return_, 1) := by decide +kernel
theorem dX12_holds_63 : decode cX12_holds 63 = .ok (.aload_n 0, 1) := by decide +kernel
theorem dX12_holds_64 : decode cX12_holds 64 = .ok (.getfield 62, 3) := by decide +kernel
theorem dX12_holds_67 : decode cX12_holds 67 = .ok (.iload_n 1, 1) := by decide +kernel
theorem dX12_holds_68 : decode cX12_holds 68 = .ok (.aload_n 0, 1) := by decide +kernel
theorem dX12_holds_69 : decode cX12_holds 69 = .ok (.getfield 23, 3) := by decide +kernel
theorem dX12_holds_72 : decode cX12_holds 72 = .ok (.iload_n 2, 1) := by decide +kernel
theorem dX12_holds_73 : decode cX12_holds 73 = .ok (.iaload, 1) := by decide +kernel
theorem dX12_holds_74 : decode cX12_holds 74 = .ok (.iastore, 1) := by decide +kernel
theorem dX12_holds_75 : decode cX12_holds 75 = .ok (.iconst 0, 1) := by decide +kernel
theorem dX12_holds_76 : decode cX12_holds 76 = .ok (.istore_n 3, 1) := by decide +kernel
theorem dX12_holds_77 : decode cX12_holds 77 = .ok (.iload_n 3, 1) := by decide +kernel
theorem dX12_holds_78 : decode cX12_holds 78 = .ok (.bipush 14, 2) := by decide +kernel
theorem dX12_holds_80 : decode cX12_holds 80 = .ok (.if_icmp .ge 53, 3) := by decide +kernel
theorem dX12_holds_83 : decode cX12_holds 83 = .ok (.aload_n 0, 1) := by decide +kernel
theorem dX12_holds_84 : decode cX12_holds 84 = .ok (.getfield 65, 3) := by decide +kernel
theorem dX12_holds_87 : decode cX12_holds 87 = .ok (.bipush 14, 2) := by decide +kernel
theorem dX12_holds_89 : decode cX12_holds 89 = .ok (.iload_n 1, 1) := by decide +kernel
theorem dX12_holds_90 : decode cX12_holds 90 = .ok (.imul, 1) := by decide +kernel
theorem dX12_holds_91 : decode cX12_holds 91 = .ok (.iload_n 3, 1) := by decide +kernel
theorem dX12_holds_92 : decode cX12_holds 92 = .ok (.iadd, 1) := by decide +kernel
theorem dX12_holds_93 : decode cX12_holds 93 = .ok (.aload_n 0, 1) := by decide +kernel
theorem dX12_holds_94 : decode cX12_holds 94 = .ok (.getfield 26, 3) := by decide +kernel
theorem dX12_holds_97 : decode cX12_holds 97 = .ok (.bipush 14, 2) := by decide +kernel
theorem dX12_holds_99 : decode cX12_holds 99 = .ok (.iload_n 2, 1) := by decide +kernel
theorem dX12_holds_100 : decode cX12_holds 100 = .ok (.imul, 1) := by decide +kernel
theorem dX12_holds_101 : decode cX12_holds 101 = .ok (.iload_n 3, 1) := by decide +kernel
theorem dX12_holds_102 : decode cX12_holds 102 = .ok (.iadd, 1) := by decide +kernel
theorem dX12_holds_103 : decode cX12_holds 103 = .ok (.iaload, 1) := by decide +kernel
theorem dX12_holds_104 : decode cX12_holds 104 = .ok (.iastore, 1) := by decide +kernel
theorem dX12_holds_105 : decode cX12_holds 105 = .ok (.aload_n 0, 1) := by decide +kernel
theorem dX12_holds_106 : decode cX12_holds 106 = .ok (.getfield 68, 3) := by decide +kernel
theorem dX12_holds_109 : decode cX12_holds 109 = .ok (.bipush 14, 2) := by decide +kernel
theorem dX12_holds_111 : decode cX12_holds 111 = .ok (.iload_n 1, 1) := by decide +kernel
theorem dX12_holds_112 : decode cX12_holds 112 = .ok (.imul, 1) := by decide +kernel
theorem dX12_holds_113 : decode cX12_holds 113 = .ok (.iload_n 3, 1) := by decide +kernel
theorem dX12_holds_114 : decode cX12_holds 114 = .ok (.iadd, 1) := by decide +kernel
theorem dX12_holds_115 : decode cX12_holds 115 = .ok (.aload_n 0, 1) := by decide +kernel
theorem dX12_holds_116 : decode cX12_holds 116 = .ok (.getfield 29, 3) := by decide +kernel
theorem dX12_holds_119 : decode cX12_holds 119 = .ok (.bipush 14, 2) := by decide +kernel
theorem dX12_holds_121 : decode cX12_holds 121 = .ok (.iload_n 2, 1) := by decide +kernel
theorem dX12_holds_122 : decode cX12_holds 122 = .ok (.imul, 1) := by decide +kernel
theorem dX12_holds_123 : decode cX12_holds 123 = .ok (.iload_n 3, 1) := by decide +kernel
theorem dX12_holds_124 : decode cX12_holds 124 = .ok (.iadd, 1) := by decide +kernel
theorem dX12_holds_125 : decode cX12_holds 125 = .ok (.iaload, 1) := by decide +kernel
theorem dX12_holds_126 : decode cX12_holds 126 = .ok (.iastore, 1) := by decide +kernel
theorem dX12_holds_127 : decode cX12_holds 127 = .ok (.iinc 3 1, 3) := by decide +kernel
theorem dX12_holds_130 : decode cX12_holds 130 = .ok (.goto (-53), 3) := by decide +kernel
theorem dX12_holds_133 : decode cX12_holds 133 = .ok (.aload_n 0, 1) := by decide +kernel
theorem dX12_holds_134 : decode cX12_holds 134 = .ok (.getfield 71, 3) := by decide +kernel
theorem dX12_holds_137 : decode cX12_holds 137 = .ok (.iload_n 1, 1) := by decide +kernel
theorem dX12_holds_138 : decode cX12_holds 138 = .ok (.aload_n 0, 1) := by decide +kernel
theorem dX12_holds_139 : decode cX12_holds 139 = .ok (.getfield 32, 3) := by decide +kernel
theorem dX12_holds_142 : decode cX12_holds 142 = .ok (.iload_n 2, 1) := by decide +kernel
theorem dX12_holds_143 : decode cX12_holds 143 = .ok (.iaload, 1) := by decide +kernel
theorem dX12_holds_144 : decode cX12_holds 144 = .ok (.iastore, 1) := by decide +kernel
theorem dX12_holds_145 : decode cX12_holds 145 = .ok (.aload_n 0, 1) := by decide +kernel
theorem dX12_holds_146 : decode cX12_holds 146 = .ok (.getfield 74, 3) := by decide +kernel
theorem dX12_holds_149 : decode cX12_holds 149 = .ok (.iload_n 1, 1) := by decide +kernel
theorem dX12_holds_150 : decode cX12_holds 150 = .ok (.aload_n 0, 1) := by decide +kernel
theorem dX12_holds_151 : decode cX12_holds 151 = .ok (.getfield 35, 3) := by decide +kernel
theorem dX12_holds_154 : decode cX12_holds 154 = .ok (.iload_n 2, 1) := by decide +kernel
theorem dX12_holds_155 : decode cX12_holds 155 = .ok (.iaload, 1) := by decide +kernel
theorem dX12_holds_156 : decode cX12_holds 156 = .ok (.iastore, 1) := by decide +kernel
theorem dX12_holds_157 : decode cX12_holds 157 = .ok (.aload_n 0, 1) := by decide +kernel
theorem dX12_holds_158 : decode cX12_holds 158 = .ok (.getfield 44, 3) := by decide +kernel
theorem dX12_holds_161 : decode cX12_holds 161 = .ok (.iload_n 1, 1) := by decide +kernel
theorem dX12_holds_162 : decode cX12_holds 162 = .ok (.iconst 3, 1) := by decide +kernel
theorem dX12_holds_163 : decode cX12_holds 163 = .ok (.iastore, 1) := by decide +kernel
theorem dX12_holds_164 : decode cX12_holds 164 = .ok (.return_, 1) := by decide +kernel
def f_X12_holds_p77 (ln : Nat → Nat) : Nat → Int32 → Int32 → Int32 → dr_S → Option (Int32 × dr_S)
  | 0, _, _, _, _ => none
  | n + 1, x1, x2, x3, s => (if ((14 : Int32) ≤ x3 : Prop) then (dr_rd ln s 35 x2).bind (fun v14 => (dr_wr ln s 48 x1 v14).bind (fun s15 => (dr_rd ln s15 36 x2).bind (fun v16 => (dr_wr ln s15 49 x1 v16).bind (fun s17 => (dr_wr ln s17 39 x1 3).bind (fun s18 => some (0, s18)))))) else (dr_rd ln s 33 ((14 * x2) + x3)).bind (fun v19 => (dr_wr ln s 46 ((14 * x1) + x3) v19).bind (fun s20 => (dr_rd ln s20 34 ((14 * x2) + x3)).bind (fun v21 => (dr_wr ln s20 47 ((14 * x1) + x3) v21).bind (fun s22 => dr_let (x3 + 1) (fun y23 => (f_X12_holds_p77 ln n x1 x2 y23 s22)))))))
def f_X12_holds (ln : Nat → Nat) (x1 : Int32) (s : dr_S) : Option (Int32 × dr_S) := (dr_rd ln s 40 x1).bind (fun v1 => dr_bnd (f_X12_looksFor ln x1 s) (fun r3 s2 => dr_bnd (f_X12_covered ln x1 v1 r3 s2) (fun r5 s4 => (if r5 = 0 then (dr_rd ln s4 36 v1).bind (fun v8 => (if v8 = (-1) then some (0, s4) else dr_bnd (f_X12_isOthers ln x1 v8 s4) (fun r10 s9 => (if r10 = 0 then dr_bndv (f_X12_latches ln x1 v8 s9) (fun s11 => dr_bndv (f_X12_letsGo ln x1 v1 s11) (fun s12 => (dr_wr ln s12 40 x1 v8).bind (fun s13 => some (0, s13)))) else some (0, s9))))) else (dr_rd ln s4 32 v1).bind (fun v6 => (dr_wr ln s4 45 x1 v6).bind (fun s7 => (f_X12_holds_p77 ln dr_N x1 v1 0 s7)))))))
section
variable {p : Program} {l : Launch} {e : Env} {s0 : State} {m : MethodId} {args : Array Value} {below : List Frame} {meth : Method} {c : Code} {A : Nat → Prop} {D : va_G} {cI cZ : ClassId} {ad ln : Nat → Nat} {L : List Nat}
set_option maxHeartbeats 4000000 in
set_option maxRecDepth 20000 in
theorem w_X12_holds_p77 (E : dr_E p (dr_rm 4) s0 m args meth c 0 0 A s0.heap D cI cZ ad L cX12_holds 4 RX12 none) (hap : dr_ap ad L) (hN : ∀ x ∈ nd_12, x ∈ L) : ∀ (n : Nat) (x1 : Int32) (x2 : Int32) (x3 : Int32) (s : dr_S), dr_G p l e (dr_rm 4) s0 m args below meth c 0 0 A s0.heap D cI cZ ad ln L 4 (dr_Zv D cI cZ ad ln L A below args s0 0 0) 77 [(0, .ref (ad 12)), (1, .int x1), (2, .int x2), (3, .int x3)] [] s (f_X12_holds_p77 ln n x1 x2 x3 s) := by
  intro n
  induction n with
  | zero =>
    intro x1 x2 x3 s
    rw [f_X12_holds_p77]
    exact g_none
  | succ n hkb77 =>
    intro x1 x2 x3 s
    rw [f_X12_holds_p77]
    refine g_iload_n E dX12_holds_77 3 rfl ?_
    refine g_bipush E (v := 14) dX12_holds_78 (by decide) ?_
    refine g_icmp_ge E 133 dX12_holds_80 (by decide) ?_ ?_
    · refine g_aload_n E dX12_holds_133 0 rfl ?_
      refine gg_12_71 E (hN 12 (by decide)) dX12_holds_134 ?_
      refine g_iload_n E dX12_holds_137 1 rfl ?_
      refine g_aload_n E dX12_holds_138 0 rfl ?_
      refine gg_12_32 E (hN 12 (by decide)) dX12_holds_139 ?_
      refine g_iload_n E dX12_holds_142 2 rfl ?_
      refine g_iaload E (hN 35 (by decide)) (by decide) rfl dX12_holds_143 (fun v14 => ?_)
      refine g_iastore E (hN 48 (by decide)) (by decide) rfl dX12_holds_144 (fun s15 => ?_)
      refine g_aload_n E dX12_holds_145 0 rfl ?_
      refine gg_12_74 E (hN 12 (by decide)) dX12_holds_146 ?_
      refine g_iload_n E dX12_holds_149 1 rfl ?_
      refine g_aload_n E dX12_holds_150 0 rfl ?_
      refine gg_12_35 E (hN 12 (by decide)) dX12_holds_151 ?_
      refine g_iload_n E dX12_holds_154 2 rfl ?_
      refine g_iaload E (hN 36 (by decide)) (by decide) rfl dX12_holds_155 (fun v16 => ?_)
      refine g_iastore E (hN 49 (by decide)) (by decide) rfl dX12_holds_156 (fun s17 => ?_)
      refine g_aload_n E dX12_holds_157 0 rfl ?_
      refine gg_12_44 E (hN 12 (by decide)) dX12_holds_158 ?_
      refine g_iload_n E dX12_holds_161 1 rfl ?_
      refine g_iconst E (v := 3) dX12_holds_162 (by decide) ?_
      refine g_iastore E (hN 39 (by decide)) (by decide) rfl dX12_holds_163 (fun s18 => ?_)
      exact g_vret E dX12_holds_164
    · refine g_aload_n E dX12_holds_83 0 rfl ?_
      refine gg_12_65 E (hN 12 (by decide)) dX12_holds_84 ?_
      refine g_bipush E (v := 14) dX12_holds_87 (by decide) ?_
      refine g_iload_n E dX12_holds_89 1 rfl ?_
      refine g_imul E dX12_holds_90 ?_
      refine g_iload_n E dX12_holds_91 3 rfl ?_
      refine g_iadd E dX12_holds_92 ?_
      refine g_aload_n E dX12_holds_93 0 rfl ?_
      refine gg_12_26 E (hN 12 (by decide)) dX12_holds_94 ?_
      refine g_bipush E (v := 14) dX12_holds_97 (by decide) ?_
      refine g_iload_n E dX12_holds_99 2 rfl ?_
      refine g_imul E dX12_holds_100 ?_
      refine g_iload_n E dX12_holds_101 3 rfl ?_
      refine g_iadd E dX12_holds_102 ?_
      refine g_iaload E (hN 33 (by decide)) (by decide) rfl dX12_holds_103 (fun v19 => ?_)
      refine g_iastore E (hN 46 (by decide)) (by decide) rfl dX12_holds_104 (fun s20 => ?_)
      refine g_aload_n E dX12_holds_105 0 rfl ?_
      refine gg_12_68 E (hN 12 (by decide)) dX12_holds_106 ?_
      refine g_bipush E (v := 14) dX12_holds_109 (by decide) ?_
      refine g_iload_n E dX12_holds_111 1 rfl ?_
      refine g_imul E dX12_holds_112 ?_
      refine g_iload_n E dX12_holds_113 3 rfl ?_
      refine g_iadd E dX12_holds_114 ?_
      refine g_aload_n E dX12_holds_115 0 rfl ?_
      refine gg_12_29 E (hN 12 (by decide)) dX12_holds_116 ?_
      refine g_bipush E (v := 14) dX12_holds_119 (by decide) ?_
      refine g_iload_n E dX12_holds_121 2 rfl ?_
      refine g_imul E dX12_holds_122 ?_
      refine g_iload_n E dX12_holds_123 3 rfl ?_
      refine g_iadd E dX12_holds_124 ?_
      refine g_iaload E (hN 34 (by decide)) (by decide) rfl dX12_holds_125 (fun v21 => ?_)
      refine g_iastore E (hN 47 (by decide)) (by decide) rfl dX12_holds_126 (fun s22 => ?_)
      refine g_iinc E (lv' := []) (lv'' := fun y23 => [(3, .int y23), (0, .ref (ad 12)), (1, .int x1), (2, .int x2)]) (v := 1) dX12_holds_127 3 rfl (by decide) (by decide) (fun _ => rfl) (fun y23 => ?_)
      refine g_goto E 77 dX12_holds_130 (by decide) ?_
      refine g_sub [1, 2, 3, 0] rfl ?_
      exact hkb77 x1 x2 y23 s22
set_option maxHeartbeats 4000000 in
set_option maxRecDepth 20000 in
theorem c_X12_holds (hap : dr_ap ad L) (hN : ∀ x ∈ nd_12, x ∈ L) (x1 : Int32) (s : dr_S) : dr_Mv l D cI cZ ad ln L yX12_holds cX12_holds 4 4 [.ref (ad 12), .int x1] s (f_X12_holds ln x1 s) := by
  refine dr_metv (own := RX12) (by decide) rfl (Nat.le_of_ble_eq_true rfl) hap ?_
  intro p e s0 m args below meth c A E
  unfold f_X12_holds
  refine g_eqL (lv' := [(0, .ref (ad 12)), (1, .int x1)]) rfl ?_
  refine g_aload_n E dX12_holds_0 0 rfl ?_
  refine gg_12_47 E (hN 12 (by decide)) dX12_holds_1 ?_
  refine g_iload_n E dX12_holds_4 1 rfl ?_
  refine g_iaload E (hN 40 (by decide)) (by decide) rfl dX12_holds_5 (fun v1 => ?_)
  refine g_istore_n E (lv' := [(2, .int v1), (0, .ref (ad 12)), (1, .int x1)]) dX12_holds_6 (by decide) rfl ?_
  refine g_aload_n E dX12_holds_7 1 rfl ?_
  refine g_iload_n E dX12_holds_8 2 rfl ?_
  refine g_iload_n E dX12_holds_9 0 rfl ?_
  refine g_aload_n E dX12_holds_10 1 rfl ?_
  refine g_iload_n E dX12_holds_11 2 rfl ?_
  refine g_cVi E [.int x1] rfl (c_X12_looksFor hap hN x1 s) (hN 12 (by decide)) (by decide) rfl rfl mi_X12_looksFor msl_X12_looksFor mw_X12_looksFor rfl ml_12_227 ⟨Nat.le_of_ble_eq_true rfl, Nat.le_of_ble_eq_true rfl⟩ (Nat.le_of_ble_eq_true rfl) dX12_holds_12 (fun r3 s2 => ?_)
  refine g_cVi E [.int x1, .int v1, .int r3] rfl (c_X12_covered hap hN x1 v1 r3 s2) (hN 12 (by decide)) (by decide) rfl rfl mi_X12_covered msl_X12_covered mw_X12_covered rfl ml_12_208 ⟨Nat.le_of_ble_eq_true rfl, Nat.le_of_ble_eq_true rfl⟩ (Nat.le_of_ble_eq_true rfl) dX12_holds_15 (fun r5 s4 => ?_)
  refine g_if_ne E 63 dX12_holds_18 (by decide) ?_ ?_
  · refine g_aload_n E dX12_holds_63 1 rfl ?_
    refine gg_12_62 E (hN 12 (by decide)) dX12_holds_64 ?_
    refine g_iload_n E dX12_holds_67 2 rfl ?_
    refine g_aload_n E dX12_holds_68 1 rfl ?_
    refine gg_12_23 E (hN 12 (by decide)) dX12_holds_69 ?_
    refine g_iload_n E dX12_holds_72 0 rfl ?_
    refine g_iaload E (hN 32 (by decide)) (by decide) rfl dX12_holds_73 (fun v6 => ?_)
    refine g_iastore E (hN 45 (by decide)) (by decide) rfl dX12_holds_74 (fun s7 => ?_)
    refine g_iconst E (v := 0) dX12_holds_75 (by decide) ?_
    refine g_istore_n E (lv' := [(3, .int 0), (2, .int v1), (0, .ref (ad 12)), (1, .int x1)]) dX12_holds_76 (by decide) rfl ?_
    refine g_sub [2, 3, 1, 0] rfl ?_
    exact w_X12_holds_p77 E hap hN dr_N x1 v1 0 s7
  · refine g_aload_n E dX12_holds_21 1 rfl ?_
    refine gg_12_35 E (hN 12 (by decide)) dX12_holds_22 ?_
    refine g_iload_n E dX12_holds_25 0 rfl ?_
    refine g_iaload E (hN 36 (by decide)) (by decide) rfl dX12_holds_26 (fun v8 => ?_)
    refine g_istore_n E (lv' := [(3, .int v8), (2, .int v1), (0, .ref (ad 12)), (1, .int x1)]) dX12_holds_27 (by decide) rfl ?_
    refine g_iload_n E dX12_holds_28 0 rfl ?_
    refine g_iconst E (v := (-1)) dX12_holds_29 (by decide) ?_
    refine g_icmp_eq E 42 dX12_holds_30 (by decide) ?_ ?_
    · exact g_vret E dX12_holds_42
    · refine g_aload_n E dX12_holds_33 2 rfl ?_
      refine g_iload_n E dX12_holds_34 3 rfl ?_
      refine g_iload_n E dX12_holds_35 0 rfl ?_
      refine g_cVi E [.int x1, .int v8] rfl (c_X12_isOthers hap hN x1 v8 s4) (hN 12 (by decide)) (by decide) rfl rfl mi_X12_isOthers msl_X12_isOthers mw_X12_isOthers rfl ml_12_221 ⟨Nat.le_of_ble_eq_true rfl, Nat.le_of_ble_eq_true rfl⟩ (Nat.le_of_ble_eq_true rfl) dX12_holds_36 (fun r10 s9 => ?_)
      refine g_if_eq E 43 dX12_holds_39 (by decide) ?_ ?_
      · refine g_aload_n E dX12_holds_43 2 rfl ?_
        refine g_iload_n E dX12_holds_44 3 rfl ?_
        refine g_iload_n E dX12_holds_45 0 rfl ?_
        refine g_cVv E [.int x1, .int v8] rfl (c_X12_latches hap hN x1 v8 s9) (hN 12 (by decide)) (by decide) rfl rfl mi_X12_latches msl_X12_latches mw_X12_latches rfl ml_12_224 ⟨Nat.le_of_ble_eq_true rfl, Nat.le_of_ble_eq_true rfl⟩ (Nat.le_of_ble_eq_true rfl) dX12_holds_46 (fun s11 => ?_)
        refine g_aload_n E dX12_holds_49 2 rfl ?_
        refine g_iload_n E dX12_holds_50 3 rfl ?_
        refine g_iload_n E dX12_holds_51 1 rfl ?_
        refine g_cVv E [.int x1, .int v1] rfl (c_X12_letsGo hap hN x1 v1 s11) (hN 12 (by decide)) (by decide) rfl rfl mi_X12_letsGo msl_X12_letsGo mw_X12_letsGo rfl ml_12_231 ⟨Nat.le_of_ble_eq_true rfl, Nat.le_of_ble_eq_true rfl⟩ (Nat.le_of_ble_eq_true rfl) dX12_holds_52 (fun s12 => ?_)
        refine g_aload_n E dX12_holds_55 2 rfl ?_
        refine gg_12_47 E (hN 12 (by decide)) dX12_holds_56 ?_
        refine g_iload_n E dX12_holds_59 3 rfl ?_
        refine g_iload_n E dX12_holds_60 0 rfl ?_
        refine g_iastore E (hN 40 (by decide)) (by decide) rfl dX12_holds_61 (fun s13 => ?_)
        exact g_vret E dX12_holds_62
      · exact g_vret E dX12_holds_42
end

theorem dX12_placeIn_0 : decode cX12_placeIn 0 = .ok (.iconst 0, 1) := by decide +kernel
theorem dX12_placeIn_1 : decode cX12_placeIn 1 = .ok (.istore_n 3, 1) := by decide +kernel
theorem dX12_placeIn_2 : decode cX12_placeIn 2 = .ok (.iload_n 3, 1) := by decide +kernel
theorem dX12_placeIn_3 : decode cX12_placeIn 3 = .ok (.aload_n 0, 1) := by decide +kernel
theorem dX12_placeIn_4 : decode cX12_placeIn 4 = .ok (.getfield 62, 3) := by decide +kernel
theorem dX12_placeIn_7 : decode cX12_placeIn 7 = .ok (.iload_n 1, 1) := by decide +kernel
theorem dX12_placeIn_8 : decode cX12_placeIn 8 = .ok (.iaload, 1) := by decide +kernel
theorem dX12_placeIn_9 : decode cX12_placeIn 9 = .ok (.if_icmp .ge 43, 3) := by decide +kernel
theorem dX12_placeIn_12 : decode cX12_placeIn 12 = .ok (.aload_n 0, 1) := by decide +kernel
theorem dX12_placeIn_13 : decode cX12_placeIn 13 = .ok (.getfield 65, 3) := by decide +kernel
theorem dX12_placeIn_16 : decode cX12_placeIn 16 = .ok (.bipush 14, 2) := by decide +kernel
theorem dX12_placeIn_18 : decode cX12_placeIn 18 = .ok (.iload_n 1, 1) := by decide +kernel
theorem dX12_placeIn_19 : decode cX12_placeIn 19 = .ok (.imul, 1) := by decide +kernel
theorem dX12_placeIn_20 : decode cX12_placeIn 20 = .ok (.iload_n 3, 1) := by decide +kernel
theorem dX12_placeIn_21 : decode cX12_placeIn 21 = .ok (.iadd, 1) := by decide +kernel
theorem dX12_placeIn_22 : decode cX12_placeIn 22 = .ok (.iaload, 1) := by decide +kernel
theorem dX12_placeIn_23 : decode cX12_placeIn 23 = .ok (.iload_n 2, 1) := by decide +kernel
theorem dX12_placeIn_24 : decode cX12_placeIn 24 = .ok (.if_icmp .eq 28, 3) := by decide +kernel
theorem dX12_placeIn_27 : decode cX12_placeIn 27 = .ok (.aload_n 0, 1) := by decide +kernel
theorem dX12_placeIn_28 : decode cX12_placeIn 28 = .ok (.aload_n 0, 1) := by decide +kernel
theorem dX12_placeIn_29 : decode cX12_placeIn 29 = .ok (.getfield 65, 3) := by decide +kernel
theorem dX12_placeIn_32 : decode cX12_placeIn 32 = .ok (.bipush 14, 2) := by decide +kernel
theorem dX12_placeIn_34 : decode cX12_placeIn 34 = .ok (.iload_n 1, 1) := by decide +kernel
theorem dX12_placeIn_35 : decode cX12_placeIn 35 = .ok (.imul, 1) := by decide +kernel
theorem dX12_placeIn_36 : decode cX12_placeIn 36 = .ok (.iload_n 3, 1) := by decide +kernel
theorem dX12_placeIn_37 : decode cX12_placeIn 37 = .ok (.iadd, 1) := by decide +kernel
theorem dX12_placeIn_38 : decode cX12_placeIn 38 = .ok (.iaload, 1) := by decide +kernel
theorem dX12_placeIn_39 : decode cX12_placeIn 39 = .ok (.iload_n 2, 1) := by decide +kernel
theorem dX12_placeIn_40 : decode cX12_placeIn 40 = .ok (.invokevirtual 188, 3) := by decide +kernel
theorem dX12_placeIn_43 : decode cX12_placeIn 43 = .ok (.ifCond .eq 9, 3) := by decide +kernel
theorem dX12_placeIn_46 : decode cX12_placeIn 46 = .ok (.iinc 3 1, 3) := by decide +kernel
theorem dX12_placeIn_49 : decode cX12_placeIn 49 = .ok (.goto (-47), 3) := by decide +kernel
theorem dX12_placeIn_52 : decode cX12_placeIn 52 = .ok (.iload_n 3, 1) := by decide +kernel
theorem dX12_placeIn_53 : decode cX12_placeIn 53 = .ok (.ireturn, 1) := by decide +kernel
def f_X12_placeIn_p2 (ln : Nat → Nat) : Nat → Int32 → Int32 → Int32 → dr_S → Option (Int32 × dr_S)
  | 0, _, _, _, _ => none
  | n + 1, x1, x2, x3, s => (dr_rd ln s 45 x1).bind (fun v1 => (if v1 ≤ x3 then some (x3, s) else (dr_rd ln s 46 ((14 * x1) + x3)).bind (fun v2 => (if v2 = x2 then some (x3, s) else (dr_rd ln s 46 ((14 * x1) + x3)).bind (fun v3 => dr_bnd (f_X12_isAhead ln v3 x2 s) (fun r5 s4 => (if r5 = 0 then some (x3, s4) else dr_let (x3 + 1) (fun y6 => (f_X12_placeIn_p2 ln n x1 x2 y6 s4)))))))))
def f_X12_placeIn (ln : Nat → Nat) (x1 : Int32) (x2 : Int32) (s : dr_S) : Option (Int32 × dr_S) := (f_X12_placeIn_p2 ln dr_N x1 x2 0 s)
section
variable {p : Program} {l : Launch} {e : Env} {s0 : State} {m : MethodId} {args : Array Value} {below : List Frame} {meth : Method} {c : Code} {A : Nat → Prop} {D : va_G} {cI cZ : ClassId} {ad ln : Nat → Nat} {L : List Nat}
set_option maxHeartbeats 4000000 in
set_option maxRecDepth 20000 in
theorem w_X12_placeIn_p2 (E : dr_E p (dr_rm 2) s0 m args meth c 0 0 A s0.heap D cI cZ ad L cX12_placeIn 4 RX12 (some .int)) (hap : dr_ap ad L) (hN : ∀ x ∈ nd_12, x ∈ L) : ∀ (n : Nat) (x1 : Int32) (x2 : Int32) (x3 : Int32) (s : dr_S), dr_G p l e (dr_rm 2) s0 m args below meth c 0 0 A s0.heap D cI cZ ad ln L 4 (dr_Zi D cI cZ ad ln L A below args s0 0 0) 2 [(0, .ref (ad 12)), (1, .int x1), (2, .int x2), (3, .int x3)] [] s (f_X12_placeIn_p2 ln n x1 x2 x3 s) := by
  intro n
  induction n with
  | zero =>
    intro x1 x2 x3 s
    rw [f_X12_placeIn_p2]
    exact g_none
  | succ n hkb2 =>
    intro x1 x2 x3 s
    rw [f_X12_placeIn_p2]
    refine g_iload_n E dX12_placeIn_2 3 rfl ?_
    refine g_aload_n E dX12_placeIn_3 0 rfl ?_
    refine gg_12_62 E (hN 12 (by decide)) dX12_placeIn_4 ?_
    refine g_iload_n E dX12_placeIn_7 1 rfl ?_
    refine g_iaload E (hN 45 (by decide)) (by decide) rfl dX12_placeIn_8 (fun v1 => ?_)
    refine g_icmp_ge E 52 dX12_placeIn_9 (by decide) ?_ ?_
    · refine g_iload_n E dX12_placeIn_52 3 rfl ?_
      exact g_iret E dX12_placeIn_53
    · refine g_aload_n E dX12_placeIn_12 0 rfl ?_
      refine gg_12_65 E (hN 12 (by decide)) dX12_placeIn_13 ?_
      refine g_bipush E (v := 14) dX12_placeIn_16 (by decide) ?_
      refine g_iload_n E dX12_placeIn_18 1 rfl ?_
      refine g_imul E dX12_placeIn_19 ?_
      refine g_iload_n E dX12_placeIn_20 3 rfl ?_
      refine g_iadd E dX12_placeIn_21 ?_
      refine g_iaload E (hN 46 (by decide)) (by decide) rfl dX12_placeIn_22 (fun v2 => ?_)
      refine g_iload_n E dX12_placeIn_23 2 rfl ?_
      refine g_icmp_eq E 52 dX12_placeIn_24 (by decide) ?_ ?_
      · refine g_iload_n E dX12_placeIn_52 3 rfl ?_
        exact g_iret E dX12_placeIn_53
      · refine g_aload_n E dX12_placeIn_27 0 rfl ?_
        refine g_aload_n E dX12_placeIn_28 0 rfl ?_
        refine gg_12_65 E (hN 12 (by decide)) dX12_placeIn_29 ?_
        refine g_bipush E (v := 14) dX12_placeIn_32 (by decide) ?_
        refine g_iload_n E dX12_placeIn_34 1 rfl ?_
        refine g_imul E dX12_placeIn_35 ?_
        refine g_iload_n E dX12_placeIn_36 3 rfl ?_
        refine g_iadd E dX12_placeIn_37 ?_
        refine g_iaload E (hN 46 (by decide)) (by decide) rfl dX12_placeIn_38 (fun v3 => ?_)
        refine g_iload_n E dX12_placeIn_39 2 rfl ?_
        refine g_cVi E [.int v3, .int x2] rfl (c_X12_isAhead hap hN v3 x2 s) (hN 12 (by decide)) (by decide) rfl rfl mi_X12_isAhead msl_X12_isAhead mw_X12_isAhead rfl ml_12_188 ⟨Nat.le_of_ble_eq_true rfl, Nat.le_of_ble_eq_true rfl⟩ (Nat.le_of_ble_eq_true rfl) dX12_placeIn_40 (fun r5 s4 => ?_)
        refine g_if_eq E 52 dX12_placeIn_43 (by decide) ?_ ?_
        · refine g_iload_n E dX12_placeIn_52 3 rfl ?_
          exact g_iret E dX12_placeIn_53
        · refine g_iinc E (lv' := []) (lv'' := fun y6 => [(3, .int y6), (0, .ref (ad 12)), (1, .int x1), (2, .int x2)]) (v := 1) dX12_placeIn_46 3 rfl (by decide) (by decide) (fun _ => rfl) (fun y6 => ?_)
          refine g_goto E 2 dX12_placeIn_49 (by decide) ?_
          refine g_sub [1, 2, 3, 0] rfl ?_
          exact hkb2 x1 x2 y6 s4
set_option maxHeartbeats 4000000 in
set_option maxRecDepth 20000 in
theorem c_X12_placeIn (hap : dr_ap ad L) (hN : ∀ x ∈ nd_12, x ∈ L) (x1 : Int32) (x2 : Int32) (s : dr_S) : dr_Mi l D cI cZ ad ln L yX12_placeIn cX12_placeIn 4 (some .int) 2 [.ref (ad 12), .int x1, .int x2] s (f_X12_placeIn ln x1 x2 s) := by
  refine dr_meti (own := RX12) (by decide) rfl (Nat.le_of_ble_eq_true rfl) hap ?_
  intro p e s0 m args below meth c A E
  unfold f_X12_placeIn
  refine g_eqL (lv' := [(0, .ref (ad 12)), (1, .int x1), (2, .int x2)]) rfl ?_
  refine g_iconst E (v := 0) dX12_placeIn_0 (by decide) ?_
  refine g_istore_n E (lv' := [(3, .int 0), (0, .ref (ad 12)), (1, .int x1), (2, .int x2)]) dX12_placeIn_1 (by decide) rfl ?_
  refine g_sub [1, 2, 3, 0] rfl ?_
  exact w_X12_placeIn_p2 E hap hN dr_N x1 x2 0 s
end

theorem dX12_hasCopy_0 : decode cX12_hasCopy 0 = .ok (.iconst 0, 1) := by decide +kernel
theorem dX12_hasCopy_1 : decode cX12_hasCopy 1 = .ok (.istore_n 3, 1) := by decide +kernel
theorem dX12_hasCopy_2 : decode cX12_hasCopy 2 = .ok (.iload_n 3, 1) := by decide +kernel
theorem dX12_hasCopy_3 : decode cX12_hasCopy 3 = .ok (.aload_n 0, 1) := by decide +kernel
theorem dX12_hasCopy_4 : decode cX12_hasCopy 4 = .ok (.getfield 62, 3) := by decide +kernel
theorem dX12_hasCopy_7 : decode cX12_hasCopy 7 = .ok (.iload_n 1, 1) := by decide +kernel
theorem dX12_hasCopy_8 : decode cX12_hasCopy 8 = .ok (.iaload, 1) := by decide +kernel
theorem dX12_hasCopy_9 : decode cX12_hasCopy 9 = .ok (.if_icmp .ge 26, 3) := by decide +kernel
theorem dX12_hasCopy_12 : decode cX12_hasCopy 12 = .ok (.aload_n 0, 1) := by decide +kernel
theorem dX12_hasCopy_13 : decode cX12_hasCopy 13 = .ok (.getfield 65, 3) := by decide +kernel
theorem dX12_hasCopy_16 : decode cX12_hasCopy 16 = .ok (.bipush 14, 2) := by decide +kernel
theorem dX12_hasCopy_18 : decode cX12_hasCopy 18 = .ok (.iload_n 1, 1) := by decide +kernel
theorem dX12_hasCopy_19 : decode cX12_hasCopy 19 = .ok (.imul, 1) := by decide +kernel
theorem dX12_hasCopy_20 : decode cX12_hasCopy 20 = .ok (.iload_n 3, 1) := by decide +kernel
theorem dX12_hasCopy_21 : decode cX12_hasCopy 21 = .ok (.iadd, 1) := by decide +kernel
theorem dX12_hasCopy_22 : decode cX12_hasCopy 22 = .ok (.iaload, 1) := by decide +kernel
theorem dX12_hasCopy_23 : decode cX12_hasCopy 23 = .ok (.iload_n 2, 1) := by decide +kernel
theorem dX12_hasCopy_24 : decode cX12_hasCopy 24 = .ok (.if_icmp .ne 5, 3) := by decide +kernel
theorem dX12_hasCopy_27 : decode cX12_hasCopy 27 = .ok (.iconst 1, 1) := by decide +kernel
theorem dX12_hasCopy_28 : decode cX12_hasCopy 28 = .ok (.ireturn, 1) := by decide +kernel
theorem dX12_hasCopy_29 : decode cX12_hasCopy 29 = .ok (.iinc 3 1, 3) := by decide +kernel
theorem dX12_hasCopy_32 : decode cX12_hasCopy 32 = .ok (.goto (-30), 3) := by decide +kernel
theorem dX12_hasCopy_35 : decode cX12_hasCopy 35 = .ok (.iconst 0, 1) := by decide +kernel
theorem dX12_hasCopy_36 : decode cX12_hasCopy 36 = .ok (.ireturn, 1) := by decide +kernel
def f_X12_hasCopy_p2 (ln : Nat → Nat) : Nat → Int32 → Int32 → Int32 → dr_S → Option (Int32 × dr_S)
  | 0, _, _, _, _ => none
  | n + 1, x1, x2, x3, s => (dr_rd ln s 45 x1).bind (fun v1 => (if v1 ≤ x3 then some (0, s) else (dr_rd ln s 46 ((14 * x1) + x3)).bind (fun v2 => (if v2 = x2 then some (1, s) else dr_let (x3 + 1) (fun y3 => (f_X12_hasCopy_p2 ln n x1 x2 y3 s))))))
def f_X12_hasCopy (ln : Nat → Nat) (x1 : Int32) (x2 : Int32) (s : dr_S) : Option (Int32 × dr_S) := (f_X12_hasCopy_p2 ln dr_N x1 x2 0 s)
section
variable {p : Program} {l : Launch} {e : Env} {s0 : State} {m : MethodId} {args : Array Value} {below : List Frame} {meth : Method} {c : Code} {A : Nat → Prop} {D : va_G} {cI cZ : ClassId} {ad ln : Nat → Nat} {L : List Nat}
set_option maxHeartbeats 4000000 in
set_option maxRecDepth 20000 in
theorem w_X12_hasCopy_p2 (E : dr_E p (dr_rm 0) s0 m args meth c 0 0 A s0.heap D cI cZ ad L cX12_hasCopy 4 RX12 (some .boolean)) (hap : dr_ap ad L) (hN : ∀ x ∈ nd_12, x ∈ L) : ∀ (n : Nat) (x1 : Int32) (x2 : Int32) (x3 : Int32) (s : dr_S), dr_G p l e (dr_rm 0) s0 m args below meth c 0 0 A s0.heap D cI cZ ad ln L 4 (dr_Zi D cI cZ ad ln L A below args s0 0 0) 2 [(0, .ref (ad 12)), (1, .int x1), (2, .int x2), (3, .int x3)] [] s (f_X12_hasCopy_p2 ln n x1 x2 x3 s) := by
  intro n
  induction n with
  | zero =>
    intro x1 x2 x3 s
    rw [f_X12_hasCopy_p2]
    exact g_none
  | succ n hkb2 =>
    intro x1 x2 x3 s
    rw [f_X12_hasCopy_p2]
    refine g_iload_n E dX12_hasCopy_2 3 rfl ?_
    refine g_aload_n E dX12_hasCopy_3 0 rfl ?_
    refine gg_12_62 E (hN 12 (by decide)) dX12_hasCopy_4 ?_
    refine g_iload_n E dX12_hasCopy_7 1 rfl ?_
    refine g_iaload E (hN 45 (by decide)) (by decide) rfl dX12_hasCopy_8 (fun v1 => ?_)
    refine g_icmp_ge E 35 dX12_hasCopy_9 (by decide) ?_ ?_
    · refine g_iconst E (v := 0) dX12_hasCopy_35 (by decide) ?_
      exact g_zret E dX12_hasCopy_36 (Or.inl rfl)
    · refine g_aload_n E dX12_hasCopy_12 0 rfl ?_
      refine gg_12_65 E (hN 12 (by decide)) dX12_hasCopy_13 ?_
      refine g_bipush E (v := 14) dX12_hasCopy_16 (by decide) ?_
      refine g_iload_n E dX12_hasCopy_18 1 rfl ?_
      refine g_imul E dX12_hasCopy_19 ?_
      refine g_iload_n E dX12_hasCopy_20 3 rfl ?_
      refine g_iadd E dX12_hasCopy_21 ?_
      refine g_iaload E (hN 46 (by decide)) (by decide) rfl dX12_hasCopy_22 (fun v2 => ?_)
      refine g_iload_n E dX12_hasCopy_23 2 rfl ?_
      refine g_icmp_ne E 29 dX12_hasCopy_24 (by decide) ?_ ?_
      · refine g_iinc E (lv' := []) (lv'' := fun y3 => [(3, .int y3), (0, .ref (ad 12)), (1, .int x1), (2, .int x2)]) (v := 1) dX12_hasCopy_29 3 rfl (by decide) (by decide) (fun _ => rfl) (fun y3 => ?_)
        refine g_goto E 2 dX12_hasCopy_32 (by decide) ?_
        refine g_sub [1, 2, 3, 0] rfl ?_
        exact hkb2 x1 x2 y3 s
      · refine g_iconst E (v := 1) dX12_hasCopy_27 (by decide) ?_
        exact g_zret E dX12_hasCopy_28 (Or.inr rfl)
set_option maxHeartbeats 4000000 in
set_option maxRecDepth 20000 in
theorem c_X12_hasCopy (hap : dr_ap ad L) (hN : ∀ x ∈ nd_12, x ∈ L) (x1 : Int32) (x2 : Int32) (s : dr_S) : dr_Mi l D cI cZ ad ln L yX12_hasCopy cX12_hasCopy 4 (some .boolean) 0 [.ref (ad 12), .int x1, .int x2] s (f_X12_hasCopy ln x1 x2 s) := by
  refine dr_meti (own := RX12) (by decide) rfl (Nat.le_of_ble_eq_true rfl) hap ?_
  intro p e s0 m args below meth c A E
  unfold f_X12_hasCopy
  refine g_eqL (lv' := [(0, .ref (ad 12)), (1, .int x1), (2, .int x2)]) rfl ?_
  refine g_iconst E (v := 0) dX12_hasCopy_0 (by decide) ?_
  refine g_istore_n E (lv' := [(3, .int 0), (0, .ref (ad 12)), (1, .int x1), (2, .int x2)]) dX12_hasCopy_1 (by decide) rfl ?_
  refine g_sub [1, 2, 3, 0] rfl ?_
  exact w_X12_hasCopy_p2 E hap hN dr_N x1 x2 0 s
end

theorem dX12_becomes_0 : decode cX12_becomes 0 = .ok (.aload_n 0, 1) := by decide +kernel
theorem dX12_becomes_1 : decode cX12_becomes 1 = .ok (.getfield 47, 3) := by decide +kernel
theorem dX12_becomes_4 : decode cX12_becomes 4 = .ok (.iload_n 1, 1) := by decide +kernel
theorem dX12_becomes_5 : decode cX12_becomes 5 = .ok (.iaload, 1) := by decide +kernel
theorem dX12_becomes_6 : decode cX12_becomes 6 = .ok (.istore_n 2, 1) := by decide +kernel
theorem dX12_becomes_7 : decode cX12_becomes 7 = .ok (.aload_n 0, 1) := by decide +kernel
theorem dX12_becomes_8 : decode cX12_becomes 8 = .ok (.getfield 23, 3) := by decide +kernel
theorem dX12_becomes_11 : decode cX12_becomes 11 = .ok (.iload_n 2, 1) := by decide +kernel
theorem dX12_becomes_12 : decode cX12_becomes 12 = .ok (.aload_n 0, 1) := by decide +kernel
theorem dX12_becomes_13 : decode cX12_becomes 13 = .ok (.getfield 62, 3) := by decide +kernel
theorem dX12_becomes_16 : decode cX12_becomes 16 = .ok (.iload_n 1, 1) := by decide +kernel
theorem dX12_becomes_17 : decode cX12_becomes 17 = .ok (.iaload, 1) := by decide +kernel
theorem dX12_becomes_18 : decode cX12_becomes 18 = .ok (.iastore, 1) := by decide +kernel
theorem dX12_becomes_19 : decode cX12_becomes 19 = .ok (.iconst 0, 1) := by decide +kernel
theorem dX12_becomes_20 : decode cX12_becomes 20 = .ok (.istore_n 3, 1) := by decide +kernel
theorem dX12_becomes_21 : decode cX12_becomes 21 = .ok (.iload_n 3, 1) := by decide +kernel
theorem dX12_becomes_22 : decode cX12_becomes 22 = .ok (.bipush 14, 2) := by decide +kernel
theorem dX12_becomes_24 : decode cX12_becomes 24 = .ok (.if_icmp .ge 53, 3) := by decide +kernel
theorem dX12_becomes_27 : decode cX12_becomes 27 = .ok (.aload_n 0, 1) := by decide +kernel
theorem dX12_becomes_28 : decode cX12_becomes 28 = .ok (.getfield 26, 3) := by decide +kernel
theorem dX12_becomes_31 : decode cX12_becomes 31 = .ok (.bipush 14, 2) := by decide +kernel
theorem dX12_becomes_33 : decode cX12_becomes 33 = .ok (.iload_n 2, 1) := by decide +kernel
theorem dX12_becomes_34 : decode cX12_becomes 34 = .ok (.imul, 1) := by decide +kernel
theorem dX12_becomes_35 : decode cX12_becomes 35 = .ok (.iload_n 3, 1) := by decide +kernel
theorem dX12_becomes_36 : decode cX12_becomes 36 = .ok (.iadd, 1) := by decide +kernel
theorem dX12_becomes_37 : decode cX12_becomes 37 = .ok (.aload_n 0, 1) := by decide +kernel
theorem dX12_becomes_38 : decode cX12_becomes 38 = .ok (.getfield 65, 3) := by decide +kernel
theorem dX12_becomes_41 : decode cX12_becomes 41 = .ok (.bipush 14, 2) := by decide +kernel
theorem dX12_becomes_43 : decode cX12_becomes 43 = .ok (.iload_n 1, 1) := by decide +kernel
theorem dX12_becomes_44 : decode cX12_becomes 44 = .ok (.imul, 1) := by decide +kernel
theorem dX12_becomes_45 : decode cX12_becomes 45 = .ok (.iload_n 3, 1) := by decide +kernel
theorem dX12_becomes_46 : decode cX12_becomes 46 = .ok (.iadd, 1) := by decide +kernel
theorem dX12_becomes_47 : decode cX12_becomes 47 = .ok (.iaload, 1) := by decide +kernel
theorem dX12_becomes_48 : decode cX12_becomes 48 = .ok (.iastore, 1) := by decide +kernel
theorem dX12_becomes_49 : decode cX12_becomes 49 = .ok (.aload_n 0, 1) := by decide +kernel
theorem dX12_becomes_50 : decode cX12_becomes 50 = .ok (.getfield 29, 3) := by decide +kernel
theorem dX12_becomes_53 : decode cX12_becomes 53 = .ok (.bipush 14, 2) := by decide +kernel
theorem dX12_becomes_55 : decode cX12_becomes 55 = .ok (.iload_n 2, 1) := by decide +kernel
theorem dX12_becomes_56 : decode cX12_becomes 56 = .ok (.imul, 1) := by decide +kernel
theorem dX12_becomes_57 : decode cX12_becomes 57 = .ok (.iload_n 3, 1) := by decide +kernel
theorem dX12_becomes_58 : decode cX12_becomes 58 = .ok (.iadd, 1) := by decide +kernel
theorem dX12_becomes_59 : decode cX12_becomes 59 = .ok (.aload_n 0, 1) := by decide +kernel
theorem dX12_becomes_60 : decode cX12_becomes 60 = .ok (.getfield 68, 3) := by decide +kernel
theorem dX12_becomes_63 : decode cX12_becomes 63 = .ok (.bipush 14, 2) := by decide +kernel
theorem dX12_becomes_65 : decode cX12_becomes 65 = .ok (.iload_n 1, 1) := by decide +kernel
theorem dX12_becomes_66 : decode cX12_becomes 66 = .ok (.imul, 1) := by decide +kernel
theorem dX12_becomes_67 : decode cX12_becomes 67 = .ok (.iload_n 3, 1) := by decide +kernel
theorem dX12_becomes_68 : decode cX12_becomes 68 = .ok (.iadd, 1) := by decide +kernel
theorem dX12_becomes_69 : decode cX12_becomes 69 = .ok (.iaload, 1) := by decide +kernel
theorem dX12_becomes_70 : decode cX12_becomes 70 = .ok (.iastore, 1) := by decide +kernel
theorem dX12_becomes_71 : decode cX12_becomes 71 = .ok (.iinc 3 1, 3) := by decide +kernel
theorem dX12_becomes_74 : decode cX12_becomes 74 = .ok (.goto (-53), 3) := by decide +kernel
theorem dX12_becomes_77 : decode cX12_becomes 77 = .ok (.aload_n 0, 1) := by decide +kernel
theorem dX12_becomes_78 : decode cX12_becomes 78 = .ok (.getfield 32, 3) := by decide +kernel
theorem dX12_becomes_81 : decode cX12_becomes 81 = .ok (.iload_n 2, 1) := by decide +kernel
theorem dX12_becomes_82 : decode cX12_becomes 82 = .ok (.aload_n 0, 1) := by decide +kernel
theorem dX12_becomes_83 : decode cX12_becomes 83 = .ok (.getfield 71, 3) := by decide +kernel
theorem dX12_becomes_86 : decode cX12_becomes 86 = .ok (.iload_n 1, 1) := by decide +kernel
theorem dX12_becomes_87 : decode cX12_becomes 87 = .ok (.iaload, 1) := by decide +kernel
theorem dX12_becomes_88 : decode cX12_becomes 88 = .ok (.iastore, 1) := by decide +kernel
theorem dX12_becomes_89 : decode cX12_becomes 89 = .ok (.aload_n 0, 1) := by decide +kernel
theorem dX12_becomes_90 : decode cX12_becomes 90 = .ok (.getfield 35, 3) := by decide +kernel
theorem dX12_becomes_93 : decode cX12_becomes 93 = .ok (.iload_n 2, 1) := by decide +kernel
theorem dX12_becomes_94 : decode cX12_becomes 94 = .ok (.aload_n 0, 1) := by decide +kernel
theorem dX12_becomes_95 : decode cX12_becomes 95 = .ok (.getfield 74, 3) := by decide +kernel
theorem dX12_becomes_98 : decode cX12_becomes 98 = .ok (.iload_n 1, 1) := by decide +kernel
theorem dX12_becomes_99 : decode cX12_becomes 99 = .ok (.iaload, 1) := by decide +kernel
theorem dX12_becomes_100 : decode cX12_becomes 100 = .ok (.iastore, 1) := by decide +kernel
theorem dX12_becomes_101 : decode cX12_becomes 101 = .ok (.return_, 1) := by decide +kernel
def f_X12_becomes_p21 (ln : Nat → Nat) : Nat → Int32 → Int32 → Int32 → dr_S → Option (Int32 × dr_S)
  | 0, _, _, _, _ => none
  | n + 1, x1, x2, x3, s => (if ((14 : Int32) ≤ x3 : Prop) then (dr_rd ln s 48 x1).bind (fun v4 => (dr_wr ln s 35 x2 v4).bind (fun s5 => (dr_rd ln s5 49 x1).bind (fun v6 => (dr_wr ln s5 36 x2 v6).bind (fun s7 => some (0, s7))))) else (dr_rd ln s 46 ((14 * x1) + x3)).bind (fun v8 => (dr_wr ln s 33 ((14 * x2) + x3) v8).bind (fun s9 => (dr_rd ln s9 47 ((14 * x1) + x3)).bind (fun v10 => (dr_wr ln s9 34 ((14 * x2) + x3) v10).bind (fun s11 => dr_let (x3 + 1) (fun y12 => (f_X12_becomes_p21 ln n x1 x2 y12 s11)))))))
def f_X12_becomes (ln : Nat → Nat) (x1 : Int32) (s : dr_S) : Option (Int32 × dr_S) := (dr_rd ln s 40 x1).bind (fun v1 => (dr_rd ln s 45 x1).bind (fun v2 => (dr_wr ln s 32 v1 v2).bind (fun s3 => (f_X12_becomes_p21 ln dr_N x1 v1 0 s3))))
section
variable {p : Program} {l : Launch} {e : Env} {s0 : State} {m : MethodId} {args : Array Value} {below : List Frame} {meth : Method} {c : Code} {A : Nat → Prop} {D : va_G} {cI cZ : ClassId} {ad ln : Nat → Nat} {L : List Nat}
set_option maxHeartbeats 4000000 in
set_option maxRecDepth 20000 in
theorem w_X12_becomes_p21 (E : dr_E p (dr_rm 0) s0 m args meth c 0 0 A s0.heap D cI cZ ad L cX12_becomes 4 RX12 none) (hap : dr_ap ad L) (hN : ∀ x ∈ nd_12, x ∈ L) : ∀ (n : Nat) (x1 : Int32) (x2 : Int32) (x3 : Int32) (s : dr_S), dr_G p l e (dr_rm 0) s0 m args below meth c 0 0 A s0.heap D cI cZ ad ln L 4 (dr_Zv D cI cZ ad ln L A below args s0 0 0) 21 [(0, .ref (ad 12)), (1, .int x1), (2, .int x2), (3, .int x3)] [] s (f_X12_becomes_p21 ln n x1 x2 x3 s) := by
  intro n
  induction n with
  | zero =>
    intro x1 x2 x3 s
    rw [f_X12_becomes_p21]
    exact g_none
  | succ n hkb21 =>
    intro x1 x2 x3 s
    rw [f_X12_becomes_p21]
    refine g_iload_n E dX12_becomes_21 3 rfl ?_
    refine g_bipush E (v := 14) dX12_becomes_22 (by decide) ?_
    refine g_icmp_ge E 77 dX12_becomes_24 (by decide) ?_ ?_
    · refine g_aload_n E dX12_becomes_77 0 rfl ?_
      refine gg_12_32 E (hN 12 (by decide)) dX12_becomes_78 ?_
      refine g_iload_n E dX12_becomes_81 2 rfl ?_
      refine g_aload_n E dX12_becomes_82 0 rfl ?_
      refine gg_12_71 E (hN 12 (by decide)) dX12_becomes_83 ?_
      refine g_iload_n E dX12_becomes_86 1 rfl ?_
      refine g_iaload E (hN 48 (by decide)) (by decide) rfl dX12_becomes_87 (fun v4 => ?_)
      refine g_iastore E (hN 35 (by decide)) (by decide) rfl dX12_becomes_88 (fun s5 => ?_)
      refine g_aload_n E dX12_becomes_89 0 rfl ?_
      refine gg_12_35 E (hN 12 (by decide)) dX12_becomes_90 ?_
      refine g_iload_n E dX12_becomes_93 2 rfl ?_
      refine g_aload_n E dX12_becomes_94 0 rfl ?_
      refine gg_12_74 E (hN 12 (by decide)) dX12_becomes_95 ?_
      refine g_iload_n E dX12_becomes_98 1 rfl ?_
      refine g_iaload E (hN 49 (by decide)) (by decide) rfl dX12_becomes_99 (fun v6 => ?_)
      refine g_iastore E (hN 36 (by decide)) (by decide) rfl dX12_becomes_100 (fun s7 => ?_)
      exact g_vret E dX12_becomes_101
    · refine g_aload_n E dX12_becomes_27 0 rfl ?_
      refine gg_12_26 E (hN 12 (by decide)) dX12_becomes_28 ?_
      refine g_bipush E (v := 14) dX12_becomes_31 (by decide) ?_
      refine g_iload_n E dX12_becomes_33 2 rfl ?_
      refine g_imul E dX12_becomes_34 ?_
      refine g_iload_n E dX12_becomes_35 3 rfl ?_
      refine g_iadd E dX12_becomes_36 ?_
      refine g_aload_n E dX12_becomes_37 0 rfl ?_
      refine gg_12_65 E (hN 12 (by decide)) dX12_becomes_38 ?_
      refine g_bipush E (v := 14) dX12_becomes_41 (by decide) ?_
      refine g_iload_n E dX12_becomes_43 1 rfl ?_
      refine g_imul E dX12_becomes_44 ?_
      refine g_iload_n E dX12_becomes_45 3 rfl ?_
      refine g_iadd E dX12_becomes_46 ?_
      refine g_iaload E (hN 46 (by decide)) (by decide) rfl dX12_becomes_47 (fun v8 => ?_)
      refine g_iastore E (hN 33 (by decide)) (by decide) rfl dX12_becomes_48 (fun s9 => ?_)
      refine g_aload_n E dX12_becomes_49 0 rfl ?_
      refine gg_12_29 E (hN 12 (by decide)) dX12_becomes_50 ?_
      refine g_bipush E (v := 14) dX12_becomes_53 (by decide) ?_
      refine g_iload_n E dX12_becomes_55 2 rfl ?_
      refine g_imul E dX12_becomes_56 ?_
      refine g_iload_n E dX12_becomes_57 3 rfl ?_
      refine g_iadd E dX12_becomes_58 ?_
      refine g_aload_n E dX12_becomes_59 0 rfl ?_
      refine gg_12_68 E (hN 12 (by decide)) dX12_becomes_60 ?_
      refine g_bipush E (v := 14) dX12_becomes_63 (by decide) ?_
      refine g_iload_n E dX12_becomes_65 1 rfl ?_
      refine g_imul E dX12_becomes_66 ?_
      refine g_iload_n E dX12_becomes_67 3 rfl ?_
      refine g_iadd E dX12_becomes_68 ?_
      refine g_iaload E (hN 47 (by decide)) (by decide) rfl dX12_becomes_69 (fun v10 => ?_)
      refine g_iastore E (hN 34 (by decide)) (by decide) rfl dX12_becomes_70 (fun s11 => ?_)
      refine g_iinc E (lv' := []) (lv'' := fun y12 => [(3, .int y12), (0, .ref (ad 12)), (1, .int x1), (2, .int x2)]) (v := 1) dX12_becomes_71 3 rfl (by decide) (by decide) (fun _ => rfl) (fun y12 => ?_)
      refine g_goto E 21 dX12_becomes_74 (by decide) ?_
      refine g_sub [1, 2, 3, 0] rfl ?_
      exact hkb21 x1 x2 y12 s11
set_option maxHeartbeats 4000000 in
set_option maxRecDepth 20000 in
theorem c_X12_becomes (hap : dr_ap ad L) (hN : ∀ x ∈ nd_12, x ∈ L) (x1 : Int32) (s : dr_S) : dr_Mv l D cI cZ ad ln L yX12_becomes cX12_becomes 4 0 [.ref (ad 12), .int x1] s (f_X12_becomes ln x1 s) := by
  refine dr_metv (own := RX12) (by decide) rfl (Nat.le_of_ble_eq_true rfl) hap ?_
  intro p e s0 m args below meth c A E
  unfold f_X12_becomes
  refine g_eqL (lv' := [(0, .ref (ad 12)), (1, .int x1)]) rfl ?_
  refine g_aload_n E dX12_becomes_0 0 rfl ?_
  refine gg_12_47 E (hN 12 (by decide)) dX12_becomes_1 ?_
  refine g_iload_n E dX12_becomes_4 1 rfl ?_
  refine g_iaload E (hN 40 (by decide)) (by decide) rfl dX12_becomes_5 (fun v1 => ?_)
  refine g_istore_n E (lv' := [(2, .int v1), (0, .ref (ad 12)), (1, .int x1)]) dX12_becomes_6 (by decide) rfl ?_
  refine g_aload_n E dX12_becomes_7 1 rfl ?_
  refine gg_12_23 E (hN 12 (by decide)) dX12_becomes_8 ?_
  refine g_iload_n E dX12_becomes_11 0 rfl ?_
  refine g_aload_n E dX12_becomes_12 1 rfl ?_
  refine gg_12_62 E (hN 12 (by decide)) dX12_becomes_13 ?_
  refine g_iload_n E dX12_becomes_16 2 rfl ?_
  refine g_iaload E (hN 45 (by decide)) (by decide) rfl dX12_becomes_17 (fun v2 => ?_)
  refine g_iastore E (hN 32 (by decide)) (by decide) rfl dX12_becomes_18 (fun s3 => ?_)
  refine g_iconst E (v := 0) dX12_becomes_19 (by decide) ?_
  refine g_istore_n E (lv' := [(3, .int 0), (2, .int v1), (0, .ref (ad 12)), (1, .int x1)]) dX12_becomes_20 (by decide) rfl ?_
  refine g_sub [2, 3, 1, 0] rfl ?_
  exact w_X12_becomes_p21 E hap hN dr_N x1 v1 0 s3
end

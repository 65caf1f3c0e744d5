section DR
variable {p : Program} {l : Launch} {e : Env} {R : Room} {s0 : State} {m : MethodId} {args : Array Value} {below : List Frame} {meth : Method} {c : Code} {cells slots : Nat} {A : Nat → Prop} {H0 : Heap} {D : va_G} {cI cZ : ClassId} {ad ln : Nat → Nat} {L : List Nat} {cc : ByteArray} {nL : Nat} {own : String} {ret : Option FieldType} {Z : Int32 → dr_S → State → Prop}
variable {pc : Nat} {lv : List (Nat × Value)} {st : List Value} {s : dr_S} {F F1 F2 : Option (Int32 × dr_S)}

theorem g_cVNi (E : dr_E p R s0 m args meth c cells slots A H0 D cI cZ ad L cc nL own ret) {stk : List Value} {C : String} {T : u_T} {N ci : Nat} {host : String} {index n : Nat} {y : MethodName} {bytes : ByteArray} {maxL d : Nat} {ret2 : Option FieldType} (As : List Value) {Kx : Int32 → dr_S → Option (Int32 × dr_S)} (hst : stk = As.reverse ++ .ref (ad ci) :: st) (hM : dr_Mi l D cI cZ ad ln L y bytes maxL ret2 d (.ref (ad ci) :: As) s F1) (hid : ci ∈ L) (hci : ci < 13) (hc : vwCl[ci]? = some (C, T, N)) (hcy : y.cls = C) (hins : Cond.instanceMethod y ∈ dr_tbl) (hsel : Cond.selects y.cls y y ∈ dr_tbl) (hmw : dr_mw y bytes maxL ret2 n) (hn : As.length = n) (hlink : va_Nw (.methodLinkNest own index y host) s0) (hR : d + 1 ≤ R.frames ∧ 8 + (maxL + 11) + 64 * d ≤ R.locals) (hroom : (st.map fun v => v.category).sum ≤ 8) (hdg : decode cc pc = .ok (.invokevirtual index, 3)) (kk : ∀ (r1 : Int32) (s1 : dr_S), dr_G p l e R s0 m args below meth c cells slots A H0 D cI cZ ad ln L nL Z (pc + 3) lv (.int r1 :: st) s1 (Kx r1 s1)) : dr_G p l e R s0 m args below meth c cells slots A H0 D cI cZ ad ln L nL Z pc lv stk s (dr_bnd F1 Kx) := by
  intro r s' hF H locs ls hP hS hl
  obtain ⟨⟨r1, s1⟩, h1, hK⟩ := Option.bind_eq_some_iff.mp hF
  subst hst
  obtain ⟨q, hq⟩ := List.getElem?_of_mem hid
  have cb := va_cnB (own := own) (host := host) (index := index) (R := R) (rm := dr_rm d) (mc := 0) (ms := 0) n E.2.2.2.2.2.2.1 (dr_goodC hmw.1) rfl rfl rfl hlink (E.2.2.2.2.2.2.1 _ hmw.2.1) hmw.2.2 hR
  refine va_calli (va_runVN (As := As) (rest := st) ⟨E.1, E.2.1, E.2.2.1, E.2.2.2.2.2.1, E.2.2.2.2.2.2.1⟩ (hM r1 s1 h1 H.size) ⟨cb, E.2.2.2.2.2.2.1 _ hins, E.2.2.2.2.2.2.1 _ hsel⟩ ⟨dr_frb, hcy ▸ va_recv E.2.2.2.2.2.2.2.1 hP hc ((dr_wget hq).trans (by rw [dr_eO hci])), fun U hU hW => ⟨rfl, by rw [hU], by rw [hU]; exact hP, va_K.moved hW.alike E.2.2.2.2.2.2.2.1⟩⟩ rfl hn hl.1 rfl (lv_room hroom) hdg ⟨E.2.2.2.2.2.2.2.2.2.2.2.1, E.2.2.2.2.2.2.2.2.2.2.2.2⟩) hS (fun q _ h => dr_AA E hS q h) (dr_AA E hS) (fun r2 u t H1 locs1 ht hvm hw2 hB hz1 hk1 hS1 => ?_)
  obtain ⟨rfl, rfl⟩ := hw2
  exact kk r2 u r s' hK H1 locs1 ls (by rw [← ht]; exact hB) hS1 hl
def dr_MN (wn : Cond) (l : Launch) (D : va_G) (cI cZ : ClassId) (ad ln : Nat → Nat) (L : List Nat) (y : MethodName) (cc : ByteArray) (nL : Nat) (ret : Option FieldType) (d : Nat) (av : List Value) (s : dr_S) (F : Option (Int32 × dr_S)) : Prop :=
  ∀ (r : Int32) (s' : dr_S), F = some (r, s') → ∀ sz : Nat, Met l y (.code y cc nL ret :: dr_tbl) (dr_rm d) (va_Pc av (fun U => U.heap.size = sz ∧ va_P D vwCl (dr_w cI cZ ad ln L s) U.heap ∧ va_K D vwCl (dr_tys cI cZ) U ∧ va_Nw wn U)) (va_Qi (fun (r2 : Int32) (u : dr_S) => r2 = r ∧ u = s') (fun u t => va_P D vwCl (dr_w cI cZ ad ln L u) t.heap) (dr_A ad L sz)) 0 0 (dr_A ad L sz)
theorem dr_metiN {wn : Cond} {y : MethodName} {d : Nat} {av : List Value} (hy : plainName y.cls = true) (hown : y.cls = own) (hlen : (lg_sl av).length ≤ nL) (hap : dr_ap ad L) (body : ∀ (p : Program) (e : Env) (s0 : State) (m : MethodId) (args : Array Value) (below : List Frame) (meth : Method) (c : Code) (A : Nat → Prop), dr_E p (dr_rm d) s0 m args meth c 0 0 A s0.heap D cI cZ ad L cc nL own ret → va_Nw wn s0 → dr_G p l e (dr_rm d) s0 m args below meth c 0 0 A s0.heap D cI cZ ad ln L nL (dr_Zi D cI cZ ad ln L A below args s0 0 0) 0 (lv_args 0 av) [] s F) : dr_MN wn l D cI cZ ad ln L y cc nL ret d av s F := by
  intro r s' hF sz
  refine Met.ofW (cc := cc) (maxL := nL) (ret := ret) hy rfl ?_
  intro p e s0 m args below meth c s₁ B hml hv
  obtain ⟨rfl, hsz, hP, hK, hNw⟩ := hv
  have hts := atoms_spec (ws := .code y cc nL ret :: dr_tbl) B.pre
  have hown' : s0.vm.findClass own = some m.cls := hown ▸ findClass_of_methodNamed B.named
  subst hsz
  have hE : dr_E p (dr_rm d) s0 m av.toArray meth c 0 0 (dr_A ad L s0.heap.size) s0.heap D cI cZ ad L cc nL own ret := ⟨B.exec, B.bytes, hml, B.returns, B.notSynchronized, hown', fun w hw => hts w (List.mem_cons_of_mem _ hw), hK, hap, fun id h => Or.inl ⟨id, h, rfl⟩, fun q h => Or.inr h, Nat.le_refl _, Nat.le_refl _⟩
  rw [lg_entry_eq]
  exact body p e s0 m _ below meth c (dr_A ad L s0.heap.size) hE hNw r s' hF s0.heap [] _ hP va_S.rf (lv_entry av hlen)
end DR
abbrev nd_11f : List Nat := [0, 1, 2, 3, 4, 5, 6, 7, 8, 9, 10, 11, 13, 14, 15, 16, 17, 18, 19, 20, 21, 22, 23, 24, 25, 26, 27]
theorem nf_3 : ∀ x ∈ nd_3, x ∈ nd_11f := by decide
theorem nf_8 : ∀ x ∈ nd_8, x ∈ nd_11f := by decide
theorem dX11_found_0 : decode cX11_found 0 = .ok (.iload_n 1, 1) := by decide +kernel
theorem dX11_found_1 : decode cX11_found 1 = .ok (.iconst 1, 1) := by decide +kernel
theorem dX11_found_2 : decode cX11_found 2 = .ok (.if_icmp .lt 30, 3) := by decide +kernel
theorem dX11_found_5 : decode cX11_found 5 = .ok (.iload_n 1, 1) := by decide +kernel
theorem dX11_found_6 : decode cX11_found 6 = .ok (.bipush 8, 2) := by decide +kernel
theorem dX11_found_8 : decode cX11_found 8 = .ok (.if_icmp .gt 24, 3) := by decide +kernel
theorem dX11_found_11f : decode cX11_found 11 = .ok (.iload_n 2, 1) := by decide +kernel
theorem dX11_found_12 : decode cX11_found 12 = .ok (.iconst (-1), 1) := by decide +kernel
theorem dX11_found_13 : decode cX11_found 13 = .ok (.if_icmp .lt 19, 3) := by decide +kernel
theorem dX11_found_16 : decode cX11_found 16 = .ok (.iload_n 2, 1) := by decide +kernel
theorem dX11_found_17 : decode cX11_found 17 = .ok (.iload_n 1, 1) := by decide +kernel
theorem dX11_found_18 : decode cX11_found 18 = .ok (.if_icmp .ge 14, 3) := by decide +kernel
theorem dX11_found_21 : decode cX11_found 21 = .ok (.aload_n 0, 1) := by decide +kernel
theorem dX11_found_22 : decode cX11_found 22 = .ok (.getfield 50, 3) := by decide +kernel
theorem dX11_found_25 : decode cX11_found 25 = .ok (.invokevirtual 194, 3) := by decide +kernel
theorem dX11_found_28 : decode cX11_found 28 = .ok (.iconst 2, 1) := by decide +kernel
theorem dX11_found_29 : decode cX11_found 29 = .ok (.if_icmp .eq 5, 3) := by decide +kernel
theorem dX11_found_32 : decode cX11_found 32 = .ok (.iconst (-1), 1) := by decide +kernel
theorem dX11_found_33 : decode cX11_found 33 = .ok (.ireturn, 1) := by decide +kernel
theorem dX11_found_34 : decode cX11_found 34 = .ok (.aload_n 0, 1) := by decide +kernel
theorem dX11_found_35 : decode cX11_found 35 = .ok (.getfield 98, 3) := by decide +kernel
theorem dX11_found_38 : decode cX11_found 38 = .ok (.invokevirtual 197, 3) := by decide +kernel
theorem dX11_found_41 : decode cX11_found 41 = .ok (.aload_n 0, 1) := by decide +kernel
theorem dX11_found_42 : decode cX11_found 42 = .ok (.getfield 98, 3) := by decide +kernel
theorem dX11_found_45 : decode cX11_found 45 = .ok (.iconst 0, 1) := by decide +kernel
theorem dX11_found_46 : decode cX11_found 46 = .ok (.iload_n 1, 1) := by decide +kernel
theorem dX11_found_47 : decode cX11_found 47 = .ok (.invokevirtual 200, 3) := by decide +kernel
theorem dX11_found_50 : decode cX11_found 50 = .ok (.ifCond .ne 5, 3) := by decide +kernel
theorem dX11_found_53 : decode cX11_found 53 = .ok (.iconst (-1), 1) := by decide +kernel
theorem dX11_found_54 : decode cX11_found 54 = .ok (.ireturn, 1) := by decide +kernel
theorem dX11_found_55 : decode cX11_found 55 = .ok (.iload_n 2, 1) := by decide +kernel
theorem dX11_found_56 : decode cX11_found 56 = .ok (.iconst (-1), 1) := by decide +kernel
theorem dX11_found_57 : decode cX11_found 57 = .ok (.if_icmp .ne 7, 3) := by decide +kernel
theorem dX11_found_60 : decode cX11_found 60 = .ok (.iconst 1, 1) := by decide +kernel
theorem dX11_found_61 : decode cX11_found 61 = .ok (.goto 11, 3) := by decide +kernel
theorem dX11_found_64 : decode cX11_found 64 = .ok (.aload_n 0, 1) := by decide +kernel
theorem dX11_found_65 : decode cX11_found 65 = .ok (.getfield 98, 3) := by decide +kernel
theorem dX11_found_68 : decode cX11_found 68 = .ok (.iload_n 2, 1) := by decide +kernel
theorem dX11_found_69 : decode cX11_found 69 = .ok (.invokevirtual 203, 3) := by decide +kernel
theorem dX11_found_72 : decode cX11_found 72 = .ok (.ireturn, 1) := by decide +kernel
def f_X11_found (ln : Nat → Nat) (x1 : Int32) (x2 : Int32) (s : dr_S) : Option (Int32 × dr_S) := (if x1 < 1 then some ((-1), s) else (if ((8 : Int32) < x1 : Prop) then some ((-1), s) else (if x2 < (-1) then some ((-1), s) else (if x1 ≤ x2 then some ((-1), s) else dr_bnd (f_X3_atJobs ln  s) (fun r2 s1 => (if r2 = 2 then dr_bndv (f_X8_takeTheTwo ln  s1) (fun s3 => dr_bnd (f_X8_goesWrong ln dr_D 0 x1 s3) (fun r5 s4 => (if r5 = 0 then some ((-1), s4) else (if x2 = (-1) then some (1, s4) else dr_bnd (f_X8_kthClerk ln x2 s4) (fun r7 s6 => some (r7, s6)))))) else some ((-1), s1)))))))
section
variable {p : Program} {l : Launch} {e : Env} {s0 : State} {m : MethodId} {args : Array Value} {below : List Frame} {meth : Method} {c : Code} {A : Nat → Prop} {D : va_G} {cI cZ : ClassId} {ad ln : Nat → Nat} {L : List Nat}
set_option maxHeartbeats 4000000 in
set_option maxRecDepth 20000 in
theorem c_X11_found (hap : dr_ap ad L) (hN : ∀ x ∈ nd_11f, x ∈ L) (x1 : Int32) (x2 : Int32) (s : dr_S) : dr_MN (.methodLinkNest RX11 200 yX8_goesWrong RX11) l D cI cZ ad ln L yX11_found cX11_found 3 (some .int) 31 [.ref (ad 11), .int x1, .int x2] s (f_X11_found ln x1 x2 s) := by
  refine dr_metiN (own := RX11) (by decide) rfl (Nat.le_of_ble_eq_true rfl) hap ?_
  intro p e s0 m args below meth c A E hNw
  unfold f_X11_found
  refine g_eqL (lv' := [(0, .ref (ad 11)), (1, .int x1), (2, .int x2)]) rfl ?_
  refine g_iload_n E dX11_found_0 1 rfl ?_
  refine g_iconst E (v := 1) dX11_found_1 (by decide) ?_
  refine g_icmp_lt E 32 dX11_found_2 (by decide) ?_ ?_
  · refine g_iconst E (v := (-1)) dX11_found_32 (by decide) ?_
    exact g_iret E dX11_found_33
  · refine g_iload_n E dX11_found_5 1 rfl ?_
    refine g_bipush E (v := 8) dX11_found_6 (by decide) ?_
    refine g_icmp_gt E 32 dX11_found_8 (by decide) ?_ ?_
    · refine g_iconst E (v := (-1)) dX11_found_32 (by decide) ?_
      exact g_iret E dX11_found_33
    · refine g_iload_n E dX11_found_11f 2 rfl ?_
      refine g_iconst E (v := (-1)) dX11_found_12 (by decide) ?_
      refine g_icmp_lt E 32 dX11_found_13 (by decide) ?_ ?_
      · refine g_iconst E (v := (-1)) dX11_found_32 (by decide) ?_
        exact g_iret E dX11_found_33
      · refine g_iload_n E dX11_found_16 2 rfl ?_
        refine g_iload_n E dX11_found_17 1 rfl ?_
        refine g_icmp_ge E 32 dX11_found_18 (by decide) ?_ ?_
        · refine g_iconst E (v := (-1)) dX11_found_32 (by decide) ?_
          exact g_iret E dX11_found_33
        · refine g_aload_n E dX11_found_21 0 rfl ?_
          refine gg_11_50 E (hN 11 (by decide)) dX11_found_22 ?_
          refine g_cVi E [] rfl (c_X3_atJobs hap (fun x h => hN x (nf_3 x h))  s) (hN 3 (by decide)) (by decide) rfl rfl mi_X3_atJobs msl_X3_atJobs mw_X3_atJobs rfl ml_11_194 ⟨Nat.le_of_ble_eq_true rfl, Nat.le_of_ble_eq_true rfl⟩ (Nat.le_of_ble_eq_true rfl) dX11_found_25 (fun r2 s1 => ?_)
          refine g_iconst E (v := 2) dX11_found_28 (by decide) ?_
          refine g_icmp_eq E 34 dX11_found_29 (by decide) ?_ ?_
          · refine g_aload_n E dX11_found_34 0 rfl ?_
            refine gg_11_98 E (hN 11 (by decide)) dX11_found_35 ?_
            refine g_cVv E [] rfl (c_X8_takeTheTwo hap (fun x h => hN x (nf_8 x h))  s1) (hN 8 (by decide)) (by decide) rfl rfl mi_X8_takeTheTwo msl_X8_takeTheTwo mw_X8_takeTheTwo rfl ml_11_197 ⟨Nat.le_of_ble_eq_true rfl, Nat.le_of_ble_eq_true rfl⟩ (Nat.le_of_ble_eq_true rfl) dX11_found_38 (fun s3 => ?_)
            refine g_aload_n E dX11_found_41 0 rfl ?_
            refine gg_11_98 E (hN 11 (by decide)) dX11_found_42 ?_
            refine g_iconst E (v := 0) dX11_found_45 (by decide) ?_
            refine g_iload_n E dX11_found_46 1 rfl ?_
            refine g_cVNi E [.int 0, .int x1] rfl (c_X8_goesWrong hap (fun x h => hN x (nf_8 x h)) dr_D 0 x1 s3) (hN 8 (by decide)) (by decide) rfl rfl mi_X8_goesWrong msl_X8_goesWrong mw_X8_goesWrong rfl hNw ⟨Nat.le_of_ble_eq_true rfl, Nat.le_of_ble_eq_true rfl⟩ (Nat.le_of_ble_eq_true rfl) dX11_found_47 (fun r5 s4 => ?_)
            refine g_if_ne E 55 dX11_found_50 (by decide) ?_ ?_
            · refine g_iload_n E dX11_found_55 2 rfl ?_
              refine g_iconst E (v := (-1)) dX11_found_56 (by decide) ?_
              refine g_icmp_ne E 64 dX11_found_57 (by decide) ?_ ?_
              · refine g_aload_n E dX11_found_64 0 rfl ?_
                refine gg_11_98 E (hN 11 (by decide)) dX11_found_65 ?_
                refine g_iload_n E dX11_found_68 2 rfl ?_
                refine g_cVi E [.int x2] rfl (c_X8_kthClerk hap (fun x h => hN x (nf_8 x h)) x2 s4) (hN 8 (by decide)) (by decide) rfl rfl mi_X8_kthClerk msl_X8_kthClerk mw_X8_kthClerk rfl ml_11_203 ⟨Nat.le_of_ble_eq_true rfl, Nat.le_of_ble_eq_true rfl⟩ (Nat.le_of_ble_eq_true rfl) dX11_found_69 (fun r7 s6 => ?_)
                exact g_iret E dX11_found_72
              · refine g_iconst E (v := 1) dX11_found_60 (by decide) ?_
                refine g_goto E 72 dX11_found_61 (by decide) ?_
                exact g_iret E dX11_found_72
            · refine g_iconst E (v := (-1)) dX11_found_53 (by decide) ?_
              exact g_iret E dX11_found_54
          · refine g_iconst E (v := (-1)) dX11_found_32 (by decide) ?_
            exact g_iret E dX11_found_33
end


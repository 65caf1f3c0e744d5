section
-- ===== PART A: goes FIRST, ahead of the names: the tables' words, and 'selects' of the private methods out of them =====
/-- a private method of a class that the tables say can be made, by its rows of tables_1 -/
def lw_okq (q : MethodName × Nat) : Prop := (q.1.cls ≠ "java/lang/invoke/MethodHandle" ∧ q.1.cls ≠ "java/lang/invoke/VarHandle") ∧ Cond.instantiable q.1.cls q.2 ∈ tables_1 ∧ Cond.privateMethod q.1 ∈ tables_1 ∧ Cond.instanceMethod q.1 ∈ tables_1
theorem lw_p0 : lw_okq (⟨"DrawerRoom$Filing", "byteAt", "(I)I"⟩, 5) := ⟨⟨by decide +kernel, by decide +kernel⟩, List.mem_of_getElem? (i := 62) (by decide +kernel), List.mem_of_getElem? (i := 353) (by decide +kernel), List.mem_of_getElem? (i := 354) (by decide +kernel)⟩
theorem lw_p1 : lw_okq (⟨"DrawerRoom$Filing", "takesLetter", "(I)Z"⟩, 5) := ⟨⟨by decide +kernel, by decide +kernel⟩, List.mem_of_getElem? (i := 62) (by decide +kernel), List.mem_of_getElem? (i := 357) (by decide +kernel), List.mem_of_getElem? (i := 358) (by decide +kernel)⟩
theorem lw_p2 : lw_okq (⟨"DrawerRoom$Filing", "takesDirection", "(I)Z"⟩, 5) := ⟨⟨by decide +kernel, by decide +kernel⟩, List.mem_of_getElem? (i := 62) (by decide +kernel), List.mem_of_getElem? (i := 367) (by decide +kernel), List.mem_of_getElem? (i := 368) (by decide +kernel)⟩
theorem lw_p3 : lw_okq (⟨"DrawerRoom", "isIdleClerk", "(I)Z"⟩, 10) := ⟨⟨by decide +kernel, by decide +kernel⟩, List.mem_of_getElem? (i := 18) (by decide +kernel), List.mem_of_getElem? (i := 398) (by decide +kernel), List.mem_of_getElem? (i := 399) (by decide +kernel)⟩
theorem lw_p4 : lw_okq (⟨"DrawerRoom$Steps", "read", "(I)V"⟩, 3) := ⟨⟨by decide +kernel, by decide +kernel⟩, List.mem_of_getElem? (i := 181) (by decide +kernel), List.mem_of_getElem? (i := 464) (by decide +kernel), List.mem_of_getElem? (i := 465) (by decide +kernel)⟩
theorem lw_p5 : lw_okq (⟨"DrawerRoom$Steps", "mustGoOn", "(III)Z"⟩, 3) := ⟨⟨by decide +kernel, by decide +kernel⟩, List.mem_of_getElem? (i := 181) (by decide +kernel), List.mem_of_getElem? (i := 472) (by decide +kernel), List.mem_of_getElem? (i := 473) (by decide +kernel)⟩
theorem lw_p6 : lw_okq (⟨"DrawerRoom$Steps", "kindOf", "(I)I"⟩, 3) := ⟨⟨by decide +kernel, by decide +kernel⟩, List.mem_of_getElem? (i := 181) (by decide +kernel), List.mem_of_getElem? (i := 495) (by decide +kernel), List.mem_of_getElem? (i := 496) (by decide +kernel)⟩
theorem lw_p7 : lw_okq (⟨"DrawerRoom$Steps", "end", "(II)V"⟩, 3) := ⟨⟨by decide +kernel, by decide +kernel⟩, List.mem_of_getElem? (i := 181) (by decide +kernel), List.mem_of_getElem? (i := 504) (by decide +kernel), List.mem_of_getElem? (i := 505) (by decide +kernel)⟩
theorem lw_p8 : lw_okq (⟨"DrawerRoom$Steps", "isFree", "(II)Z"⟩, 3) := ⟨⟨by decide +kernel, by decide +kernel⟩, List.mem_of_getElem? (i := 181) (by decide +kernel), List.mem_of_getElem? (i := 513) (by decide +kernel), List.mem_of_getElem? (i := 514) (by decide +kernel)⟩
theorem lw_p9 : lw_okq (⟨"DrawerRoom$Steps", "latch", "(II)V"⟩, 3) := ⟨⟨by decide +kernel, by decide +kernel⟩, List.mem_of_getElem? (i := 181) (by decide +kernel), List.mem_of_getElem? (i := 517) (by decide +kernel), List.mem_of_getElem? (i := 518) (by decide +kernel)⟩
theorem lw_p10 : lw_okq (⟨"DrawerRoom$Steps", "hold", "(I)V"⟩, 3) := ⟨⟨by decide +kernel, by decide +kernel⟩, List.mem_of_getElem? (i := 181) (by decide +kernel), List.mem_of_getElem? (i := 522) (by decide +kernel), List.mem_of_getElem? (i := 523) (by decide +kernel)⟩
theorem lw_p11 : lw_okq (⟨"DrawerRoom$Steps", "moveTo", "(II)V"⟩, 3) := ⟨⟨by decide +kernel, by decide +kernel⟩, List.mem_of_getElem? (i := 181) (by decide +kernel), List.mem_of_getElem? (i := 538) (by decide +kernel), List.mem_of_getElem? (i := 539) (by decide +kernel)⟩
theorem lw_p12 : lw_okq (⟨"DrawerRoom$Steps", "letGo", "(II)V"⟩, 3) := ⟨⟨by decide +kernel, by decide +kernel⟩, List.mem_of_getElem? (i := 181) (by decide +kernel), List.mem_of_getElem? (i := 542) (by decide +kernel), List.mem_of_getElem? (i := 543) (by decide +kernel)⟩
theorem lw_p13 : lw_okq (⟨"DrawerRoom$Steps", "write", "(I)V"⟩, 3) := ⟨⟨by decide +kernel, by decide +kernel⟩, List.mem_of_getElem? (i := 181) (by decide +kernel), List.mem_of_getElem? (i := 546) (by decide +kernel), List.mem_of_getElem? (i := 547) (by decide +kernel)⟩
theorem lw_p14 : lw_okq (⟨"DrawerRoom$Steps", "writeGuide", "(II)V"⟩, 3) := ⟨⟨by decide +kernel, by decide +kernel⟩, List.mem_of_getElem? (i := 181) (by decide +kernel), List.mem_of_getElem? (i := 550) (by decide +kernel), List.mem_of_getElem? (i := 551) (by decide +kernel)⟩
theorem lw_p15 : lw_okq (⟨"DrawerRoom$Steps", "writeCard", "(II)Z"⟩, 3) := ⟨⟨by decide +kernel, by decide +kernel⟩, List.mem_of_getElem? (i := 181) (by decide +kernel), List.mem_of_getElem? (i := 562) (by decide +kernel), List.mem_of_getElem? (i := 563) (by decide +kernel)⟩
def lw_privs_1 : List (MethodName × Nat) := [(⟨"DrawerRoom$Filing", "byteAt", "(I)I"⟩, 5), (⟨"DrawerRoom$Filing", "takesLetter", "(I)Z"⟩, 5), (⟨"DrawerRoom$Filing", "takesDirection", "(I)Z"⟩, 5), (⟨"DrawerRoom", "isIdleClerk", "(I)Z"⟩, 10), (⟨"DrawerRoom$Steps", "read", "(I)V"⟩, 3), (⟨"DrawerRoom$Steps", "mustGoOn", "(III)Z"⟩, 3), (⟨"DrawerRoom$Steps", "kindOf", "(I)I"⟩, 3), (⟨"DrawerRoom$Steps", "end", "(II)V"⟩, 3), (⟨"DrawerRoom$Steps", "isFree", "(II)Z"⟩, 3), (⟨"DrawerRoom$Steps", "latch", "(II)V"⟩, 3), (⟨"DrawerRoom$Steps", "hold", "(I)V"⟩, 3), (⟨"DrawerRoom$Steps", "moveTo", "(II)V"⟩, 3), (⟨"DrawerRoom$Steps", "letGo", "(II)V"⟩, 3), (⟨"DrawerRoom$Steps", "write", "(I)V"⟩, 3), (⟨"DrawerRoom$Steps", "writeGuide", "(II)V"⟩, 3), (⟨"DrawerRoom$Steps", "writeCard", "(II)Z"⟩, 3)]
theorem lw_r1 : ∀ q ∈ lw_privs_1, lw_okq q := List.forall_mem_cons.mpr ⟨lw_p0, List.forall_mem_cons.mpr ⟨lw_p1, List.forall_mem_cons.mpr ⟨lw_p2, List.forall_mem_cons.mpr ⟨lw_p3, List.forall_mem_cons.mpr ⟨lw_p4, List.forall_mem_cons.mpr ⟨lw_p5, List.forall_mem_cons.mpr ⟨lw_p6, List.forall_mem_cons.mpr ⟨lw_p7, List.forall_mem_cons.mpr ⟨lw_p8, List.forall_mem_cons.mpr ⟨lw_p9, List.forall_mem_cons.mpr ⟨lw_p10, List.forall_mem_cons.mpr ⟨lw_p11, List.forall_mem_cons.mpr ⟨lw_p12, List.forall_mem_cons.mpr ⟨lw_p13, List.forall_mem_cons.mpr ⟨lw_p14, List.forall_mem_cons.mpr ⟨lw_p15, fun _ h => absurd h List.not_mem_nil⟩⟩⟩⟩⟩⟩⟩⟩⟩⟩⟩⟩⟩⟩⟩⟩
theorem lw_p16 : lw_okq (⟨"DrawerRoom$Steps", "climb", "(I)V"⟩, 3) := ⟨⟨by decide +kernel, by decide +kernel⟩, List.mem_of_getElem? (i := 181) (by decide +kernel), List.mem_of_getElem? (i := 582) (by decide +kernel), List.mem_of_getElem? (i := 583) (by decide +kernel)⟩
theorem lw_p17 : lw_okq (⟨"DrawerRoom$Line", "canBeAsked", "(I)Z"⟩, 9) := ⟨⟨by decide +kernel, by decide +kernel⟩, List.mem_of_getElem? (i := 216) (by decide +kernel), List.mem_of_getElem? (i := 667) (by decide +kernel), List.mem_of_getElem? (i := 668) (by decide +kernel)⟩
theorem lw_p18 : lw_okq (⟨"DrawerRoom$Line", "goesOn", "(IIZ)Z"⟩, 9) := ⟨⟨by decide +kernel, by decide +kernel⟩, List.mem_of_getElem? (i := 216) (by decide +kernel), List.mem_of_getElem? (i := 676) (by decide +kernel), List.mem_of_getElem? (i := 677) (by decide +kernel)⟩
theorem lw_p19 : lw_okq (⟨"DrawerRoom$Line", "nothingComesFirst", "(II)Z"⟩, 9) := ⟨⟨by decide +kernel, by decide +kernel⟩, List.mem_of_getElem? (i := 216) (by decide +kernel), List.mem_of_getElem? (i := 680) (by decide +kernel), List.mem_of_getElem? (i := 681) (by decide +kernel)⟩
theorem lw_p20 : lw_okq (⟨"DrawerRoom$Line", "isRight", "(IZ)Z"⟩, 9) := ⟨⟨by decide +kernel, by decide +kernel⟩, List.mem_of_getElem? (i := 216) (by decide +kernel), List.mem_of_getElem? (i := 684) (by decide +kernel), List.mem_of_getElem? (i := 685) (by decide +kernel)⟩
theorem lw_p21 : lw_okq (⟨"DrawerRoom$Shape", "hasBadHeadings", "(I)Z"⟩, 2) := ⟨⟨by decide +kernel, by decide +kernel⟩, List.mem_of_getElem? (i := 250) (by decide +kernel), List.mem_of_getElem? (i := 706) (by decide +kernel), List.mem_of_getElem? (i := 707) (by decide +kernel)⟩
theorem lw_p22 : lw_okq (⟨"DrawerRoom$Shape", "hasBadChildren", "(I)Z"⟩, 2) := ⟨⟨by decide +kernel, by decide +kernel⟩, List.mem_of_getElem? (i := 250) (by decide +kernel), List.mem_of_getElem? (i := 714) (by decide +kernel), List.mem_of_getElem? (i := 715) (by decide +kernel)⟩
theorem lw_p23 : lw_okq (⟨"DrawerRoom$Search", "goesWrong", "(II)Z"⟩, 9) := ⟨⟨by decide +kernel, by decide +kernel⟩, List.mem_of_getElem? (i := 263) (by decide +kernel), List.mem_of_getElem? (i := 733) (by decide +kernel), List.mem_of_getElem? (i := 734) (by decide +kernel)⟩
theorem lw_p24 : lw_okq (⟨"DrawerRoom$Search", "isWrongNow", "()Z"⟩, 9) := ⟨⟨by decide +kernel, by decide +kernel⟩, List.mem_of_getElem? (i := 263) (by decide +kernel), List.mem_of_getElem? (i := 737) (by decide +kernel), List.mem_of_getElem? (i := 738) (by decide +kernel)⟩
theorem lw_p25 : lw_okq (⟨"DrawerRoom$Cards", "sortIn", "(I)V"⟩, 4) := ⟨⟨by decide +kernel, by decide +kernel⟩, List.mem_of_getElem? (i := 197) (by decide +kernel), List.mem_of_getElem? (i := 794) (by decide +kernel), List.mem_of_getElem? (i := 795) (by decide +kernel)⟩
theorem lw_p26 : lw_okq (⟨"DrawerRoom$Builder", "buildLeaves", "(II)I"⟩, 2) := ⟨⟨by decide +kernel, by decide +kernel⟩, List.mem_of_getElem? (i := 297) (by decide +kernel), List.mem_of_getElem? (i := 799) (by decide +kernel), List.mem_of_getElem? (i := 800) (by decide +kernel)⟩
theorem lw_p27 : lw_okq (⟨"DrawerRoom$Builder", "buildGuides", "(IIII)I"⟩, 2) := ⟨⟨by decide +kernel, by decide +kernel⟩, List.mem_of_getElem? (i := 297) (by decide +kernel), List.mem_of_getElem? (i := 809) (by decide +kernel), List.mem_of_getElem? (i := 810) (by decide +kernel)⟩
theorem lw_p28 : lw_okq (⟨"DrawerRoomModel", "clears", "(I)V"⟩, 59) := ⟨⟨by decide +kernel, by decide +kernel⟩, List.mem_of_getElem? (i := 832) (by decide +kernel), List.mem_of_getElem? (i := 838) (by decide +kernel), List.mem_of_getElem? (i := 839) (by decide +kernel)⟩
theorem lw_p29 : lw_okq (⟨"DrawerRoomModel", "isRead", "(I)Z"⟩, 59) := ⟨⟨by decide +kernel, by decide +kernel⟩, List.mem_of_getElem? (i := 832) (by decide +kernel), List.mem_of_getElem? (i := 1031) (by decide +kernel), List.mem_of_getElem? (i := 1032) (by decide +kernel)⟩
theorem lw_p30 : lw_okq (⟨"DrawerRoomModel", "isAhead", "(II)Z"⟩, 59) := ⟨⟨by decide +kernel, by decide +kernel⟩, List.mem_of_getElem? (i := 832) (by decide +kernel), List.mem_of_getElem? (i := 1042) (by decide +kernel), List.mem_of_getElem? (i := 1043) (by decide +kernel)⟩
theorem lw_p31 : lw_okq (⟨"DrawerRoomModel", "used", "()I"⟩, 59) := ⟨⟨by decide +kernel, by decide +kernel⟩, List.mem_of_getElem? (i := 832) (by decide +kernel), List.mem_of_getElem? (i := 1057) (by decide +kernel), List.mem_of_getElem? (i := 1058) (by decide +kernel)⟩
def lw_privs_2 : List (MethodName × Nat) := [(⟨"DrawerRoom$Steps", "climb", "(I)V"⟩, 3), (⟨"DrawerRoom$Line", "canBeAsked", "(I)Z"⟩, 9), (⟨"DrawerRoom$Line", "goesOn", "(IIZ)Z"⟩, 9), (⟨"DrawerRoom$Line", "nothingComesFirst", "(II)Z"⟩, 9), (⟨"DrawerRoom$Line", "isRight", "(IZ)Z"⟩, 9), (⟨"DrawerRoom$Shape", "hasBadHeadings", "(I)Z"⟩, 2), (⟨"DrawerRoom$Shape", "hasBadChildren", "(I)Z"⟩, 2), (⟨"DrawerRoom$Search", "goesWrong", "(II)Z"⟩, 9), (⟨"DrawerRoom$Search", "isWrongNow", "()Z"⟩, 9), (⟨"DrawerRoom$Cards", "sortIn", "(I)V"⟩, 4), (⟨"DrawerRoom$Builder", "buildLeaves", "(II)I"⟩, 2), (⟨"DrawerRoom$Builder", "buildGuides", "(IIII)I"⟩, 2), (⟨"DrawerRoomModel", "clears", "(I)V"⟩, 59), (⟨"DrawerRoomModel", "isRead", "(I)Z"⟩, 59), (⟨"DrawerRoomModel", "isAhead", "(II)Z"⟩, 59), (⟨"DrawerRoomModel", "used", "()I"⟩, 59)]
theorem lw_r2 : ∀ q ∈ lw_privs_2, lw_okq q := List.forall_mem_cons.mpr ⟨lw_p16, List.forall_mem_cons.mpr ⟨lw_p17, List.forall_mem_cons.mpr ⟨lw_p18, List.forall_mem_cons.mpr ⟨lw_p19, List.forall_mem_cons.mpr ⟨lw_p20, List.forall_mem_cons.mpr ⟨lw_p21, List.forall_mem_cons.mpr ⟨lw_p22, List.forall_mem_cons.mpr ⟨lw_p23, List.forall_mem_cons.mpr ⟨lw_p24, List.forall_mem_cons.mpr ⟨lw_p25, List.forall_mem_cons.mpr ⟨lw_p26, List.forall_mem_cons.mpr ⟨lw_p27, List.forall_mem_cons.mpr ⟨lw_p28, List.forall_mem_cons.mpr ⟨lw_p29, List.forall_mem_cons.mpr ⟨lw_p30, List.forall_mem_cons.mpr ⟨lw_p31, fun _ h => absurd h List.not_mem_nil⟩⟩⟩⟩⟩⟩⟩⟩⟩⟩⟩⟩⟩⟩⟩⟩
theorem lw_p32 : lw_okq (⟨"DrawerRoomModel", "one", "(I)V"⟩, 59) := ⟨⟨by decide +kernel, by decide +kernel⟩, List.mem_of_getElem? (i := 832) (by decide +kernel), List.mem_of_getElem? (i := 1065) (by decide +kernel), List.mem_of_getElem? (i := 1066) (by decide +kernel)⟩
theorem lw_p33 : lw_okq (⟨"DrawerRoomModel", "reads", "(I)V"⟩, 59) := ⟨⟨by decide +kernel, by decide +kernel⟩, List.mem_of_getElem? (i := 832) (by decide +kernel), List.mem_of_getElem? (i := 1069) (by decide +kernel), List.mem_of_getElem? (i := 1070) (by decide +kernel)⟩
theorem lw_p34 : lw_okq (⟨"DrawerRoomModel", "covered", "(III)Z"⟩, 59) := ⟨⟨by decide +kernel, by decide +kernel⟩, List.mem_of_getElem? (i := 832) (by decide +kernel), List.mem_of_getElem? (i := 1073) (by decide +kernel), List.mem_of_getElem? (i := 1074) (by decide +kernel)⟩
theorem lw_p35 : lw_okq (⟨"DrawerRoomModel", "covers", "(II)Z"⟩, 59) := ⟨⟨by decide +kernel, by decide +kernel⟩, List.mem_of_getElem? (i := 832) (by decide +kernel), List.mem_of_getElem? (i := 1077) (by decide +kernel), List.mem_of_getElem? (i := 1078) (by decide +kernel)⟩
theorem lw_p36 : lw_okq (⟨"DrawerRoomModel", "way", "(II)I"⟩, 59) := ⟨⟨by decide +kernel, by decide +kernel⟩, List.mem_of_getElem? (i := 832) (by decide +kernel), List.mem_of_getElem? (i := 1081) (by decide +kernel), List.mem_of_getElem? (i := 1082) (by decide +kernel)⟩
theorem lw_p37 : lw_okq (⟨"DrawerRoomModel", "hasCard", "(II)Z"⟩, 59) := ⟨⟨by decide +kernel, by decide +kernel⟩, List.mem_of_getElem? (i := 832) (by decide +kernel), List.mem_of_getElem? (i := 1085) (by decide +kernel), List.mem_of_getElem? (i := 1086) (by decide +kernel)⟩
theorem lw_p38 : lw_okq (⟨"DrawerRoomModel", "ends", "(II)V"⟩, 59) := ⟨⟨by decide +kernel, by decide +kernel⟩, List.mem_of_getElem? (i := 832) (by decide +kernel), List.mem_of_getElem? (i := 1089) (by decide +kernel), List.mem_of_getElem? (i := 1090) (by decide +kernel)⟩
theorem lw_p39 : lw_okq (⟨"DrawerRoomModel", "isOthers", "(II)Z"⟩, 59) := ⟨⟨by decide +kernel, by decide +kernel⟩, List.mem_of_getElem? (i := 832) (by decide +kernel), List.mem_of_getElem? (i := 1093) (by decide +kernel), List.mem_of_getElem? (i := 1094) (by decide +kernel)⟩
theorem lw_p40 : lw_okq (⟨"DrawerRoomModel", "latches", "(II)V"⟩, 59) := ⟨⟨by decide +kernel, by decide +kernel⟩, List.mem_of_getElem? (i := 832) (by decide +kernel), List.mem_of_getElem? (i := 1097) (by decide +kernel), List.mem_of_getElem? (i := 1098) (by decide +kernel)⟩
theorem lw_p41 : lw_okq (⟨"DrawerRoomModel", "holds", "(I)V"⟩, 59) := ⟨⟨by decide +kernel, by decide +kernel⟩, List.mem_of_getElem? (i := 832) (by decide +kernel), List.mem_of_getElem? (i := 1101) (by decide +kernel), List.mem_of_getElem? (i := 1102) (by decide +kernel)⟩
theorem lw_p42 : lw_okq (⟨"DrawerRoomModel", "looksFor", "(I)I"⟩, 59) := ⟨⟨by decide +kernel, by decide +kernel⟩, List.mem_of_getElem? (i := 832) (by decide +kernel), List.mem_of_getElem? (i := 1105) (by decide +kernel), List.mem_of_getElem? (i := 1106) (by decide +kernel)⟩
theorem lw_p43 : lw_okq (⟨"DrawerRoomModel", "letsGo", "(II)V"⟩, 59) := ⟨⟨by decide +kernel, by decide +kernel⟩, List.mem_of_getElem? (i := 832) (by decide +kernel), List.mem_of_getElem? (i := 1109) (by decide +kernel), List.mem_of_getElem? (i := 1110) (by decide +kernel)⟩
theorem lw_p44 : lw_okq (⟨"DrawerRoomModel", "writes", "(I)V"⟩, 59) := ⟨⟨by decide +kernel, by decide +kernel⟩, List.mem_of_getElem? (i := 832) (by decide +kernel), List.mem_of_getElem? (i := 1113) (by decide +kernel), List.mem_of_getElem? (i := 1114) (by decide +kernel)⟩
theorem lw_p45 : lw_okq (⟨"DrawerRoomModel", "hasCopy", "(II)Z"⟩, 59) := ⟨⟨by decide +kernel, by decide +kernel⟩, List.mem_of_getElem? (i := 832) (by decide +kernel), List.mem_of_getElem? (i := 1117) (by decide +kernel), List.mem_of_getElem? (i := 1118) (by decide +kernel)⟩
theorem lw_p46 : lw_okq (⟨"DrawerRoomModel", "placeIn", "(II)I"⟩, 59) := ⟨⟨by decide +kernel, by decide +kernel⟩, List.mem_of_getElem? (i := 832) (by decide +kernel), List.mem_of_getElem? (i := 1121) (by decide +kernel), List.mem_of_getElem? (i := 1122) (by decide +kernel)⟩
theorem lw_p47 : lw_okq (⟨"DrawerRoomModel", "becomes", "(I)V"⟩, 59) := ⟨⟨by decide +kernel, by decide +kernel⟩, List.mem_of_getElem? (i := 832) (by decide +kernel), List.mem_of_getElem? (i := 1125) (by decide +kernel), List.mem_of_getElem? (i := 1126) (by decide +kernel)⟩
def lw_privs_3 : List (MethodName × Nat) := [(⟨"DrawerRoomModel", "one", "(I)V"⟩, 59), (⟨"DrawerRoomModel", "reads", "(I)V"⟩, 59), (⟨"DrawerRoomModel", "covered", "(III)Z"⟩, 59), (⟨"DrawerRoomModel", "covers", "(II)Z"⟩, 59), (⟨"DrawerRoomModel", "way", "(II)I"⟩, 59), (⟨"DrawerRoomModel", "hasCard", "(II)Z"⟩, 59), (⟨"DrawerRoomModel", "ends", "(II)V"⟩, 59), (⟨"DrawerRoomModel", "isOthers", "(II)Z"⟩, 59), (⟨"DrawerRoomModel", "latches", "(II)V"⟩, 59), (⟨"DrawerRoomModel", "holds", "(I)V"⟩, 59), (⟨"DrawerRoomModel", "looksFor", "(I)I"⟩, 59), (⟨"DrawerRoomModel", "letsGo", "(II)V"⟩, 59), (⟨"DrawerRoomModel", "writes", "(I)V"⟩, 59), (⟨"DrawerRoomModel", "hasCopy", "(II)Z"⟩, 59), (⟨"DrawerRoomModel", "placeIn", "(II)I"⟩, 59), (⟨"DrawerRoomModel", "becomes", "(I)V"⟩, 59)]
theorem lw_r3 : ∀ q ∈ lw_privs_3, lw_okq q := List.forall_mem_cons.mpr ⟨lw_p32, List.forall_mem_cons.mpr ⟨lw_p33, List.forall_mem_cons.mpr ⟨lw_p34, List.forall_mem_cons.mpr ⟨lw_p35, List.forall_mem_cons.mpr ⟨lw_p36, List.forall_mem_cons.mpr ⟨lw_p37, List.forall_mem_cons.mpr ⟨lw_p38, List.forall_mem_cons.mpr ⟨lw_p39, List.forall_mem_cons.mpr ⟨lw_p40, List.forall_mem_cons.mpr ⟨lw_p41, List.forall_mem_cons.mpr ⟨lw_p42, List.forall_mem_cons.mpr ⟨lw_p43, List.forall_mem_cons.mpr ⟨lw_p44, List.forall_mem_cons.mpr ⟨lw_p45, List.forall_mem_cons.mpr ⟨lw_p46, List.forall_mem_cons.mpr ⟨lw_p47, fun _ h => absurd h List.not_mem_nil⟩⟩⟩⟩⟩⟩⟩⟩⟩⟩⟩⟩⟩⟩⟩⟩
theorem lw_p48 : lw_okq (⟨"DrawerRoomModel", "comes", "(III)V"⟩, 59) := ⟨⟨by decide +kernel, by decide +kernel⟩, List.mem_of_getElem? (i := 832) (by decide +kernel), List.mem_of_getElem? (i := 1129) (by decide +kernel), List.mem_of_getElem? (i := 1130) (by decide +kernel)⟩
theorem lw_p49 : lw_okq (⟨"DrawerRoomModel", "parted", "(I)I"⟩, 59) := ⟨⟨by decide +kernel, by decide +kernel⟩, List.mem_of_getElem? (i := 832) (by decide +kernel), List.mem_of_getElem? (i := 1133) (by decide +kernel), List.mem_of_getElem? (i := 1134) (by decide +kernel)⟩
theorem lw_p50 : lw_okq (⟨"DrawerRoomModel", "spare", "()I"⟩, 59) := ⟨⟨by decide +kernel, by decide +kernel⟩, List.mem_of_getElem? (i := 832) (by decide +kernel), List.mem_of_getElem? (i := 1137) (by decide +kernel), List.mem_of_getElem? (i := 1138) (by decide +kernel)⟩
theorem lw_p51 : lw_okq (⟨"DrawerRoomModel", "goesUp", "(I)V"⟩, 59) := ⟨⟨by decide +kernel, by decide +kernel⟩, List.mem_of_getElem? (i := 832) (by decide +kernel), List.mem_of_getElem? (i := 1141) (by decide +kernel), List.mem_of_getElem? (i := 1142) (by decide +kernel)⟩
theorem lw_p52 : lw_okq (⟨"DrawerRoomModel", "firstOf", "(I)I"⟩, 59) := ⟨⟨by decide +kernel, by decide +kernel⟩, List.mem_of_getElem? (i := 832) (by decide +kernel), List.mem_of_getElem? (i := 1145) (by decide +kernel), List.mem_of_getElem? (i := 1146) (by decide +kernel)⟩
theorem lw_p53 : lw_okq (⟨"DrawerRoomModel", "lists", "()V"⟩, 59) := ⟨⟨by decide +kernel, by decide +kernel⟩, List.mem_of_getElem? (i := 832) (by decide +kernel), List.mem_of_getElem? (i := 1169) (by decide +kernel), List.mem_of_getElem? (i := 1170) (by decide +kernel)⟩
theorem lw_p54 : lw_okq (⟨"DrawerRoomModel", "canBeAsked", "(I)Z"⟩, 59) := ⟨⟨by decide +kernel, by decide +kernel⟩, List.mem_of_getElem? (i := 832) (by decide +kernel), List.mem_of_getElem? (i := 1185) (by decide +kernel), List.mem_of_getElem? (i := 1186) (by decide +kernel)⟩
theorem lw_p55 : lw_okq (⟨"DrawerRoomModel", "isSound", "(I)Z"⟩, 59) := ⟨⟨by decide +kernel, by decide +kernel⟩, List.mem_of_getElem? (i := 832) (by decide +kernel), List.mem_of_getElem? (i := 1189) (by decide +kernel), List.mem_of_getElem? (i := 1190) (by decide +kernel)⟩
theorem lw_p56 : lw_okq (⟨"DrawerRoomModel", "mayCome", "(II)Z"⟩, 59) := ⟨⟨by decide +kernel, by decide +kernel⟩, List.mem_of_getElem? (i := 832) (by decide +kernel), List.mem_of_getElem? (i := 1193) (by decide +kernel), List.mem_of_getElem? (i := 1194) (by decide +kernel)⟩
theorem lw_p57 : lw_okq (⟨"DrawerRoomModel", "isThere", "(I)Z"⟩, 59) := ⟨⟨by decide +kernel, by decide +kernel⟩, List.mem_of_getElem? (i := 832) (by decide +kernel), List.mem_of_getElem? (i := 1197) (by decide +kernel), List.mem_of_getElem? (i := 1198) (by decide +kernel)⟩
theorem lw_p58 : lw_okq (⟨"DrawerRoomModel", "isBad", "(I)Z"⟩, 59) := ⟨⟨by decide +kernel, by decide +kernel⟩, List.mem_of_getElem? (i := 832) (by decide +kernel), List.mem_of_getElem? (i := 1210) (by decide +kernel), List.mem_of_getElem? (i := 1211) (by decide +kernel)⟩
theorem lw_p59 : lw_okq (⟨"DrawerRoomModel", "atJobs", "()I"⟩, 59) := ⟨⟨by decide +kernel, by decide +kernel⟩, List.mem_of_getElem? (i := 832) (by decide +kernel), List.mem_of_getElem? (i := 1218) (by decide +kernel), List.mem_of_getElem? (i := 1219) (by decide +kernel)⟩
theorem lw_p60 : lw_okq (⟨"DrawerRoomModel", "saves", "()V"⟩, 59) := ⟨⟨by decide +kernel, by decide +kernel⟩, List.mem_of_getElem? (i := 832) (by decide +kernel), List.mem_of_getElem? (i := 1222) (by decide +kernel), List.mem_of_getElem? (i := 1223) (by decide +kernel)⟩
theorem lw_p61 : lw_okq (⟨"DrawerRoomModel", "goesBy", "(IIII)Z"⟩, 59) := ⟨⟨by decide +kernel, by decide +kernel⟩, List.mem_of_getElem? (i := 832) (by decide +kernel), List.mem_of_getElem? (i := 1226) (by decide +kernel), List.mem_of_getElem? (i := 1227) (by decide +kernel)⟩
theorem lw_p62 : lw_okq (⟨"DrawerRoomModel", "isBroken", "(I)Z"⟩, 59) := ⟨⟨by decide +kernel, by decide +kernel⟩, List.mem_of_getElem? (i := 832) (by decide +kernel), List.mem_of_getElem? (i := 1231) (by decide +kernel), List.mem_of_getElem? (i := 1232) (by decide +kernel)⟩
theorem lw_p63 : lw_okq (⟨"DrawerRoomModel", "putsBack", "()V"⟩, 59) := ⟨⟨by decide +kernel, by decide +kernel⟩, List.mem_of_getElem? (i := 832) (by decide +kernel), List.mem_of_getElem? (i := 1235) (by decide +kernel), List.mem_of_getElem? (i := 1236) (by decide +kernel)⟩
def lw_privs_4 : List (MethodName × Nat) := [(⟨"DrawerRoomModel", "comes", "(III)V"⟩, 59), (⟨"DrawerRoomModel", "parted", "(I)I"⟩, 59), (⟨"DrawerRoomModel", "spare", "()I"⟩, 59), (⟨"DrawerRoomModel", "goesUp", "(I)V"⟩, 59), (⟨"DrawerRoomModel", "firstOf", "(I)I"⟩, 59), (⟨"DrawerRoomModel", "lists", "()V"⟩, 59), (⟨"DrawerRoomModel", "canBeAsked", "(I)Z"⟩, 59), (⟨"DrawerRoomModel", "isSound", "(I)Z"⟩, 59), (⟨"DrawerRoomModel", "mayCome", "(II)Z"⟩, 59), (⟨"DrawerRoomModel", "isThere", "(I)Z"⟩, 59), (⟨"DrawerRoomModel", "isBad", "(I)Z"⟩, 59), (⟨"DrawerRoomModel", "atJobs", "()I"⟩, 59), (⟨"DrawerRoomModel", "saves", "()V"⟩, 59), (⟨"DrawerRoomModel", "goesBy", "(IIII)Z"⟩, 59), (⟨"DrawerRoomModel", "isBroken", "(I)Z"⟩, 59), (⟨"DrawerRoomModel", "putsBack", "()V"⟩, 59)]
theorem lw_r4 : ∀ q ∈ lw_privs_4, lw_okq q := List.forall_mem_cons.mpr ⟨lw_p48, List.forall_mem_cons.mpr ⟨lw_p49, List.forall_mem_cons.mpr ⟨lw_p50, List.forall_mem_cons.mpr ⟨lw_p51, List.forall_mem_cons.mpr ⟨lw_p52, List.forall_mem_cons.mpr ⟨lw_p53, List.forall_mem_cons.mpr ⟨lw_p54, List.forall_mem_cons.mpr ⟨lw_p55, List.forall_mem_cons.mpr ⟨lw_p56, List.forall_mem_cons.mpr ⟨lw_p57, List.forall_mem_cons.mpr ⟨lw_p58, List.forall_mem_cons.mpr ⟨lw_p59, List.forall_mem_cons.mpr ⟨lw_p60, List.forall_mem_cons.mpr ⟨lw_p61, List.forall_mem_cons.mpr ⟨lw_p62, List.forall_mem_cons.mpr ⟨lw_p63, fun _ h => absurd h List.not_mem_nil⟩⟩⟩⟩⟩⟩⟩⟩⟩⟩⟩⟩⟩⟩⟩⟩
theorem lw_p64 : lw_okq (⟨"DrawerRoomModel", "sorts", "()V"⟩, 59) := ⟨⟨by decide +kernel, by decide +kernel⟩, List.mem_of_getElem? (i := 832) (by decide +kernel), List.mem_of_getElem? (i := 1247) (by decide +kernel), List.mem_of_getElem? (i := 1248) (by decide +kernel)⟩
theorem lw_p65 : lw_okq (⟨"DrawerRoomModel", "binds", "(II)V"⟩, 59) := ⟨⟨by decide +kernel, by decide +kernel⟩, List.mem_of_getElem? (i := 832) (by decide +kernel), List.mem_of_getElem? (i := 1251) (by decide +kernel), List.mem_of_getElem? (i := 1252) (by decide +kernel)⟩
def lw_privs_5 : List (MethodName × Nat) := [(⟨"DrawerRoomModel", "sorts", "()V"⟩, 59), (⟨"DrawerRoomModel", "binds", "(II)V"⟩, 59)]
theorem lw_r5 : ∀ q ∈ lw_privs_5, lw_okq q := List.forall_mem_cons.mpr ⟨lw_p64, List.forall_mem_cons.mpr ⟨lw_p65, fun _ h => absurd h List.not_mem_nil⟩⟩
def lw_privs : List (MethodName × Nat) := lw_privs_1 ++ (lw_privs_2 ++ (lw_privs_3 ++ (lw_privs_4 ++ (lw_privs_5))))
def lw_tbl : List Cond := k2_sels lw_privs ++ tables_1
theorem lw_privs_ok : ∀ q ∈ lw_privs, lw_okq q := by
  show ∀ q ∈ lw_privs_1 ++ (lw_privs_2 ++ (lw_privs_3 ++ (lw_privs_4 ++ (lw_privs_5)))), lw_okq q
  exact List.forall_mem_append.mpr ⟨lw_r1, List.forall_mem_append.mpr ⟨lw_r2, List.forall_mem_append.mpr ⟨lw_r3, List.forall_mem_append.mpr ⟨lw_r4, lw_r5⟩⟩⟩⟩
end
section
def RX0 : String := "DrawerRoom$Builder"
def TX0 : u_T := fun k => match k with
  | 0 => ("DrawerRoom$Builder", "drawers", "LDrawerRoom$Drawers;", true)
  | _ => ("DrawerRoom$Builder", "cards", "LDrawerRoom$Cards;", true)
def tyX0 : Nat → FieldType := fun k => match k with
  | 0 => .object "DrawerRoom$Drawers"
  | _ => .object "DrawerRoom$Cards"
abbrev wsX00 : List Cond := u_ws RX0 TX0 2
theorem nmX0 : ∀ a, a < 2 → ∀ b, b < 2 → a ≠ b → (TX0 a).2.1 ≠ (TX0 b).2.1 := by decide +kernel
theorem tyX0_ok : ∀ k, k < 2 → parseFieldDescriptor (TX0 k).2.2.1 = some (tyX0 k) := by decide +kernel
abbrev cX0_init : ByteArray := prog_2_method_1_code
def yX0_init : MethodName := ⟨RX0, "<init>", "(LDrawerRoom$Drawers;LDrawerRoom$Cards;)V"⟩
abbrev cX0_crownTheTop : ByteArray := prog_2_method_2_code
def yX0_crownTheTop : MethodName := ⟨RX0, "crownTheTop", "()V"⟩
abbrev cX0_buildAnew : ByteArray := prog_2_method_3_code
def yX0_buildAnew : MethodName := ⟨RX0, "buildAnew", "(I)V"⟩
abbrev cX0_buildLeaves : ByteArray := prog_2_method_4_code
def yX0_buildLeaves : MethodName := ⟨RX0, "buildLeaves", "(II)I"⟩
abbrev cX0_buildGuides : ByteArray := prog_2_method_5_code
def yX0_buildGuides : MethodName := ⟨RX0, "buildGuides", "(IIII)I"⟩
def RX1 : String := "DrawerRoom$Cards"
def TX1 : u_T := fun k => match k with
  | 0 => ("DrawerRoom$Cards", "drawers", "LDrawerRoom$Drawers;", true)
  | 1 => ("DrawerRoom$Cards", "filing", "LDrawerRoom$Filing;", true)
  | 2 => ("DrawerRoom$Cards", "sorted", "[I", true)
  | _ => ("DrawerRoom$Cards", "sortedCount", "I", false)
def tyX1 : Nat → FieldType := fun k => match k with
  | 0 => .object "DrawerRoom$Drawers"
  | 1 => .object "DrawerRoom$Filing"
  | 2 => .array .int
  | _ => .int
abbrev wsX10 : List Cond := u_ws RX1 TX1 4
theorem nmX1 : ∀ a, a < 4 → ∀ b, b < 4 → a ≠ b → (TX1 a).2.1 ≠ (TX1 b).2.1 := by decide +kernel
theorem tyX1_ok : ∀ k, k < 4 → parseFieldDescriptor (TX1 k).2.2.1 = some (tyX1 k) := by decide +kernel
abbrev cX1_init : ByteArray := prog_3_method_1_code
def yX1_init : MethodName := ⟨RX1, "<init>", "(LDrawerRoom$Drawers;LDrawerRoom$Filing;)V"⟩
abbrev cX1_howMany : ByteArray := prog_3_method_2_code
def yX1_howMany : MethodName := ⟨RX1, "howMany", "()I"⟩
abbrev cX1_kth : ByteArray := prog_3_method_3_code
def yX1_kth : MethodName := ⟨RX1, "kth", "(I)I"⟩
abbrev cX1_aheadOf : ByteArray := prog_3_method_4_code
def yX1_aheadOf : MethodName := ⟨RX1, "aheadOf", "(I)I"⟩
abbrev cX1_sort : ByteArray := prog_3_method_5_code
def yX1_sort : MethodName := ⟨RX1, "sort", "()I"⟩
abbrev cX1_kthSorted : ByteArray := prog_3_method_6_code
def yX1_kthSorted : MethodName := ⟨RX1, "kthSorted", "(I)I"⟩
abbrev cX1_sortIn : ByteArray := prog_3_method_7_code
def yX1_sortIn : MethodName := ⟨RX1, "sortIn", "(I)V"⟩
def RX2 : String := "DrawerRoom$Cells"
def TX2 : u_T := fun k => match k with
  | 0 => ("DrawerRoom$Cells", "now", "[I", true)
  | 1 => ("DrawerRoom$Cells", "places", "[I", true)
  | 2 => ("DrawerRoom$Cells", "before", "[I", true)
  | 3 => ("DrawerRoom$Cells", "logged", "I", false)
  | _ => ("DrawerRoom$Cells", "trying", "Z", false)
def tyX2 : Nat → FieldType := fun k => match k with
  | 0 => .array .int
  | 1 => .array .int
  | 2 => .array .int
  | 3 => .int
  | _ => .boolean
abbrev wsX20 : List Cond := u_ws RX2 TX2 5
theorem nmX2 : ∀ a, a < 5 → ∀ b, b < 5 → a ≠ b → (TX2 a).2.1 ≠ (TX2 b).2.1 := by decide +kernel
theorem tyX2_ok : ∀ k, k < 5 → parseFieldDescriptor (TX2 k).2.2.1 = some (tyX2 k) := by decide +kernel
abbrev cX2_init : ByteArray := prog_4_method_1_code
def yX2_init : MethodName := ⟨RX2, "<init>", "(I)V"⟩
abbrev cX2_get : ByteArray := prog_4_method_2_code
def yX2_get : MethodName := ⟨RX2, "get", "(I)I"⟩
abbrev cX2_put : ByteArray := prog_4_method_3_code
def yX2_put : MethodName := ⟨RX2, "put", "(II)V"⟩
abbrev cX2_fill : ByteArray := prog_4_method_4_code
def yX2_fill : MethodName := ⟨RX2, "fill", "(III)V"⟩
abbrev cX2_copy : ByteArray := prog_4_method_5_code
def yX2_copy : MethodName := ⟨RX2, "copy", "(III)V"⟩
abbrev cX2_startTrying : ByteArray := prog_4_method_6_code
def yX2_startTrying : MethodName := ⟨RX2, "startTrying", "()I"⟩
abbrev cX2_takeBack : ByteArray := prog_4_method_7_code
def yX2_takeBack : MethodName := ⟨RX2, "takeBack", "(I)V"⟩
def RX3 : String := "DrawerRoom$Clerks"
def TX3 : u_T := fun k => match k with
  | 0 => ("DrawerRoom$Clerks", "cells", "LDrawerRoom$Cells;", true)
  | _ => ("DrawerRoom$Clerks", "from", "I", true)
def tyX3 : Nat → FieldType := fun k => match k with
  | 0 => .object "DrawerRoom$Cells"
  | _ => .int
abbrev wsX30 : List Cond := u_ws RX3 TX3 2
theorem nmX3 : ∀ a, a < 2 → ∀ b, b < 2 → a ≠ b → (TX3 a).2.1 ≠ (TX3 b).2.1 := by decide +kernel
theorem tyX3_ok : ∀ k, k < 2 → parseFieldDescriptor (TX3 k).2.2.1 = some (tyX3 k) := by decide +kernel
abbrev cX3_init : ByteArray := prog_5_method_1_code
def yX3_init : MethodName := ⟨RX3, "<init>", "(LDrawerRoom$Cells;I)V"⟩
abbrev cX3_get : ByteArray := prog_5_method_2_code
def yX3_get : MethodName := ⟨RX3, "get", "(II)I"⟩
abbrev cX3_set : ByteArray := prog_5_method_3_code
def yX3_set : MethodName := ⟨RX3, "set", "(III)V"⟩
abbrev cX3_isIdle : ByteArray := prog_5_method_4_code
def yX3_isIdle : MethodName := ⟨RX3, "isIdle", "(I)Z"⟩
abbrev cX3_atJobs : ByteArray := prog_5_method_5_code
def yX3_atJobs : MethodName := ⟨RX3, "atJobs", "()I"⟩
abbrev cX3_startReading : ByteArray := prog_5_method_6_code
def yX3_startReading : MethodName := ⟨RX3, "startReading", "(II)V"⟩
abbrev cX3_rest : ByteArray := prog_5_method_7_code
def yX3_rest : MethodName := ⟨RX3, "rest", "(I)V"⟩
abbrev cX3_path : ByteArray := prog_5_method_8_code
def yX3_path : MethodName := ⟨RX3, "path", "(II)I"⟩
abbrev cX3_keepPath : ByteArray := prog_5_method_9_code
def yX3_keepPath : MethodName := ⟨RX3, "keepPath", "(III)V"⟩
def RX4 : String := "DrawerRoom$Drawers"
def TX4 : u_T := fun k => match k with
  | 0 => ("DrawerRoom$Drawers", "cells", "LDrawerRoom$Cells;", true)
  | 1 => ("DrawerRoom$Drawers", "filing", "LDrawerRoom$Filing;", true)
  | 2 => ("DrawerRoom$Drawers", "half", "I", true)
  | 3 => ("DrawerRoom$Drawers", "width", "I", true)
  | 4 => ("DrawerRoom$Drawers", "firstChild", "I", true)
  | 5 => ("DrawerRoom$Drawers", "topCell", "I", true)
  | _ => ("DrawerRoom$Drawers", "inUseCell", "I", true)
def tyX4 : Nat → FieldType := fun k => match k with
  | 0 => .object "DrawerRoom$Cells"
  | 1 => .object "DrawerRoom$Filing"
  | 2 => .int
  | 3 => .int
  | 4 => .int
  | 5 => .int
  | _ => .int
abbrev wsX40 : List Cond := u_ws RX4 TX4 7
theorem nmX4 : ∀ a, a < 7 → ∀ b, b < 7 → a ≠ b → (TX4 a).2.1 ≠ (TX4 b).2.1 := by decide +kernel
theorem tyX4_ok : ∀ k, k < 7 → parseFieldDescriptor (TX4 k).2.2.1 = some (tyX4 k) := by decide +kernel
abbrev cX4_init : ByteArray := prog_6_method_1_code
def yX4_init : MethodName := ⟨RX4, "<init>", "(LDrawerRoom$Cells;LDrawerRoom$Filing;I)V"⟩
abbrev cX4_cellsFor : ByteArray := prog_6_method_2_code
def yX4_cellsFor : MethodName := ⟨RX4, "cellsFor", "(I)I"⟩
abbrev cX4_widthFor : ByteArray := prog_6_method_3_code
def yX4_widthFor : MethodName := ⟨RX4, "widthFor", "(I)I"⟩
abbrev cX4_copyOf : ByteArray := prog_6_method_4_code
def yX4_copyOf : MethodName := ⟨RX4, "copyOf", "(I)I"⟩
abbrev cX4_half : ByteArray := prog_6_method_5_code
def yX4_half : MethodName := ⟨RX4, "half", "()I"⟩
abbrev cX4_top : ByteArray := prog_6_method_6_code
def yX4_top : MethodName := ⟨RX4, "top", "()I"⟩
abbrev cX4_setTop : ByteArray := prog_6_method_7_code
def yX4_setTop : MethodName := ⟨RX4, "setTop", "(I)V"⟩
abbrev cX4_inUse : ByteArray := prog_6_method_8_code
def yX4_inUse : MethodName := ⟨RX4, "inUse", "()I"⟩
abbrev cX4_clear : ByteArray := prog_6_method_9_code
def yX4_clear : MethodName := ⟨RX4, "clear", "()V"⟩
abbrev cX4_get : ByteArray := prog_6_method_10_code
def yX4_get : MethodName := ⟨RX4, "get", "(II)I"⟩
abbrev cX4_set : ByteArray := prog_6_method_11_code
def yX4_set : MethodName := ⟨RX4, "set", "(III)V"⟩
abbrev cX4_heading : ByteArray := prog_6_method_12_code
def yX4_heading : MethodName := ⟨RX4, "heading", "(II)I"⟩
abbrev cX4_child : ByteArray := prog_6_method_13_code
def yX4_child : MethodName := ⟨RX4, "child", "(II)I"⟩
abbrev cX4_open : ByteArray := prog_6_method_14_code
def yX4_open : MethodName := ⟨RX4, "open", "(I)I"⟩
abbrev cX4_addHeading : ByteArray := prog_6_method_15_code
def yX4_addHeading : MethodName := ⟨RX4, "addHeading", "(II)V"⟩
abbrev cX4_setChild : ByteArray := prog_6_method_16_code
def yX4_setChild : MethodName := ⟨RX4, "setChild", "(III)V"⟩
abbrev cX4_covers : ByteArray := prog_6_method_17_code
def yX4_covers : MethodName := ⟨RX4, "covers", "(II)Z"⟩
abbrev cX4_wayOf : ByteArray := prog_6_method_18_code
def yX4_wayOf : MethodName := ⟨RX4, "wayOf", "(II)I"⟩
abbrev cX4_placeOf : ByteArray := prog_6_method_19_code
def yX4_placeOf : MethodName := ⟨RX4, "placeOf", "(II)I"⟩
abbrev cX4_bring : ByteArray := prog_6_method_20_code
def yX4_bring : MethodName := ⟨RX4, "bring", "(II)V"⟩
abbrev cX4_insert : ByteArray := prog_6_method_21_code
def yX4_insert : MethodName := ⟨RX4, "insert", "(IIII)V"⟩
abbrev cX4_remove : ByteArray := prog_6_method_22_code
def yX4_remove : MethodName := ⟨RX4, "remove", "(II)V"⟩
abbrev cX4_part : ByteArray := prog_6_method_23_code
def yX4_part : MethodName := ⟨RX4, "part", "(I)I"⟩
abbrev cX4_raise : ByteArray := prog_6_method_24_code
def yX4_raise : MethodName := ⟨RX4, "raise", "(III)V"⟩
abbrev cX4_firstOf : ByteArray := prog_6_method_25_code
def yX4_firstOf : MethodName := ⟨RX4, "firstOf", "(I)I"⟩
abbrev cX4_latched : ByteArray := prog_6_method_26_code
def yX4_latched : MethodName := ⟨RX4, "latched", "()I"⟩
abbrev cX4_letAllGo : ByteArray := prog_6_method_27_code
def yX4_letAllGo : MethodName := ⟨RX4, "letAllGo", "()V"⟩
def RX5 : String := "DrawerRoom$Filing"
def TX5 : u_T := fun k => match k with
  | 0 => ("DrawerRoom$Filing", "words", "[I", true)
  | 1 => ("DrawerRoom$Filing", "kept", "[I", true)
  | 2 => ("DrawerRoom$Filing", "read", "[I", true)
  | 3 => ("DrawerRoom$Filing", "keptParts", "I", false)
  | _ => ("DrawerRoom$Filing", "readParts", "I", false)
def tyX5 : Nat → FieldType := fun k => match k with
  | 0 => .array .int
  | 1 => .array .int
  | 2 => .array .int
  | 3 => .int
  | _ => .int
abbrev wsX50 : List Cond := u_ws RX5 TX5 5
theorem nmX5 : ∀ a, a < 5 → ∀ b, b < 5 → a ≠ b → (TX5 a).2.1 ≠ (TX5 b).2.1 := by decide +kernel
theorem tyX5_ok : ∀ k, k < 5 → parseFieldDescriptor (TX5 k).2.2.1 = some (tyX5 k) := by decide +kernel
abbrev cX5_init : ByteArray := prog_7_method_1_code
def yX5_init : MethodName := ⟨RX5, "<init>", "()V"⟩
abbrev cX5_parts : ByteArray := prog_7_method_2_code
def yX5_parts : MethodName := ⟨RX5, "parts", "()I"⟩
abbrev cX5_hear : ByteArray := prog_7_method_3_code
def yX5_hear : MethodName := ⟨RX5, "hear", "(IIIII)V"⟩
abbrev cX5_faultOf : ByteArray := prog_7_method_4_code
def yX5_faultOf : MethodName := ⟨RX5, "faultOf", "(I)I"⟩
abbrev cX5_keepWhatWasRead : ByteArray := prog_7_method_5_code
def yX5_keepWhatWasRead : MethodName := ⟨RX5, "keepWhatWasRead", "()V"⟩
abbrev cX5_isAhead : ByteArray := prog_7_method_6_code
def yX5_isAhead : MethodName := ⟨RX5, "isAhead", "(II)Z"⟩
abbrev cX5_byteAt : ByteArray := prog_7_method_7_code
def yX5_byteAt : MethodName := ⟨RX5, "byteAt", "(I)I"⟩
abbrev cX5_takesLetter : ByteArray := prog_7_method_8_code
def yX5_takesLetter : MethodName := ⟨RX5, "takesLetter", "(I)Z"⟩
abbrev cX5_takesDirection : ByteArray := prog_7_method_9_code
def yX5_takesDirection : MethodName := ⟨RX5, "takesDirection", "(I)Z"⟩
abbrev cX5_worthOf : ByteArray := prog_7_method_10_code
def yX5_worthOf : MethodName := ⟨RX5, "worthOf", "(I)I"⟩
def RX6 : String := "DrawerRoom$Jobs"
def TX6 : u_T := fun k => match k with
  | 0 => ("DrawerRoom$Jobs", "cells", "LDrawerRoom$Cells;", true)
  | 1 => ("DrawerRoom$Jobs", "from", "I", true)
  | 2 => ("DrawerRoom$Jobs", "timeCell", "I", true)
  | _ => ("DrawerRoom$Jobs", "begunCell", "I", true)
def tyX6 : Nat → FieldType := fun k => match k with
  | 0 => .object "DrawerRoom$Cells"
  | 1 => .int
  | 2 => .int
  | _ => .int
abbrev wsX60 : List Cond := u_ws RX6 TX6 4
theorem nmX6 : ∀ a, a < 4 → ∀ b, b < 4 → a ≠ b → (TX6 a).2.1 ≠ (TX6 b).2.1 := by decide +kernel
theorem tyX6_ok : ∀ k, k < 4 → parseFieldDescriptor (TX6 k).2.2.1 = some (tyX6 k) := by decide +kernel
abbrev cX6_init : ByteArray := prog_8_method_1_code
def yX6_init : MethodName := ⟨RX6, "<init>", "(LDrawerRoom$Cells;I)V"⟩
abbrev cX6_get : ByteArray := prog_8_method_2_code
def yX6_get : MethodName := ⟨RX6, "get", "(II)I"⟩
abbrev cX6_set : ByteArray := prog_8_method_3_code
def yX6_set : MethodName := ⟨RX6, "set", "(III)V"⟩
abbrev cX6_time : ByteArray := prog_8_method_4_code
def yX6_time : MethodName := ⟨RX6, "time", "()I"⟩
abbrev cX6_begun : ByteArray := prog_8_method_5_code
def yX6_begun : MethodName := ⟨RX6, "begun", "()I"⟩
abbrev cX6_open : ByteArray := prog_8_method_6_code
def yX6_open : MethodName := ⟨RX6, "open", "(II)I"⟩
abbrev cX6_passStep : ByteArray := prog_8_method_7_code
def yX6_passStep : MethodName := ⟨RX6, "passStep", "(I)V"⟩
abbrev cX6_changeCards : ByteArray := prog_8_method_8_code
def yX6_changeCards : MethodName := ⟨RX6, "changeCards", "(I)V"⟩
abbrev cX6_end : ByteArray := prog_8_method_9_code
def yX6_end : MethodName := ⟨RX6, "end", "(II)V"⟩
abbrev cX6_isLastChange : ByteArray := prog_8_method_10_code
def yX6_isLastChange : MethodName := ⟨RX6, "isLastChange", "(II)Z"⟩
def RX7 : String := "DrawerRoom$Line"
def TX7 : u_T := fun k => match k with
  | 0 => ("DrawerRoom$Line", "jobs", "LDrawerRoom$Jobs;", true)
  | 1 => ("DrawerRoom$Line", "mine", "[I", true)
  | 2 => ("DrawerRoom$Line", "kinds", "[I", true)
  | 3 => ("DrawerRoom$Line", "answers", "[I", true)
  | 4 => ("DrawerRoom$Line", "began", "[I", true)
  | 5 => ("DrawerRoom$Line", "ended", "[I", true)
  | 6 => ("DrawerRoom$Line", "row", "[I", true)
  | 7 => ("DrawerRoom$Line", "dead", "[I", true)
  | _ => ("DrawerRoom$Line", "found", "I", false)
def tyX7 : Nat → FieldType := fun k => match k with
  | 0 => .object "DrawerRoom$Jobs"
  | 1 => .array .int
  | 2 => .array .int
  | 3 => .array .int
  | 4 => .array .int
  | 5 => .array .int
  | 6 => .array .int
  | 7 => .array .int
  | _ => .int
abbrev wsX70 : List Cond := u_ws RX7 TX7 9
theorem nmX7 : ∀ a, a < 9 → ∀ b, b < 9 → a ≠ b → (TX7 a).2.1 ≠ (TX7 b).2.1 := by decide +kernel
theorem tyX7_ok : ∀ k, k < 9 → parseFieldDescriptor (TX7 k).2.2.1 = some (tyX7 k) := by decide +kernel
abbrev cX7_init : ByteArray := prog_9_method_1_code
def yX7_init : MethodName := ⟨RX7, "<init>", "(LDrawerRoom$Jobs;)V"⟩
abbrev cX7_judge : ByteArray := prog_9_method_2_code
def yX7_judge : MethodName := ⟨RX7, "judge", "(I)I"⟩
abbrev cX7_kthOfRow : ByteArray := prog_9_method_3_code
def yX7_kthOfRow : MethodName := ⟨RX7, "kthOfRow", "(I)I"⟩
abbrev cX7_canBeAsked : ByteArray := prog_9_method_4_code
def yX7_canBeAsked : MethodName := ⟨RX7, "canBeAsked", "(I)Z"⟩
abbrev cX7_goesOn : ByteArray := prog_9_method_5_code
def yX7_goesOn : MethodName := ⟨RX7, "goesOn", "(IIZ)Z"⟩
abbrev cX7_nothingComesFirst : ByteArray := prog_9_method_6_code
def yX7_nothingComesFirst : MethodName := ⟨RX7, "nothingComesFirst", "(II)Z"⟩
abbrev cX7_isRight : ByteArray := prog_9_method_7_code
def yX7_isRight : MethodName := ⟨RX7, "isRight", "(IZ)Z"⟩
def RX8 : String := "DrawerRoom$Search"
def TX8 : u_T := fun k => match k with
  | 0 => ("DrawerRoom$Search", "cells", "LDrawerRoom$Cells;", true)
  | 1 => ("DrawerRoom$Search", "clerks", "LDrawerRoom$Clerks;", true)
  | 2 => ("DrawerRoom$Search", "jobs", "LDrawerRoom$Jobs;", true)
  | 3 => ("DrawerRoom$Search", "steps", "LDrawerRoom$Steps;", true)
  | 4 => ("DrawerRoom$Search", "lines", "LDrawerRoom$Line;", true)
  | 5 => ("DrawerRoom$Search", "shapes", "LDrawerRoom$Shape;", true)
  | 6 => ("DrawerRoom$Search", "row", "[I", true)
  | 7 => ("DrawerRoom$Search", "lower", "I", false)
  | _ => ("DrawerRoom$Search", "upper", "I", false)
def tyX8 : Nat → FieldType := fun k => match k with
  | 0 => .object "DrawerRoom$Cells"
  | 1 => .object "DrawerRoom$Clerks"
  | 2 => .object "DrawerRoom$Jobs"
  | 3 => .object "DrawerRoom$Steps"
  | 4 => .object "DrawerRoom$Line"
  | 5 => .object "DrawerRoom$Shape"
  | 6 => .array .int
  | 7 => .int
  | _ => .int
abbrev wsX80 : List Cond := u_ws RX8 TX8 9
theorem nmX8 : ∀ a, a < 9 → ∀ b, b < 9 → a ≠ b → (TX8 a).2.1 ≠ (TX8 b).2.1 := by decide +kernel
theorem tyX8_ok : ∀ k, k < 9 → parseFieldDescriptor (TX8 k).2.2.1 = some (tyX8 k) := by decide +kernel
abbrev cX8_init : ByteArray := prog_10_method_1_code
def yX8_init : MethodName := ⟨RX8, "<init>", "(LDrawerRoom$Cells;LDrawerRoom$Clerks;LDrawerRoom$Jobs;LDrawerRoom$Steps;LDrawerRoom$Line;LDrawerRoom$Shape;)V"⟩
abbrev cX8_takeTheTwo : ByteArray := prog_10_method_2_code
def yX8_takeTheTwo : MethodName := ⟨RX8, "takeTheTwo", "()V"⟩
abbrev cX8_kthClerk : ByteArray := prog_10_method_3_code
def yX8_kthClerk : MethodName := ⟨RX8, "kthClerk", "(I)I"⟩
abbrev cX8_goesWrong : ByteArray := prog_10_method_4_code
def yX8_goesWrong : MethodName := ⟨RX8, "goesWrong", "(II)Z"⟩
abbrev cX8_isWrongNow : ByteArray := prog_10_method_5_code
def yX8_isWrongNow : MethodName := ⟨RX8, "isWrongNow", "()Z"⟩
def RX9 : String := "DrawerRoom$Shape"
def TX9 : u_T := fun k => match k with
  | 0 => ("DrawerRoom$Shape", "drawers", "LDrawerRoom$Drawers;", true)
  | _ => ("DrawerRoom$Shape", "filing", "LDrawerRoom$Filing;", true)
def tyX9 : Nat → FieldType := fun k => match k with
  | 0 => .object "DrawerRoom$Drawers"
  | _ => .object "DrawerRoom$Filing"
abbrev wsX90 : List Cond := u_ws RX9 TX9 2
theorem nmX9 : ∀ a, a < 2 → ∀ b, b < 2 → a ≠ b → (TX9 a).2.1 ≠ (TX9 b).2.1 := by decide +kernel
theorem tyX9_ok : ∀ k, k < 2 → parseFieldDescriptor (TX9 k).2.2.1 = some (tyX9 k) := by decide +kernel
abbrev cX9_init : ByteArray := prog_11_method_1_code
def yX9_init : MethodName := ⟨RX9, "<init>", "(LDrawerRoom$Drawers;LDrawerRoom$Filing;)V"⟩
abbrev cX9_leastBad : ByteArray := prog_11_method_2_code
def yX9_leastBad : MethodName := ⟨RX9, "leastBad", "()I"⟩
abbrev cX9_hasBadHeadings : ByteArray := prog_11_method_3_code
def yX9_hasBadHeadings : MethodName := ⟨RX9, "hasBadHeadings", "(I)Z"⟩
abbrev cX9_hasBadChildren : ByteArray := prog_11_method_4_code
def yX9_hasBadChildren : MethodName := ⟨RX9, "hasBadChildren", "(I)Z"⟩
def RX10 : String := "DrawerRoom$Steps"
def TX10 : u_T := fun k => match k with
  | 0 => ("DrawerRoom$Steps", "drawers", "LDrawerRoom$Drawers;", true)
  | 1 => ("DrawerRoom$Steps", "clerks", "LDrawerRoom$Clerks;", true)
  | _ => ("DrawerRoom$Steps", "jobs", "LDrawerRoom$Jobs;", true)
def tyX10 : Nat → FieldType := fun k => match k with
  | 0 => .object "DrawerRoom$Drawers"
  | 1 => .object "DrawerRoom$Clerks"
  | _ => .object "DrawerRoom$Jobs"
abbrev wsX100 : List Cond := u_ws RX10 TX10 3
theorem nmX10 : ∀ a, a < 3 → ∀ b, b < 3 → a ≠ b → (TX10 a).2.1 ≠ (TX10 b).2.1 := by decide +kernel
theorem tyX10_ok : ∀ k, k < 3 → parseFieldDescriptor (TX10 k).2.2.1 = some (tyX10 k) := by decide +kernel
abbrev cX10_init : ByteArray := prog_12_method_1_code
def yX10_init : MethodName := ⟨RX10, "<init>", "(LDrawerRoom$Drawers;LDrawerRoom$Clerks;LDrawerRoom$Jobs;)V"⟩
abbrev cX10_go : ByteArray := prog_12_method_2_code
def yX10_go : MethodName := ⟨RX10, "go", "(I)V"⟩
abbrev cX10_read : ByteArray := prog_12_method_3_code
def yX10_read : MethodName := ⟨RX10, "read", "(I)V"⟩
abbrev cX10_hold : ByteArray := prog_12_method_4_code
def yX10_hold : MethodName := ⟨RX10, "hold", "(I)V"⟩
abbrev cX10_write : ByteArray := prog_12_method_5_code
def yX10_write : MethodName := ⟨RX10, "write", "(I)V"⟩
abbrev cX10_writeGuide : ByteArray := prog_12_method_6_code
def yX10_writeGuide : MethodName := ⟨RX10, "writeGuide", "(II)V"⟩
abbrev cX10_writeCard : ByteArray := prog_12_method_7_code
def yX10_writeCard : MethodName := ⟨RX10, "writeCard", "(II)Z"⟩
abbrev cX10_climb : ByteArray := prog_12_method_8_code
def yX10_climb : MethodName := ⟨RX10, "climb", "(I)V"⟩
abbrev cX10_moveTo : ByteArray := prog_12_method_9_code
def yX10_moveTo : MethodName := ⟨RX10, "moveTo", "(II)V"⟩
abbrev cX10_mustGoOn : ByteArray := prog_12_method_10_code
def yX10_mustGoOn : MethodName := ⟨RX10, "mustGoOn", "(III)Z"⟩
abbrev cX10_isFree : ByteArray := prog_12_method_11_code
def yX10_isFree : MethodName := ⟨RX10, "isFree", "(II)Z"⟩
abbrev cX10_latch : ByteArray := prog_12_method_12_code
def yX10_latch : MethodName := ⟨RX10, "latch", "(II)V"⟩
abbrev cX10_letGo : ByteArray := prog_12_method_13_code
def yX10_letGo : MethodName := ⟨RX10, "letGo", "(II)V"⟩
abbrev cX10_end : ByteArray := prog_12_method_14_code
def yX10_end : MethodName := ⟨RX10, "end", "(II)V"⟩
abbrev cX10_kindOf : ByteArray := prog_12_method_15_code
def yX10_kindOf : MethodName := ⟨RX10, "kindOf", "(I)I"⟩
def RX11 : String := "DrawerRoom"
def TX11 : u_T := fun k => match k with
  | 0 => ("DrawerRoom", "filing", "LDrawerRoom$Filing;", true)
  | 1 => ("DrawerRoom", "drawers", "LDrawerRoom$Drawers;", true)
  | 2 => ("DrawerRoom", "clerks", "LDrawerRoom$Clerks;", true)
  | 3 => ("DrawerRoom", "jobs", "LDrawerRoom$Jobs;", true)
  | 4 => ("DrawerRoom", "steps", "LDrawerRoom$Steps;", true)
  | 5 => ("DrawerRoom", "cards", "LDrawerRoom$Cards;", true)
  | 6 => ("DrawerRoom", "lines", "LDrawerRoom$Line;", true)
  | 7 => ("DrawerRoom", "shapes", "LDrawerRoom$Shape;", true)
  | 8 => ("DrawerRoom", "search", "LDrawerRoom$Search;", true)
  | _ => ("DrawerRoom", "builder", "LDrawerRoom$Builder;", true)
def tyX11 : Nat → FieldType := fun k => match k with
  | 0 => .object "DrawerRoom$Filing"
  | 1 => .object "DrawerRoom$Drawers"
  | 2 => .object "DrawerRoom$Clerks"
  | 3 => .object "DrawerRoom$Jobs"
  | 4 => .object "DrawerRoom$Steps"
  | 5 => .object "DrawerRoom$Cards"
  | 6 => .object "DrawerRoom$Line"
  | 7 => .object "DrawerRoom$Shape"
  | 8 => .object "DrawerRoom$Search"
  | _ => .object "DrawerRoom$Builder"
abbrev wsX110 : List Cond := u_ws RX11 TX11 10
theorem nmX11 : ∀ a, a < 10 → ∀ b, b < 10 → a ≠ b → (TX11 a).2.1 ≠ (TX11 b).2.1 := by decide +kernel
theorem tyX11_ok : ∀ k, k < 10 → parseFieldDescriptor (TX11 k).2.2.1 = some (tyX11 k) := by decide +kernel
abbrev cX11_init : ByteArray := prog_1_method_1_code
def yX11_init : MethodName := ⟨RX11, "<init>", "(I)V"⟩
abbrev cX11_rule : ByteArray := prog_1_method_2_code
def yX11_rule : MethodName := ⟨RX11, "rule", "(IIIIII)I"⟩
abbrev cX11_ahead : ByteArray := prog_1_method_3_code
def yX11_ahead : MethodName := ⟨RX11, "ahead", "(II)I"⟩
abbrev cX11_fault : ByteArray := prog_1_method_4_code
def yX11_fault : MethodName := ⟨RX11, "fault", "(II)Z"⟩
abbrev cX11_begin : ByteArray := prog_1_method_5_code
def yX11_begin : MethodName := ⟨RX11, "begin", "(III)I"⟩
abbrev cX11_step : ByteArray := prog_1_method_6_code
def yX11_step : MethodName := ⟨RX11, "step", "(II)I"⟩
abbrev cX11_clerk : ByteArray := prog_1_method_7_code
def yX11_clerk : MethodName := ⟨RX11, "clerk", "(II)I"⟩
abbrev cX11_job : ByteArray := prog_1_method_8_code
def yX11_job : MethodName := ⟨RX11, "job", "(II)I"⟩
abbrev cX11_drawer : ByteArray := prog_1_method_9_code
def yX11_drawer : MethodName := ⟨RX11, "drawer", "(II)I"⟩
abbrev cX11_at : ByteArray := prog_1_method_10_code
def yX11_at : MethodName := ⟨RX11, "at", "(IIZ)I"⟩
abbrev cX11_nth : ByteArray := prog_1_method_11_code
def yX11_nth : MethodName := ⟨RX11, "nth", "(I)I"⟩
abbrev cX11_rank : ByteArray := prog_1_method_12_code
def yX11_rank : MethodName := ⟨RX11, "rank", "(I)I"⟩
abbrev cX11_there : ByteArray := prog_1_method_13_code
def yX11_there : MethodName := ⟨RX11, "there", "(III)I"⟩
abbrev cX11_line : ByteArray := prog_1_method_14_code
def yX11_line : MethodName := ⟨RX11, "line", "(I)I"⟩
abbrev cX11_order : ByteArray := prog_1_method_15_code
def yX11_order : MethodName := ⟨RX11, "order", "(II)I"⟩
abbrev cX11_shape : ByteArray := prog_1_method_16_code
def yX11_shape : MethodName := ⟨RX11, "shape", "()I"⟩
abbrev cX11_found : ByteArray := prog_1_method_17_code
def yX11_found : MethodName := ⟨RX11, "found", "(II)I"⟩
abbrev cX11_fall : ByteArray := prog_1_method_18_code
def yX11_fall : MethodName := ⟨RX11, "fall", "()I"⟩
abbrev cX11_night : ByteArray := prog_1_method_19_code
def yX11_night : MethodName := ⟨RX11, "night", "(I)I"⟩
abbrev cX11_count : ByteArray := prog_1_method_20_code
def yX11_count : MethodName := ⟨RX11, "count", "(I)I"⟩
abbrev cX11_isIdleClerk : ByteArray := prog_1_method_21_code
def yX11_isIdleClerk : MethodName := ⟨RX11, "isIdleClerk", "(I)Z"⟩
abbrev cX11_isClerk : ByteArray := prog_1_method_22_code
def yX11_isClerk : MethodName := ⟨RX11, "isClerk", "(I)Z"⟩
abbrev cX11_isHeading : ByteArray := prog_1_method_23_code
def yX11_isHeading : MethodName := ⟨RX11, "isHeading", "(I)Z"⟩
def RX12 : String := "DrawerRoomModel"
def TX12 : u_T := fun k => match k with
  | 0 => ("DrawerRoomModel", "b", "I", true)
  | 1 => ("DrawerRoomModel", "parts", "I", false)
  | 2 => ("DrawerRoomModel", "partDigit", "[I", true)
  | 3 => ("DrawerRoomModel", "isLess", "[Z", true)
  | 4 => ("DrawerRoomModel", "time", "I", false)
  | 5 => ("DrawerRoomModel", "top", "I", false)
  | 6 => ("DrawerRoomModel", "isUsed", "[Z", true)
  | 7 => ("DrawerRoomModel", "level", "[I", true)
  | 8 => ("DrawerRoomModel", "many", "[I", true)
  | 9 => ("DrawerRoomModel", "heading", "[I", true)
  | 10 => ("DrawerRoomModel", "child", "[I", true)
  | 11 => ("DrawerRoomModel", "high", "[I", true)
  | 12 => ("DrawerRoomModel", "thread", "[I", true)
  | 13 => ("DrawerRoomModel", "latch", "[I", true)
  | 14 => ("DrawerRoomModel", "fault", "[I", true)
  | 15 => ("DrawerRoomModel", "at", "[I", true)
  | 16 => ("DrawerRoomModel", "place", "[I", true)
  | 17 => ("DrawerRoomModel", "jobOf", "[I", true)
  | 18 => ("DrawerRoomModel", "rises", "[I", true)
  | 19 => ("DrawerRoomModel", "riseChild", "[I", true)
  | 20 => ("DrawerRoomModel", "path", "[I", true)
  | 21 => ("DrawerRoomModel", "copyMany", "[I", true)
  | 22 => ("DrawerRoomModel", "copyHeading", "[I", true)
  | 23 => ("DrawerRoomModel", "copyChild", "[I", true)
  | 24 => ("DrawerRoomModel", "copyHigh", "[I", true)
  | 25 => ("DrawerRoomModel", "copyThread", "[I", true)
  | 26 => ("DrawerRoomModel", "jobs", "I", false)
  | 27 => ("DrawerRoomModel", "kind", "[I", true)
  | 28 => ("DrawerRoomModel", "wanted", "[I", true)
  | 29 => ("DrawerRoomModel", "answer", "[I", true)
  | 30 => ("DrawerRoomModel", "began", "[I", true)
  | 31 => ("DrawerRoomModel", "ended", "[I", true)
  | 32 => ("DrawerRoomModel", "steps", "[I", true)
  | 33 => ("DrawerRoomModel", "isLost", "[Z", true)
  | 34 => ("DrawerRoomModel", "changes", "I", false)
  | 35 => ("DrawerRoomModel", "changeAt", "[I", true)
  | 36 => ("DrawerRoomModel", "changeOf", "[I", true)
  | 37 => ("DrawerRoomModel", "isFiled", "[Z", true)
  | 38 => ("DrawerRoomModel", "readDigit", "[I", true)
  | 39 => ("DrawerRoomModel", "readLess", "[Z", true)
  | 40 => ("DrawerRoomModel", "readMany", "I", false)
  | 41 => ("DrawerRoomModel", "card", "[I", true)
  | 42 => ("DrawerRoomModel", "cards", "I", false)
  | 43 => ("DrawerRoomModel", "asked", "[I", true)
  | 44 => ("DrawerRoomModel", "askedMany", "I", false)
  | 45 => ("DrawerRoomModel", "leadsOn", "[Z", true)
  | 46 => ("DrawerRoomModel", "wasUsed", "[Z", true)
  | 47 => ("DrawerRoomModel", "wasDrawer", "[I", true)
  | 48 => ("DrawerRoomModel", "wasHeading", "[I", true)
  | 49 => ("DrawerRoomModel", "wasChild", "[I", true)
  | 50 => ("DrawerRoomModel", "wasClerk", "[I", true)
  | 51 => ("DrawerRoomModel", "wasPath", "[I", true)
  | 52 => ("DrawerRoomModel", "wasCopyHeading", "[I", true)
  | 53 => ("DrawerRoomModel", "wasCopyChild", "[I", true)
  | 54 => ("DrawerRoomModel", "wasJob", "[I", true)
  | 55 => ("DrawerRoomModel", "wasTime", "I", false)
  | 56 => ("DrawerRoomModel", "wasTop", "I", false)
  | 57 => ("DrawerRoomModel", "wasChanges", "I", false)
  | _ => ("DrawerRoomModel", "row", "[I", true)
def tyX12 : Nat → FieldType := fun k => match k with
  | 0 => .int
  | 1 => .int
  | 2 => .array .int
  | 3 => .array .boolean
  | 4 => .int
  | 5 => .int
  | 6 => .array .boolean
  | 7 => .array .int
  | 8 => .array .int
  | 9 => .array .int
  | 10 => .array .int
  | 11 => .array .int
  | 12 => .array .int
  | 13 => .array .int
  | 14 => .array .int
  | 15 => .array .int
  | 16 => .array .int
  | 17 => .array .int
  | 18 => .array .int
  | 19 => .array .int
  | 20 => .array .int
  | 21 => .array .int
  | 22 => .array .int
  | 23 => .array .int
  | 24 => .array .int
  | 25 => .array .int
  | 26 => .int
  | 27 => .array .int
  | 28 => .array .int
  | 29 => .array .int
  | 30 => .array .int
  | 31 => .array .int
  | 32 => .array .int
  | 33 => .array .boolean
  | 34 => .int
  | 35 => .array .int
  | 36 => .array .int
  | 37 => .array .boolean
  | 38 => .array .int
  | 39 => .array .boolean
  | 40 => .int
  | 41 => .array .int
  | 42 => .int
  | 43 => .array .int
  | 44 => .int
  | 45 => .array .boolean
  | 46 => .array .boolean
  | 47 => .array .int
  | 48 => .array .int
  | 49 => .array .int
  | 50 => .array .int
  | 51 => .array .int
  | 52 => .array .int
  | 53 => .array .int
  | 54 => .array .int
  | 55 => .int
  | 56 => .int
  | 57 => .int
  | _ => .array .int
abbrev wsX120 : List Cond := u_ws RX12 TX12 59
theorem nmX12 : ∀ a, a < 59 → ∀ b, b < 59 → a ≠ b → (TX12 a).2.1 ≠ (TX12 b).2.1 := by decide +kernel
theorem tyX12_ok : ∀ k, k < 59 → parseFieldDescriptor (TX12 k).2.2.1 = some (tyX12 k) := by decide +kernel
abbrev cX12_init : ByteArray := prog_14_method_1_code
def yX12_init : MethodName := ⟨RX12, "<init>", "(I)V"⟩
abbrev cX12_in : ByteArray := prog_14_method_2_code
def yX12_in : MethodName := ⟨RX12, "in", "(III)Z"⟩
abbrev cX12_isHeading : ByteArray := prog_14_method_3_code
def yX12_isHeading : MethodName := ⟨RX12, "isHeading", "(I)Z"⟩
abbrev cX12_clears : ByteArray := prog_14_method_4_code
def yX12_clears : MethodName := ⟨RX12, "clears", "(I)V"⟩
abbrev cX12_byteOf : ByteArray := prog_14_method_5_code
def yX12_byteOf : MethodName := ⟨RX12, "byteOf", "(IIIIII)I"⟩
abbrev cX12_isRead : ByteArray := prog_14_method_6_code
def yX12_isRead : MethodName := ⟨RX12, "isRead", "(I)Z"⟩
abbrev cX12_rule : ByteArray := prog_14_method_7_code
def yX12_rule : MethodName := ⟨RX12, "rule", "(IIIIII)I"⟩
abbrev cX12_digit : ByteArray := prog_14_method_8_code
def yX12_digit : MethodName := ⟨RX12, "digit", "(II)I"⟩
abbrev cX12_isAhead : ByteArray := prog_14_method_9_code
def yX12_isAhead : MethodName := ⟨RX12, "isAhead", "(II)Z"⟩
abbrev cX12_ahead : ByteArray := prog_14_method_10_code
def yX12_ahead : MethodName := ⟨RX12, "ahead", "(II)I"⟩
abbrev cX12_covers : ByteArray := prog_14_method_11_code
def yX12_covers : MethodName := ⟨RX12, "covers", "(II)Z"⟩
abbrev cX12_way : ByteArray := prog_14_method_12_code
def yX12_way : MethodName := ⟨RX12, "way", "(II)I"⟩
abbrev cX12_spare : ByteArray := prog_14_method_13_code
def yX12_spare : MethodName := ⟨RX12, "spare", "()I"⟩
abbrev cX12_used : ByteArray := prog_14_method_14_code
def yX12_used : MethodName := ⟨RX12, "used", "()I"⟩
abbrev cX12_parted : ByteArray := prog_14_method_15_code
def yX12_parted : MethodName := ⟨RX12, "parted", "(I)I"⟩
abbrev cX12_fault : ByteArray := prog_14_method_16_code
def yX12_fault : MethodName := ⟨RX12, "fault", "(II)Z"⟩
abbrev cX12_begin : ByteArray := prog_14_method_17_code
def yX12_begin : MethodName := ⟨RX12, "begin", "(III)I"⟩
abbrev cX12_isOthers : ByteArray := prog_14_method_18_code
def yX12_isOthers : MethodName := ⟨RX12, "isOthers", "(II)Z"⟩
abbrev cX12_latches : ByteArray := prog_14_method_19_code
def yX12_latches : MethodName := ⟨RX12, "latches", "(II)V"⟩
abbrev cX12_letsGo : ByteArray := prog_14_method_20_code
def yX12_letsGo : MethodName := ⟨RX12, "letsGo", "(II)V"⟩
abbrev cX12_ends : ByteArray := prog_14_method_21_code
def yX12_ends : MethodName := ⟨RX12, "ends", "(II)V"⟩
abbrev cX12_looksFor : ByteArray := prog_14_method_22_code
def yX12_looksFor : MethodName := ⟨RX12, "looksFor", "(I)I"⟩
abbrev cX12_covered : ByteArray := prog_14_method_23_code
def yX12_covered : MethodName := ⟨RX12, "covered", "(III)Z"⟩
abbrev cX12_hasCard : ByteArray := prog_14_method_24_code
def yX12_hasCard : MethodName := ⟨RX12, "hasCard", "(II)Z"⟩
abbrev cX12_reads : ByteArray := prog_14_method_25_code
def yX12_reads : MethodName := ⟨RX12, "reads", "(I)V"⟩
abbrev cX12_holds : ByteArray := prog_14_method_26_code
def yX12_holds : MethodName := ⟨RX12, "holds", "(I)V"⟩
abbrev cX12_placeIn : ByteArray := prog_14_method_27_code
def yX12_placeIn : MethodName := ⟨RX12, "placeIn", "(II)I"⟩
abbrev cX12_hasCopy : ByteArray := prog_14_method_28_code
def yX12_hasCopy : MethodName := ⟨RX12, "hasCopy", "(II)Z"⟩
abbrev cX12_becomes : ByteArray := prog_14_method_29_code
def yX12_becomes : MethodName := ⟨RX12, "becomes", "(I)V"⟩
abbrev cX12_comes : ByteArray := prog_14_method_30_code
def yX12_comes : MethodName := ⟨RX12, "comes", "(III)V"⟩
abbrev cX12_writes : ByteArray := prog_14_method_31_code
def yX12_writes : MethodName := ⟨RX12, "writes", "(I)V"⟩
abbrev cX12_firstOf : ByteArray := prog_14_method_32_code
def yX12_firstOf : MethodName := ⟨RX12, "firstOf", "(I)I"⟩
abbrev cX12_goesUp : ByteArray := prog_14_method_33_code
def yX12_goesUp : MethodName := ⟨RX12, "goesUp", "(I)V"⟩
abbrev cX12_one : ByteArray := prog_14_method_34_code
def yX12_one : MethodName := ⟨RX12, "one", "(I)V"⟩
abbrev cX12_step : ByteArray := prog_14_method_35_code
def yX12_step : MethodName := ⟨RX12, "step", "(II)I"⟩
abbrev cX12_clerk : ByteArray := prog_14_method_36_code
def yX12_clerk : MethodName := ⟨RX12, "clerk", "(II)I"⟩
abbrev cX12_job : ByteArray := prog_14_method_37_code
def yX12_job : MethodName := ⟨RX12, "job", "(II)I"⟩
abbrev cX12_drawer : ByteArray := prog_14_method_38_code
def yX12_drawer : MethodName := ⟨RX12, "drawer", "(II)I"⟩
abbrev cX12_at : ByteArray := prog_14_method_39_code
def yX12_at : MethodName := ⟨RX12, "at", "(IIZ)I"⟩
abbrev cX12_lists : ByteArray := prog_14_method_40_code
def yX12_lists : MethodName := ⟨RX12, "lists", "()V"⟩
abbrev cX12_nth : ByteArray := prog_14_method_41_code
def yX12_nth : MethodName := ⟨RX12, "nth", "(I)I"⟩
abbrev cX12_rank : ByteArray := prog_14_method_42_code
def yX12_rank : MethodName := ⟨RX12, "rank", "(I)I"⟩
abbrev cX12_there : ByteArray := prog_14_method_43_code
def yX12_there : MethodName := ⟨RX12, "there", "(III)I"⟩
abbrev cX12_canBeAsked : ByteArray := prog_14_method_44_code
def yX12_canBeAsked : MethodName := ⟨RX12, "canBeAsked", "(I)Z"⟩
abbrev cX12_isThere : ByteArray := prog_14_method_45_code
def yX12_isThere : MethodName := ⟨RX12, "isThere", "(I)Z"⟩
abbrev cX12_mayCome : ByteArray := prog_14_method_46_code
def yX12_mayCome : MethodName := ⟨RX12, "mayCome", "(II)Z"⟩
abbrev cX12_isSound : ByteArray := prog_14_method_47_code
def yX12_isSound : MethodName := ⟨RX12, "isSound", "(I)Z"⟩
abbrev cX12_line : ByteArray := prog_14_method_48_code
def yX12_line : MethodName := ⟨RX12, "line", "(I)I"⟩
abbrev cX12_order : ByteArray := prog_14_method_49_code
def yX12_order : MethodName := ⟨RX12, "order", "(II)I"⟩
abbrev cX12_isBad : ByteArray := prog_14_method_50_code
def yX12_isBad : MethodName := ⟨RX12, "isBad", "(I)Z"⟩
abbrev cX12_shape : ByteArray := prog_14_method_51_code
def yX12_shape : MethodName := ⟨RX12, "shape", "()I"⟩
abbrev cX12_saves : ByteArray := prog_14_method_52_code
def yX12_saves : MethodName := ⟨RX12, "saves", "()V"⟩
abbrev cX12_putsBack : ByteArray := prog_14_method_53_code
def yX12_putsBack : MethodName := ⟨RX12, "putsBack", "()V"⟩
abbrev cX12_atJobs : ByteArray := prog_14_method_54_code
def yX12_atJobs : MethodName := ⟨RX12, "atJobs", "()I"⟩
abbrev cX12_isBroken : ByteArray := prog_14_method_55_code
def yX12_isBroken : MethodName := ⟨RX12, "isBroken", "(I)Z"⟩
abbrev cX12_goesBy : ByteArray := prog_14_method_56_code
def yX12_goesBy : MethodName := ⟨RX12, "goesBy", "(IIII)Z"⟩
abbrev cX12_found : ByteArray := prog_14_method_57_code
def yX12_found : MethodName := ⟨RX12, "found", "(II)I"⟩
abbrev cX12_fall : ByteArray := prog_14_method_58_code
def yX12_fall : MethodName := ⟨RX12, "fall", "()I"⟩
abbrev cX12_night : ByteArray := prog_14_method_59_code
def yX12_night : MethodName := ⟨RX12, "night", "(I)I"⟩
abbrev cX12_binds : ByteArray := prog_14_method_60_code
def yX12_binds : MethodName := ⟨RX12, "binds", "(II)V"⟩
abbrev cX12_sorts : ByteArray := prog_14_method_61_code
def yX12_sorts : MethodName := ⟨RX12, "sorts", "()V"⟩
abbrev cX12_count : ByteArray := prog_14_method_62_code
def yX12_count : MethodName := ⟨RX12, "count", "(I)I"⟩
def RJ9 : String := "java/lang/Math"
def TJ9 : u_T := fun k => match k with
  | _ => ("", "", "", false)
def tyJ9 : Nat → FieldType := fun k => match k with
  | _ => .int
abbrev wsJ90 : List Cond := u_ws RJ9 TJ9 0
theorem nmJ9 : ∀ a, a < 0 → ∀ b, b < 0 → a ≠ b → (TJ9 a).2.1 ≠ (TJ9 b).2.1 := by decide +kernel
theorem tyJ9_ok : ∀ k, k < 0 → parseFieldDescriptor (TJ9 k).2.2.1 = some (tyJ9 k) := by decide +kernel
abbrev cJ9_abs_0f7a4 : ByteArray := prog_15_method_59_code
def yJ9_abs_0f7a4 : MethodName := ⟨RJ9, "abs", "(I)I"⟩
abbrev cJ9_max_7cf53 : ByteArray := prog_15_method_65_code
def yJ9_max_7cf53 : MethodName := ⟨RJ9, "max", "(II)I"⟩
abbrev cJ9_min_7cf53 : ByteArray := prog_15_method_69_code
def yJ9_min_7cf53 : MethodName := ⟨RJ9, "min", "(II)I"⟩
def RJ10 : String := "java/lang/System"
def TJ10 : u_T := fun k => match k with
  | _ => ("", "", "", false)
def tyJ10 : Nat → FieldType := fun k => match k with
  | _ => .int
abbrev wsJ100 : List Cond := u_ws RJ10 TJ10 0
theorem nmJ10 : ∀ a, a < 0 → ∀ b, b < 0 → a ≠ b → (TJ10 a).2.1 ≠ (TJ10 b).2.1 := by decide +kernel
theorem tyJ10_ok : ∀ k, k < 0 → parseFieldDescriptor (TJ10 k).2.2.1 = some (tyJ10 k) := by decide +kernel
def RJ7 : String := "java/util/Arrays"
def TJ7 : u_T := fun k => match k with
  | _ => ("", "", "", false)
def tyJ7 : Nat → FieldType := fun k => match k with
  | _ => .int
abbrev wsJ70 : List Cond := u_ws RJ7 TJ7 0
theorem nmJ7 : ∀ a, a < 0 → ∀ b, b < 0 → a ≠ b → (TJ7 a).2.1 ≠ (TJ7 b).2.1 := by decide +kernel
theorem tyJ7_ok : ∀ k, k < 0 → parseFieldDescriptor (TJ7 k).2.2.1 = some (tyJ7 k) := by decide +kernel
abbrev cJ7_fill_53178 : ByteArray := prog_17_method_103_code
def yJ7_fill_53178 : MethodName := ⟨RJ7, "fill", "([II)V"⟩
def RL : String := "DrawerRoomLaw"
abbrev cL_cell : ByteArray := method_2_code
def yL_cell : MethodName := ⟨RL, "cell", "([II)I"⟩
abbrev cL_law : ByteArray := code
def yL_law : MethodName := ⟨RL, "law", "([I)Z"⟩
abbrev vwCl : List vw_C := [(RX0, TX0, 2), (RX1, TX1, 4), (RX2, TX2, 5), (RX3, TX3, 2), (RX4, TX4, 7), (RX5, TX5, 5), (RX6, TX6, 4), (RX7, TX7, 9), (RX8, TX8, 9), (RX9, TX9, 2), (RX10, TX10, 3), (RX11, TX11, 10), (RX12, TX12, 59)]
end
section
/-- the words that stay, out of the tables -/
def dr_tbl : List Cond := lw_tbl.filter goodWord
theorem dr_in {w : Cond} {i : Nat} (h : lw_tbl[i]? = some w) (hg : goodWord w = true) : w ∈ dr_tbl := List.mem_filter.mpr ⟨List.mem_of_getElem? h, hg⟩
/-! the state as pure data: int arrays by id, int fields by id -/
abbrev dr_S : Type := (Nat → Nat → Int32) × (Nat → Int32)
def dr_put (s : dr_S) (id i : Nat) (x : Int32) : dr_S := (fun a => if a = id then upd (s.1 id) i x else s.1 a, s.2)
def dr_pf (s : dr_S) (f : Nat) (x : Int32) : dr_S := (s.1, fun g => if g = f then x else s.2 g)
def dr_set (s : dr_S) (id : Nat) (g : Nat → Int32) : dr_S := (fun a => if a = id then g else s.1 a, s.2)
def dr_rd (ln : Nat → Nat) (s : dr_S) (id : Nat) (i : Int32) : Option Int32 := if i < 0 ∨ ln id ≤ i.toNatClampNeg then none else some (s.1 id i.toNatClampNeg)
def dr_wr (ln : Nat → Nat) (s : dr_S) (id : Nat) (i x : Int32) : Option dr_S := if i < 0 ∨ ln id ≤ i.toNatClampNeg then none else some (dr_put s id i.toNatClampNeg x)
def dr_wz (ln : Nat → Nat) (s : dr_S) (id : Nat) (i x : Int32) : Option dr_S := if i < 0 ∨ ln id ≤ i.toNatClampNeg then none else some (dr_put s id i.toNatClampNeg (vp_nar .boolean x))
def dr_let (x : Int32) (K : Int32 → Option (Int32 × dr_S)) : Option (Int32 × dr_S) := K x
def dr_letS (s : dr_S) (K : dr_S → Option (Int32 × dr_S)) : Option (Int32 × dr_S) := K s
def dr_nz (y : Int32) (F : Option (Int32 × dr_S)) : Option (Int32 × dr_S) := if y = 0 then none else F
def dr_rz (v : Int32) (s : dr_S) : Option (Int32 × dr_S) := if v = 0 ∨ v = 1 then some (v, s) else none
def dr_cp (ln : Nat → Nat) (s : dr_S) (a0 a1 : Nat) (sp dp n : Int32) : Option dr_S := if sp < 0 ∨ dp < 0 ∨ n < 0 ∨ ln a0 < sp.toNatClampNeg + n.toNatClampNeg ∨ ln a1 < dp.toNatClampNeg + n.toNatClampNeg then none else some (dr_set s a1 (va_cpy (s.1 a0) (s.1 a1) sp.toNatClampNeg dp.toNatClampNeg n.toNatClampNeg))
def dr_sw (x : Int32) (lo hi : Int) (Fs : List (Option (Int32 × dr_S))) (Fd : Option (Int32 × dr_S)) : Option (Int32 × dr_S) := if x.toInt < lo ∨ hi < x.toInt then Fd else Fs.getD (x.toInt - lo).toNat none
def dr_rm (d : Nat) : Room := { frames := d, cells := 0, slots := 0, locals := 64 * d }
/-! the world -/
/-- the fields of the object of class c -/
def dr_fs (ad : Nat → Nat) (s : dr_S) : Nat → List Value := fun c => match c with
  | 0 => [.ref (ad 4), .ref (ad 1)]
  | 1 => [.ref (ad 4), .ref (ad 5), .ref (ad 13), .int (s.2 103)]
  | 2 => [.ref (ad 14), .ref (ad 15), .ref (ad 16), .int (s.2 203), .int (s.2 204)]
  | 3 => [.ref (ad 2), .int (s.2 301)]
  | 4 => [.ref (ad 2), .ref (ad 5), .int (s.2 402), .int (s.2 403), .int (s.2 404), .int (s.2 405), .int (s.2 406)]
  | 5 => [.ref (ad 17), .ref (ad 18), .ref (ad 19), .int (s.2 503), .int (s.2 504)]
  | 6 => [.ref (ad 2), .int (s.2 601), .int (s.2 602), .int (s.2 603)]
  | 7 => [.ref (ad 6), .ref (ad 20), .ref (ad 21), .ref (ad 22), .ref (ad 23), .ref (ad 24), .ref (ad 25), .ref (ad 26), .int (s.2 708)]
  | 8 => [.ref (ad 2), .ref (ad 3), .ref (ad 6), .ref (ad 10), .ref (ad 7), .ref (ad 9), .ref (ad 27), .int (s.2 807), .int (s.2 808)]
  | 9 => [.ref (ad 4), .ref (ad 5)]
  | 10 => [.ref (ad 4), .ref (ad 3), .ref (ad 6)]
  | 11 => [.ref (ad 5), .ref (ad 4), .ref (ad 3), .ref (ad 6), .ref (ad 10), .ref (ad 1), .ref (ad 7), .ref (ad 9), .ref (ad 8), .ref (ad 0)]
  | 12 => [.int (s.2 1200), .int (s.2 1201), .ref (ad 28), .ref (ad 29), .int (s.2 1204), .int (s.2 1205), .ref (ad 30), .ref (ad 31), .ref (ad 32), .ref (ad 33), .ref (ad 34), .ref (ad 35), .ref (ad 36), .ref (ad 37), .ref (ad 38), .ref (ad 39), .ref (ad 40), .ref (ad 41), .ref (ad 42), .ref (ad 43), .ref (ad 44), .ref (ad 45), .ref (ad 46), .ref (ad 47), .ref (ad 48), .ref (ad 49), .int (s.2 1226), .ref (ad 50), .ref (ad 51), .ref (ad 52), .ref (ad 53), .ref (ad 54), .ref (ad 55), .ref (ad 56), .int (s.2 1234), .ref (ad 57), .ref (ad 58), .ref (ad 59), .ref (ad 60), .ref (ad 61), .int (s.2 1240), .ref (ad 62), .int (s.2 1242), .ref (ad 63), .int (s.2 1244), .ref (ad 64), .ref (ad 65), .ref (ad 66), .ref (ad 67), .ref (ad 68), .ref (ad 69), .ref (ad 70), .ref (ad 71), .ref (ad 72), .ref (ad 73), .int (s.2 1255), .int (s.2 1256), .int (s.2 1257), .ref (ad 74)]
  | _ => []
def dr_z (id : Nat) : Bool := ([29, 30, 56, 59, 61, 64, 65] : List Nat).contains id
def dr_e (cI cZ : ClassId) (ad ln : Nat → Nat) (s : dr_S) (id : Nat) : va_E := if id < 13 then .inr (id, dr_fs ad s id) else .inl (if dr_z id = true then cZ else cI, ln id, .inl (s.1 id))
def dr_w (cI cZ : ClassId) (ad ln : Nat → Nat) (L : List Nat) (s : dr_S) : va_W := L.map (fun id => (ad id, dr_e cI cZ ad ln s id))
def dr_ap (ad : Nat → Nat) (L : List Nat) : Prop := L.Nodup ∧ ∀ i ∈ L, ∀ j ∈ L, ad i = ad j → i = j
def dr_A (ad : Nat → Nat) (L : List Nat) (sz : Nat) : Nat → Prop := fun q => (∃ id, id ∈ L ∧ q = ad id) ∨ sz ≤ q
abbrev dr_tys (cI cZ : ClassId) : List (ClassId × FieldType) := [(cI, .int), (cZ, .boolean)]
theorem dr_eI {cI cZ : ClassId} {ad ln : Nat → Nat} {s : dr_S} {id : Nat} (h : 13 ≤ id) (hz : dr_z id = false) : dr_e cI cZ ad ln s id = .inl (cI, ln id, .inl (s.1 id)) := by
  unfold dr_e
  rw [if_neg (by omega), hz]
  rfl
theorem dr_eZ {cI cZ : ClassId} {ad ln : Nat → Nat} {s : dr_S} {id : Nat} (h : 13 ≤ id) (hz : dr_z id = true) : dr_e cI cZ ad ln s id = .inl (cZ, ln id, .inl (s.1 id)) := by
  unfold dr_e
  rw [if_neg (by omega), hz]
  rfl
theorem dr_eO {cI cZ : ClassId} {ad ln : Nat → Nat} {s : dr_S} {id : Nat} (h : id < 13) : dr_e cI cZ ad ln s id = .inr (id, dr_fs ad s id) := by
  unfold dr_e
  rw [if_pos h]
theorem dr_wget {cI cZ : ClassId} {ad ln : Nat → Nat} {L : List Nat} {s : dr_S} {q id : Nat} (h : L[q]? = some id) : (dr_w cI cZ ad ln L s)[q]? = some (ad id, dr_e cI cZ ad ln s id) := by
  unfold dr_w
  rw [List.getElem?_map, h]
  rfl
theorem dr_wset {cI cZ : ClassId} {ad ln : Nat → Nat} {L : List Nat} {s s' : dr_S} {q id : Nat} (hn : L.Nodup) (h : L[q]? = some id) (hs : ∀ j, j ∈ L → j ≠ id → dr_e cI cZ ad ln s j = dr_e cI cZ ad ln s' j) : (dr_w cI cZ ad ln L s).set q (ad id, dr_e cI cZ ad ln s' id) = dr_w cI cZ ad ln L s' := by
  apply List.ext_getElem?
  intro k
  have hq : q < L.length := (List.getElem?_eq_some_iff.mp h).1
  rw [List.getElem?_set]
  by_cases hk : q = k
  · subst hk
    rw [if_pos rfl, if_pos (by unfold dr_w; rw [List.length_map]; exact hq), dr_wget h]
  · rw [if_neg hk]
    unfold dr_w
    rw [List.getElem?_map, List.getElem?_map]
    cases hL : L[k]? with
    | none => rfl
    | some j =>
      have hne : j ≠ id := by
        intro e
        subst e
        have hk2 : k < L.length := (List.getElem?_eq_some_iff.mp hL).1
        have e1 := (List.getElem?_eq_some_iff.mp hL).2
        have e2 := (List.getElem?_eq_some_iff.mp h).2
        exact hk ((List.getElem_inj hn).mp (e2.trans e1.symm))
      show some (ad j, dr_e cI cZ ad ln s j) = some (ad j, dr_e cI cZ ad ln s' j)
      rw [hs j (List.mem_of_getElem? hL) hne]
theorem dr_wD {cI cZ : ClassId} {ad ln : Nat → Nat} {L : List Nat} {A : Nat → Prop} (s : dr_S) (h : dr_ap ad L) (hA : ∀ id, id ∈ L → A (ad id)) : va_D A (dr_w cI cZ ad ln L s) := by
  refine ⟨fun i j p q hp hq e => ?_, fun k q hk => ?_⟩
  · unfold dr_w at hp hq
    rw [List.getElem?_map] at hp hq
    cases hi : L[i]? with
    | none => rw [hi] at hp; cases hp
    | some x =>
      cases hj : L[j]? with
      | none => rw [hj] at hq; cases hq
      | some y =>
        rw [hi] at hp
        rw [hj] at hq
        cases hp
        cases hq
        have hxy := h.2 x (List.mem_of_getElem? hi) y (List.mem_of_getElem? hj) e
        subst hxy
        have e1 := (List.getElem?_eq_some_iff.mp hi).2
        have e2 := (List.getElem?_eq_some_iff.mp hj).2
        exact (List.getElem_inj h.1).mp (e1.trans e2.symm)
  · unfold dr_w at hk
    rw [List.getElem?_map] at hk
    cases hi : L[k]? with
    | none => rw [hi] at hk; cases hk
    | some x =>
      rw [hi] at hk
      cases hk
      exact hA x (List.mem_of_getElem? hi)
theorem dr_put_e {cI cZ : ClassId} {ad ln : Nat → Nat} {s : dr_S} {id i : Nat} {x : Int32} : ∀ j, j ≠ id → dr_e cI cZ ad ln s j = dr_e cI cZ ad ln (dr_put s id i x) j := by
  intro j hj
  unfold dr_e
  by_cases h : j < 13
  · rw [if_pos h, if_pos h]
    rfl
  · rw [if_neg h, if_neg h]
    simp only [dr_put, if_neg hj]
theorem dr_set_e {cI cZ : ClassId} {ad ln : Nat → Nat} {s : dr_S} {id : Nat} {g : Nat → Int32} : ∀ j, j ≠ id → dr_e cI cZ ad ln s j = dr_e cI cZ ad ln (dr_set s id g) j := by
  intro j hj
  unfold dr_e
  by_cases h : j < 13
  · rw [if_pos h, if_pos h]
    rfl
  · rw [if_neg h, if_neg h]
    simp only [dr_set, if_neg hj]
/-! the environment of an activation, and the judgement -/
def dr_E (p : Program) (R : Room) (s0 : State) (m : MethodId) (args : Array Value) (meth : Method) (c : Code) (cells slots : Nat) (A : Nat → Prop) (H0 : Heap) (D : va_G) (cI cZ : ClassId) (ad : Nat → Nat) (L : List Nat) (cc : ByteArray) (nL : Nat) (own : String) (ret : Option FieldType) : Prop :=
  p.tables.exec = Jvm.exec ∧ c.code = cc ∧ c.maxLocals = nL ∧ meth.sig.returnType = ret ∧ meth.locks = false ∧ s0.vm.findClass own = some m.cls ∧ (∀ w ∈ dr_tbl, w.before args s0 = true) ∧ va_K D vwCl (dr_tys cI cZ) s0 ∧ dr_ap ad L ∧ (∀ id, id ∈ L → A (ad id)) ∧ (∀ q, H0.size ≤ q → A q) ∧ cells ≤ R.cells ∧ slots ≤ R.slots
def dr_G (p : Program) (l : Launch) (e : Env) (R : Room) (s0 : State) (m : MethodId) (args : Array Value) (below : List Frame) (meth : Method) (c : Code) (cells slots : Nat) (A : Nat → Prop) (H0 : Heap) (D : va_G) (cI cZ : ClassId) (ad ln : Nat → Nat) (L : List Nat) (nL : Nat) (Z : Int32 → dr_S → State → Prop) (pc : Nat) (lv : List (Nat × Value)) (st : List Value) (s : dr_S) (F : Option (Int32 × dr_S)) : Prop :=
  ∀ (r : Int32) (s' : dr_S), F = some (r, s') → ∀ (H : Heap) (locs : List Loc) (ls : Array Slot), va_P D vwCl (dr_w cI cZ ad ln L s) H → va_S A H0 H locs → lv_has ls nL lv → W p l e R s0 m args below meth c H locs cells slots (Z r s') (F0 m pc ls st)
def dr_Zi (D : va_G) (cI cZ : ClassId) (ad ln : Nat → Nat) (L : List Nat) (A : Nat → Prop) (below : List Frame) (args : Array Value) (s0 : State) (cells slots : Nat) (r : Int32) (s' : dr_S) : State → Prop := MQ below (va_Qi (fun (r2 : Int32) (u : dr_S) => r2 = r ∧ u = s') (fun u t => va_P D vwCl (dr_w cI cZ ad ln L u) t.heap) A) args s0 cells slots A
def dr_Zv (D : va_G) (cI cZ : ClassId) (ad ln : Nat → Nat) (L : List Nat) (A : Nat → Prop) (below : List Frame) (args : Array Value) (s0 : State) (cells slots : Nat) (_ : Int32) (s' : dr_S) : State → Prop := MQ below (va_Qv (fun (u : dr_S) => u = s') (fun u t => va_P D vwCl (dr_w cI cZ ad ln L u) t.heap) A) args s0 cells slots A
/-- a method's contract: it answers as the function F does; dr_Mi of an int or a boolean, dr_Mv of none -/
def dr_Pc (D : va_G) (cI cZ : ClassId) (ad ln : Nat → Nat) (L : List Nat) (av : List Value) (s : dr_S) (sz : Nat) : Array Value → State → Prop := va_Pc av (fun U => U.heap.size = sz ∧ va_P D vwCl (dr_w cI cZ ad ln L s) U.heap ∧ va_K D vwCl (dr_tys cI cZ) U)
def dr_Mi (l : Launch) (D : va_G) (cI cZ : ClassId) (ad ln : Nat → Nat) (L : List Nat) (y : MethodName) (cc : ByteArray) (nL : Nat) (ret : Option FieldType) (d : Nat) (av : List Value) (s : dr_S) (F : Option (Int32 × dr_S)) : Prop :=
  ∀ (r : Int32) (s' : dr_S), F = some (r, s') → ∀ sz : Nat, Met l y (.code y cc nL ret :: dr_tbl) (dr_rm d) (dr_Pc D cI cZ ad ln L av s sz) (va_Qi (fun (r2 : Int32) (u : dr_S) => r2 = r ∧ u = s') (fun u t => va_P D vwCl (dr_w cI cZ ad ln L u) t.heap) (dr_A ad L sz)) 0 0 (dr_A ad L sz)
def dr_Mv (l : Launch) (D : va_G) (cI cZ : ClassId) (ad ln : Nat → Nat) (L : List Nat) (y : MethodName) (cc : ByteArray) (nL : Nat) (d : Nat) (av : List Value) (s : dr_S) (F : Option (Int32 × dr_S)) : Prop :=
  ∀ (r : Int32) (s' : dr_S), F = some (r, s') → ∀ sz : Nat, Met l y (.code y cc nL none :: dr_tbl) (dr_rm d) (dr_Pc D cI cZ ad ln L av s sz) (va_Qv (fun (u : dr_S) => u = s') (fun u t => va_P D vwCl (dr_w cI cZ ad ln L u) t.heap) (dr_A ad L sz)) 0 0 (dr_A ad L sz)
end
section
section DR
variable {p : Program} {l : Launch} {e : Env} {R : Room} {s0 : State} {m : MethodId} {args : Array Value} {below : List Frame} {meth : Method} {c : Code} {cells slots : Nat} {A : Nat → Prop} {H0 : Heap} {D : va_G} {cI cZ : ClassId} {ad ln : Nat → Nat} {L : List Nat} {cc : ByteArray} {nL : Nat} {own : String} {ret : Option FieldType} {Z : Int32 → dr_S → State → Prop}
variable {pc : Nat} {lv : List (Nat × Value)} {st : List Value} {s : dr_S} {F F1 F2 : Option (Int32 × dr_S)}

theorem g_iconst (E : dr_E p R s0 m args meth c cells slots A H0 D cI cZ ad L cc nL own ret) {n : Int} {v : Int32} (hdg : decode cc pc = .ok (.iconst n, 1)) (hv : Int32.ofInt n = v) (kk : dr_G p l e R s0 m args below meth c cells slots A H0 D cI cZ ad ln L nL Z (pc + 1) lv (.int v :: st) s F) : dr_G p l e R s0 m args below meth c cells slots A H0 D cI cZ ad ln L nL Z pc lv st s F := fun r s' hF H locs ls hP hS hl => lv_iconst E.1 E.2.1 hdg hv (kk r s' hF H locs ls hP hS hl)
theorem g_bipush (E : dr_E p R s0 m args meth c cells slots A H0 D cI cZ ad L cc nL own ret) {n : Int} {v : Int32} (hdg : decode cc pc = .ok (.bipush n, 2)) (hv : (Int8.ofInt n).toInt32 = v) (kk : dr_G p l e R s0 m args below meth c cells slots A H0 D cI cZ ad ln L nL Z (pc + 2) lv (.int v :: st) s F) : dr_G p l e R s0 m args below meth c cells slots A H0 D cI cZ ad ln L nL Z pc lv st s F := fun r s' hF H locs ls hP hS hl => lv_bipush E.1 E.2.1 hdg hv (kk r s' hF H locs ls hP hS hl)
theorem g_sipush (E : dr_E p R s0 m args meth c cells slots A H0 D cI cZ ad L cc nL own ret) {n : Int} {v : Int32} (hdg : decode cc pc = .ok (.sipush n, 3)) (hv : (Int16.ofInt n).toInt32 = v) (kk : dr_G p l e R s0 m args below meth c cells slots A H0 D cI cZ ad ln L nL Z (pc + 3) lv (.int v :: st) s F) : dr_G p l e R s0 m args below meth c cells slots A H0 D cI cZ ad ln L nL Z pc lv st s F := fun r s' hF H locs ls hP hS hl => lv_sipush E.1 E.2.1 hdg hv (kk r s' hF H locs ls hP hS hl)
theorem g_iload_n (E : dr_E p R s0 m args meth c cells slots A H0 D cI cZ ad L cc nL own ret) {k : Fin 4} {x : Int32} (hdg : decode cc pc = .ok (.iload_n k, 1)) (q : Nat) (hq : lv[q]? = some ((k : Nat), .int x)) (kk : dr_G p l e R s0 m args below meth c cells slots A H0 D cI cZ ad ln L nL Z (pc + 1) lv (.int x :: st) s F) : dr_G p l e R s0 m args below meth c cells slots A H0 D cI cZ ad ln L nL Z pc lv st s F := fun r s' hF H locs ls hP hS hl => lv_iload_n E.1 E.2.1 hdg rfl (lv_at hl q hq) (kk r s' hF H locs ls hP hS hl)
theorem g_iload (E : dr_E p R s0 m args meth c cells slots A H0 D cI cZ ad L cc nL own ret) {i : Nat} {x : Int32} (hdg : decode cc pc = .ok (.iload i, 2)) (q : Nat) (hq : lv[q]? = some (i, .int x)) (kk : dr_G p l e R s0 m args below meth c cells slots A H0 D cI cZ ad ln L nL Z (pc + 2) lv (.int x :: st) s F) : dr_G p l e R s0 m args below meth c cells slots A H0 D cI cZ ad ln L nL Z pc lv st s F := fun r s' hF H locs ls hP hS hl => lv_iload E.1 E.2.1 hdg (lv_at hl q hq) (kk r s' hF H locs ls hP hS hl)
theorem g_aload_n (E : dr_E p R s0 m args meth c cells slots A H0 D cI cZ ad L cc nL own ret) {k : Fin 4} {x : Nat} (hdg : decode cc pc = .ok (.aload_n k, 1)) (q : Nat) (hq : lv[q]? = some ((k : Nat), .ref x)) (kk : dr_G p l e R s0 m args below meth c cells slots A H0 D cI cZ ad ln L nL Z (pc + 1) lv (.ref x :: st) s F) : dr_G p l e R s0 m args below meth c cells slots A H0 D cI cZ ad ln L nL Z pc lv st s F := fun r s' hF H locs ls hP hS hl => lv_aload_n E.1 E.2.1 hdg rfl (lv_at hl q hq) (kk r s' hF H locs ls hP hS hl)
theorem g_istore_n (E : dr_E p R s0 m args meth c cells slots A H0 D cI cZ ad L cc nL own ret) {k : Fin 4} {x : Int32} {lv' : List (Nat × Value)} (hdg : decode cc pc = .ok (.istore_n k, 1)) (hn : (k : Nat) < nL) (hl' : ((k : Nat), Value.int x) :: lv.filter (fun q => !(q.1 == (k : Nat)) && !(q.1 + 1 == (k : Nat) && q.2.category == 2)) = lv') (kk : dr_G p l e R s0 m args below meth c cells slots A H0 D cI cZ ad ln L nL Z (pc + 1) lv' st s F) : dr_G p l e R s0 m args below meth c cells slots A H0 D cI cZ ad ln L nL Z pc lv (.int x :: st) s F := fun r s' hF H locs ls hP hS hl => lv_istore_n E.1 E.2.1 hdg rfl hl hn hl' (fun ls' h' => kk r s' hF H locs ls' hP hS h')
theorem g_istore (E : dr_E p R s0 m args meth c cells slots A H0 D cI cZ ad L cc nL own ret) {i : Nat} {x : Int32} {lv' : List (Nat × Value)} (hdg : decode cc pc = .ok (.istore i, 2)) (hn : i < nL) (hl' : (i, Value.int x) :: lv.filter (fun q => !(q.1 == i) && !(q.1 + 1 == i && q.2.category == 2)) = lv') (kk : dr_G p l e R s0 m args below meth c cells slots A H0 D cI cZ ad ln L nL Z (pc + 2) lv' st s F) : dr_G p l e R s0 m args below meth c cells slots A H0 D cI cZ ad ln L nL Z pc lv (.int x :: st) s F := fun r s' hF H locs ls hP hS hl => lv_istore E.1 E.2.1 hdg hl hn hl' (fun ls' h' => kk r s' hF H locs ls' hP hS h')
theorem g_iinc {lv'' : Int32 → List (Nat × Value)} (E : dr_E p R s0 m args meth c cells slots A H0 D cI cZ ad L cc nL own ret) {i : Nat} {n : Int} {x v : Int32} {lv' : List (Nat × Value)} (hdg : decode cc pc = .ok (.iinc i n, 3)) (k : Nat) (hk : lv[k]? = some (i, .int x)) (hv : Int32.ofInt n = v) (hn : i < nL) {Kx : Int32 → Option (Int32 × dr_S)} (hl' : ∀ y : Int32, (i, Value.int y) :: lv.filter (fun q => !(q.1 == i) && !(q.1 + 1 == i && q.2.category == 2)) = lv'' y) (kk : ∀ y : Int32, dr_G p l e R s0 m args below meth c cells slots A H0 D cI cZ ad ln L nL Z (pc + 3) (lv'' y) st s (Kx y)) : dr_G p l e R s0 m args below meth c cells slots A H0 D cI cZ ad ln L nL Z pc lv st s (dr_let (x + v) Kx) := fun r s' hF H locs ls hP hS hl => lv_iinc E.1 E.2.1 hdg hl hk rfl hn (hl' (x + Int32.ofInt n)) (fun ls' h' => kk _ r s' (by rw [hv]; exact hF) H locs ls' hP hS h')
theorem g_iadd (E : dr_E p R s0 m args meth c cells slots A H0 D cI cZ ad L cc nL own ret) {x y : Int32} (hdg : decode cc pc = .ok (.iadd, 1)) (kk : dr_G p l e R s0 m args below meth c cells slots A H0 D cI cZ ad ln L nL Z (pc + 1) lv (.int (x + y) :: st) s F) : dr_G p l e R s0 m args below meth c cells slots A H0 D cI cZ ad ln L nL Z pc lv (.int y :: .int x :: st) s F := fun r s' hF H locs ls hP hS hl => lv_iadd E.1 E.2.1 hdg (kk r s' hF H locs ls hP hS hl)
theorem g_isub (E : dr_E p R s0 m args meth c cells slots A H0 D cI cZ ad L cc nL own ret) {x y : Int32} (hdg : decode cc pc = .ok (.isub, 1)) (kk : dr_G p l e R s0 m args below meth c cells slots A H0 D cI cZ ad ln L nL Z (pc + 1) lv (.int (x - y) :: st) s F) : dr_G p l e R s0 m args below meth c cells slots A H0 D cI cZ ad ln L nL Z pc lv (.int y :: .int x :: st) s F := fun r s' hF H locs ls hP hS hl => lv_isub E.1 E.2.1 hdg (kk r s' hF H locs ls hP hS hl)
theorem g_imul (E : dr_E p R s0 m args meth c cells slots A H0 D cI cZ ad L cc nL own ret) {x y : Int32} (hdg : decode cc pc = .ok (.imul, 1)) (kk : dr_G p l e R s0 m args below meth c cells slots A H0 D cI cZ ad ln L nL Z (pc + 1) lv (.int (x * y) :: st) s F) : dr_G p l e R s0 m args below meth c cells slots A H0 D cI cZ ad ln L nL Z pc lv (.int y :: .int x :: st) s F := fun r s' hF H locs ls hP hS hl => lv_imul E.1 E.2.1 hdg (kk r s' hF H locs ls hP hS hl)
theorem g_iand (E : dr_E p R s0 m args meth c cells slots A H0 D cI cZ ad L cc nL own ret) {x y : Int32} (hdg : decode cc pc = .ok (.iand, 1)) (kk : dr_G p l e R s0 m args below meth c cells slots A H0 D cI cZ ad ln L nL Z (pc + 1) lv (.int (x &&& y) :: st) s F) : dr_G p l e R s0 m args below meth c cells slots A H0 D cI cZ ad ln L nL Z pc lv (.int y :: .int x :: st) s F := fun r s' hF H locs ls hP hS hl => lv_iand E.1 E.2.1 hdg (kk r s' hF H locs ls hP hS hl)
theorem g_ior (E : dr_E p R s0 m args meth c cells slots A H0 D cI cZ ad L cc nL own ret) {x y : Int32} (hdg : decode cc pc = .ok (.ior, 1)) (kk : dr_G p l e R s0 m args below meth c cells slots A H0 D cI cZ ad ln L nL Z (pc + 1) lv (.int (x ||| y) :: st) s F) : dr_G p l e R s0 m args below meth c cells slots A H0 D cI cZ ad ln L nL Z pc lv (.int y :: .int x :: st) s F := fun r s' hF H locs ls hP hS hl => lv_ior E.1 E.2.1 hdg (kk r s' hF H locs ls hP hS hl)
theorem g_ishl (E : dr_E p R s0 m args meth c cells slots A H0 D cI cZ ad L cc nL own ret) {x y : Int32} (hdg : decode cc pc = .ok (.ishl, 1)) (kk : dr_G p l e R s0 m args below meth c cells slots A H0 D cI cZ ad ln L nL Z (pc + 1) lv (.int (x <<< (y &&& 31)) :: st) s F) : dr_G p l e R s0 m args below meth c cells slots A H0 D cI cZ ad ln L nL Z pc lv (.int y :: .int x :: st) s F := fun r s' hF H locs ls hP hS hl => lv_ishl E.1 E.2.1 hdg (kk r s' hF H locs ls hP hS hl)
theorem g_ishr (E : dr_E p R s0 m args meth c cells slots A H0 D cI cZ ad L cc nL own ret) {x y : Int32} (hdg : decode cc pc = .ok (.ishr, 1)) (kk : dr_G p l e R s0 m args below meth c cells slots A H0 D cI cZ ad ln L nL Z (pc + 1) lv (.int (x >>> (y &&& 31)) :: st) s F) : dr_G p l e R s0 m args below meth c cells slots A H0 D cI cZ ad ln L nL Z pc lv (.int y :: .int x :: st) s F := fun r s' hF H locs ls hP hS hl => lv_ishr E.1 E.2.1 hdg (kk r s' hF H locs ls hP hS hl)
theorem g_iushr (E : dr_E p R s0 m args meth c cells slots A H0 D cI cZ ad L cc nL own ret) {x y : Int32} (hdg : decode cc pc = .ok (.iushr, 1)) (kk : dr_G p l e R s0 m args below meth c cells slots A H0 D cI cZ ad ln L nL Z (pc + 1) lv (.int ((x.toUInt32 >>> (y.toUInt32 &&& Int32.toUInt32 31)).toInt32) :: st) s F) : dr_G p l e R s0 m args below meth c cells slots A H0 D cI cZ ad ln L nL Z pc lv (.int y :: .int x :: st) s F := fun r s' hF H locs ls hP hS hl => lv_iushr E.1 E.2.1 hdg rfl (kk r s' hF H locs ls hP hS hl)
theorem g_ineg (E : dr_E p R s0 m args meth c cells slots A H0 D cI cZ ad L cc nL own ret) {x : Int32} (hdg : decode cc pc = .ok (.ineg, 1)) (kk : dr_G p l e R s0 m args below meth c cells slots A H0 D cI cZ ad ln L nL Z (pc + 1) lv (.int (-x) :: st) s F) : dr_G p l e R s0 m args below meth c cells slots A H0 D cI cZ ad ln L nL Z pc lv (.int x :: st) s F := fun r s' hF H locs ls hP hS hl => lv_ineg E.1 E.2.1 hdg (kk r s' hF H locs ls hP hS hl)
theorem g_idiv (E : dr_E p R s0 m args meth c cells slots A H0 D cI cZ ad L cc nL own ret) {x y : Int32} (hdg : decode cc pc = .ok (.idiv, 1)) (hne : ¬ y = 0) (kk : dr_G p l e R s0 m args below meth c cells slots A H0 D cI cZ ad ln L nL Z (pc + 1) lv (.int (x / y) :: st) s F) : dr_G p l e R s0 m args below meth c cells slots A H0 D cI cZ ad ln L nL Z pc lv (.int y :: .int x :: st) s F := fun r s' hF H locs ls hP hS hl => lv_idiv E.1 E.2.1 hdg hne (kk r s' hF H locs ls hP hS hl)
theorem g_idivN (E : dr_E p R s0 m args meth c cells slots A H0 D cI cZ ad L cc nL own ret) {x y : Int32} (hdg : decode cc pc = .ok (.idiv, 1)) (kk : dr_G p l e R s0 m args below meth c cells slots A H0 D cI cZ ad ln L nL Z (pc + 1) lv (.int (x / y) :: st) s F) : dr_G p l e R s0 m args below meth c cells slots A H0 D cI cZ ad ln L nL Z pc lv (.int y :: .int x :: st) s (dr_nz y F) := by
  intro r s' hF H locs ls hP hS hl
  unfold dr_nz at hF
  split at hF
  · cases hF
  · next h => exact lv_idiv E.1 E.2.1 hdg h (kk r s' hF H locs ls hP hS hl)
theorem g_irem (E : dr_E p R s0 m args meth c cells slots A H0 D cI cZ ad L cc nL own ret) {x y : Int32} (hdg : decode cc pc = .ok (.irem, 1)) (hne : ¬ y = 0) (kk : dr_G p l e R s0 m args below meth c cells slots A H0 D cI cZ ad ln L nL Z (pc + 1) lv (.int (x - x / y * y) :: st) s F) : dr_G p l e R s0 m args below meth c cells slots A H0 D cI cZ ad ln L nL Z pc lv (.int y :: .int x :: st) s F := fun r s' hF H locs ls hP hS hl => lv_irem E.1 E.2.1 hdg hne (kk r s' hF H locs ls hP hS hl)
theorem g_iremN (E : dr_E p R s0 m args meth c cells slots A H0 D cI cZ ad L cc nL own ret) {x y : Int32} (hdg : decode cc pc = .ok (.irem, 1)) (kk : dr_G p l e R s0 m args below meth c cells slots A H0 D cI cZ ad ln L nL Z (pc + 1) lv (.int (x - x / y * y) :: st) s F) : dr_G p l e R s0 m args below meth c cells slots A H0 D cI cZ ad ln L nL Z pc lv (.int y :: .int x :: st) s (dr_nz y F) := by
  intro r s' hF H locs ls hP hS hl
  unfold dr_nz at hF
  split at hF
  · cases hF
  · next h => exact lv_irem E.1 E.2.1 hdg h (kk r s' hF H locs ls hP hS hl)
theorem g_dup (E : dr_E p R s0 m args meth c cells slots A H0 D cI cZ ad L cc nL own ret) {va : Value} (hdg : decode cc pc = .ok (.dup, 1)) (hva : va.category = 1) (kk : dr_G p l e R s0 m args below meth c cells slots A H0 D cI cZ ad ln L nL Z (pc + 1) lv (va :: va :: st) s F) : dr_G p l e R s0 m args below meth c cells slots A H0 D cI cZ ad ln L nL Z pc lv (va :: st) s F := fun r s' hF H locs ls hP hS hl => lv_dup E.1 E.2.1 hdg hva (kk r s' hF H locs ls hP hS hl)
theorem g_dup2 (E : dr_E p R s0 m args meth c cells slots A H0 D cI cZ ad L cc nL own ret) {va vb : Value} (hdg : decode cc pc = .ok (.dup2, 1)) (hva : va.category = 1) (hvb : vb.category = 1) (kk : dr_G p l e R s0 m args below meth c cells slots A H0 D cI cZ ad ln L nL Z (pc + 1) lv (va :: vb :: va :: vb :: st) s F) : dr_G p l e R s0 m args below meth c cells slots A H0 D cI cZ ad ln L nL Z pc lv (va :: vb :: st) s F := fun r s' hF H locs ls hP hS hl => lv_dup2_11 E.1 E.2.1 hdg hva hvb (kk r s' hF H locs ls hP hS hl)
theorem g_goto (E : dr_E p R s0 m args meth c cells slots A H0 D cI cZ ad L cc nL own ret) {off : Int} (tgt : Nat) (hdg : decode cc pc = .ok (.goto off, 3)) (ht : (pc : Int) + off = (tgt : Int)) (kk : dr_G p l e R s0 m args below meth c cells slots A H0 D cI cZ ad ln L nL Z tgt lv st s F) : dr_G p l e R s0 m args below meth c cells slots A H0 D cI cZ ad ln L nL Z pc lv st s F := fun r s' hF H locs ls hP hS hl => lv_goto E.1 E.2.1 hdg ht (kk r s' hF H locs ls hP hS hl)
theorem g_icmp_eq (E : dr_E p R s0 m args meth c cells slots A H0 D cI cZ ad L cc nL own ret) {x y : Int32} {off : Int} (tgt : Nat) (hdg : decode cc pc = .ok (.if_icmp .eq off, 3)) (ht : (pc : Int) + off = (tgt : Int)) (kt : dr_G p l e R s0 m args below meth c cells slots A H0 D cI cZ ad ln L nL Z tgt lv st s F1) (kf : dr_G p l e R s0 m args below meth c cells slots A H0 D cI cZ ad ln L nL Z (pc + 3) lv st s F2) : dr_G p l e R s0 m args below meth c cells slots A H0 D cI cZ ad ln L nL Z pc lv (.int y :: .int x :: st) s (if x = y then F1 else F2) := fun r s' hF H locs ls hP hS hl => lv_icmp_eq E.1 E.2.1 hdg ht (fun h => kt r s' (by rw [if_pos h] at hF; exact hF) H locs ls hP hS hl) (fun h => kf r s' (by rw [if_neg h] at hF; exact hF) H locs ls hP hS hl)
theorem g_if_eq (E : dr_E p R s0 m args meth c cells slots A H0 D cI cZ ad L cc nL own ret) {x : Int32} {off : Int} (tgt : Nat) (hdg : decode cc pc = .ok (.ifCond .eq off, 3)) (ht : (pc : Int) + off = (tgt : Int)) (kt : dr_G p l e R s0 m args below meth c cells slots A H0 D cI cZ ad ln L nL Z tgt lv st s F1) (kf : dr_G p l e R s0 m args below meth c cells slots A H0 D cI cZ ad ln L nL Z (pc + 3) lv st s F2) : dr_G p l e R s0 m args below meth c cells slots A H0 D cI cZ ad ln L nL Z pc lv (.int x :: st) s (if x = 0 then F1 else F2) := fun r s' hF H locs ls hP hS hl => lv_if_eq E.1 E.2.1 hdg ht (fun h => kt r s' (by rw [if_pos h] at hF; exact hF) H locs ls hP hS hl) (fun h => kf r s' (by rw [if_neg h] at hF; exact hF) H locs ls hP hS hl)
theorem g_icmp_lt (E : dr_E p R s0 m args meth c cells slots A H0 D cI cZ ad L cc nL own ret) {x y : Int32} {off : Int} (tgt : Nat) (hdg : decode cc pc = .ok (.if_icmp .lt off, 3)) (ht : (pc : Int) + off = (tgt : Int)) (kt : dr_G p l e R s0 m args below meth c cells slots A H0 D cI cZ ad ln L nL Z tgt lv st s F1) (kf : dr_G p l e R s0 m args below meth c cells slots A H0 D cI cZ ad ln L nL Z (pc + 3) lv st s F2) : dr_G p l e R s0 m args below meth c cells slots A H0 D cI cZ ad ln L nL Z pc lv (.int y :: .int x :: st) s (if x < y then F1 else F2) := fun r s' hF H locs ls hP hS hl => lv_icmp_lt E.1 E.2.1 hdg ht (fun h => kt r s' (by rw [if_pos h] at hF; exact hF) H locs ls hP hS hl) (fun h => kf r s' (by rw [if_neg h] at hF; exact hF) H locs ls hP hS hl)
theorem g_if_lt (E : dr_E p R s0 m args meth c cells slots A H0 D cI cZ ad L cc nL own ret) {x : Int32} {off : Int} (tgt : Nat) (hdg : decode cc pc = .ok (.ifCond .lt off, 3)) (ht : (pc : Int) + off = (tgt : Int)) (kt : dr_G p l e R s0 m args below meth c cells slots A H0 D cI cZ ad ln L nL Z tgt lv st s F1) (kf : dr_G p l e R s0 m args below meth c cells slots A H0 D cI cZ ad ln L nL Z (pc + 3) lv st s F2) : dr_G p l e R s0 m args below meth c cells slots A H0 D cI cZ ad ln L nL Z pc lv (.int x :: st) s (if x < 0 then F1 else F2) := fun r s' hF H locs ls hP hS hl => lv_if_lt E.1 E.2.1 hdg ht (fun h => kt r s' (by rw [if_pos h] at hF; exact hF) H locs ls hP hS hl) (fun h => kf r s' (by rw [if_neg h] at hF; exact hF) H locs ls hP hS hl)
theorem g_icmp_ge (E : dr_E p R s0 m args meth c cells slots A H0 D cI cZ ad L cc nL own ret) {x y : Int32} {off : Int} (tgt : Nat) (hdg : decode cc pc = .ok (.if_icmp .ge off, 3)) (ht : (pc : Int) + off = (tgt : Int)) (kt : dr_G p l e R s0 m args below meth c cells slots A H0 D cI cZ ad ln L nL Z tgt lv st s F1) (kf : dr_G p l e R s0 m args below meth c cells slots A H0 D cI cZ ad ln L nL Z (pc + 3) lv st s F2) : dr_G p l e R s0 m args below meth c cells slots A H0 D cI cZ ad ln L nL Z pc lv (.int y :: .int x :: st) s (if y ≤ x then F1 else F2) := fun r s' hF H locs ls hP hS hl => lv_icmp_ge E.1 E.2.1 hdg ht (fun h => kt r s' (by rw [if_pos h] at hF; exact hF) H locs ls hP hS hl) (fun h => kf r s' (by rw [if_neg h] at hF; exact hF) H locs ls hP hS hl)
theorem g_if_ge (E : dr_E p R s0 m args meth c cells slots A H0 D cI cZ ad L cc nL own ret) {x : Int32} {off : Int} (tgt : Nat) (hdg : decode cc pc = .ok (.ifCond .ge off, 3)) (ht : (pc : Int) + off = (tgt : Int)) (kt : dr_G p l e R s0 m args below meth c cells slots A H0 D cI cZ ad ln L nL Z tgt lv st s F1) (kf : dr_G p l e R s0 m args below meth c cells slots A H0 D cI cZ ad ln L nL Z (pc + 3) lv st s F2) : dr_G p l e R s0 m args below meth c cells slots A H0 D cI cZ ad ln L nL Z pc lv (.int x :: st) s (if 0 ≤ x then F1 else F2) := fun r s' hF H locs ls hP hS hl => lv_if_ge E.1 E.2.1 hdg ht (fun h => kt r s' (by rw [if_pos h] at hF; exact hF) H locs ls hP hS hl) (fun h => kf r s' (by rw [if_neg h] at hF; exact hF) H locs ls hP hS hl)
theorem g_icmp_gt (E : dr_E p R s0 m args meth c cells slots A H0 D cI cZ ad L cc nL own ret) {x y : Int32} {off : Int} (tgt : Nat) (hdg : decode cc pc = .ok (.if_icmp .gt off, 3)) (ht : (pc : Int) + off = (tgt : Int)) (kt : dr_G p l e R s0 m args below meth c cells slots A H0 D cI cZ ad ln L nL Z tgt lv st s F1) (kf : dr_G p l e R s0 m args below meth c cells slots A H0 D cI cZ ad ln L nL Z (pc + 3) lv st s F2) : dr_G p l e R s0 m args below meth c cells slots A H0 D cI cZ ad ln L nL Z pc lv (.int y :: .int x :: st) s (if y < x then F1 else F2) := fun r s' hF H locs ls hP hS hl => lv_icmp_gt E.1 E.2.1 hdg ht (fun h => kt r s' (by rw [if_pos h] at hF; exact hF) H locs ls hP hS hl) (fun h => kf r s' (by rw [if_neg h] at hF; exact hF) H locs ls hP hS hl)
theorem g_if_gt (E : dr_E p R s0 m args meth c cells slots A H0 D cI cZ ad L cc nL own ret) {x : Int32} {off : Int} (tgt : Nat) (hdg : decode cc pc = .ok (.ifCond .gt off, 3)) (ht : (pc : Int) + off = (tgt : Int)) (kt : dr_G p l e R s0 m args below meth c cells slots A H0 D cI cZ ad ln L nL Z tgt lv st s F1) (kf : dr_G p l e R s0 m args below meth c cells slots A H0 D cI cZ ad ln L nL Z (pc + 3) lv st s F2) : dr_G p l e R s0 m args below meth c cells slots A H0 D cI cZ ad ln L nL Z pc lv (.int x :: st) s (if 0 < x then F1 else F2) := fun r s' hF H locs ls hP hS hl => lv_if_gt E.1 E.2.1 hdg ht (fun h => kt r s' (by rw [if_pos h] at hF; exact hF) H locs ls hP hS hl) (fun h => kf r s' (by rw [if_neg h] at hF; exact hF) H locs ls hP hS hl)
theorem g_icmp_le (E : dr_E p R s0 m args meth c cells slots A H0 D cI cZ ad L cc nL own ret) {x y : Int32} {off : Int} (tgt : Nat) (hdg : decode cc pc = .ok (.if_icmp .le off, 3)) (ht : (pc : Int) + off = (tgt : Int)) (kt : dr_G p l e R s0 m args below meth c cells slots A H0 D cI cZ ad ln L nL Z tgt lv st s F1) (kf : dr_G p l e R s0 m args below meth c cells slots A H0 D cI cZ ad ln L nL Z (pc + 3) lv st s F2) : dr_G p l e R s0 m args below meth c cells slots A H0 D cI cZ ad ln L nL Z pc lv (.int y :: .int x :: st) s (if x ≤ y then F1 else F2) := fun r s' hF H locs ls hP hS hl => lv_icmp_le E.1 E.2.1 hdg ht (fun h => kt r s' (by rw [if_pos h] at hF; exact hF) H locs ls hP hS hl) (fun h => kf r s' (by rw [if_neg h] at hF; exact hF) H locs ls hP hS hl)
theorem g_if_le (E : dr_E p R s0 m args meth c cells slots A H0 D cI cZ ad L cc nL own ret) {x : Int32} {off : Int} (tgt : Nat) (hdg : decode cc pc = .ok (.ifCond .le off, 3)) (ht : (pc : Int) + off = (tgt : Int)) (kt : dr_G p l e R s0 m args below meth c cells slots A H0 D cI cZ ad ln L nL Z tgt lv st s F1) (kf : dr_G p l e R s0 m args below meth c cells slots A H0 D cI cZ ad ln L nL Z (pc + 3) lv st s F2) : dr_G p l e R s0 m args below meth c cells slots A H0 D cI cZ ad ln L nL Z pc lv (.int x :: st) s (if x ≤ 0 then F1 else F2) := fun r s' hF H locs ls hP hS hl => lv_if_le E.1 E.2.1 hdg ht (fun h => kt r s' (by rw [if_pos h] at hF; exact hF) H locs ls hP hS hl) (fun h => kf r s' (by rw [if_neg h] at hF; exact hF) H locs ls hP hS hl)
theorem g_icmp_ne (E : dr_E p R s0 m args meth c cells slots A H0 D cI cZ ad L cc nL own ret) {x y : Int32} {off : Int} (tgt : Nat) (hdg : decode cc pc = .ok (.if_icmp .ne off, 3)) (ht : (pc : Int) + off = (tgt : Int)) (kt : dr_G p l e R s0 m args below meth c cells slots A H0 D cI cZ ad ln L nL Z tgt lv st s F1) (kf : dr_G p l e R s0 m args below meth c cells slots A H0 D cI cZ ad ln L nL Z (pc + 3) lv st s F2) : dr_G p l e R s0 m args below meth c cells slots A H0 D cI cZ ad ln L nL Z pc lv (.int y :: .int x :: st) s (if x = y then F2 else F1) := fun r s' hF H locs ls hP hS hl => lv_icmp_ne E.1 E.2.1 hdg ht (fun h => kt r s' (by rw [if_neg h] at hF; exact hF) H locs ls hP hS hl) (fun h => kf r s' (by rw [if_pos h] at hF; exact hF) H locs ls hP hS hl)
theorem g_if_ne (E : dr_E p R s0 m args meth c cells slots A H0 D cI cZ ad L cc nL own ret) {x : Int32} {off : Int} (tgt : Nat) (hdg : decode cc pc = .ok (.ifCond .ne off, 3)) (ht : (pc : Int) + off = (tgt : Int)) (kt : dr_G p l e R s0 m args below meth c cells slots A H0 D cI cZ ad ln L nL Z tgt lv st s F1) (kf : dr_G p l e R s0 m args below meth c cells slots A H0 D cI cZ ad ln L nL Z (pc + 3) lv st s F2) : dr_G p l e R s0 m args below meth c cells slots A H0 D cI cZ ad ln L nL Z pc lv (.int x :: st) s (if x = 0 then F2 else F1) := fun r s' hF H locs ls hP hS hl => lv_if_ne E.1 E.2.1 hdg ht (fun h => kt r s' (by rw [if_neg h] at hF; exact hF) H locs ls hP hS hl) (fun h => kf r s' (by rw [if_pos h] at hF; exact hF) H locs ls hP hS hl)
theorem g_let {x : Int32} {Kx : Int32 → Option (Int32 × dr_S)} (kk : ∀ y : Int32, dr_G p l e R s0 m args below meth c cells slots A H0 D cI cZ ad ln L nL Z pc lv (.int y :: st) s (Kx y)) : dr_G p l e R s0 m args below meth c cells slots A H0 D cI cZ ad ln L nL Z pc lv (.int x :: st) s (dr_let x Kx) := kk x
theorem g_sub {lv' : List (Nat × Value)} (ks : List Nat) (hs : lv_pick lv ks = lv') (kk : dr_G p l e R s0 m args below meth c cells slots A H0 D cI cZ ad ln L nL Z pc lv' st s F) : dr_G p l e R s0 m args below meth c cells slots A H0 D cI cZ ad ln L nL Z pc lv st s F := fun r s' hF H locs ls hP hS hl => kk r s' hF H locs ls hP hS (lv_sub hl ks hs)
theorem g_eqF (h : F = F1) (kk : dr_G p l e R s0 m args below meth c cells slots A H0 D cI cZ ad ln L nL Z pc lv st s F1) : dr_G p l e R s0 m args below meth c cells slots A H0 D cI cZ ad ln L nL Z pc lv st s F := h ▸ kk
theorem g_iaload (E : dr_E p R s0 m args meth c cells slots A H0 D cI cZ ad L cc nL own ret) {id : Nat} {i : Int32} (hid : id ∈ L) (h13 : 13 ≤ id) (hz : dr_z id = false) (hdg : decode cc pc = .ok (.iaload, 1)) {Kx : Int32 → Option (Int32 × dr_S)} (kk : ∀ v : Int32, dr_G p l e R s0 m args below meth c cells slots A H0 D cI cZ ad ln L nL Z (pc + 1) lv (.int v :: st) s (Kx v)) : dr_G p l e R s0 m args below meth c cells slots A H0 D cI cZ ad ln L nL Z pc lv (.int i :: .ref (ad id) :: st) s ((dr_rd ln s id i).bind Kx) := by
  intro r s' hF H locs ls hP hS hl
  obtain ⟨v, hv, hK⟩ := Option.bind_eq_some_iff.mp hF
  unfold dr_rd at hv
  split at hv
  · cases hv
  · next hin =>
    cases hv
    obtain ⟨q, hq⟩ := List.getElem?_of_mem hid
    exact va_iald E.1 E.2.1 E.2.2.2.2.2.2.2.1 hP q 0 ((dr_wget hq).trans (by rw [dr_eI h13 hz])) rfl hin hdg (kk _ r s' hK H locs ls hP hS hl)
theorem g_baload (E : dr_E p R s0 m args meth c cells slots A H0 D cI cZ ad L cc nL own ret) {id : Nat} {i : Int32} (hid : id ∈ L) (h13 : 13 ≤ id) (hz : dr_z id = true) (hdg : decode cc pc = .ok (.baload, 1)) {Kx : Int32 → Option (Int32 × dr_S)} (kk : ∀ v : Int32, dr_G p l e R s0 m args below meth c cells slots A H0 D cI cZ ad ln L nL Z (pc + 1) lv (.int v :: st) s (Kx v)) : dr_G p l e R s0 m args below meth c cells slots A H0 D cI cZ ad ln L nL Z pc lv (.int i :: .ref (ad id) :: st) s ((dr_rd ln s id i).bind Kx) := by
  intro r s' hF H locs ls hP hS hl
  obtain ⟨v, hv, hK⟩ := Option.bind_eq_some_iff.mp hF
  unfold dr_rd at hv
  split at hv
  · cases hv
  · next hin =>
    cases hv
    obtain ⟨q, hq⟩ := List.getElem?_of_mem hid
    exact va_zald E.1 E.2.1 E.2.2.2.2.2.2.2.1 hP q 1 ((dr_wget hq).trans (by rw [dr_eZ h13 hz])) rfl hin hdg (kk _ r s' hK H locs ls hP hS hl)
theorem g_iastore (E : dr_E p R s0 m args meth c cells slots A H0 D cI cZ ad L cc nL own ret) {id : Nat} {i x : Int32} (hid : id ∈ L) (h13 : 13 ≤ id) (hz : dr_z id = false) (hdg : decode cc pc = .ok (.iastore, 1)) {Kx : dr_S → Option (Int32 × dr_S)} (kk : ∀ s1 : dr_S, dr_G p l e R s0 m args below meth c cells slots A H0 D cI cZ ad ln L nL Z (pc + 1) lv st s1 (Kx s1)) : dr_G p l e R s0 m args below meth c cells slots A H0 D cI cZ ad ln L nL Z pc lv (.int x :: .int i :: .ref (ad id) :: st) s ((dr_wr ln s id i x).bind Kx) := by
  intro r s' hF H locs ls hP hS hl
  obtain ⟨s1, hv, hK⟩ := Option.bind_eq_some_iff.mp hF
  unfold dr_wr at hv
  split at hv
  · cases hv
  · next hin =>
    cases hv
    obtain ⟨q, hq⟩ := List.getElem?_of_mem hid
    have hD := dr_wD (cI := cI) (cZ := cZ) (ln := ln) s E.2.2.2.2.2.2.2.2.1 E.2.2.2.2.2.2.2.2.2.1
    refine va_iast E.1 E.2.1 E.2.2.2.2.2.2.2.1 hP hD hS q 0 ((dr_wget hq).trans (by rw [dr_eI h13 hz])) rfl hin hdg (fun H1 locs1 hP1 hD1 hS1 => ?_)
    refine kk _ r s' hK H1 locs1 ls ?_ hS1 hl
    have e := dr_wset (cI := cI) (cZ := cZ) (ad := ad) (ln := ln) (s := s) (s' := dr_put s id i.toNatClampNeg x) E.2.2.2.2.2.2.2.2.1.1 hq (fun j _ hj => dr_put_e j hj)
    rw [← e, dr_eI h13 hz]
    simp only [dr_put, if_true]
    exact hP1
theorem g_bastore (E : dr_E p R s0 m args meth c cells slots A H0 D cI cZ ad L cc nL own ret) {id : Nat} {i x : Int32} (hid : id ∈ L) (h13 : 13 ≤ id) (hz : dr_z id = true) (hdg : decode cc pc = .ok (.bastore, 1)) {Kx : dr_S → Option (Int32 × dr_S)} (kk : ∀ s1 : dr_S, dr_G p l e R s0 m args below meth c cells slots A H0 D cI cZ ad ln L nL Z (pc + 1) lv st s1 (Kx s1)) : dr_G p l e R s0 m args below meth c cells slots A H0 D cI cZ ad ln L nL Z pc lv (.int x :: .int i :: .ref (ad id) :: st) s ((dr_wz ln s id i x).bind Kx) := by
  intro r s' hF H locs ls hP hS hl
  obtain ⟨s1, hv, hK⟩ := Option.bind_eq_some_iff.mp hF
  unfold dr_wz at hv
  split at hv
  · cases hv
  · next hin =>
    cases hv
    obtain ⟨q, hq⟩ := List.getElem?_of_mem hid
    have hD := dr_wD (cI := cI) (cZ := cZ) (ln := ln) s E.2.2.2.2.2.2.2.2.1 E.2.2.2.2.2.2.2.2.2.1
    refine va_zast E.1 E.2.1 E.2.2.2.2.2.2.2.1 hP hD hS q 1 ((dr_wget hq).trans (by rw [dr_eZ h13 hz])) rfl hin hdg (fun H1 locs1 hP1 hD1 hS1 => ?_)
    refine kk _ r s' hK H1 locs1 ls ?_ hS1 hl
    have e := dr_wset (cI := cI) (cZ := cZ) (ad := ad) (ln := ln) (s := s) (s' := dr_put s id i.toNatClampNeg (vp_nar .boolean x)) E.2.2.2.2.2.2.2.2.1.1 hq (fun j _ hj => dr_put_e j hj)
    rw [← e, dr_eZ h13 hz]
    simp only [dr_put, if_true]
    exact hP1
theorem g_alen (E : dr_E p R s0 m args meth c cells slots A H0 D cI cZ ad L cc nL own ret) {id : Nat} (hid : id ∈ L) (h13 : 13 ≤ id) (hz : dr_z id = false) (hdg : decode cc pc = .ok (.arraylength, 1)) (kk : dr_G p l e R s0 m args below meth c cells slots A H0 D cI cZ ad ln L nL Z (pc + 1) lv (.int (Int32.ofNat (ln id)) :: st) s F) : dr_G p l e R s0 m args below meth c cells slots A H0 D cI cZ ad ln L nL Z pc lv (.ref (ad id) :: st) s F := by
  intro r s' hF H locs ls hP hS hl
  obtain ⟨q, hq⟩ := List.getElem?_of_mem hid
  exact va_alen E.1 E.2.1 E.2.2.2.2.2.2.2.1 hP q 0 ((dr_wget hq).trans (by rw [dr_eI h13 hz])) rfl rfl hdg (kk r s' hF H locs ls hP hS hl)
theorem g_get (E : dr_E p R s0 m args meth c cells slots A H0 D cI cZ ad L cc nL own ret) {C : String} {T : u_T} {N ci index k : Nat} {v : Value} (hid : ci ∈ L) (hci : ci < 13) (hc : vwCl[ci]? = some (C, T, N)) (hin : ∀ w ∈ u_ws C T N, w ∈ dr_tbl) (hk : k < N) (hlink : Cond.fieldLink own index (T k).1 (T k).2.1 (T k).2.2.1 ∈ dr_tbl) (hv : (dr_fs ad s ci)[k]? = some v) (hdg : decode cc pc = .ok (.getfield index, 3)) (kk : dr_G p l e R s0 m args below meth c cells slots A H0 D cI cZ ad ln L nL Z (pc + 3) lv (v :: st) s F) : dr_G p l e R s0 m args below meth c cells slots A H0 D cI cZ ad ln L nL Z pc lv (.ref (ad ci) :: st) s F := by
  intro r s' hF H locs ls hP hS hl
  obtain ⟨q, hq⟩ := List.getElem?_of_mem hid
  exact va_get E.1 E.2.1 E.2.2.2.2.2.2.1 hin E.2.2.2.2.2.1 E.2.2.2.2.2.2.2.1 hP q ((dr_wget hq).trans (by rw [dr_eO hci])) hc k hk (E.2.2.2.2.2.2.1 _ hlink) (fun _ h => h) hv hdg (kk r s' hF H locs ls hP hS hl)
theorem g_put (E : dr_E p R s0 m args meth c cells slots A H0 D cI cZ ad L cc nL own ret) {C : String} {T : u_T} {N ci index k : Nat} {v : Int32} {s1 : dr_S} (hid : ci ∈ L) (hci : ci < 13) (hc : vwCl[ci]? = some (C, T, N)) (hin : ∀ w ∈ u_ws C T N, w ∈ dr_tbl) (ty0 : Nat → FieldType) (hty : ∀ k, k < N → parseFieldDescriptor (T k).2.2.1 = some (ty0 k)) (hnm : ∀ a, a < N → ∀ b, b < N → a ≠ b → (T a).2.1 ≠ (T b).2.1) (hk : k < N) (hlink : Cond.fieldLink own index (T k).1 (T k).2.1 (T k).2.2.1 ∈ dr_tbl) (hfin : (T k).2.2.2 = false) {ty : FieldType} (hd : parseFieldDescriptor (T k).2.2.1 = some ty) (hn : narrow ty (.int v) = .int v) (hfit : fits ty (.int v) = true) (hlen : k < (dr_fs ad s ci).length) (hset : (dr_fs ad s ci).set k (.int v) = dr_fs ad s1 ci) (hoth : ∀ j, j ≠ ci → dr_e cI cZ ad ln s j = dr_e cI cZ ad ln s1 j) (hdg : decode cc pc = .ok (.putfield index, 3)) {Kx : dr_S → Option (Int32 × dr_S)} (kk : ∀ s2 : dr_S, dr_G p l e R s0 m args below meth c cells slots A H0 D cI cZ ad ln L nL Z (pc + 3) lv st s2 (Kx s2)) : dr_G p l e R s0 m args below meth c cells slots A H0 D cI cZ ad ln L nL Z pc lv (.int v :: .ref (ad ci) :: st) s (dr_letS s1 Kx) := by
  intro r s' hF H locs ls hP hS hl
  obtain ⟨q, hq⟩ := List.getElem?_of_mem hid
  have hD := dr_wD (cI := cI) (cZ := cZ) (ln := ln) s E.2.2.2.2.2.2.2.2.1 E.2.2.2.2.2.2.2.2.2.1
  refine va_put E.1 E.2.1 E.2.2.2.2.2.2.1 hin ty0 hty hnm E.2.2.2.2.2.1 E.2.2.2.2.2.2.2.1 hP hD hS q ((dr_wget hq).trans (by rw [dr_eO hci])) hc k hk (E.2.2.2.2.2.2.1 _ hlink) (fun _ h => h) hfin hd hn hfit hlen hdg (fun H1 locs1 hP1 hD1 hS1 => ?_)
  refine kk _ r s' hF H1 locs1 ls ?_ hS1 hl
  have e := dr_wset (cI := cI) (cZ := cZ) (ad := ad) (ln := ln) (s := s) (s' := s1) E.2.2.2.2.2.2.2.2.1.1 hq (fun j _ hj => hoth j hj)
  rw [← e, dr_eO hci, ← hset]
  exact hP1
theorem g_iret (E : dr_E p R s0 m args meth c cells slots A s0.heap D cI cZ ad L cc nL own (some .int)) {v : Int32} (hdg : decode cc pc = .ok (.ireturn, 1)) : dr_G p l e R s0 m args below meth c cells slots A s0.heap D cI cZ ad ln L nL (dr_Zi D cI cZ ad ln L A below args s0 cells slots) pc lv [.int v] s (some (v, s)) := by
  intro r s' hF H locs ls hP hS hl
  cases hF
  exact W.iret (v := v) E.1 E.2.1 E.2.2.2.1 (fun t ht hW => ⟨⟨v, s, rfl, ⟨rfl, rfl⟩, (show va_P D vwCl (dr_w cI cZ ad ln L s) t.heap from by rw [ht]; exact hP)⟩, hS.F ht⟩) hS.2.2 hdg E.2.2.2.2.1
theorem g_zret (E : dr_E p R s0 m args meth c cells slots A s0.heap D cI cZ ad L cc nL own (some .boolean)) {v : Int32} (hdg : decode cc pc = .ok (.ireturn, 1)) (hv : v = 0 ∨ v = 1) : dr_G p l e R s0 m args below meth c cells slots A s0.heap D cI cZ ad ln L nL (dr_Zi D cI cZ ad ln L A below args s0 cells slots) pc lv [.int v] s (some (v, s)) := by
  intro r s' hF H locs ls hP hS hl
  cases hF
  exact W.zret (v := v) (ty := .boolean) E.1 E.2.1 E.2.2.2.1 (by rcases hv with rfl | rfl <;> rfl) (fun t ht hW => ⟨⟨v, s, rfl, ⟨rfl, rfl⟩, (show va_P D vwCl (dr_w cI cZ ad ln L s) t.heap from by rw [ht]; exact hP)⟩, hS.F ht⟩) hS.2.2 hdg E.2.2.2.2.1
theorem g_zretV (E : dr_E p R s0 m args meth c cells slots A s0.heap D cI cZ ad L cc nL own (some .boolean)) {v : Int32} (hdg : decode cc pc = .ok (.ireturn, 1)) : dr_G p l e R s0 m args below meth c cells slots A s0.heap D cI cZ ad ln L nL (dr_Zi D cI cZ ad ln L A below args s0 cells slots) pc lv [.int v] s (dr_rz v s) := by
  intro r s' hF H locs ls hP hS hl
  unfold dr_rz at hF
  split at hF
  · next h => exact g_zret E hdg h r s' hF H locs ls hP hS hl
  · cases hF
theorem g_vret (E : dr_E p R s0 m args meth c cells slots A s0.heap D cI cZ ad L cc nL own none) (hdg : decode cc pc = .ok (.return_, 1)) : dr_G p l e R s0 m args below meth c cells slots A s0.heap D cI cZ ad ln L nL (dr_Zv D cI cZ ad ln L A below args s0 cells slots) pc lv [] s (some (0, s)) := by
  intro r s' hF H locs ls hP hS hl
  cases hF
  exact W.vret E.1 E.2.1 E.2.2.2.1 (fun t ht hW => ⟨⟨s, rfl, rfl, (show va_P D vwCl (dr_w cI cZ ad ln L s) t.heap from by rw [ht]; exact hP)⟩, hS.F ht⟩) hS.2.2 hdg E.2.2.2.2.1
theorem dr_good : ∀ w ∈ dr_tbl, goodWord w = true := fun _ h => (List.mem_filter.mp h).2
theorem dr_goodC {y : MethodName} {bytes : ByteArray} {maxL : Nat} {ret2 : Option FieldType} (h : Cond.code y bytes maxL ret2 ∈ dr_tbl) : GoodIn dr_tbl (.code y bytes maxL ret2 :: dr_tbl) := by
  intro w hw
  rcases List.mem_cons.mp hw with rfl | hw
  · exact ⟨h, good_of_word (dr_good _ h)⟩
  · exact ⟨hw, good_of_word (dr_good _ hw)⟩
def dr_mw (y : MethodName) (bytes : ByteArray) (maxL : Nat) (ret2 : Option FieldType) (n : Nat) : Prop := Cond.code y bytes maxL ret2 ∈ dr_tbl ∧ Cond.initialized y.cls ∈ dr_tbl ∧ (y.cls ≠ "java/lang/invoke/MethodHandle" ∧ y.cls ≠ "java/lang/invoke/VarHandle" ∧ (parseMethodDescriptor y.desc).map (fun d => d.parameters.length) = some n)
theorem dr_frb {av : List Value} {sz : Nat} : FrameBlind (dr_Pc D cI cZ ad ln L av s sz) := fun a U g mk q => ⟨q.1, q.2.1, q.2.2.1, va_K.moved (u := U) (U := U.calling g mk a) (Vm.Alike.refl U.vm) q.2.2.2⟩
theorem dr_AA (E : dr_E p R s0 m args meth c cells slots A H0 D cI cZ ad L cc nL own ret) {H : Heap} {locs : List Loc} (hS : va_S A H0 H locs) : ∀ q, dr_A ad L H.size q → A q := by
  intro q h
  rcases h with ⟨id, h1, rfl⟩ | h
  · exact E.2.2.2.2.2.2.2.2.2.1 id h1
  · exact E.2.2.2.2.2.2.2.2.2.2.1 q (Nat.le_trans hS.1 h)
theorem g_callVi (E : dr_E p R s0 m args meth c cells slots A H0 D cI cZ ad L cc nL own ret) {stk : List Value} {C : String} {T : u_T} {N ci index n : Nat} {y : MethodName} {bytes : ByteArray} {maxL d : Nat} {ret2 : Option FieldType} (As : List Value) {Kx : Int32 → dr_S → Option (Int32 × dr_S)} (hst : stk = As.reverse ++ .ref (ad ci) :: st) (hM : dr_Mi l D cI cZ ad ln L y bytes maxL ret2 d (.ref (ad ci) :: As) s F1) (hid : ci ∈ L) (hci : ci < 13) (hc : vwCl[ci]? = some (C, T, N)) (hcy : y.cls = C) (hins : Cond.instanceMethod y ∈ dr_tbl) (hsel : Cond.selects y.cls y y ∈ dr_tbl) (hmw : dr_mw y bytes maxL ret2 n) (hn : As.length = n) (hlink : Cond.methodLink own index y ∈ dr_tbl) (hR : d + 1 ≤ R.frames ∧ 8 + (maxL + 11) + 64 * d ≤ R.locals) (hroom : (st.map fun v => v.category).sum ≤ 8) (hdg : decode cc pc = .ok (.invokevirtual index, 3)) (kk : ∀ (r1 : Int32) (s1 : dr_S), dr_G p l e R s0 m args below meth c cells slots A H0 D cI cZ ad ln L nL Z (pc + 3) lv (.int r1 :: st) s1 (Kx r1 s1)) : dr_G p l e R s0 m args below meth c cells slots A H0 D cI cZ ad ln L nL Z pc lv stk s (F1.bind (fun q => Kx q.1 q.2)) := by
  intro r s' hF H locs ls hP hS hl
  obtain ⟨⟨r1, s1⟩, h1, hK⟩ := Option.bind_eq_some_iff.mp hF
  subst hst
  obtain ⟨q, hq⟩ := List.getElem?_of_mem hid
  have cb := callB_of (own := own) (index := index) (R := R) (rm := dr_rm d) (mc := 0) (ms := 0) n E.2.2.2.2.2.2.1 (dr_goodC hmw.1) rfl rfl rfl (E.2.2.2.2.2.2.1 _ hmw.2.1) (E.2.2.2.2.2.2.1 _ hlink) hmw.2.2 hR
  refine va_calli (va_runV (As := As) (rest := st) ⟨E.1, E.2.1, E.2.2.1, E.2.2.2.2.2.1, E.2.2.2.2.2.2.1⟩ (hM r1 s1 h1 H.size) ⟨cb, E.2.2.2.2.2.2.1 _ hins, E.2.2.2.2.2.2.1 _ hsel⟩ ⟨dr_frb, hcy ▸ va_recv E.2.2.2.2.2.2.2.1 hP hc ((dr_wget hq).trans (by rw [dr_eO hci])), fun U hU hW => ⟨rfl, by rw [hU], by rw [hU]; exact hP, va_K.moved hW.alike E.2.2.2.2.2.2.2.1⟩⟩ rfl hn hl.1 rfl (lv_room hroom) hdg ⟨E.2.2.2.2.2.2.2.2.2.2.2.1, E.2.2.2.2.2.2.2.2.2.2.2.2⟩) hS (fun q _ h => dr_AA E hS q h) (dr_AA E hS) (fun r2 u t H1 locs1 ht hvm hw2 hB hz1 hk1 hS1 => ?_)
  obtain ⟨rfl, rfl⟩ := hw2
  exact kk r2 u r s' hK H1 locs1 ls (by rw [← ht]; exact hB) hS1 hl
theorem g_callSi (E : dr_E p R s0 m args meth c cells slots A H0 D cI cZ ad L cc nL own ret) {stk : List Value} {C : String} {T : u_T} {N ci index n : Nat} {y : MethodName} {bytes : ByteArray} {maxL d : Nat} {ret2 : Option FieldType} (As : List Value) {Kx : Int32 → dr_S → Option (Int32 × dr_S)} (hst : stk = As.reverse ++ st) (hM : dr_Mi l D cI cZ ad ln L y bytes maxL ret2 d As s F1) (hst2 : Cond.static y ∈ dr_tbl) (hmw : dr_mw y bytes maxL ret2 n) (hn : As.length = n) (hlink : Cond.methodLink own index y ∈ dr_tbl) (hR : d + 1 ≤ R.frames ∧ 8 + (maxL + 11) + 64 * d ≤ R.locals) (hroom : (st.map fun v => v.category).sum ≤ 8) (hdg : decode cc pc = .ok (.invokestatic index, 3)) (kk : ∀ (r1 : Int32) (s1 : dr_S), dr_G p l e R s0 m args below meth c cells slots A H0 D cI cZ ad ln L nL Z (pc + 3) lv (.int r1 :: st) s1 (Kx r1 s1)) : dr_G p l e R s0 m args below meth c cells slots A H0 D cI cZ ad ln L nL Z pc lv stk s (F1.bind (fun q => Kx q.1 q.2)) := by
  intro r s' hF H locs ls hP hS hl
  obtain ⟨⟨r1, s1⟩, h1, hK⟩ := Option.bind_eq_some_iff.mp hF
  subst hst
  have cb := callB_of (own := own) (index := index) (R := R) (rm := dr_rm d) (mc := 0) (ms := 0) n E.2.2.2.2.2.2.1 (dr_goodC hmw.1) rfl rfl rfl (E.2.2.2.2.2.2.1 _ hmw.2.1) (E.2.2.2.2.2.2.1 _ hlink) hmw.2.2 hR
  refine va_calli (va_runS (As := As) (rest := st) ⟨E.1, E.2.1, E.2.2.1, E.2.2.2.2.2.1, E.2.2.2.2.2.2.1⟩ (hM r1 s1 h1 H.size) ⟨cb, E.2.2.2.2.2.2.1 _ hst2⟩ ⟨dr_frb, fun U hU hW => ⟨rfl, by rw [hU], by rw [hU]; exact hP, va_K.moved hW.alike E.2.2.2.2.2.2.2.1⟩⟩ rfl hn hl.1 rfl (lv_room hroom) hdg ⟨E.2.2.2.2.2.2.2.2.2.2.2.1, E.2.2.2.2.2.2.2.2.2.2.2.2⟩) hS (fun q _ h => dr_AA E hS q h) (dr_AA E hS) (fun r2 u t H1 locs1 ht hvm hw2 hB hz1 hk1 hS1 => ?_)
  obtain ⟨rfl, rfl⟩ := hw2
  exact kk r2 u r s' hK H1 locs1 ls (by rw [← ht]; exact hB) hS1 hl
theorem g_callVv (E : dr_E p R s0 m args meth c cells slots A H0 D cI cZ ad L cc nL own ret) {stk : List Value} {C : String} {T : u_T} {N ci index n : Nat} {y : MethodName} {bytes : ByteArray} {maxL d : Nat} {ret2 : Option FieldType} (As : List Value) {Kx : dr_S → Option (Int32 × dr_S)} (hst : stk = As.reverse ++ .ref (ad ci) :: st) (hM : dr_Mv l D cI cZ ad ln L y bytes maxL d (.ref (ad ci) :: As) s F1) (hid : ci ∈ L) (hci : ci < 13) (hc : vwCl[ci]? = some (C, T, N)) (hcy : y.cls = C) (hins : Cond.instanceMethod y ∈ dr_tbl) (hsel : Cond.selects y.cls y y ∈ dr_tbl) (hmw : dr_mw y bytes maxL none n) (hn : As.length = n) (hlink : Cond.methodLink own index y ∈ dr_tbl) (hR : d + 1 ≤ R.frames ∧ 8 + (maxL + 11) + 64 * d ≤ R.locals) (hroom : (st.map fun v => v.category).sum ≤ 8) (hdg : decode cc pc = .ok (.invokevirtual index, 3)) (kk : ∀ (s1 : dr_S), dr_G p l e R s0 m args below meth c cells slots A H0 D cI cZ ad ln L nL Z (pc + 3) lv st s1 (Kx s1)) : dr_G p l e R s0 m args below meth c cells slots A H0 D cI cZ ad ln L nL Z pc lv stk s (F1.bind (fun q => Kx q.2)) := by
  intro r s' hF H locs ls hP hS hl
  obtain ⟨⟨r1, s1⟩, h1, hK⟩ := Option.bind_eq_some_iff.mp hF
  subst hst
  obtain ⟨q, hq⟩ := List.getElem?_of_mem hid
  have cb := callB_of (own := own) (index := index) (R := R) (rm := dr_rm d) (mc := 0) (ms := 0) n E.2.2.2.2.2.2.1 (dr_goodC hmw.1) rfl rfl rfl (E.2.2.2.2.2.2.1 _ hmw.2.1) (E.2.2.2.2.2.2.1 _ hlink) hmw.2.2 hR
  refine va_callv (va_runV (As := As) (rest := st) ⟨E.1, E.2.1, E.2.2.1, E.2.2.2.2.2.1, E.2.2.2.2.2.2.1⟩ (hM r1 s1 h1 H.size) ⟨cb, E.2.2.2.2.2.2.1 _ hins, E.2.2.2.2.2.2.1 _ hsel⟩ ⟨dr_frb, hcy ▸ va_recv E.2.2.2.2.2.2.2.1 hP hc ((dr_wget hq).trans (by rw [dr_eO hci])), fun U hU hW => ⟨rfl, by rw [hU], by rw [hU]; exact hP, va_K.moved hW.alike E.2.2.2.2.2.2.2.1⟩⟩ rfl hn hl.1 rfl (lv_room hroom) hdg ⟨E.2.2.2.2.2.2.2.2.2.2.2.1, E.2.2.2.2.2.2.2.2.2.2.2.2⟩) hS (fun q _ h => dr_AA E hS q h) (dr_AA E hS) (fun u t H1 locs1 ht hvm hw2 hB hz1 hk1 hS1 => ?_)
  subst hw2
  exact kk u r s' hK H1 locs1 ls (by rw [← ht]; exact hB) hS1 hl
theorem g_callSv (E : dr_E p R s0 m args meth c cells slots A H0 D cI cZ ad L cc nL own ret) {stk : List Value} {C : String} {T : u_T} {N ci index n : Nat} {y : MethodName} {bytes : ByteArray} {maxL d : Nat} {ret2 : Option FieldType} (As : List Value) {Kx : dr_S → Option (Int32 × dr_S)} (hst : stk = As.reverse ++ st) (hM : dr_Mv l D cI cZ ad ln L y bytes maxL d As s F1) (hst2 : Cond.static y ∈ dr_tbl) (hmw : dr_mw y bytes maxL none n) (hn : As.length = n) (hlink : Cond.methodLink own index y ∈ dr_tbl) (hR : d + 1 ≤ R.frames ∧ 8 + (maxL + 11) + 64 * d ≤ R.locals) (hroom : (st.map fun v => v.category).sum ≤ 8) (hdg : decode cc pc = .ok (.invokestatic index, 3)) (kk : ∀ (s1 : dr_S), dr_G p l e R s0 m args below meth c cells slots A H0 D cI cZ ad ln L nL Z (pc + 3) lv st s1 (Kx s1)) : dr_G p l e R s0 m args below meth c cells slots A H0 D cI cZ ad ln L nL Z pc lv stk s (F1.bind (fun q => Kx q.2)) := by
  intro r s' hF H locs ls hP hS hl
  obtain ⟨⟨r1, s1⟩, h1, hK⟩ := Option.bind_eq_some_iff.mp hF
  subst hst
  have cb := callB_of (own := own) (index := index) (R := R) (rm := dr_rm d) (mc := 0) (ms := 0) n E.2.2.2.2.2.2.1 (dr_goodC hmw.1) rfl rfl rfl (E.2.2.2.2.2.2.1 _ hmw.2.1) (E.2.2.2.2.2.2.1 _ hlink) hmw.2.2 hR
  refine va_callv (va_runS (As := As) (rest := st) ⟨E.1, E.2.1, E.2.2.1, E.2.2.2.2.2.1, E.2.2.2.2.2.2.1⟩ (hM r1 s1 h1 H.size) ⟨cb, E.2.2.2.2.2.2.1 _ hst2⟩ ⟨dr_frb, fun U hU hW => ⟨rfl, by rw [hU], by rw [hU]; exact hP, va_K.moved hW.alike E.2.2.2.2.2.2.2.1⟩⟩ rfl hn hl.1 rfl (lv_room hroom) hdg ⟨E.2.2.2.2.2.2.2.2.2.2.2.1, E.2.2.2.2.2.2.2.2.2.2.2.2⟩) hS (fun q _ h => dr_AA E hS q h) (dr_AA E hS) (fun u t H1 locs1 ht hvm hw2 hB hz1 hk1 hS1 => ?_)
  subst hw2
  exact kk u r s' hK H1 locs1 ls (by rw [← ht]; exact hB) hS1 hl
theorem dr_meti {y : MethodName} {d : Nat} {av : List Value} (hy : plainName y.cls = true) (hown : y.cls = own) (hlen : (lg_sl av).length ≤ nL) (hap : dr_ap ad L) (body : ∀ (p : Program) (e : Env) (s0 : State) (m : MethodId) (args : Array Value) (below : List Frame) (meth : Method) (c : Code) (A : Nat → Prop), dr_E p (dr_rm d) s0 m args meth c 0 0 A s0.heap D cI cZ ad L cc nL own ret → dr_G p l e (dr_rm d) s0 m args below meth c 0 0 A s0.heap D cI cZ ad ln L nL (dr_Zi D cI cZ ad ln L A below args s0 0 0) 0 (lv_args 0 av) [] s F) : dr_Mi l D cI cZ ad ln L y cc nL ret d av s F := by
  intro r s' hF sz
  refine Met.ofW (cc := cc) (maxL := nL) (ret := ret) hy rfl ?_
  intro p e s0 m args below meth c s₁ B hml hv
  obtain ⟨rfl, hsz, hP, hK⟩ := hv
  have hts := atoms_spec (ws := .code y cc nL ret :: dr_tbl) B.pre
  have hown' : s0.vm.findClass own = some m.cls := hown ▸ findClass_of_methodNamed B.named
  subst hsz
  have hE : dr_E p (dr_rm d) s0 m av.toArray meth c 0 0 (dr_A ad L s0.heap.size) s0.heap D cI cZ ad L cc nL own ret := ⟨B.exec, B.bytes, hml, B.returns, B.notSynchronized, hown', fun w hw => hts w (List.mem_cons_of_mem _ hw), hK, hap, fun id h => Or.inl ⟨id, h, rfl⟩, fun q h => Or.inr h, Nat.le_refl _, Nat.le_refl _⟩
  rw [lg_entry_eq]
  exact body p e s0 m _ below meth c (dr_A ad L s0.heap.size) hE r s' hF s0.heap [] _ hP va_S.rf (lv_entry av hlen)
theorem dr_metv {y : MethodName} {d : Nat} {av : List Value} (hy : plainName y.cls = true) (hown : y.cls = own) (hlen : (lg_sl av).length ≤ nL) (hap : dr_ap ad L) (body : ∀ (p : Program) (e : Env) (s0 : State) (m : MethodId) (args : Array Value) (below : List Frame) (meth : Method) (c : Code) (A : Nat → Prop), dr_E p (dr_rm d) s0 m args meth c 0 0 A s0.heap D cI cZ ad L cc nL own none → dr_G p l e (dr_rm d) s0 m args below meth c 0 0 A s0.heap D cI cZ ad ln L nL (dr_Zv D cI cZ ad ln L A below args s0 0 0) 0 (lv_args 0 av) [] s F) : dr_Mv l D cI cZ ad ln L y cc nL d av s F := by
  intro r s' hF sz
  refine Met.ofW (cc := cc) (maxL := nL) (ret := none) hy rfl ?_
  intro p e s0 m args below meth c s₁ B hml hv
  obtain ⟨rfl, hsz, hP, hK⟩ := hv
  have hts := atoms_spec (ws := .code y cc nL none :: dr_tbl) B.pre
  have hown' : s0.vm.findClass own = some m.cls := hown ▸ findClass_of_methodNamed B.named
  subst hsz
  have hE : dr_E p (dr_rm d) s0 m av.toArray meth c 0 0 (dr_A ad L s0.heap.size) s0.heap D cI cZ ad L cc nL own none := ⟨B.exec, B.bytes, hml, B.returns, B.notSynchronized, hown', fun w hw => hts w (List.mem_cons_of_mem _ hw), hK, hap, fun id h => Or.inl ⟨id, h, rfl⟩, fun q h => Or.inr h, Nat.le_refl _, Nat.le_refl _⟩
  rw [lg_entry_eq]
  exact body p e s0 m _ below meth c (dr_A ad L s0.heap.size) hE r s' hF s0.heap [] _ hP va_S.rf (lv_entry av hlen)
end DR
end
section
theorem wu_0 : ∀ w ∈ u_ws RX0 TX0 2, w ∈ dr_tbl := by
  intro w hw
  obtain ⟨k, hk, rfl⟩ := List.mem_map.mp hw
  have hk := List.mem_range.mp hk
  have h1 : ∀ k, k < 2 → lw_tbl[([370, 372] : List Nat).getD k 0]? = some (u_lay RX0 TX0 k) := by decide +kernel
  have h2 : ∀ k, k < 2 → goodWord (u_lay RX0 TX0 k) = true := by decide +kernel
  exact dr_in (h1 k hk) (h2 k hk)
theorem wi_0 : Cond.initialized RX0 ∈ dr_tbl := dr_in (i := 79) (by decide +kernel) (by decide +kernel)
theorem wu_1 : ∀ w ∈ u_ws RX1 TX1 4, w ∈ dr_tbl := by
  intro w hw
  obtain ⟨k, hk, rfl⟩ := List.mem_map.mp hw
  have hk := List.mem_range.mp hk
  have h1 : ∀ k, k < 4 → lw_tbl[([272, 274, 276, 278] : List Nat).getD k 0]? = some (u_lay RX1 TX1 k) := by decide +kernel
  have h2 : ∀ k, k < 4 → goodWord (u_lay RX1 TX1 k) = true := by decide +kernel
  exact dr_in (h1 k hk) (h2 k hk)
theorem wi_1 : Cond.initialized RX1 ∈ dr_tbl := dr_in (i := 75) (by decide +kernel) (by decide +kernel)
theorem wu_2 : ∀ w ∈ u_ws RX2 TX2 5, w ∈ dr_tbl := by
  intro w hw
  obtain ⟨k, hk, rfl⟩ := List.mem_map.mp hw
  have hk := List.mem_range.mp hk
  have h1 : ∀ k, k < 5 → lw_tbl[([115, 117, 119, 121, 123] : List Nat).getD k 0]? = some (u_lay RX2 TX2 k) := by decide +kernel
  have h2 : ∀ k, k < 5 → goodWord (u_lay RX2 TX2 k) = true := by decide +kernel
  exact dr_in (h1 k hk) (h2 k hk)
theorem wi_2 : Cond.initialized RX2 ∈ dr_tbl := dr_in (i := 70) (by decide +kernel) (by decide +kernel)
theorem wu_3 : ∀ w ∈ u_ws RX3 TX3 2, w ∈ dr_tbl := by
  intro w hw
  obtain ⟨k, hk, rfl⟩ := List.mem_map.mp hw
  have hk := List.mem_range.mp hk
  have h1 : ∀ k, k < 2 → lw_tbl[([222, 224] : List Nat).getD k 0]? = some (u_lay RX3 TX3 k) := by decide +kernel
  have h2 : ∀ k, k < 2 → goodWord (u_lay RX3 TX3 k) = true := by decide +kernel
  exact dr_in (h1 k hk) (h2 k hk)
theorem wi_3 : Cond.initialized RX3 ∈ dr_tbl := dr_in (i := 72) (by decide +kernel) (by decide +kernel)
theorem wu_4 : ∀ w ∈ u_ws RX4 TX4 7, w ∈ dr_tbl := by
  intro w hw
  obtain ⟨k, hk, rfl⟩ := List.mem_map.mp hw
  have hk := List.mem_range.mp hk
  have h1 : ∀ k, k < 7 → lw_tbl[([190, 192, 194, 196, 198, 200, 202] : List Nat).getD k 0]? = some (u_lay RX4 TX4 k) := by decide +kernel
  have h2 : ∀ k, k < 7 → goodWord (u_lay RX4 TX4 k) = true := by decide +kernel
  exact dr_in (h1 k hk) (h2 k hk)
theorem wi_4 : Cond.initialized RX4 ∈ dr_tbl := dr_in (i := 69) (by decide +kernel) (by decide +kernel)
theorem wu_5 : ∀ w ∈ u_ws RX5 TX5 5, w ∈ dr_tbl := by
  intro w hw
  obtain ⟨k, hk, rfl⟩ := List.mem_map.mp hw
  have hk := List.mem_range.mp hk
  have h1 : ∀ k, k < 5 → lw_tbl[([138, 140, 142, 144, 146] : List Nat).getD k 0]? = some (u_lay RX5 TX5 k) := by decide +kernel
  have h2 : ∀ k, k < 5 → goodWord (u_lay RX5 TX5 k) = true := by decide +kernel
  exact dr_in (h1 k hk) (h2 k hk)
theorem wi_5 : Cond.initialized RX5 ∈ dr_tbl := dr_in (i := 71) (by decide +kernel) (by decide +kernel)
theorem wu_6 : ∀ w ∈ u_ws RX6 TX6 4, w ∈ dr_tbl := by
  intro w hw
  obtain ⟨k, hk, rfl⟩ := List.mem_map.mp hw
  have hk := List.mem_range.mp hk
  have h1 : ∀ k, k < 4 → lw_tbl[([237, 239, 241, 243] : List Nat).getD k 0]? = some (u_lay RX6 TX6 k) := by decide +kernel
  have h2 : ∀ k, k < 4 → goodWord (u_lay RX6 TX6 k) = true := by decide +kernel
  exact dr_in (h1 k hk) (h2 k hk)
theorem wi_6 : Cond.initialized RX6 ∈ dr_tbl := dr_in (i := 73) (by decide +kernel) (by decide +kernel)
theorem wu_7 : ∀ w ∈ u_ws RX7 TX7 9, w ∈ dr_tbl := by
  intro w hw
  obtain ⟨k, hk, rfl⟩ := List.mem_map.mp hw
  have hk := List.mem_range.mp hk
  have h1 : ∀ k, k < 9 → lw_tbl[([296, 298, 300, 302, 304, 306, 308, 310, 312] : List Nat).getD k 0]? = some (u_lay RX7 TX7 k) := by decide +kernel
  have h2 : ∀ k, k < 9 → goodWord (u_lay RX7 TX7 k) = true := by decide +kernel
  exact dr_in (h1 k hk) (h2 k hk)
theorem wi_7 : Cond.initialized RX7 ∈ dr_tbl := dr_in (i := 76) (by decide +kernel) (by decide +kernel)
theorem wu_8 : ∀ w ∈ u_ws RX8 TX8 9, w ∈ dr_tbl := by
  intro w hw
  obtain ⟨k, hk, rfl⟩ := List.mem_map.mp hw
  have hk := List.mem_range.mp hk
  have h1 : ∀ k, k < 9 → lw_tbl[([343, 345, 347, 349, 351, 353, 355, 357, 359] : List Nat).getD k 0]? = some (u_lay RX8 TX8 k) := by decide +kernel
  have h2 : ∀ k, k < 9 → goodWord (u_lay RX8 TX8 k) = true := by decide +kernel
  exact dr_in (h1 k hk) (h2 k hk)
theorem wi_8 : Cond.initialized RX8 ∈ dr_tbl := dr_in (i := 78) (by decide +kernel) (by decide +kernel)
theorem wu_9 : ∀ w ∈ u_ws RX9 TX9 2, w ∈ dr_tbl := by
  intro w hw
  obtain ⟨k, hk, rfl⟩ := List.mem_map.mp hw
  have hk := List.mem_range.mp hk
  have h1 : ∀ k, k < 2 → lw_tbl[([323, 325] : List Nat).getD k 0]? = some (u_lay RX9 TX9 k) := by decide +kernel
  have h2 : ∀ k, k < 2 → goodWord (u_lay RX9 TX9 k) = true := by decide +kernel
  exact dr_in (h1 k hk) (h2 k hk)
theorem wi_9 : Cond.initialized RX9 ∈ dr_tbl := dr_in (i := 77) (by decide +kernel) (by decide +kernel)
theorem wu_10 : ∀ w ∈ u_ws RX10 TX10 3, w ∈ dr_tbl := by
  intro w hw
  obtain ⟨k, hk, rfl⟩ := List.mem_map.mp hw
  have hk := List.mem_range.mp hk
  have h1 : ∀ k, k < 3 → lw_tbl[([255, 257, 259] : List Nat).getD k 0]? = some (u_lay RX10 TX10 k) := by decide +kernel
  have h2 : ∀ k, k < 3 → goodWord (u_lay RX10 TX10 k) = true := by decide +kernel
  exact dr_in (h1 k hk) (h2 k hk)
theorem wi_10 : Cond.initialized RX10 ∈ dr_tbl := dr_in (i := 74) (by decide +kernel) (by decide +kernel)
theorem wu_11 : ∀ w ∈ u_ws RX11 TX11 10, w ∈ dr_tbl := by
  intro w hw
  obtain ⟨k, hk, rfl⟩ := List.mem_map.mp hw
  have hk := List.mem_range.mp hk
  have h1 : ∀ k, k < 10 → lw_tbl[([385, 387, 389, 391, 393, 395, 397, 399, 401, 403] : List Nat).getD k 0]? = some (u_lay RX11 TX11 k) := by decide +kernel
  have h2 : ∀ k, k < 10 → goodWord (u_lay RX11 TX11 k) = true := by decide +kernel
  exact dr_in (h1 k hk) (h2 k hk)
theorem wi_11 : Cond.initialized RX11 ∈ dr_tbl := dr_in (i := 67) (by decide +kernel) (by decide +kernel)
theorem wu_12 : ∀ w ∈ u_ws RX12 TX12 59, w ∈ dr_tbl := by
  intro w hw
  obtain ⟨k, hk, rfl⟩ := List.mem_map.mp hw
  have hk := List.mem_range.mp hk
  have h1 : ∀ k, k < 59 → lw_tbl[([966, 968, 970, 972, 974, 976, 978, 980, 982, 984, 986, 988, 990, 992, 994, 996, 998, 1000, 1002, 1004, 1006, 1008, 1010, 1012, 1014, 1016, 1018, 1020, 1022, 1024, 1026, 1028, 1030, 1032, 1034, 1036, 1038, 1040, 1042, 1044, 1046, 1048, 1050, 1052, 1054, 1056, 1058, 1060, 1062, 1064, 1066, 1068, 1070, 1072, 1074, 1076, 1078, 1080, 1082] : List Nat).getD k 0]? = some (u_lay RX12 TX12 k) := by decide +kernel
  have h2 : ∀ k, k < 59 → goodWord (u_lay RX12 TX12 k) = true := by decide +kernel
  exact dr_in (h1 k hk) (h2 k hk)
theorem wi_12 : Cond.initialized RX12 ∈ dr_tbl := dr_in (i := 80) (by decide +kernel) (by decide +kernel)
theorem wf_2_32 : Cond.fieldLink RX2 32 (TX2 0).1 (TX2 0).2.1 (TX2 0).2.2.1 ∈ dr_tbl := dr_in (i := 110) (by decide +kernel) (by decide +kernel)
theorem wf_2_11 : Cond.fieldLink RX2 11 (TX2 1).1 (TX2 1).2.1 (TX2 1).2.2.1 ∈ dr_tbl := dr_in (i := 111) (by decide +kernel) (by decide +kernel)
theorem wf_2_15 : Cond.fieldLink RX2 15 (TX2 2).1 (TX2 2).2.1 (TX2 2).2.2.1 ∈ dr_tbl := dr_in (i := 112) (by decide +kernel) (by decide +kernel)
theorem wf_2_18 : Cond.fieldLink RX2 18 (TX2 3).1 (TX2 3).2.1 (TX2 3).2.2.1 ∈ dr_tbl := dr_in (i := 113) (by decide +kernel) (by decide +kernel)
theorem wf_2_22 : Cond.fieldLink RX2 22 (TX2 4).1 (TX2 4).2.1 (TX2 4).2.2.1 ∈ dr_tbl := dr_in (i := 114) (by decide +kernel) (by decide +kernel)
theorem wf_5_11 : Cond.fieldLink RX5 11 (TX5 0).1 (TX5 0).2.1 (TX5 0).2.2.1 ∈ dr_tbl := dr_in (i := 133) (by decide +kernel) (by decide +kernel)
theorem wf_5_15 : Cond.fieldLink RX5 15 (TX5 1).1 (TX5 1).2.1 (TX5 1).2.2.1 ∈ dr_tbl := dr_in (i := 134) (by decide +kernel) (by decide +kernel)
theorem wf_5_18 : Cond.fieldLink RX5 18 (TX5 2).1 (TX5 2).2.1 (TX5 2).2.2.1 ∈ dr_tbl := dr_in (i := 135) (by decide +kernel) (by decide +kernel)
theorem wf_5_21 : Cond.fieldLink RX5 21 (TX5 3).1 (TX5 3).2.1 (TX5 3).2.2.1 ∈ dr_tbl := dr_in (i := 136) (by decide +kernel) (by decide +kernel)
theorem wf_5_25 : Cond.fieldLink RX5 25 (TX5 4).1 (TX5 4).2.1 (TX5 4).2.2.1 ∈ dr_tbl := dr_in (i := 137) (by decide +kernel) (by decide +kernel)
theorem wf_4_9 : Cond.fieldLink RX4 9 (TX4 0).1 (TX4 0).2.1 (TX4 0).2.2.1 ∈ dr_tbl := dr_in (i := 183) (by decide +kernel) (by decide +kernel)
theorem wf_4_15 : Cond.fieldLink RX4 15 (TX4 1).1 (TX4 1).2.1 (TX4 1).2.2.1 ∈ dr_tbl := dr_in (i := 184) (by decide +kernel) (by decide +kernel)
theorem wf_4_19 : Cond.fieldLink RX4 19 (TX4 2).1 (TX4 2).2.1 (TX4 2).2.2.1 ∈ dr_tbl := dr_in (i := 185) (by decide +kernel) (by decide +kernel)
theorem wf_4_27 : Cond.fieldLink RX4 27 (TX4 3).1 (TX4 3).2.1 (TX4 3).2.2.1 ∈ dr_tbl := dr_in (i := 186) (by decide +kernel) (by decide +kernel)
theorem wf_4_30 : Cond.fieldLink RX4 30 (TX4 4).1 (TX4 4).2.1 (TX4 4).2.2.1 ∈ dr_tbl := dr_in (i := 187) (by decide +kernel) (by decide +kernel)
theorem wf_4_33 : Cond.fieldLink RX4 33 (TX4 5).1 (TX4 5).2.1 (TX4 5).2.2.1 ∈ dr_tbl := dr_in (i := 188) (by decide +kernel) (by decide +kernel)
theorem wf_4_36 : Cond.fieldLink RX4 36 (TX4 6).1 (TX4 6).2.1 (TX4 6).2.2.1 ∈ dr_tbl := dr_in (i := 189) (by decide +kernel) (by decide +kernel)
theorem wf_3_11 : Cond.fieldLink RX3 11 (TX3 0).1 (TX3 0).2.1 (TX3 0).2.2.1 ∈ dr_tbl := dr_in (i := 220) (by decide +kernel) (by decide +kernel)
theorem wf_3_15 : Cond.fieldLink RX3 15 (TX3 1).1 (TX3 1).2.1 (TX3 1).2.2.1 ∈ dr_tbl := dr_in (i := 221) (by decide +kernel) (by decide +kernel)
theorem wf_6_11 : Cond.fieldLink RX6 11 (TX6 0).1 (TX6 0).2.1 (TX6 0).2.2.1 ∈ dr_tbl := dr_in (i := 233) (by decide +kernel) (by decide +kernel)
theorem wf_6_15 : Cond.fieldLink RX6 15 (TX6 1).1 (TX6 1).2.1 (TX6 1).2.2.1 ∈ dr_tbl := dr_in (i := 234) (by decide +kernel) (by decide +kernel)
theorem wf_6_19 : Cond.fieldLink RX6 19 (TX6 2).1 (TX6 2).2.1 (TX6 2).2.2.1 ∈ dr_tbl := dr_in (i := 235) (by decide +kernel) (by decide +kernel)
theorem wf_6_22 : Cond.fieldLink RX6 22 (TX6 3).1 (TX6 3).2.1 (TX6 3).2.2.1 ∈ dr_tbl := dr_in (i := 236) (by decide +kernel) (by decide +kernel)
theorem wf_10_9 : Cond.fieldLink RX10 9 (TX10 0).1 (TX10 0).2.1 (TX10 0).2.2.1 ∈ dr_tbl := dr_in (i := 252) (by decide +kernel) (by decide +kernel)
theorem wf_10_15 : Cond.fieldLink RX10 15 (TX10 1).1 (TX10 1).2.1 (TX10 1).2.2.1 ∈ dr_tbl := dr_in (i := 253) (by decide +kernel) (by decide +kernel)
theorem wf_10_19 : Cond.fieldLink RX10 19 (TX10 2).1 (TX10 2).2.1 (TX10 2).2.2.1 ∈ dr_tbl := dr_in (i := 254) (by decide +kernel) (by decide +kernel)
theorem wf_1_19 : Cond.fieldLink RX1 19 (TX1 0).1 (TX1 0).2.1 (TX1 0).2.2.1 ∈ dr_tbl := dr_in (i := 268) (by decide +kernel) (by decide +kernel)
theorem wf_1_23 : Cond.fieldLink RX1 23 (TX1 1).1 (TX1 1).2.1 (TX1 1).2.2.1 ∈ dr_tbl := dr_in (i := 269) (by decide +kernel) (by decide +kernel)
theorem wf_1_9 : Cond.fieldLink RX1 9 (TX1 2).1 (TX1 2).2.1 (TX1 2).2.2.1 ∈ dr_tbl := dr_in (i := 270) (by decide +kernel) (by decide +kernel)
theorem wf_1_15 : Cond.fieldLink RX1 15 (TX1 3).1 (TX1 3).2.1 (TX1 3).2.2.1 ∈ dr_tbl := dr_in (i := 271) (by decide +kernel) (by decide +kernel)
theorem wf_7_37 : Cond.fieldLink RX7 37 (TX7 0).1 (TX7 0).2.1 (TX7 0).2.2.1 ∈ dr_tbl := dr_in (i := 287) (by decide +kernel) (by decide +kernel)
theorem wf_7_11 : Cond.fieldLink RX7 11 (TX7 1).1 (TX7 1).2.1 (TX7 1).2.2.1 ∈ dr_tbl := dr_in (i := 288) (by decide +kernel) (by decide +kernel)
theorem wf_7_15 : Cond.fieldLink RX7 15 (TX7 2).1 (TX7 2).2.1 (TX7 2).2.2.1 ∈ dr_tbl := dr_in (i := 289) (by decide +kernel) (by decide +kernel)
theorem wf_7_18 : Cond.fieldLink RX7 18 (TX7 3).1 (TX7 3).2.1 (TX7 3).2.2.1 ∈ dr_tbl := dr_in (i := 290) (by decide +kernel) (by decide +kernel)
theorem wf_7_21 : Cond.fieldLink RX7 21 (TX7 4).1 (TX7 4).2.1 (TX7 4).2.2.1 ∈ dr_tbl := dr_in (i := 291) (by decide +kernel) (by decide +kernel)
theorem wf_7_24 : Cond.fieldLink RX7 24 (TX7 5).1 (TX7 5).2.1 (TX7 5).2.2.1 ∈ dr_tbl := dr_in (i := 292) (by decide +kernel) (by decide +kernel)
theorem wf_7_27 : Cond.fieldLink RX7 27 (TX7 6).1 (TX7 6).2.1 (TX7 6).2.2.1 ∈ dr_tbl := dr_in (i := 293) (by decide +kernel) (by decide +kernel)
theorem wf_7_30 : Cond.fieldLink RX7 30 (TX7 7).1 (TX7 7).2.1 (TX7 7).2.2.1 ∈ dr_tbl := dr_in (i := 294) (by decide +kernel) (by decide +kernel)
theorem wf_7_33 : Cond.fieldLink RX7 33 (TX7 8).1 (TX7 8).2.1 (TX7 8).2.2.1 ∈ dr_tbl := dr_in (i := 295) (by decide +kernel) (by decide +kernel)
theorem wf_9_9 : Cond.fieldLink RX9 9 (TX9 0).1 (TX9 0).2.1 (TX9 0).2.2.1 ∈ dr_tbl := dr_in (i := 321) (by decide +kernel) (by decide +kernel)
theorem wf_9_15 : Cond.fieldLink RX9 15 (TX9 1).1 (TX9 1).2.1 (TX9 1).2.2.1 ∈ dr_tbl := dr_in (i := 322) (by decide +kernel) (by decide +kernel)
theorem wf_8_22 : Cond.fieldLink RX8 22 (TX8 0).1 (TX8 0).2.1 (TX8 0).2.2.1 ∈ dr_tbl := dr_in (i := 334) (by decide +kernel) (by decide +kernel)
theorem wf_8_26 : Cond.fieldLink RX8 26 (TX8 1).1 (TX8 1).2.1 (TX8 1).2.2.1 ∈ dr_tbl := dr_in (i := 335) (by decide +kernel) (by decide +kernel)
theorem wf_8_30 : Cond.fieldLink RX8 30 (TX8 2).1 (TX8 2).2.1 (TX8 2).2.2.1 ∈ dr_tbl := dr_in (i := 336) (by decide +kernel) (by decide +kernel)
theorem wf_8_34 : Cond.fieldLink RX8 34 (TX8 3).1 (TX8 3).2.1 (TX8 3).2.2.1 ∈ dr_tbl := dr_in (i := 337) (by decide +kernel) (by decide +kernel)
theorem wf_8_38 : Cond.fieldLink RX8 38 (TX8 4).1 (TX8 4).2.1 (TX8 4).2.2.1 ∈ dr_tbl := dr_in (i := 338) (by decide +kernel) (by decide +kernel)
theorem wf_8_42 : Cond.fieldLink RX8 42 (TX8 5).1 (TX8 5).2.1 (TX8 5).2.2.1 ∈ dr_tbl := dr_in (i := 339) (by decide +kernel) (by decide +kernel)
theorem wf_8_9 : Cond.fieldLink RX8 9 (TX8 6).1 (TX8 6).2.1 (TX8 6).2.2.1 ∈ dr_tbl := dr_in (i := 340) (by decide +kernel) (by decide +kernel)
theorem wf_8_15 : Cond.fieldLink RX8 15 (TX8 7).1 (TX8 7).2.1 (TX8 7).2.2.1 ∈ dr_tbl := dr_in (i := 341) (by decide +kernel) (by decide +kernel)
theorem wf_8_19 : Cond.fieldLink RX8 19 (TX8 8).1 (TX8 8).2.1 (TX8 8).2.2.1 ∈ dr_tbl := dr_in (i := 342) (by decide +kernel) (by decide +kernel)
theorem wf_0_9 : Cond.fieldLink RX0 9 (TX0 0).1 (TX0 0).2.1 (TX0 0).2.2.1 ∈ dr_tbl := dr_in (i := 368) (by decide +kernel) (by decide +kernel)
theorem wf_0_15 : Cond.fieldLink RX0 15 (TX0 1).1 (TX0 1).2.1 (TX0 1).2.2.1 ∈ dr_tbl := dr_in (i := 369) (by decide +kernel) (by decide +kernel)
theorem wf_11_34 : Cond.fieldLink RX11 34 (TX11 0).1 (TX11 0).2.1 (TX11 0).2.2.1 ∈ dr_tbl := dr_in (i := 375) (by decide +kernel) (by decide +kernel)
theorem wf_11_43 : Cond.fieldLink RX11 43 (TX11 1).1 (TX11 1).2.1 (TX11 1).2.2.1 ∈ dr_tbl := dr_in (i := 376) (by decide +kernel) (by decide +kernel)
theorem wf_11_50 : Cond.fieldLink RX11 50 (TX11 2).1 (TX11 2).2.1 (TX11 2).2.2.1 ∈ dr_tbl := dr_in (i := 377) (by decide +kernel) (by decide +kernel)
theorem wf_11_55 : Cond.fieldLink RX11 55 (TX11 3).1 (TX11 3).2.1 (TX11 3).2.2.1 ∈ dr_tbl := dr_in (i := 378) (by decide +kernel) (by decide +kernel)
theorem wf_11_64 : Cond.fieldLink RX11 64 (TX11 4).1 (TX11 4).2.1 (TX11 4).2.2.1 ∈ dr_tbl := dr_in (i := 379) (by decide +kernel) (by decide +kernel)
theorem wf_11_73 : Cond.fieldLink RX11 73 (TX11 5).1 (TX11 5).2.1 (TX11 5).2.2.1 ∈ dr_tbl := dr_in (i := 380) (by decide +kernel) (by decide +kernel)
theorem wf_11_82 : Cond.fieldLink RX11 82 (TX11 6).1 (TX11 6).2.1 (TX11 6).2.2.1 ∈ dr_tbl := dr_in (i := 381) (by decide +kernel) (by decide +kernel)
theorem wf_11_89 : Cond.fieldLink RX11 89 (TX11 7).1 (TX11 7).2.1 (TX11 7).2.2.1 ∈ dr_tbl := dr_in (i := 382) (by decide +kernel) (by decide +kernel)
theorem wf_11_98 : Cond.fieldLink RX11 98 (TX11 8).1 (TX11 8).2.1 (TX11 8).2.2.1 ∈ dr_tbl := dr_in (i := 383) (by decide +kernel) (by decide +kernel)
theorem wf_11_107 : Cond.fieldLink RX11 107 (TX11 9).1 (TX11 9).2.1 (TX11 9).2.2.1 ∈ dr_tbl := dr_in (i := 384) (by decide +kernel) (by decide +kernel)
theorem wf_12_152 : Cond.fieldLink RX12 152 (TX12 0).1 (TX12 0).2.1 (TX12 0).2.2.1 ∈ dr_tbl := dr_in (i := 907) (by decide +kernel) (by decide +kernel)
theorem wf_12_178 : Cond.fieldLink RX12 178 (TX12 1).1 (TX12 1).2.1 (TX12 1).2.2.1 ∈ dr_tbl := dr_in (i := 908) (by decide +kernel) (by decide +kernel)
theorem wf_12_7 : Cond.fieldLink RX12 7 (TX12 2).1 (TX12 2).2.1 (TX12 2).2.2.1 ∈ dr_tbl := dr_in (i := 909) (by decide +kernel) (by decide +kernel)
theorem wf_12_13 : Cond.fieldLink RX12 13 (TX12 3).1 (TX12 3).2.1 (TX12 3).2.2.1 ∈ dr_tbl := dr_in (i := 910) (by decide +kernel) (by decide +kernel)
theorem wf_12_199 : Cond.fieldLink RX12 199 (TX12 4).1 (TX12 4).2.1 (TX12 4).2.2.1 ∈ dr_tbl := dr_in (i := 911) (by decide +kernel) (by decide +kernel)
theorem wf_12_202 : Cond.fieldLink RX12 202 (TX12 5).1 (TX12 5).2.1 (TX12 5).2.2.1 ∈ dr_tbl := dr_in (i := 912) (by decide +kernel) (by decide +kernel)
theorem wf_12_17 : Cond.fieldLink RX12 17 (TX12 6).1 (TX12 6).2.1 (TX12 6).2.2.1 ∈ dr_tbl := dr_in (i := 913) (by decide +kernel) (by decide +kernel)
theorem wf_12_20 : Cond.fieldLink RX12 20 (TX12 7).1 (TX12 7).2.1 (TX12 7).2.2.1 ∈ dr_tbl := dr_in (i := 914) (by decide +kernel) (by decide +kernel)
theorem wf_12_23 : Cond.fieldLink RX12 23 (TX12 8).1 (TX12 8).2.1 (TX12 8).2.2.1 ∈ dr_tbl := dr_in (i := 915) (by decide +kernel) (by decide +kernel)
theorem wf_12_26 : Cond.fieldLink RX12 26 (TX12 9).1 (TX12 9).2.1 (TX12 9).2.2.1 ∈ dr_tbl := dr_in (i := 916) (by decide +kernel) (by decide +kernel)
theorem wf_12_29 : Cond.fieldLink RX12 29 (TX12 10).1 (TX12 10).2.1 (TX12 10).2.2.1 ∈ dr_tbl := dr_in (i := 917) (by decide +kernel) (by decide +kernel)
theorem wf_12_32 : Cond.fieldLink RX12 32 (TX12 11).1 (TX12 11).2.1 (TX12 11).2.2.1 ∈ dr_tbl := dr_in (i := 918) (by decide +kernel) (by decide +kernel)
theorem wf_12_35 : Cond.fieldLink RX12 35 (TX12 12).1 (TX12 12).2.1 (TX12 12).2.2.1 ∈ dr_tbl := dr_in (i := 919) (by decide +kernel) (by decide +kernel)
theorem wf_12_38 : Cond.fieldLink RX12 38 (TX12 13).1 (TX12 13).2.1 (TX12 13).2.2.1 ∈ dr_tbl := dr_in (i := 920) (by decide +kernel) (by decide +kernel)
theorem wf_12_41 : Cond.fieldLink RX12 41 (TX12 14).1 (TX12 14).2.1 (TX12 14).2.2.1 ∈ dr_tbl := dr_in (i := 921) (by decide +kernel) (by decide +kernel)
theorem wf_12_44 : Cond.fieldLink RX12 44 (TX12 15).1 (TX12 15).2.1 (TX12 15).2.2.1 ∈ dr_tbl := dr_in (i := 922) (by decide +kernel) (by decide +kernel)
theorem wf_12_47 : Cond.fieldLink RX12 47 (TX12 16).1 (TX12 16).2.1 (TX12 16).2.2.1 ∈ dr_tbl := dr_in (i := 923) (by decide +kernel) (by decide +kernel)
theorem wf_12_50 : Cond.fieldLink RX12 50 (TX12 17).1 (TX12 17).2.1 (TX12 17).2.2.1 ∈ dr_tbl := dr_in (i := 924) (by decide +kernel) (by decide +kernel)
theorem wf_12_53 : Cond.fieldLink RX12 53 (TX12 18).1 (TX12 18).2.1 (TX12 18).2.2.1 ∈ dr_tbl := dr_in (i := 925) (by decide +kernel) (by decide +kernel)
theorem wf_12_56 : Cond.fieldLink RX12 56 (TX12 19).1 (TX12 19).2.1 (TX12 19).2.2.1 ∈ dr_tbl := dr_in (i := 926) (by decide +kernel) (by decide +kernel)
theorem wf_12_59 : Cond.fieldLink RX12 59 (TX12 20).1 (TX12 20).2.1 (TX12 20).2.2.1 ∈ dr_tbl := dr_in (i := 927) (by decide +kernel) (by decide +kernel)
theorem wf_12_62 : Cond.fieldLink RX12 62 (TX12 21).1 (TX12 21).2.1 (TX12 21).2.2.1 ∈ dr_tbl := dr_in (i := 928) (by decide +kernel) (by decide +kernel)
theorem wf_12_65 : Cond.fieldLink RX12 65 (TX12 22).1 (TX12 22).2.1 (TX12 22).2.2.1 ∈ dr_tbl := dr_in (i := 929) (by decide +kernel) (by decide +kernel)
theorem wf_12_68 : Cond.fieldLink RX12 68 (TX12 23).1 (TX12 23).2.1 (TX12 23).2.2.1 ∈ dr_tbl := dr_in (i := 930) (by decide +kernel) (by decide +kernel)
theorem wf_12_71 : Cond.fieldLink RX12 71 (TX12 24).1 (TX12 24).2.1 (TX12 24).2.2.1 ∈ dr_tbl := dr_in (i := 931) (by decide +kernel) (by decide +kernel)
theorem wf_12_74 : Cond.fieldLink RX12 74 (TX12 25).1 (TX12 25).2.1 (TX12 25).2.2.1 ∈ dr_tbl := dr_in (i := 932) (by decide +kernel) (by decide +kernel)
theorem wf_12_175 : Cond.fieldLink RX12 175 (TX12 26).1 (TX12 26).2.1 (TX12 26).2.2.1 ∈ dr_tbl := dr_in (i := 933) (by decide +kernel) (by decide +kernel)
theorem wf_12_77 : Cond.fieldLink RX12 77 (TX12 27).1 (TX12 27).2.1 (TX12 27).2.2.1 ∈ dr_tbl := dr_in (i := 934) (by decide +kernel) (by decide +kernel)
theorem wf_12_80 : Cond.fieldLink RX12 80 (TX12 28).1 (TX12 28).2.1 (TX12 28).2.2.1 ∈ dr_tbl := dr_in (i := 935) (by decide +kernel) (by decide +kernel)
theorem wf_12_83 : Cond.fieldLink RX12 83 (TX12 29).1 (TX12 29).2.1 (TX12 29).2.2.1 ∈ dr_tbl := dr_in (i := 936) (by decide +kernel) (by decide +kernel)
theorem wf_12_86 : Cond.fieldLink RX12 86 (TX12 30).1 (TX12 30).2.1 (TX12 30).2.2.1 ∈ dr_tbl := dr_in (i := 937) (by decide +kernel) (by decide +kernel)
theorem wf_12_89 : Cond.fieldLink RX12 89 (TX12 31).1 (TX12 31).2.1 (TX12 31).2.2.1 ∈ dr_tbl := dr_in (i := 938) (by decide +kernel) (by decide +kernel)
theorem wf_12_92 : Cond.fieldLink RX12 92 (TX12 32).1 (TX12 32).2.1 (TX12 32).2.2.1 ∈ dr_tbl := dr_in (i := 939) (by decide +kernel) (by decide +kernel)
theorem wf_12_95 : Cond.fieldLink RX12 95 (TX12 33).1 (TX12 33).2.1 (TX12 33).2.2.1 ∈ dr_tbl := dr_in (i := 940) (by decide +kernel) (by decide +kernel)
theorem wf_12_247 : Cond.fieldLink RX12 247 (TX12 34).1 (TX12 34).2.1 (TX12 34).2.2.1 ∈ dr_tbl := dr_in (i := 941) (by decide +kernel) (by decide +kernel)
theorem wf_12_98 : Cond.fieldLink RX12 98 (TX12 35).1 (TX12 35).2.1 (TX12 35).2.2.1 ∈ dr_tbl := dr_in (i := 942) (by decide +kernel) (by decide +kernel)
theorem wf_12_101 : Cond.fieldLink RX12 101 (TX12 36).1 (TX12 36).2.1 (TX12 36).2.2.1 ∈ dr_tbl := dr_in (i := 943) (by decide +kernel) (by decide +kernel)
theorem wf_12_104 : Cond.fieldLink RX12 104 (TX12 37).1 (TX12 37).2.1 (TX12 37).2.2.1 ∈ dr_tbl := dr_in (i := 944) (by decide +kernel) (by decide +kernel)
theorem wf_12_107 : Cond.fieldLink RX12 107 (TX12 38).1 (TX12 38).2.1 (TX12 38).2.2.1 ∈ dr_tbl := dr_in (i := 945) (by decide +kernel) (by decide +kernel)
theorem wf_12_110 : Cond.fieldLink RX12 110 (TX12 39).1 (TX12 39).2.1 (TX12 39).2.2.1 ∈ dr_tbl := dr_in (i := 946) (by decide +kernel) (by decide +kernel)
theorem wf_12_164 : Cond.fieldLink RX12 164 (TX12 40).1 (TX12 40).2.1 (TX12 40).2.2.1 ∈ dr_tbl := dr_in (i := 947) (by decide +kernel) (by decide +kernel)
theorem wf_12_113 : Cond.fieldLink RX12 113 (TX12 41).1 (TX12 41).2.1 (TX12 41).2.2.1 ∈ dr_tbl := dr_in (i := 948) (by decide +kernel) (by decide +kernel)
theorem wf_12_271 : Cond.fieldLink RX12 271 (TX12 42).1 (TX12 42).2.1 (TX12 42).2.2.1 ∈ dr_tbl := dr_in (i := 949) (by decide +kernel) (by decide +kernel)
theorem wf_12_116 : Cond.fieldLink RX12 116 (TX12 43).1 (TX12 43).2.1 (TX12 43).2.2.1 ∈ dr_tbl := dr_in (i := 950) (by decide +kernel) (by decide +kernel)
theorem wf_12_277 : Cond.fieldLink RX12 277 (TX12 44).1 (TX12 44).2.1 (TX12 44).2.2.1 ∈ dr_tbl := dr_in (i := 951) (by decide +kernel) (by decide +kernel)
theorem wf_12_119 : Cond.fieldLink RX12 119 (TX12 45).1 (TX12 45).2.1 (TX12 45).2.2.1 ∈ dr_tbl := dr_in (i := 952) (by decide +kernel) (by decide +kernel)
theorem wf_12_122 : Cond.fieldLink RX12 122 (TX12 46).1 (TX12 46).2.1 (TX12 46).2.2.1 ∈ dr_tbl := dr_in (i := 953) (by decide +kernel) (by decide +kernel)
theorem wf_12_125 : Cond.fieldLink RX12 125 (TX12 47).1 (TX12 47).2.1 (TX12 47).2.2.1 ∈ dr_tbl := dr_in (i := 954) (by decide +kernel) (by decide +kernel)
theorem wf_12_128 : Cond.fieldLink RX12 128 (TX12 48).1 (TX12 48).2.1 (TX12 48).2.2.1 ∈ dr_tbl := dr_in (i := 955) (by decide +kernel) (by decide +kernel)
theorem wf_12_131 : Cond.fieldLink RX12 131 (TX12 49).1 (TX12 49).2.1 (TX12 49).2.2.1 ∈ dr_tbl := dr_in (i := 956) (by decide +kernel) (by decide +kernel)
theorem wf_12_134 : Cond.fieldLink RX12 134 (TX12 50).1 (TX12 50).2.1 (TX12 50).2.2.1 ∈ dr_tbl := dr_in (i := 957) (by decide +kernel) (by decide +kernel)
theorem wf_12_137 : Cond.fieldLink RX12 137 (TX12 51).1 (TX12 51).2.1 (TX12 51).2.2.1 ∈ dr_tbl := dr_in (i := 958) (by decide +kernel) (by decide +kernel)
theorem wf_12_140 : Cond.fieldLink RX12 140 (TX12 52).1 (TX12 52).2.1 (TX12 52).2.2.1 ∈ dr_tbl := dr_in (i := 959) (by decide +kernel) (by decide +kernel)
theorem wf_12_143 : Cond.fieldLink RX12 143 (TX12 53).1 (TX12 53).2.1 (TX12 53).2.2.1 ∈ dr_tbl := dr_in (i := 960) (by decide +kernel) (by decide +kernel)
theorem wf_12_146 : Cond.fieldLink RX12 146 (TX12 54).1 (TX12 54).2.1 (TX12 54).2.2.1 ∈ dr_tbl := dr_in (i := 961) (by decide +kernel) (by decide +kernel)
theorem wf_12_298 : Cond.fieldLink RX12 298 (TX12 55).1 (TX12 55).2.1 (TX12 55).2.2.1 ∈ dr_tbl := dr_in (i := 962) (by decide +kernel) (by decide +kernel)
theorem wf_12_301 : Cond.fieldLink RX12 301 (TX12 56).1 (TX12 56).2.1 (TX12 56).2.2.1 ∈ dr_tbl := dr_in (i := 963) (by decide +kernel) (by decide +kernel)
theorem wf_12_304 : Cond.fieldLink RX12 304 (TX12 57).1 (TX12 57).2.1 (TX12 57).2.2.1 ∈ dr_tbl := dr_in (i := 964) (by decide +kernel) (by decide +kernel)
theorem wf_12_149 : Cond.fieldLink RX12 149 (TX12 58).1 (TX12 58).2.1 (TX12 58).2.2.1 ∈ dr_tbl := dr_in (i := 965) (by decide +kernel) (by decide +kernel)
end
section
theorem mw_X11_init : dr_mw yX11_init cX11_init 6 none 1 := ⟨dr_in (i := 87) (by decide +kernel) (by decide +kernel), dr_in (i := 67) (by decide +kernel) (by decide +kernel), by decide +kernel⟩
theorem mi_X11_init : Cond.instanceMethod yX11_init ∈ dr_tbl := dr_in (i := 86) (by decide +kernel) (by decide +kernel)
theorem mw_J9_min_7cf53 : dr_mw yJ9_min_7cf53 cJ9_min_7cf53 2 (some .int) 2 := ⟨dr_in (i := 93) (by decide +kernel) (by decide +kernel), dr_in (i := 68) (by decide +kernel) (by decide +kernel), by decide +kernel⟩
theorem ms_J9_min_7cf53 : Cond.static yJ9_min_7cf53 ∈ dr_tbl := dr_in (i := 92) (by decide +kernel) (by decide +kernel)
theorem mw_J9_max_7cf53 : dr_mw yJ9_max_7cf53 cJ9_max_7cf53 2 (some .int) 2 := ⟨dr_in (i := 96) (by decide +kernel) (by decide +kernel), dr_in (i := 68) (by decide +kernel) (by decide +kernel), by decide +kernel⟩
theorem ms_J9_max_7cf53 : Cond.static yJ9_max_7cf53 ∈ dr_tbl := dr_in (i := 95) (by decide +kernel) (by decide +kernel)
theorem mw_X4_cellsFor : dr_mw yX4_cellsFor cX4_cellsFor 1 (some .int) 1 := ⟨dr_in (i := 99) (by decide +kernel) (by decide +kernel), dr_in (i := 69) (by decide +kernel) (by decide +kernel), by decide +kernel⟩
theorem ms_X4_cellsFor : Cond.static yX4_cellsFor ∈ dr_tbl := dr_in (i := 98) (by decide +kernel) (by decide +kernel)
theorem mw_X4_widthFor : dr_mw yX4_widthFor cX4_widthFor 1 (some .int) 1 := ⟨dr_in (i := 102) (by decide +kernel) (by decide +kernel), dr_in (i := 69) (by decide +kernel) (by decide +kernel), by decide +kernel⟩
theorem ms_X4_widthFor : Cond.static yX4_widthFor ∈ dr_tbl := dr_in (i := 101) (by decide +kernel) (by decide +kernel)
theorem mw_X2_init : dr_mw yX2_init cX2_init 2 none 1 := ⟨dr_in (i := 107) (by decide +kernel) (by decide +kernel), dr_in (i := 70) (by decide +kernel) (by decide +kernel), by decide +kernel⟩
theorem mi_X2_init : Cond.instanceMethod yX2_init ∈ dr_tbl := dr_in (i := 106) (by decide +kernel) (by decide +kernel)
theorem mw_X5_init : dr_mw yX5_init cX5_init 1 none 0 := ⟨dr_in (i := 131) (by decide +kernel) (by decide +kernel), dr_in (i := 71) (by decide +kernel) (by decide +kernel), by decide +kernel⟩
theorem mi_X5_init : Cond.instanceMethod yX5_init ∈ dr_tbl := dr_in (i := 130) (by decide +kernel) (by decide +kernel)
theorem mw_X4_init : dr_mw yX4_init cX4_init 4 none 3 := ⟨dr_in (i := 153) (by decide +kernel) (by decide +kernel), dr_in (i := 69) (by decide +kernel) (by decide +kernel), by decide +kernel⟩
theorem mi_X4_init : Cond.instanceMethod yX4_init ∈ dr_tbl := dr_in (i := 152) (by decide +kernel) (by decide +kernel)
theorem mw_X4_clear : dr_mw yX4_clear cX4_clear 1 none 0 := ⟨dr_in (i := 158) (by decide +kernel) (by decide +kernel), dr_in (i := 69) (by decide +kernel) (by decide +kernel), by decide +kernel⟩
theorem mi_X4_clear : Cond.instanceMethod yX4_clear ∈ dr_tbl := dr_in (i := 156) (by decide +kernel) (by decide +kernel)
theorem msl_X4_clear : Cond.selects yX4_clear.cls yX4_clear yX4_clear ∈ dr_tbl := dr_in (i := 157) (by decide +kernel) (by decide +kernel)
theorem mw_X2_put : dr_mw yX2_put cX2_put 3 none 2 := ⟨dr_in (i := 162) (by decide +kernel) (by decide +kernel), dr_in (i := 70) (by decide +kernel) (by decide +kernel), by decide +kernel⟩
theorem mi_X2_put : Cond.instanceMethod yX2_put ∈ dr_tbl := dr_in (i := 160) (by decide +kernel) (by decide +kernel)
theorem msl_X2_put : Cond.selects yX2_put.cls yX2_put yX2_put ∈ dr_tbl := dr_in (i := 161) (by decide +kernel) (by decide +kernel)
theorem mw_X4_open : dr_mw yX4_open cX4_open 3 (some .int) 1 := ⟨dr_in (i := 166) (by decide +kernel) (by decide +kernel), dr_in (i := 69) (by decide +kernel) (by decide +kernel), by decide +kernel⟩
theorem mi_X4_open : Cond.instanceMethod yX4_open ∈ dr_tbl := dr_in (i := 164) (by decide +kernel) (by decide +kernel)
theorem msl_X4_open : Cond.selects yX4_open.cls yX4_open yX4_open ∈ dr_tbl := dr_in (i := 165) (by decide +kernel) (by decide +kernel)
theorem mw_X4_inUse : dr_mw yX4_inUse cX4_inUse 1 (some .int) 0 := ⟨dr_in (i := 170) (by decide +kernel) (by decide +kernel), dr_in (i := 69) (by decide +kernel) (by decide +kernel), by decide +kernel⟩
theorem mi_X4_inUse : Cond.instanceMethod yX4_inUse ∈ dr_tbl := dr_in (i := 168) (by decide +kernel) (by decide +kernel)
theorem msl_X4_inUse : Cond.selects yX4_inUse.cls yX4_inUse yX4_inUse ∈ dr_tbl := dr_in (i := 169) (by decide +kernel) (by decide +kernel)
theorem mw_X2_get : dr_mw yX2_get cX2_get 2 (some .int) 1 := ⟨dr_in (i := 174) (by decide +kernel) (by decide +kernel), dr_in (i := 70) (by decide +kernel) (by decide +kernel), by decide +kernel⟩
theorem mi_X2_get : Cond.instanceMethod yX2_get ∈ dr_tbl := dr_in (i := 172) (by decide +kernel) (by decide +kernel)
theorem msl_X2_get : Cond.selects yX2_get.cls yX2_get yX2_get ∈ dr_tbl := dr_in (i := 173) (by decide +kernel) (by decide +kernel)
theorem mw_X4_set : dr_mw yX4_set cX4_set 4 none 3 := ⟨dr_in (i := 178) (by decide +kernel) (by decide +kernel), dr_in (i := 69) (by decide +kernel) (by decide +kernel), by decide +kernel⟩
theorem mi_X4_set : Cond.instanceMethod yX4_set ∈ dr_tbl := dr_in (i := 176) (by decide +kernel) (by decide +kernel)
theorem msl_X4_set : Cond.selects yX4_set.cls yX4_set yX4_set ∈ dr_tbl := dr_in (i := 177) (by decide +kernel) (by decide +kernel)
theorem mw_X4_setTop : dr_mw yX4_setTop cX4_setTop 2 none 1 := ⟨dr_in (i := 182) (by decide +kernel) (by decide +kernel), dr_in (i := 69) (by decide +kernel) (by decide +kernel), by decide +kernel⟩
theorem mi_X4_setTop : Cond.instanceMethod yX4_setTop ∈ dr_tbl := dr_in (i := 180) (by decide +kernel) (by decide +kernel)
theorem msl_X4_setTop : Cond.selects yX4_setTop.cls yX4_setTop yX4_setTop ∈ dr_tbl := dr_in (i := 181) (by decide +kernel) (by decide +kernel)
theorem mw_X3_init : dr_mw yX3_init cX3_init 4 none 2 := ⟨dr_in (i := 209) (by decide +kernel) (by decide +kernel), dr_in (i := 72) (by decide +kernel) (by decide +kernel), by decide +kernel⟩
theorem mi_X3_init : Cond.instanceMethod yX3_init ∈ dr_tbl := dr_in (i := 208) (by decide +kernel) (by decide +kernel)
theorem mw_X3_set : dr_mw yX3_set cX3_set 4 none 3 := ⟨dr_in (i := 214) (by decide +kernel) (by decide +kernel), dr_in (i := 72) (by decide +kernel) (by decide +kernel), by decide +kernel⟩
theorem mi_X3_set : Cond.instanceMethod yX3_set ∈ dr_tbl := dr_in (i := 212) (by decide +kernel) (by decide +kernel)
theorem msl_X3_set : Cond.selects yX3_set.cls yX3_set yX3_set ∈ dr_tbl := dr_in (i := 213) (by decide +kernel) (by decide +kernel)
theorem mw_X3_rest : dr_mw yX3_rest cX3_rest 2 none 1 := ⟨dr_in (i := 219) (by decide +kernel) (by decide +kernel), dr_in (i := 72) (by decide +kernel) (by decide +kernel), by decide +kernel⟩
theorem mi_X3_rest : Cond.instanceMethod yX3_rest ∈ dr_tbl := dr_in (i := 217) (by decide +kernel) (by decide +kernel)
theorem msl_X3_rest : Cond.selects yX3_rest.cls yX3_rest yX3_rest ∈ dr_tbl := dr_in (i := 218) (by decide +kernel) (by decide +kernel)
theorem mw_X6_init : dr_mw yX6_init cX6_init 3 none 2 := ⟨dr_in (i := 231) (by decide +kernel) (by decide +kernel), dr_in (i := 73) (by decide +kernel) (by decide +kernel), by decide +kernel⟩
theorem mi_X6_init : Cond.instanceMethod yX6_init ∈ dr_tbl := dr_in (i := 230) (by decide +kernel) (by decide +kernel)
theorem mw_X10_init : dr_mw yX10_init cX10_init 4 none 3 := ⟨dr_in (i := 250) (by decide +kernel) (by decide +kernel), dr_in (i := 74) (by decide +kernel) (by decide +kernel), by decide +kernel⟩
theorem mi_X10_init : Cond.instanceMethod yX10_init ∈ dr_tbl := dr_in (i := 249) (by decide +kernel) (by decide +kernel)
theorem mw_X1_init : dr_mw yX1_init cX1_init 3 none 2 := ⟨dr_in (i := 266) (by decide +kernel) (by decide +kernel), dr_in (i := 75) (by decide +kernel) (by decide +kernel), by decide +kernel⟩
theorem mi_X1_init : Cond.instanceMethod yX1_init ∈ dr_tbl := dr_in (i := 265) (by decide +kernel) (by decide +kernel)
theorem mw_X7_init : dr_mw yX7_init cX7_init 2 none 1 := ⟨dr_in (i := 285) (by decide +kernel) (by decide +kernel), dr_in (i := 76) (by decide +kernel) (by decide +kernel), by decide +kernel⟩
theorem mi_X7_init : Cond.instanceMethod yX7_init ∈ dr_tbl := dr_in (i := 284) (by decide +kernel) (by decide +kernel)
theorem mw_X9_init : dr_mw yX9_init cX9_init 3 none 2 := ⟨dr_in (i := 319) (by decide +kernel) (by decide +kernel), dr_in (i := 77) (by decide +kernel) (by decide +kernel), by decide +kernel⟩
theorem mi_X9_init : Cond.instanceMethod yX9_init ∈ dr_tbl := dr_in (i := 318) (by decide +kernel) (by decide +kernel)
theorem mw_X8_init : dr_mw yX8_init cX8_init 7 none 6 := ⟨dr_in (i := 332) (by decide +kernel) (by decide +kernel), dr_in (i := 78) (by decide +kernel) (by decide +kernel), by decide +kernel⟩
theorem mi_X8_init : Cond.instanceMethod yX8_init ∈ dr_tbl := dr_in (i := 331) (by decide +kernel) (by decide +kernel)
theorem mw_X0_init : dr_mw yX0_init cX0_init 3 none 2 := ⟨dr_in (i := 366) (by decide +kernel) (by decide +kernel), dr_in (i := 79) (by decide +kernel) (by decide +kernel), by decide +kernel⟩
theorem mi_X0_init : Cond.instanceMethod yX0_init ∈ dr_tbl := dr_in (i := 365) (by decide +kernel) (by decide +kernel)
theorem mw_X11_rule : dr_mw yX11_rule cX11_rule 8 (some .int) 6 := ⟨dr_in (i := 409) (by decide +kernel) (by decide +kernel), dr_in (i := 67) (by decide +kernel) (by decide +kernel), by decide +kernel⟩
theorem mi_X11_rule : Cond.instanceMethod yX11_rule ∈ dr_tbl := dr_in (i := 407) (by decide +kernel) (by decide +kernel)
theorem msl_X11_rule : Cond.selects yX11_rule.cls yX11_rule yX11_rule ∈ dr_tbl := dr_in (i := 408) (by decide +kernel) (by decide +kernel)
theorem mw_X5_hear : dr_mw yX5_hear cX5_hear 6 none 5 := ⟨dr_in (i := 413) (by decide +kernel) (by decide +kernel), dr_in (i := 71) (by decide +kernel) (by decide +kernel), by decide +kernel⟩
theorem mi_X5_hear : Cond.instanceMethod yX5_hear ∈ dr_tbl := dr_in (i := 411) (by decide +kernel) (by decide +kernel)
theorem msl_X5_hear : Cond.selects yX5_hear.cls yX5_hear yX5_hear ∈ dr_tbl := dr_in (i := 412) (by decide +kernel) (by decide +kernel)
theorem mw_X5_faultOf : dr_mw yX5_faultOf cX5_faultOf 5 (some .int) 1 := ⟨dr_in (i := 417) (by decide +kernel) (by decide +kernel), dr_in (i := 71) (by decide +kernel) (by decide +kernel), by decide +kernel⟩
theorem mi_X5_faultOf : Cond.instanceMethod yX5_faultOf ∈ dr_tbl := dr_in (i := 415) (by decide +kernel) (by decide +kernel)
theorem msl_X5_faultOf : Cond.selects yX5_faultOf.cls yX5_faultOf yX5_faultOf ∈ dr_tbl := dr_in (i := 416) (by decide +kernel) (by decide +kernel)
theorem mw_X5_byteAt : dr_mw yX5_byteAt cX5_byteAt 3 (some .int) 1 := ⟨dr_in (i := 421) (by decide +kernel) (by decide +kernel), dr_in (i := 71) (by decide +kernel) (by decide +kernel), by decide +kernel⟩
theorem mi_X5_byteAt : Cond.instanceMethod yX5_byteAt ∈ dr_tbl := dr_in (i := 420) (by decide +kernel) (by decide +kernel)
theorem msl_X5_byteAt : Cond.selects yX5_byteAt.cls yX5_byteAt yX5_byteAt ∈ dr_tbl := dr_in (i := 0) (by decide +kernel) (by decide +kernel)
theorem mw_X5_takesLetter : dr_mw yX5_takesLetter cX5_takesLetter 4 (some .boolean) 1 := ⟨dr_in (i := 425) (by decide +kernel) (by decide +kernel), dr_in (i := 71) (by decide +kernel) (by decide +kernel), by decide +kernel⟩
theorem mi_X5_takesLetter : Cond.instanceMethod yX5_takesLetter ∈ dr_tbl := dr_in (i := 424) (by decide +kernel) (by decide +kernel)
theorem msl_X5_takesLetter : Cond.selects yX5_takesLetter.cls yX5_takesLetter yX5_takesLetter ∈ dr_tbl := dr_in (i := 1) (by decide +kernel) (by decide +kernel)
theorem mw_X5_worthOf : dr_mw yX5_worthOf cX5_worthOf 1 (some .int) 1 := ⟨dr_in (i := 428) (by decide +kernel) (by decide +kernel), dr_in (i := 71) (by decide +kernel) (by decide +kernel), by decide +kernel⟩
theorem ms_X5_worthOf : Cond.static yX5_worthOf ∈ dr_tbl := dr_in (i := 427) (by decide +kernel) (by decide +kernel)
theorem mw_J9_abs_0f7a4 : dr_mw yJ9_abs_0f7a4 cJ9_abs_0f7a4 1 (some .int) 1 := ⟨dr_in (i := 431) (by decide +kernel) (by decide +kernel), dr_in (i := 68) (by decide +kernel) (by decide +kernel), by decide +kernel⟩
theorem ms_J9_abs_0f7a4 : Cond.static yJ9_abs_0f7a4 ∈ dr_tbl := dr_in (i := 430) (by decide +kernel) (by decide +kernel)
theorem mw_X5_takesDirection : dr_mw yX5_takesDirection cX5_takesDirection 2 (some .boolean) 1 := ⟨dr_in (i := 435) (by decide +kernel) (by decide +kernel), dr_in (i := 71) (by decide +kernel) (by decide +kernel), by decide +kernel⟩
theorem mi_X5_takesDirection : Cond.instanceMethod yX5_takesDirection ∈ dr_tbl := dr_in (i := 434) (by decide +kernel) (by decide +kernel)
theorem msl_X5_takesDirection : Cond.selects yX5_takesDirection.cls yX5_takesDirection yX5_takesDirection ∈ dr_tbl := dr_in (i := 2) (by decide +kernel) (by decide +kernel)
theorem mw_X6_begun : dr_mw yX6_begun cX6_begun 1 (some .int) 0 := ⟨dr_in (i := 439) (by decide +kernel) (by decide +kernel), dr_in (i := 73) (by decide +kernel) (by decide +kernel), by decide +kernel⟩
theorem mi_X6_begun : Cond.instanceMethod yX6_begun ∈ dr_tbl := dr_in (i := 437) (by decide +kernel) (by decide +kernel)
theorem msl_X6_begun : Cond.selects yX6_begun.cls yX6_begun yX6_begun ∈ dr_tbl := dr_in (i := 438) (by decide +kernel) (by decide +kernel)
theorem mw_X5_keepWhatWasRead : dr_mw yX5_keepWhatWasRead cX5_keepWhatWasRead 1 none 0 := ⟨dr_in (i := 444) (by decide +kernel) (by decide +kernel), dr_in (i := 71) (by decide +kernel) (by decide +kernel), by decide +kernel⟩
theorem mi_X5_keepWhatWasRead : Cond.instanceMethod yX5_keepWhatWasRead ∈ dr_tbl := dr_in (i := 442) (by decide +kernel) (by decide +kernel)
theorem msl_X5_keepWhatWasRead : Cond.selects yX5_keepWhatWasRead.cls yX5_keepWhatWasRead yX5_keepWhatWasRead ∈ dr_tbl := dr_in (i := 443) (by decide +kernel) (by decide +kernel)
theorem mw_X11_ahead : dr_mw yX11_ahead cX11_ahead 3 (some .int) 2 := ⟨dr_in (i := 451) (by decide +kernel) (by decide +kernel), dr_in (i := 67) (by decide +kernel) (by decide +kernel), by decide +kernel⟩
theorem mi_X11_ahead : Cond.instanceMethod yX11_ahead ∈ dr_tbl := dr_in (i := 449) (by decide +kernel) (by decide +kernel)
theorem msl_X11_ahead : Cond.selects yX11_ahead.cls yX11_ahead yX11_ahead ∈ dr_tbl := dr_in (i := 450) (by decide +kernel) (by decide +kernel)
theorem mw_X11_isHeading : dr_mw yX11_isHeading cX11_isHeading 1 (some .boolean) 1 := ⟨dr_in (i := 454) (by decide +kernel) (by decide +kernel), dr_in (i := 67) (by decide +kernel) (by decide +kernel), by decide +kernel⟩
theorem ms_X11_isHeading : Cond.static yX11_isHeading ∈ dr_tbl := dr_in (i := 453) (by decide +kernel) (by decide +kernel)
theorem mw_X5_isAhead : dr_mw yX5_isAhead cX5_isAhead 8 (some .boolean) 2 := ⟨dr_in (i := 458) (by decide +kernel) (by decide +kernel), dr_in (i := 71) (by decide +kernel) (by decide +kernel), by decide +kernel⟩
theorem mi_X5_isAhead : Cond.instanceMethod yX5_isAhead ∈ dr_tbl := dr_in (i := 456) (by decide +kernel) (by decide +kernel)
theorem msl_X5_isAhead : Cond.selects yX5_isAhead.cls yX5_isAhead yX5_isAhead ∈ dr_tbl := dr_in (i := 457) (by decide +kernel) (by decide +kernel)
theorem mw_X11_fault : dr_mw yX11_fault cX11_fault 3 (some .boolean) 2 := ⟨dr_in (i := 462) (by decide +kernel) (by decide +kernel), dr_in (i := 67) (by decide +kernel) (by decide +kernel), by decide +kernel⟩
theorem mi_X11_fault : Cond.instanceMethod yX11_fault ∈ dr_tbl := dr_in (i := 460) (by decide +kernel) (by decide +kernel)
theorem msl_X11_fault : Cond.selects yX11_fault.cls yX11_fault yX11_fault ∈ dr_tbl := dr_in (i := 461) (by decide +kernel) (by decide +kernel)
theorem mw_X11_isIdleClerk : dr_mw yX11_isIdleClerk cX11_isIdleClerk 2 (some .boolean) 1 := ⟨dr_in (i := 466) (by decide +kernel) (by decide +kernel), dr_in (i := 67) (by decide +kernel) (by decide +kernel), by decide +kernel⟩
theorem mi_X11_isIdleClerk : Cond.instanceMethod yX11_isIdleClerk ∈ dr_tbl := dr_in (i := 465) (by decide +kernel) (by decide +kernel)
theorem msl_X11_isIdleClerk : Cond.selects yX11_isIdleClerk.cls yX11_isIdleClerk yX11_isIdleClerk ∈ dr_tbl := dr_in (i := 3) (by decide +kernel) (by decide +kernel)
theorem mw_X11_isClerk : dr_mw yX11_isClerk cX11_isClerk 1 (some .boolean) 1 := ⟨dr_in (i := 469) (by decide +kernel) (by decide +kernel), dr_in (i := 67) (by decide +kernel) (by decide +kernel), by decide +kernel⟩
theorem ms_X11_isClerk : Cond.static yX11_isClerk ∈ dr_tbl := dr_in (i := 468) (by decide +kernel) (by decide +kernel)
theorem mw_X3_isIdle : dr_mw yX3_isIdle cX3_isIdle 2 (some .boolean) 1 := ⟨dr_in (i := 473) (by decide +kernel) (by decide +kernel), dr_in (i := 72) (by decide +kernel) (by decide +kernel), by decide +kernel⟩
theorem mi_X3_isIdle : Cond.instanceMethod yX3_isIdle ∈ dr_tbl := dr_in (i := 471) (by decide +kernel) (by decide +kernel)
theorem msl_X3_isIdle : Cond.selects yX3_isIdle.cls yX3_isIdle yX3_isIdle ∈ dr_tbl := dr_in (i := 472) (by decide +kernel) (by decide +kernel)
theorem mw_X3_get : dr_mw yX3_get cX3_get 3 (some .int) 2 := ⟨dr_in (i := 477) (by decide +kernel) (by decide +kernel), dr_in (i := 72) (by decide +kernel) (by decide +kernel), by decide +kernel⟩
theorem mi_X3_get : Cond.instanceMethod yX3_get ∈ dr_tbl := dr_in (i := 475) (by decide +kernel) (by decide +kernel)
theorem msl_X3_get : Cond.selects yX3_get.cls yX3_get yX3_get ∈ dr_tbl := dr_in (i := 476) (by decide +kernel) (by decide +kernel)
theorem mw_X11_begin : dr_mw yX11_begin cX11_begin 5 (some .int) 3 := ⟨dr_in (i := 483) (by decide +kernel) (by decide +kernel), dr_in (i := 67) (by decide +kernel) (by decide +kernel), by decide +kernel⟩
theorem mi_X11_begin : Cond.instanceMethod yX11_begin ∈ dr_tbl := dr_in (i := 481) (by decide +kernel) (by decide +kernel)
theorem msl_X11_begin : Cond.selects yX11_begin.cls yX11_begin yX11_begin ∈ dr_tbl := dr_in (i := 482) (by decide +kernel) (by decide +kernel)
theorem mw_X6_open : dr_mw yX6_open cX6_open 4 (some .int) 2 := ⟨dr_in (i := 488) (by decide +kernel) (by decide +kernel), dr_in (i := 73) (by decide +kernel) (by decide +kernel), by decide +kernel⟩
theorem mi_X6_open : Cond.instanceMethod yX6_open ∈ dr_tbl := dr_in (i := 486) (by decide +kernel) (by decide +kernel)
theorem msl_X6_open : Cond.selects yX6_open.cls yX6_open yX6_open ∈ dr_tbl := dr_in (i := 487) (by decide +kernel) (by decide +kernel)
theorem mw_X6_set : dr_mw yX6_set cX6_set 4 none 3 := ⟨dr_in (i := 494) (by decide +kernel) (by decide +kernel), dr_in (i := 73) (by decide +kernel) (by decide +kernel), by decide +kernel⟩
theorem mi_X6_set : Cond.instanceMethod yX6_set ∈ dr_tbl := dr_in (i := 492) (by decide +kernel) (by decide +kernel)
theorem msl_X6_set : Cond.selects yX6_set.cls yX6_set yX6_set ∈ dr_tbl := dr_in (i := 493) (by decide +kernel) (by decide +kernel)
theorem mw_X6_time : dr_mw yX6_time cX6_time 1 (some .int) 0 := ⟨dr_in (i := 498) (by decide +kernel) (by decide +kernel), dr_in (i := 73) (by decide +kernel) (by decide +kernel), by decide +kernel⟩
theorem mi_X6_time : Cond.instanceMethod yX6_time ∈ dr_tbl := dr_in (i := 496) (by decide +kernel) (by decide +kernel)
theorem msl_X6_time : Cond.selects yX6_time.cls yX6_time yX6_time ∈ dr_tbl := dr_in (i := 497) (by decide +kernel) (by decide +kernel)
theorem mw_X4_top : dr_mw yX4_top cX4_top 1 (some .int) 0 := ⟨dr_in (i := 502) (by decide +kernel) (by decide +kernel), dr_in (i := 69) (by decide +kernel) (by decide +kernel), by decide +kernel⟩
theorem mi_X4_top : Cond.instanceMethod yX4_top ∈ dr_tbl := dr_in (i := 500) (by decide +kernel) (by decide +kernel)
theorem msl_X4_top : Cond.selects yX4_top.cls yX4_top yX4_top ∈ dr_tbl := dr_in (i := 501) (by decide +kernel) (by decide +kernel)
theorem mw_X3_startReading : dr_mw yX3_startReading cX3_startReading 3 none 2 := ⟨dr_in (i := 506) (by decide +kernel) (by decide +kernel), dr_in (i := 72) (by decide +kernel) (by decide +kernel), by decide +kernel⟩
theorem mi_X3_startReading : Cond.instanceMethod yX3_startReading ∈ dr_tbl := dr_in (i := 504) (by decide +kernel) (by decide +kernel)
theorem msl_X3_startReading : Cond.selects yX3_startReading.cls yX3_startReading yX3_startReading ∈ dr_tbl := dr_in (i := 505) (by decide +kernel) (by decide +kernel)
theorem mw_X2_fill : dr_mw yX2_fill cX2_fill 5 none 3 := ⟨dr_in (i := 510) (by decide +kernel) (by decide +kernel), dr_in (i := 70) (by decide +kernel) (by decide +kernel), by decide +kernel⟩
theorem mi_X2_fill : Cond.instanceMethod yX2_fill ∈ dr_tbl := dr_in (i := 508) (by decide +kernel) (by decide +kernel)
theorem msl_X2_fill : Cond.selects yX2_fill.cls yX2_fill yX2_fill ∈ dr_tbl := dr_in (i := 509) (by decide +kernel) (by decide +kernel)
theorem mw_X11_step : dr_mw yX11_step cX11_step 4 (some .int) 2 := ⟨dr_in (i := 515) (by decide +kernel) (by decide +kernel), dr_in (i := 67) (by decide +kernel) (by decide +kernel), by decide +kernel⟩
theorem mi_X11_step : Cond.instanceMethod yX11_step ∈ dr_tbl := dr_in (i := 513) (by decide +kernel) (by decide +kernel)
theorem msl_X11_step : Cond.selects yX11_step.cls yX11_step yX11_step ∈ dr_tbl := dr_in (i := 514) (by decide +kernel) (by decide +kernel)
theorem mw_X10_go : dr_mw yX10_go cX10_go 2 none 1 := ⟨dr_in (i := 519) (by decide +kernel) (by decide +kernel), dr_in (i := 74) (by decide +kernel) (by decide +kernel), by decide +kernel⟩
theorem mi_X10_go : Cond.instanceMethod yX10_go ∈ dr_tbl := dr_in (i := 517) (by decide +kernel) (by decide +kernel)
theorem msl_X10_go : Cond.selects yX10_go.cls yX10_go yX10_go ∈ dr_tbl := dr_in (i := 518) (by decide +kernel) (by decide +kernel)
theorem mw_X6_passStep : dr_mw yX6_passStep cX6_passStep 2 none 1 := ⟨dr_in (i := 524) (by decide +kernel) (by decide +kernel), dr_in (i := 73) (by decide +kernel) (by decide +kernel), by decide +kernel⟩
theorem mi_X6_passStep : Cond.instanceMethod yX6_passStep ∈ dr_tbl := dr_in (i := 522) (by decide +kernel) (by decide +kernel)
theorem msl_X6_passStep : Cond.selects yX6_passStep.cls yX6_passStep yX6_passStep ∈ dr_tbl := dr_in (i := 523) (by decide +kernel) (by decide +kernel)
theorem mw_X6_get : dr_mw yX6_get cX6_get 3 (some .int) 2 := ⟨dr_in (i := 528) (by decide +kernel) (by decide +kernel), dr_in (i := 73) (by decide +kernel) (by decide +kernel), by decide +kernel⟩
theorem mi_X6_get : Cond.instanceMethod yX6_get ∈ dr_tbl := dr_in (i := 526) (by decide +kernel) (by decide +kernel)
theorem msl_X6_get : Cond.selects yX6_get.cls yX6_get yX6_get ∈ dr_tbl := dr_in (i := 527) (by decide +kernel) (by decide +kernel)
theorem mw_X10_read : dr_mw yX10_read cX10_read 5 none 1 := ⟨dr_in (i := 532) (by decide +kernel) (by decide +kernel), dr_in (i := 74) (by decide +kernel) (by decide +kernel), by decide +kernel⟩
theorem mi_X10_read : Cond.instanceMethod yX10_read ∈ dr_tbl := dr_in (i := 531) (by decide +kernel) (by decide +kernel)
theorem msl_X10_read : Cond.selects yX10_read.cls yX10_read yX10_read ∈ dr_tbl := dr_in (i := 4) (by decide +kernel) (by decide +kernel)
theorem mw_X4_get : dr_mw yX4_get cX4_get 3 (some .int) 2 := ⟨dr_in (i := 536) (by decide +kernel) (by decide +kernel), dr_in (i := 69) (by decide +kernel) (by decide +kernel), by decide +kernel⟩
theorem mi_X4_get : Cond.instanceMethod yX4_get ∈ dr_tbl := dr_in (i := 534) (by decide +kernel) (by decide +kernel)
theorem msl_X4_get : Cond.selects yX4_get.cls yX4_get yX4_get ∈ dr_tbl := dr_in (i := 535) (by decide +kernel) (by decide +kernel)
theorem mw_X10_mustGoOn : dr_mw yX10_mustGoOn cX10_mustGoOn 4 (some .boolean) 3 := ⟨dr_in (i := 540) (by decide +kernel) (by decide +kernel), dr_in (i := 74) (by decide +kernel) (by decide +kernel), by decide +kernel⟩
theorem mi_X10_mustGoOn : Cond.instanceMethod yX10_mustGoOn ∈ dr_tbl := dr_in (i := 539) (by decide +kernel) (by decide +kernel)
theorem msl_X10_mustGoOn : Cond.selects yX10_mustGoOn.cls yX10_mustGoOn yX10_mustGoOn ∈ dr_tbl := dr_in (i := 5) (by decide +kernel) (by decide +kernel)
theorem mw_X4_covers : dr_mw yX4_covers cX4_covers 4 (some .boolean) 2 := ⟨dr_in (i := 544) (by decide +kernel) (by decide +kernel), dr_in (i := 69) (by decide +kernel) (by decide +kernel), by decide +kernel⟩
theorem mi_X4_covers : Cond.instanceMethod yX4_covers ∈ dr_tbl := dr_in (i := 542) (by decide +kernel) (by decide +kernel)
theorem msl_X4_covers : Cond.selects yX4_covers.cls yX4_covers yX4_covers ∈ dr_tbl := dr_in (i := 543) (by decide +kernel) (by decide +kernel)
theorem mw_X3_keepPath : dr_mw yX3_keepPath cX3_keepPath 4 none 3 := ⟨dr_in (i := 551) (by decide +kernel) (by decide +kernel), dr_in (i := 72) (by decide +kernel) (by decide +kernel), by decide +kernel⟩
theorem mi_X3_keepPath : Cond.instanceMethod yX3_keepPath ∈ dr_tbl := dr_in (i := 549) (by decide +kernel) (by decide +kernel)
theorem msl_X3_keepPath : Cond.selects yX3_keepPath.cls yX3_keepPath yX3_keepPath ∈ dr_tbl := dr_in (i := 550) (by decide +kernel) (by decide +kernel)
theorem mw_X4_wayOf : dr_mw yX4_wayOf cX4_wayOf 6 (some .int) 2 := ⟨dr_in (i := 555) (by decide +kernel) (by decide +kernel), dr_in (i := 69) (by decide +kernel) (by decide +kernel), by decide +kernel⟩
theorem mi_X4_wayOf : Cond.instanceMethod yX4_wayOf ∈ dr_tbl := dr_in (i := 553) (by decide +kernel) (by decide +kernel)
theorem msl_X4_wayOf : Cond.selects yX4_wayOf.cls yX4_wayOf yX4_wayOf ∈ dr_tbl := dr_in (i := 554) (by decide +kernel) (by decide +kernel)
theorem mw_X4_child : dr_mw yX4_child cX4_child 4 (some .int) 2 := ⟨dr_in (i := 559) (by decide +kernel) (by decide +kernel), dr_in (i := 69) (by decide +kernel) (by decide +kernel), by decide +kernel⟩
theorem mi_X4_child : Cond.instanceMethod yX4_child ∈ dr_tbl := dr_in (i := 557) (by decide +kernel) (by decide +kernel)
theorem msl_X4_child : Cond.selects yX4_child.cls yX4_child yX4_child ∈ dr_tbl := dr_in (i := 558) (by decide +kernel) (by decide +kernel)
theorem mw_X10_kindOf : dr_mw yX10_kindOf cX10_kindOf 2 (some .int) 1 := ⟨dr_in (i := 563) (by decide +kernel) (by decide +kernel), dr_in (i := 74) (by decide +kernel) (by decide +kernel), by decide +kernel⟩
theorem mi_X10_kindOf : Cond.instanceMethod yX10_kindOf ∈ dr_tbl := dr_in (i := 562) (by decide +kernel) (by decide +kernel)
theorem msl_X10_kindOf : Cond.selects yX10_kindOf.cls yX10_kindOf yX10_kindOf ∈ dr_tbl := dr_in (i := 6) (by decide +kernel) (by decide +kernel)
theorem mw_X4_placeOf : dr_mw yX4_placeOf cX4_placeOf 6 (some .int) 2 := ⟨dr_in (i := 568) (by decide +kernel) (by decide +kernel), dr_in (i := 69) (by decide +kernel) (by decide +kernel), by decide +kernel⟩
theorem mi_X4_placeOf : Cond.instanceMethod yX4_placeOf ∈ dr_tbl := dr_in (i := 566) (by decide +kernel) (by decide +kernel)
theorem msl_X4_placeOf : Cond.selects yX4_placeOf.cls yX4_placeOf yX4_placeOf ∈ dr_tbl := dr_in (i := 567) (by decide +kernel) (by decide +kernel)
theorem mw_X10_end : dr_mw yX10_end cX10_end 3 none 2 := ⟨dr_in (i := 572) (by decide +kernel) (by decide +kernel), dr_in (i := 74) (by decide +kernel) (by decide +kernel), by decide +kernel⟩
theorem mi_X10_end : Cond.instanceMethod yX10_end ∈ dr_tbl := dr_in (i := 571) (by decide +kernel) (by decide +kernel)
theorem msl_X10_end : Cond.selects yX10_end.cls yX10_end yX10_end ∈ dr_tbl := dr_in (i := 7) (by decide +kernel) (by decide +kernel)
theorem mw_X6_end : dr_mw yX6_end cX6_end 3 none 2 := ⟨dr_in (i := 576) (by decide +kernel) (by decide +kernel), dr_in (i := 73) (by decide +kernel) (by decide +kernel), by decide +kernel⟩
theorem mi_X6_end : Cond.instanceMethod yX6_end ∈ dr_tbl := dr_in (i := 574) (by decide +kernel) (by decide +kernel)
theorem msl_X6_end : Cond.selects yX6_end.cls yX6_end yX6_end ∈ dr_tbl := dr_in (i := 575) (by decide +kernel) (by decide +kernel)
theorem mw_X10_isFree : dr_mw yX10_isFree cX10_isFree 4 (some .boolean) 2 := ⟨dr_in (i := 581) (by decide +kernel) (by decide +kernel), dr_in (i := 74) (by decide +kernel) (by decide +kernel), by decide +kernel⟩
theorem mi_X10_isFree : Cond.instanceMethod yX10_isFree ∈ dr_tbl := dr_in (i := 580) (by decide +kernel) (by decide +kernel)
theorem msl_X10_isFree : Cond.selects yX10_isFree.cls yX10_isFree yX10_isFree ∈ dr_tbl := dr_in (i := 8) (by decide +kernel) (by decide +kernel)
theorem mw_X10_latch : dr_mw yX10_latch cX10_latch 3 none 2 := ⟨dr_in (i := 585) (by decide +kernel) (by decide +kernel), dr_in (i := 74) (by decide +kernel) (by decide +kernel), by decide +kernel⟩
theorem mi_X10_latch : Cond.instanceMethod yX10_latch ∈ dr_tbl := dr_in (i := 584) (by decide +kernel) (by decide +kernel)
theorem msl_X10_latch : Cond.selects yX10_latch.cls yX10_latch yX10_latch ∈ dr_tbl := dr_in (i := 9) (by decide +kernel) (by decide +kernel)
theorem mw_X10_hold : dr_mw yX10_hold cX10_hold 3 none 1 := ⟨dr_in (i := 590) (by decide +kernel) (by decide +kernel), dr_in (i := 74) (by decide +kernel) (by decide +kernel), by decide +kernel⟩
theorem mi_X10_hold : Cond.instanceMethod yX10_hold ∈ dr_tbl := dr_in (i := 589) (by decide +kernel) (by decide +kernel)
theorem msl_X10_hold : Cond.selects yX10_hold.cls yX10_hold yX10_hold ∈ dr_tbl := dr_in (i := 10) (by decide +kernel) (by decide +kernel)
theorem mw_X4_copyOf : dr_mw yX4_copyOf cX4_copyOf 1 (some .int) 1 := ⟨dr_in (i := 593) (by decide +kernel) (by decide +kernel), dr_in (i := 69) (by decide +kernel) (by decide +kernel), by decide +kernel⟩
theorem ms_X4_copyOf : Cond.static yX4_copyOf ∈ dr_tbl := dr_in (i := 592) (by decide +kernel) (by decide +kernel)
theorem mw_X4_bring : dr_mw yX4_bring cX4_bring 6 none 2 := ⟨dr_in (i := 597) (by decide +kernel) (by decide +kernel), dr_in (i := 69) (by decide +kernel) (by decide +kernel), by decide +kernel⟩
theorem mi_X4_bring : Cond.instanceMethod yX4_bring ∈ dr_tbl := dr_in (i := 595) (by decide +kernel) (by decide +kernel)
theorem msl_X4_bring : Cond.selects yX4_bring.cls yX4_bring yX4_bring ∈ dr_tbl := dr_in (i := 596) (by decide +kernel) (by decide +kernel)
theorem mw_X2_copy : dr_mw yX2_copy cX2_copy 5 none 3 := ⟨dr_in (i := 601) (by decide +kernel) (by decide +kernel), dr_in (i := 70) (by decide +kernel) (by decide +kernel), by decide +kernel⟩
theorem mi_X2_copy : Cond.instanceMethod yX2_copy ∈ dr_tbl := dr_in (i := 599) (by decide +kernel) (by decide +kernel)
theorem msl_X2_copy : Cond.selects yX2_copy.cls yX2_copy yX2_copy ∈ dr_tbl := dr_in (i := 600) (by decide +kernel) (by decide +kernel)
theorem mw_X10_moveTo : dr_mw yX10_moveTo cX10_moveTo 3 none 2 := ⟨dr_in (i := 606) (by decide +kernel) (by decide +kernel), dr_in (i := 74) (by decide +kernel) (by decide +kernel), by decide +kernel⟩
theorem mi_X10_moveTo : Cond.instanceMethod yX10_moveTo ∈ dr_tbl := dr_in (i := 605) (by decide +kernel) (by decide +kernel)
theorem msl_X10_moveTo : Cond.selects yX10_moveTo.cls yX10_moveTo yX10_moveTo ∈ dr_tbl := dr_in (i := 11) (by decide +kernel) (by decide +kernel)
theorem mw_X10_letGo : dr_mw yX10_letGo cX10_letGo 3 none 2 := ⟨dr_in (i := 610) (by decide +kernel) (by decide +kernel), dr_in (i := 74) (by decide +kernel) (by decide +kernel), by decide +kernel⟩
theorem mi_X10_letGo : Cond.instanceMethod yX10_letGo ∈ dr_tbl := dr_in (i := 609) (by decide +kernel) (by decide +kernel)
theorem msl_X10_letGo : Cond.selects yX10_letGo.cls yX10_letGo yX10_letGo ∈ dr_tbl := dr_in (i := 12) (by decide +kernel) (by decide +kernel)
theorem mw_X10_write : dr_mw yX10_write cX10_write 4 none 1 := ⟨dr_in (i := 614) (by decide +kernel) (by decide +kernel), dr_in (i := 74) (by decide +kernel) (by decide +kernel), by decide +kernel⟩
theorem mi_X10_write : Cond.instanceMethod yX10_write ∈ dr_tbl := dr_in (i := 613) (by decide +kernel) (by decide +kernel)
theorem msl_X10_write : Cond.selects yX10_write.cls yX10_write yX10_write ∈ dr_tbl := dr_in (i := 13) (by decide +kernel) (by decide +kernel)
theorem mw_X10_writeGuide : dr_mw yX10_writeGuide cX10_writeGuide 6 none 2 := ⟨dr_in (i := 618) (by decide +kernel) (by decide +kernel), dr_in (i := 74) (by decide +kernel) (by decide +kernel), by decide +kernel⟩
theorem mi_X10_writeGuide : Cond.instanceMethod yX10_writeGuide ∈ dr_tbl := dr_in (i := 617) (by decide +kernel) (by decide +kernel)
theorem msl_X10_writeGuide : Cond.selects yX10_writeGuide.cls yX10_writeGuide yX10_writeGuide ∈ dr_tbl := dr_in (i := 14) (by decide +kernel) (by decide +kernel)
theorem mw_X4_insert : dr_mw yX4_insert cX4_insert 9 none 4 := ⟨dr_in (i := 622) (by decide +kernel) (by decide +kernel), dr_in (i := 69) (by decide +kernel) (by decide +kernel), by decide +kernel⟩
theorem mi_X4_insert : Cond.instanceMethod yX4_insert ∈ dr_tbl := dr_in (i := 620) (by decide +kernel) (by decide +kernel)
theorem msl_X4_insert : Cond.selects yX4_insert.cls yX4_insert yX4_insert ∈ dr_tbl := dr_in (i := 621) (by decide +kernel) (by decide +kernel)
theorem mw_X4_setChild : dr_mw yX4_setChild cX4_setChild 4 none 3 := ⟨dr_in (i := 626) (by decide +kernel) (by decide +kernel), dr_in (i := 69) (by decide +kernel) (by decide +kernel), by decide +kernel⟩
theorem mi_X4_setChild : Cond.instanceMethod yX4_setChild ∈ dr_tbl := dr_in (i := 624) (by decide +kernel) (by decide +kernel)
theorem msl_X4_setChild : Cond.selects yX4_setChild.cls yX4_setChild yX4_setChild ∈ dr_tbl := dr_in (i := 625) (by decide +kernel) (by decide +kernel)
theorem mw_X10_writeCard : dr_mw yX10_writeCard cX10_writeCard 6 (some .boolean) 2 := ⟨dr_in (i := 630) (by decide +kernel) (by decide +kernel), dr_in (i := 74) (by decide +kernel) (by decide +kernel), by decide +kernel⟩
theorem mi_X10_writeCard : Cond.instanceMethod yX10_writeCard ∈ dr_tbl := dr_in (i := 629) (by decide +kernel) (by decide +kernel)
theorem msl_X10_writeCard : Cond.selects yX10_writeCard.cls yX10_writeCard yX10_writeCard ∈ dr_tbl := dr_in (i := 15) (by decide +kernel) (by decide +kernel)
theorem mw_X4_remove : dr_mw yX4_remove cX4_remove 5 none 2 := ⟨dr_in (i := 634) (by decide +kernel) (by decide +kernel), dr_in (i := 69) (by decide +kernel) (by decide +kernel), by decide +kernel⟩
theorem mi_X4_remove : Cond.instanceMethod yX4_remove ∈ dr_tbl := dr_in (i := 632) (by decide +kernel) (by decide +kernel)
theorem msl_X4_remove : Cond.selects yX4_remove.cls yX4_remove yX4_remove ∈ dr_tbl := dr_in (i := 633) (by decide +kernel) (by decide +kernel)
theorem mw_X6_changeCards : dr_mw yX6_changeCards cX6_changeCards 2 none 1 := ⟨dr_in (i := 638) (by decide +kernel) (by decide +kernel), dr_in (i := 73) (by decide +kernel) (by decide +kernel), by decide +kernel⟩
theorem mi_X6_changeCards : Cond.instanceMethod yX6_changeCards ∈ dr_tbl := dr_in (i := 636) (by decide +kernel) (by decide +kernel)
theorem msl_X6_changeCards : Cond.selects yX6_changeCards.cls yX6_changeCards yX6_changeCards ∈ dr_tbl := dr_in (i := 637) (by decide +kernel) (by decide +kernel)
theorem mw_X4_half : dr_mw yX4_half cX4_half 1 (some .int) 0 := ⟨dr_in (i := 642) (by decide +kernel) (by decide +kernel), dr_in (i := 69) (by decide +kernel) (by decide +kernel), by decide +kernel⟩
theorem mi_X4_half : Cond.instanceMethod yX4_half ∈ dr_tbl := dr_in (i := 640) (by decide +kernel) (by decide +kernel)
theorem msl_X4_half : Cond.selects yX4_half.cls yX4_half yX4_half ∈ dr_tbl := dr_in (i := 641) (by decide +kernel) (by decide +kernel)
theorem mw_X4_part : dr_mw yX4_part cX4_part 8 (some .int) 1 := ⟨dr_in (i := 646) (by decide +kernel) (by decide +kernel), dr_in (i := 69) (by decide +kernel) (by decide +kernel), by decide +kernel⟩
theorem mi_X4_part : Cond.instanceMethod yX4_part ∈ dr_tbl := dr_in (i := 644) (by decide +kernel) (by decide +kernel)
theorem msl_X4_part : Cond.selects yX4_part.cls yX4_part yX4_part ∈ dr_tbl := dr_in (i := 645) (by decide +kernel) (by decide +kernel)
theorem mw_X10_climb : dr_mw yX10_climb cX10_climb 5 none 1 := ⟨dr_in (i := 650) (by decide +kernel) (by decide +kernel), dr_in (i := 74) (by decide +kernel) (by decide +kernel), by decide +kernel⟩
theorem mi_X10_climb : Cond.instanceMethod yX10_climb ∈ dr_tbl := dr_in (i := 649) (by decide +kernel) (by decide +kernel)
theorem msl_X10_climb : Cond.selects yX10_climb.cls yX10_climb yX10_climb ∈ dr_tbl := dr_in (i := 16) (by decide +kernel) (by decide +kernel)
theorem mw_X4_raise : dr_mw yX4_raise cX4_raise 5 none 3 := ⟨dr_in (i := 655) (by decide +kernel) (by decide +kernel), dr_in (i := 69) (by decide +kernel) (by decide +kernel), by decide +kernel⟩
theorem mi_X4_raise : Cond.instanceMethod yX4_raise ∈ dr_tbl := dr_in (i := 653) (by decide +kernel) (by decide +kernel)
theorem msl_X4_raise : Cond.selects yX4_raise.cls yX4_raise yX4_raise ∈ dr_tbl := dr_in (i := 654) (by decide +kernel) (by decide +kernel)
theorem mw_X4_addHeading : dr_mw yX4_addHeading cX4_addHeading 4 none 2 := ⟨dr_in (i := 659) (by decide +kernel) (by decide +kernel), dr_in (i := 69) (by decide +kernel) (by decide +kernel), by decide +kernel⟩
theorem mi_X4_addHeading : Cond.instanceMethod yX4_addHeading ∈ dr_tbl := dr_in (i := 657) (by decide +kernel) (by decide +kernel)
theorem msl_X4_addHeading : Cond.selects yX4_addHeading.cls yX4_addHeading yX4_addHeading ∈ dr_tbl := dr_in (i := 658) (by decide +kernel) (by decide +kernel)
theorem mw_X3_path : dr_mw yX3_path cX3_path 3 (some .int) 2 := ⟨dr_in (i := 664) (by decide +kernel) (by decide +kernel), dr_in (i := 72) (by decide +kernel) (by decide +kernel), by decide +kernel⟩
theorem mi_X3_path : Cond.instanceMethod yX3_path ∈ dr_tbl := dr_in (i := 662) (by decide +kernel) (by decide +kernel)
theorem msl_X3_path : Cond.selects yX3_path.cls yX3_path yX3_path ∈ dr_tbl := dr_in (i := 663) (by decide +kernel) (by decide +kernel)
theorem mw_X4_firstOf : dr_mw yX4_firstOf cX4_firstOf 4 (some .int) 1 := ⟨dr_in (i := 668) (by decide +kernel) (by decide +kernel), dr_in (i := 69) (by decide +kernel) (by decide +kernel), by decide +kernel⟩
theorem mi_X4_firstOf : Cond.instanceMethod yX4_firstOf ∈ dr_tbl := dr_in (i := 666) (by decide +kernel) (by decide +kernel)
theorem msl_X4_firstOf : Cond.selects yX4_firstOf.cls yX4_firstOf yX4_firstOf ∈ dr_tbl := dr_in (i := 667) (by decide +kernel) (by decide +kernel)
theorem mw_X11_clerk : dr_mw yX11_clerk cX11_clerk 3 (some .int) 2 := ⟨dr_in (i := 674) (by decide +kernel) (by decide +kernel), dr_in (i := 67) (by decide +kernel) (by decide +kernel), by decide +kernel⟩
theorem mi_X11_clerk : Cond.instanceMethod yX11_clerk ∈ dr_tbl := dr_in (i := 672) (by decide +kernel) (by decide +kernel)
theorem msl_X11_clerk : Cond.selects yX11_clerk.cls yX11_clerk yX11_clerk ∈ dr_tbl := dr_in (i := 673) (by decide +kernel) (by decide +kernel)
theorem mw_X11_job : dr_mw yX11_job cX11_job 3 (some .int) 2 := ⟨dr_in (i := 679) (by decide +kernel) (by decide +kernel), dr_in (i := 67) (by decide +kernel) (by decide +kernel), by decide +kernel⟩
theorem mi_X11_job : Cond.instanceMethod yX11_job ∈ dr_tbl := dr_in (i := 677) (by decide +kernel) (by decide +kernel)
theorem msl_X11_job : Cond.selects yX11_job.cls yX11_job yX11_job ∈ dr_tbl := dr_in (i := 678) (by decide +kernel) (by decide +kernel)
theorem mw_X11_drawer : dr_mw yX11_drawer cX11_drawer 4 (some .int) 2 := ⟨dr_in (i := 684) (by decide +kernel) (by decide +kernel), dr_in (i := 67) (by decide +kernel) (by decide +kernel), by decide +kernel⟩
theorem mi_X11_drawer : Cond.instanceMethod yX11_drawer ∈ dr_tbl := dr_in (i := 682) (by decide +kernel) (by decide +kernel)
theorem msl_X11_drawer : Cond.selects yX11_drawer.cls yX11_drawer yX11_drawer ∈ dr_tbl := dr_in (i := 683) (by decide +kernel) (by decide +kernel)
theorem mw_X11_at : dr_mw yX11_at cX11_at 4 (some .int) 3 := ⟨dr_in (i := 689) (by decide +kernel) (by decide +kernel), dr_in (i := 67) (by decide +kernel) (by decide +kernel), by decide +kernel⟩
theorem mi_X11_at : Cond.instanceMethod yX11_at ∈ dr_tbl := dr_in (i := 687) (by decide +kernel) (by decide +kernel)
theorem msl_X11_at : Cond.selects yX11_at.cls yX11_at yX11_at ∈ dr_tbl := dr_in (i := 688) (by decide +kernel) (by decide +kernel)
theorem mw_X4_heading : dr_mw yX4_heading cX4_heading 3 (some .int) 2 := ⟨dr_in (i := 694) (by decide +kernel) (by decide +kernel), dr_in (i := 69) (by decide +kernel) (by decide +kernel), by decide +kernel⟩
theorem mi_X4_heading : Cond.instanceMethod yX4_heading ∈ dr_tbl := dr_in (i := 692) (by decide +kernel) (by decide +kernel)
theorem msl_X4_heading : Cond.selects yX4_heading.cls yX4_heading yX4_heading ∈ dr_tbl := dr_in (i := 693) (by decide +kernel) (by decide +kernel)
theorem mw_X11_nth : dr_mw yX11_nth cX11_nth 2 (some .int) 1 := ⟨dr_in (i := 698) (by decide +kernel) (by decide +kernel), dr_in (i := 67) (by decide +kernel) (by decide +kernel), by decide +kernel⟩
theorem mi_X11_nth : Cond.instanceMethod yX11_nth ∈ dr_tbl := dr_in (i := 696) (by decide +kernel) (by decide +kernel)
theorem msl_X11_nth : Cond.selects yX11_nth.cls yX11_nth yX11_nth ∈ dr_tbl := dr_in (i := 697) (by decide +kernel) (by decide +kernel)
theorem mw_X1_kth : dr_mw yX1_kth cX1_kth 6 (some .int) 1 := ⟨dr_in (i := 702) (by decide +kernel) (by decide +kernel), dr_in (i := 75) (by decide +kernel) (by decide +kernel), by decide +kernel⟩
theorem mi_X1_kth : Cond.instanceMethod yX1_kth ∈ dr_tbl := dr_in (i := 700) (by decide +kernel) (by decide +kernel)
theorem msl_X1_kth : Cond.selects yX1_kth.cls yX1_kth yX1_kth ∈ dr_tbl := dr_in (i := 701) (by decide +kernel) (by decide +kernel)
theorem mw_X11_rank : dr_mw yX11_rank cX11_rank 2 (some .int) 1 := ⟨dr_in (i := 709) (by decide +kernel) (by decide +kernel), dr_in (i := 67) (by decide +kernel) (by decide +kernel), by decide +kernel⟩
theorem mi_X11_rank : Cond.instanceMethod yX11_rank ∈ dr_tbl := dr_in (i := 707) (by decide +kernel) (by decide +kernel)
theorem msl_X11_rank : Cond.selects yX11_rank.cls yX11_rank yX11_rank ∈ dr_tbl := dr_in (i := 708) (by decide +kernel) (by decide +kernel)
theorem mw_X1_aheadOf : dr_mw yX1_aheadOf cX1_aheadOf 7 (some .int) 1 := ⟨dr_in (i := 713) (by decide +kernel) (by decide +kernel), dr_in (i := 75) (by decide +kernel) (by decide +kernel), by decide +kernel⟩
theorem mi_X1_aheadOf : Cond.instanceMethod yX1_aheadOf ∈ dr_tbl := dr_in (i := 711) (by decide +kernel) (by decide +kernel)
theorem msl_X1_aheadOf : Cond.selects yX1_aheadOf.cls yX1_aheadOf yX1_aheadOf ∈ dr_tbl := dr_in (i := 712) (by decide +kernel) (by decide +kernel)
theorem mw_X11_there : dr_mw yX11_there cX11_there 8 (some .int) 3 := ⟨dr_in (i := 718) (by decide +kernel) (by decide +kernel), dr_in (i := 67) (by decide +kernel) (by decide +kernel), by decide +kernel⟩
theorem mi_X11_there : Cond.instanceMethod yX11_there ∈ dr_tbl := dr_in (i := 716) (by decide +kernel) (by decide +kernel)
theorem msl_X11_there : Cond.selects yX11_there.cls yX11_there yX11_there ∈ dr_tbl := dr_in (i := 717) (by decide +kernel) (by decide +kernel)
theorem mw_X6_isLastChange : dr_mw yX6_isLastChange cX6_isLastChange 6 (some .boolean) 2 := ⟨dr_in (i := 723) (by decide +kernel) (by decide +kernel), dr_in (i := 73) (by decide +kernel) (by decide +kernel), by decide +kernel⟩
theorem mi_X6_isLastChange : Cond.instanceMethod yX6_isLastChange ∈ dr_tbl := dr_in (i := 721) (by decide +kernel) (by decide +kernel)
theorem msl_X6_isLastChange : Cond.selects yX6_isLastChange.cls yX6_isLastChange yX6_isLastChange ∈ dr_tbl := dr_in (i := 722) (by decide +kernel) (by decide +kernel)
theorem mw_X11_line : dr_mw yX11_line cX11_line 2 (some .int) 1 := ⟨dr_in (i := 727) (by decide +kernel) (by decide +kernel), dr_in (i := 67) (by decide +kernel) (by decide +kernel), by decide +kernel⟩
theorem mi_X11_line : Cond.instanceMethod yX11_line ∈ dr_tbl := dr_in (i := 725) (by decide +kernel) (by decide +kernel)
theorem msl_X11_line : Cond.selects yX11_line.cls yX11_line yX11_line ∈ dr_tbl := dr_in (i := 726) (by decide +kernel) (by decide +kernel)
theorem mw_X7_judge : dr_mw yX7_judge cX7_judge 2 (some .int) 1 := ⟨dr_in (i := 731) (by decide +kernel) (by decide +kernel), dr_in (i := 76) (by decide +kernel) (by decide +kernel), by decide +kernel⟩
theorem mi_X7_judge : Cond.instanceMethod yX7_judge ∈ dr_tbl := dr_in (i := 729) (by decide +kernel) (by decide +kernel)
theorem msl_X7_judge : Cond.selects yX7_judge.cls yX7_judge yX7_judge ∈ dr_tbl := dr_in (i := 730) (by decide +kernel) (by decide +kernel)
theorem mw_X7_canBeAsked : dr_mw yX7_canBeAsked cX7_canBeAsked 3 (some .boolean) 1 := ⟨dr_in (i := 735) (by decide +kernel) (by decide +kernel), dr_in (i := 76) (by decide +kernel) (by decide +kernel), by decide +kernel⟩
theorem mi_X7_canBeAsked : Cond.instanceMethod yX7_canBeAsked ∈ dr_tbl := dr_in (i := 734) (by decide +kernel) (by decide +kernel)
theorem msl_X7_canBeAsked : Cond.selects yX7_canBeAsked.cls yX7_canBeAsked yX7_canBeAsked ∈ dr_tbl := dr_in (i := 17) (by decide +kernel) (by decide +kernel)
theorem mw_J7_fill_53178 : dr_mw yJ7_fill_53178 cJ7_fill_53178 4 none 2 := ⟨dr_in (i := 740) (by decide +kernel) (by decide +kernel), dr_in (i := 82) (by decide +kernel) (by decide +kernel), by decide +kernel⟩
theorem ms_J7_fill_53178 : Cond.static yJ7_fill_53178 ∈ dr_tbl := dr_in (i := 739) (by decide +kernel) (by decide +kernel)
theorem mw_X7_goesOn : dr_mw yX7_goesOn cX7_goesOn 7 (some .boolean) 3 := ⟨dr_in (i := 744) (by decide +kernel) (by decide +kernel), dr_in (i := 76) (by decide +kernel) (by decide +kernel), by decide +kernel⟩
theorem mi_X7_goesOn : Cond.instanceMethod yX7_goesOn ∈ dr_tbl := dr_in (i := 743) (by decide +kernel) (by decide +kernel)
theorem msl_X7_goesOn : Cond.selects yX7_goesOn.cls yX7_goesOn yX7_goesOn ∈ dr_tbl := dr_in (i := 18) (by decide +kernel) (by decide +kernel)
theorem mw_X7_nothingComesFirst : dr_mw yX7_nothingComesFirst cX7_nothingComesFirst 4 (some .boolean) 2 := ⟨dr_in (i := 748) (by decide +kernel) (by decide +kernel), dr_in (i := 76) (by decide +kernel) (by decide +kernel), by decide +kernel⟩
theorem mi_X7_nothingComesFirst : Cond.instanceMethod yX7_nothingComesFirst ∈ dr_tbl := dr_in (i := 747) (by decide +kernel) (by decide +kernel)
theorem msl_X7_nothingComesFirst : Cond.selects yX7_nothingComesFirst.cls yX7_nothingComesFirst yX7_nothingComesFirst ∈ dr_tbl := dr_in (i := 19) (by decide +kernel) (by decide +kernel)
theorem mw_X7_isRight : dr_mw yX7_isRight cX7_isRight 4 (some .boolean) 2 := ⟨dr_in (i := 752) (by decide +kernel) (by decide +kernel), dr_in (i := 76) (by decide +kernel) (by decide +kernel), by decide +kernel⟩
theorem mi_X7_isRight : Cond.instanceMethod yX7_isRight ∈ dr_tbl := dr_in (i := 751) (by decide +kernel) (by decide +kernel)
theorem msl_X7_isRight : Cond.selects yX7_isRight.cls yX7_isRight yX7_isRight ∈ dr_tbl := dr_in (i := 20) (by decide +kernel) (by decide +kernel)
theorem mw_X11_order : dr_mw yX11_order cX11_order 3 (some .int) 2 := ⟨dr_in (i := 756) (by decide +kernel) (by decide +kernel), dr_in (i := 67) (by decide +kernel) (by decide +kernel), by decide +kernel⟩
theorem mi_X11_order : Cond.instanceMethod yX11_order ∈ dr_tbl := dr_in (i := 754) (by decide +kernel) (by decide +kernel)
theorem msl_X11_order : Cond.selects yX11_order.cls yX11_order yX11_order ∈ dr_tbl := dr_in (i := 755) (by decide +kernel) (by decide +kernel)
theorem mw_X7_kthOfRow : dr_mw yX7_kthOfRow cX7_kthOfRow 2 (some .int) 1 := ⟨dr_in (i := 760) (by decide +kernel) (by decide +kernel), dr_in (i := 76) (by decide +kernel) (by decide +kernel), by decide +kernel⟩
theorem mi_X7_kthOfRow : Cond.instanceMethod yX7_kthOfRow ∈ dr_tbl := dr_in (i := 758) (by decide +kernel) (by decide +kernel)
theorem msl_X7_kthOfRow : Cond.selects yX7_kthOfRow.cls yX7_kthOfRow yX7_kthOfRow ∈ dr_tbl := dr_in (i := 759) (by decide +kernel) (by decide +kernel)
theorem mw_X11_shape : dr_mw yX11_shape cX11_shape 1 (some .int) 0 := ⟨dr_in (i := 764) (by decide +kernel) (by decide +kernel), dr_in (i := 67) (by decide +kernel) (by decide +kernel), by decide +kernel⟩
theorem mi_X11_shape : Cond.instanceMethod yX11_shape ∈ dr_tbl := dr_in (i := 762) (by decide +kernel) (by decide +kernel)
theorem msl_X11_shape : Cond.selects yX11_shape.cls yX11_shape yX11_shape ∈ dr_tbl := dr_in (i := 763) (by decide +kernel) (by decide +kernel)
theorem mw_X9_leastBad : dr_mw yX9_leastBad cX9_leastBad 3 (some .int) 0 := ⟨dr_in (i := 768) (by decide +kernel) (by decide +kernel), dr_in (i := 77) (by decide +kernel) (by decide +kernel), by decide +kernel⟩
theorem mi_X9_leastBad : Cond.instanceMethod yX9_leastBad ∈ dr_tbl := dr_in (i := 766) (by decide +kernel) (by decide +kernel)
theorem msl_X9_leastBad : Cond.selects yX9_leastBad.cls yX9_leastBad yX9_leastBad ∈ dr_tbl := dr_in (i := 767) (by decide +kernel) (by decide +kernel)
theorem mw_X9_hasBadHeadings : dr_mw yX9_hasBadHeadings cX9_hasBadHeadings 6 (some .boolean) 1 := ⟨dr_in (i := 774) (by decide +kernel) (by decide +kernel), dr_in (i := 77) (by decide +kernel) (by decide +kernel), by decide +kernel⟩
theorem mi_X9_hasBadHeadings : Cond.instanceMethod yX9_hasBadHeadings ∈ dr_tbl := dr_in (i := 773) (by decide +kernel) (by decide +kernel)
theorem msl_X9_hasBadHeadings : Cond.selects yX9_hasBadHeadings.cls yX9_hasBadHeadings yX9_hasBadHeadings ∈ dr_tbl := dr_in (i := 21) (by decide +kernel) (by decide +kernel)
theorem mw_X9_hasBadChildren : dr_mw yX9_hasBadChildren cX9_hasBadChildren 8 (some .boolean) 1 := ⟨dr_in (i := 782) (by decide +kernel) (by decide +kernel), dr_in (i := 77) (by decide +kernel) (by decide +kernel), by decide +kernel⟩
theorem mi_X9_hasBadChildren : Cond.instanceMethod yX9_hasBadChildren ∈ dr_tbl := dr_in (i := 781) (by decide +kernel) (by decide +kernel)
theorem msl_X9_hasBadChildren : Cond.selects yX9_hasBadChildren.cls yX9_hasBadChildren yX9_hasBadChildren ∈ dr_tbl := dr_in (i := 22) (by decide +kernel) (by decide +kernel)
theorem mw_X11_found : dr_mw yX11_found cX11_found 3 (some .int) 2 := ⟨dr_in (i := 787) (by decide +kernel) (by decide +kernel), dr_in (i := 67) (by decide +kernel) (by decide +kernel), by decide +kernel⟩
theorem mi_X11_found : Cond.instanceMethod yX11_found ∈ dr_tbl := dr_in (i := 785) (by decide +kernel) (by decide +kernel)
theorem msl_X11_found : Cond.selects yX11_found.cls yX11_found yX11_found ∈ dr_tbl := dr_in (i := 786) (by decide +kernel) (by decide +kernel)
theorem mw_X3_atJobs : dr_mw yX3_atJobs cX3_atJobs 3 (some .int) 0 := ⟨dr_in (i := 791) (by decide +kernel) (by decide +kernel), dr_in (i := 72) (by decide +kernel) (by decide +kernel), by decide +kernel⟩
theorem mi_X3_atJobs : Cond.instanceMethod yX3_atJobs ∈ dr_tbl := dr_in (i := 789) (by decide +kernel) (by decide +kernel)
theorem msl_X3_atJobs : Cond.selects yX3_atJobs.cls yX3_atJobs yX3_atJobs ∈ dr_tbl := dr_in (i := 790) (by decide +kernel) (by decide +kernel)
theorem mw_X8_takeTheTwo : dr_mw yX8_takeTheTwo cX8_takeTheTwo 2 none 0 := ⟨dr_in (i := 796) (by decide +kernel) (by decide +kernel), dr_in (i := 78) (by decide +kernel) (by decide +kernel), by decide +kernel⟩
theorem mi_X8_takeTheTwo : Cond.instanceMethod yX8_takeTheTwo ∈ dr_tbl := dr_in (i := 794) (by decide +kernel) (by decide +kernel)
theorem msl_X8_takeTheTwo : Cond.selects yX8_takeTheTwo.cls yX8_takeTheTwo yX8_takeTheTwo ∈ dr_tbl := dr_in (i := 795) (by decide +kernel) (by decide +kernel)
theorem mw_X8_goesWrong : dr_mw yX8_goesWrong cX8_goesWrong 7 (some .boolean) 2 := ⟨dr_in (i := 801) (by decide +kernel) (by decide +kernel), dr_in (i := 78) (by decide +kernel) (by decide +kernel), by decide +kernel⟩
theorem mi_X8_goesWrong : Cond.instanceMethod yX8_goesWrong ∈ dr_tbl := dr_in (i := 800) (by decide +kernel) (by decide +kernel)
theorem msl_X8_goesWrong : Cond.selects yX8_goesWrong.cls yX8_goesWrong yX8_goesWrong ∈ dr_tbl := dr_in (i := 23) (by decide +kernel) (by decide +kernel)
theorem mw_X8_isWrongNow : dr_mw yX8_isWrongNow cX8_isWrongNow 3 (some .boolean) 0 := ⟨dr_in (i := 805) (by decide +kernel) (by decide +kernel), dr_in (i := 78) (by decide +kernel) (by decide +kernel), by decide +kernel⟩
theorem mi_X8_isWrongNow : Cond.instanceMethod yX8_isWrongNow ∈ dr_tbl := dr_in (i := 804) (by decide +kernel) (by decide +kernel)
theorem msl_X8_isWrongNow : Cond.selects yX8_isWrongNow.cls yX8_isWrongNow yX8_isWrongNow ∈ dr_tbl := dr_in (i := 24) (by decide +kernel) (by decide +kernel)
theorem mw_X2_startTrying : dr_mw yX2_startTrying cX2_startTrying 1 (some .int) 0 := ⟨dr_in (i := 814) (by decide +kernel) (by decide +kernel), dr_in (i := 70) (by decide +kernel) (by decide +kernel), by decide +kernel⟩
theorem mi_X2_startTrying : Cond.instanceMethod yX2_startTrying ∈ dr_tbl := dr_in (i := 812) (by decide +kernel) (by decide +kernel)
theorem msl_X2_startTrying : Cond.selects yX2_startTrying.cls yX2_startTrying yX2_startTrying ∈ dr_tbl := dr_in (i := 813) (by decide +kernel) (by decide +kernel)
theorem mw_X2_takeBack : dr_mw yX2_takeBack cX2_takeBack 4 none 1 := ⟨dr_in (i := 819) (by decide +kernel) (by decide +kernel), dr_in (i := 70) (by decide +kernel) (by decide +kernel), by decide +kernel⟩
theorem mi_X2_takeBack : Cond.instanceMethod yX2_takeBack ∈ dr_tbl := dr_in (i := 817) (by decide +kernel) (by decide +kernel)
theorem msl_X2_takeBack : Cond.selects yX2_takeBack.cls yX2_takeBack yX2_takeBack ∈ dr_tbl := dr_in (i := 818) (by decide +kernel) (by decide +kernel)
theorem mw_X8_kthClerk : dr_mw yX8_kthClerk cX8_kthClerk 2 (some .int) 1 := ⟨dr_in (i := 824) (by decide +kernel) (by decide +kernel), dr_in (i := 78) (by decide +kernel) (by decide +kernel), by decide +kernel⟩
theorem mi_X8_kthClerk : Cond.instanceMethod yX8_kthClerk ∈ dr_tbl := dr_in (i := 822) (by decide +kernel) (by decide +kernel)
theorem msl_X8_kthClerk : Cond.selects yX8_kthClerk.cls yX8_kthClerk yX8_kthClerk ∈ dr_tbl := dr_in (i := 823) (by decide +kernel) (by decide +kernel)
theorem mw_X11_fall : dr_mw yX11_fall cX11_fall 3 (some .int) 0 := ⟨dr_in (i := 828) (by decide +kernel) (by decide +kernel), dr_in (i := 67) (by decide +kernel) (by decide +kernel), by decide +kernel⟩
theorem mi_X11_fall : Cond.instanceMethod yX11_fall ∈ dr_tbl := dr_in (i := 826) (by decide +kernel) (by decide +kernel)
theorem msl_X11_fall : Cond.selects yX11_fall.cls yX11_fall yX11_fall ∈ dr_tbl := dr_in (i := 827) (by decide +kernel) (by decide +kernel)
theorem mw_X4_letAllGo : dr_mw yX4_letAllGo cX4_letAllGo 2 none 0 := ⟨dr_in (i := 834) (by decide +kernel) (by decide +kernel), dr_in (i := 69) (by decide +kernel) (by decide +kernel), by decide +kernel⟩
theorem mi_X4_letAllGo : Cond.instanceMethod yX4_letAllGo ∈ dr_tbl := dr_in (i := 832) (by decide +kernel) (by decide +kernel)
theorem msl_X4_letAllGo : Cond.selects yX4_letAllGo.cls yX4_letAllGo yX4_letAllGo ∈ dr_tbl := dr_in (i := 833) (by decide +kernel) (by decide +kernel)
theorem mw_X0_crownTheTop : dr_mw yX0_crownTheTop cX0_crownTheTop 6 none 0 := ⟨dr_in (i := 838) (by decide +kernel) (by decide +kernel), dr_in (i := 79) (by decide +kernel) (by decide +kernel), by decide +kernel⟩
theorem mi_X0_crownTheTop : Cond.instanceMethod yX0_crownTheTop ∈ dr_tbl := dr_in (i := 836) (by decide +kernel) (by decide +kernel)
theorem msl_X0_crownTheTop : Cond.selects yX0_crownTheTop.cls yX0_crownTheTop yX0_crownTheTop ∈ dr_tbl := dr_in (i := 837) (by decide +kernel) (by decide +kernel)
theorem mw_X11_night : dr_mw yX11_night cX11_night 2 (some .int) 1 := ⟨dr_in (i := 849) (by decide +kernel) (by decide +kernel), dr_in (i := 67) (by decide +kernel) (by decide +kernel), by decide +kernel⟩
theorem mi_X11_night : Cond.instanceMethod yX11_night ∈ dr_tbl := dr_in (i := 847) (by decide +kernel) (by decide +kernel)
theorem msl_X11_night : Cond.selects yX11_night.cls yX11_night yX11_night ∈ dr_tbl := dr_in (i := 848) (by decide +kernel) (by decide +kernel)
theorem mw_X0_buildAnew : dr_mw yX0_buildAnew cX0_buildAnew 7 none 1 := ⟨dr_in (i := 854) (by decide +kernel) (by decide +kernel), dr_in (i := 79) (by decide +kernel) (by decide +kernel), by decide +kernel⟩
theorem mi_X0_buildAnew : Cond.instanceMethod yX0_buildAnew ∈ dr_tbl := dr_in (i := 852) (by decide +kernel) (by decide +kernel)
theorem msl_X0_buildAnew : Cond.selects yX0_buildAnew.cls yX0_buildAnew yX0_buildAnew ∈ dr_tbl := dr_in (i := 853) (by decide +kernel) (by decide +kernel)
theorem mw_X1_sort : dr_mw yX1_sort cX1_sort 5 (some .int) 0 := ⟨dr_in (i := 858) (by decide +kernel) (by decide +kernel), dr_in (i := 75) (by decide +kernel) (by decide +kernel), by decide +kernel⟩
theorem mi_X1_sort : Cond.instanceMethod yX1_sort ∈ dr_tbl := dr_in (i := 856) (by decide +kernel) (by decide +kernel)
theorem msl_X1_sort : Cond.selects yX1_sort.cls yX1_sort yX1_sort ∈ dr_tbl := dr_in (i := 857) (by decide +kernel) (by decide +kernel)
theorem mw_X1_sortIn : dr_mw yX1_sortIn cX1_sortIn 5 none 1 := ⟨dr_in (i := 862) (by decide +kernel) (by decide +kernel), dr_in (i := 75) (by decide +kernel) (by decide +kernel), by decide +kernel⟩
theorem mi_X1_sortIn : Cond.instanceMethod yX1_sortIn ∈ dr_tbl := dr_in (i := 861) (by decide +kernel) (by decide +kernel)
theorem msl_X1_sortIn : Cond.selects yX1_sortIn.cls yX1_sortIn yX1_sortIn ∈ dr_tbl := dr_in (i := 25) (by decide +kernel) (by decide +kernel)
theorem mw_X0_buildLeaves : dr_mw yX0_buildLeaves cX0_buildLeaves 7 (some .int) 2 := ⟨dr_in (i := 867) (by decide +kernel) (by decide +kernel), dr_in (i := 79) (by decide +kernel) (by decide +kernel), by decide +kernel⟩
theorem mi_X0_buildLeaves : Cond.instanceMethod yX0_buildLeaves ∈ dr_tbl := dr_in (i := 866) (by decide +kernel) (by decide +kernel)
theorem msl_X0_buildLeaves : Cond.selects yX0_buildLeaves.cls yX0_buildLeaves yX0_buildLeaves ∈ dr_tbl := dr_in (i := 26) (by decide +kernel) (by decide +kernel)
theorem mw_X1_kthSorted : dr_mw yX1_kthSorted cX1_kthSorted 2 (some .int) 1 := ⟨dr_in (i := 871) (by decide +kernel) (by decide +kernel), dr_in (i := 75) (by decide +kernel) (by decide +kernel), by decide +kernel⟩
theorem mi_X1_kthSorted : Cond.instanceMethod yX1_kthSorted ∈ dr_tbl := dr_in (i := 869) (by decide +kernel) (by decide +kernel)
theorem msl_X1_kthSorted : Cond.selects yX1_kthSorted.cls yX1_kthSorted yX1_kthSorted ∈ dr_tbl := dr_in (i := 870) (by decide +kernel) (by decide +kernel)
theorem mw_X0_buildGuides : dr_mw yX0_buildGuides cX0_buildGuides 9 (some .int) 4 := ⟨dr_in (i := 877) (by decide +kernel) (by decide +kernel), dr_in (i := 79) (by decide +kernel) (by decide +kernel), by decide +kernel⟩
theorem mi_X0_buildGuides : Cond.instanceMethod yX0_buildGuides ∈ dr_tbl := dr_in (i := 876) (by decide +kernel) (by decide +kernel)
theorem msl_X0_buildGuides : Cond.selects yX0_buildGuides.cls yX0_buildGuides yX0_buildGuides ∈ dr_tbl := dr_in (i := 27) (by decide +kernel) (by decide +kernel)
theorem mw_X11_count : dr_mw yX11_count cX11_count 2 (some .int) 1 := ⟨dr_in (i := 881) (by decide +kernel) (by decide +kernel), dr_in (i := 67) (by decide +kernel) (by decide +kernel), by decide +kernel⟩
theorem mi_X11_count : Cond.instanceMethod yX11_count ∈ dr_tbl := dr_in (i := 879) (by decide +kernel) (by decide +kernel)
theorem msl_X11_count : Cond.selects yX11_count.cls yX11_count yX11_count ∈ dr_tbl := dr_in (i := 880) (by decide +kernel) (by decide +kernel)
theorem mw_X1_howMany : dr_mw yX1_howMany cX1_howMany 4 (some .int) 0 := ⟨dr_in (i := 885) (by decide +kernel) (by decide +kernel), dr_in (i := 75) (by decide +kernel) (by decide +kernel), by decide +kernel⟩
theorem mi_X1_howMany : Cond.instanceMethod yX1_howMany ∈ dr_tbl := dr_in (i := 883) (by decide +kernel) (by decide +kernel)
theorem msl_X1_howMany : Cond.selects yX1_howMany.cls yX1_howMany yX1_howMany ∈ dr_tbl := dr_in (i := 884) (by decide +kernel) (by decide +kernel)
theorem mw_X4_latched : dr_mw yX4_latched cX4_latched 3 (some .int) 0 := ⟨dr_in (i := 889) (by decide +kernel) (by decide +kernel), dr_in (i := 69) (by decide +kernel) (by decide +kernel), by decide +kernel⟩
theorem mi_X4_latched : Cond.instanceMethod yX4_latched ∈ dr_tbl := dr_in (i := 887) (by decide +kernel) (by decide +kernel)
theorem msl_X4_latched : Cond.selects yX4_latched.cls yX4_latched yX4_latched ∈ dr_tbl := dr_in (i := 888) (by decide +kernel) (by decide +kernel)
theorem mw_X5_parts : dr_mw yX5_parts cX5_parts 1 (some .int) 0 := ⟨dr_in (i := 893) (by decide +kernel) (by decide +kernel), dr_in (i := 71) (by decide +kernel) (by decide +kernel), by decide +kernel⟩
theorem mi_X5_parts : Cond.instanceMethod yX5_parts ∈ dr_tbl := dr_in (i := 891) (by decide +kernel) (by decide +kernel)
theorem msl_X5_parts : Cond.selects yX5_parts.cls yX5_parts yX5_parts ∈ dr_tbl := dr_in (i := 892) (by decide +kernel) (by decide +kernel)
theorem mw_L_cell : dr_mw yL_cell cL_cell 2 (some .int) 2 := ⟨dr_in (i := 896) (by decide +kernel) (by decide +kernel), dr_in (i := 66) (by decide +kernel) (by decide +kernel), by decide +kernel⟩
theorem ms_L_cell : Cond.static yL_cell ∈ dr_tbl := dr_in (i := 895) (by decide +kernel) (by decide +kernel)
theorem mw_X12_init : dr_mw yX12_init cX12_init 3 none 1 := ⟨dr_in (i := 901) (by decide +kernel) (by decide +kernel), dr_in (i := 80) (by decide +kernel) (by decide +kernel), by decide +kernel⟩
theorem mi_X12_init : Cond.instanceMethod yX12_init ∈ dr_tbl := dr_in (i := 900) (by decide +kernel) (by decide +kernel)
theorem mw_X12_clears : dr_mw yX12_clears cX12_clears 2 none 1 := ⟨dr_in (i := 906) (by decide +kernel) (by decide +kernel), dr_in (i := 80) (by decide +kernel) (by decide +kernel), by decide +kernel⟩
theorem mi_X12_clears : Cond.instanceMethod yX12_clears ∈ dr_tbl := dr_in (i := 905) (by decide +kernel) (by decide +kernel)
theorem msl_X12_clears : Cond.selects yX12_clears.cls yX12_clears yX12_clears ∈ dr_tbl := dr_in (i := 28) (by decide +kernel) (by decide +kernel)
theorem mw_X12_rule : dr_mw yX12_rule cX12_rule 11 (some .int) 6 := ⟨dr_in (i := 1089) (by decide +kernel) (by decide +kernel), dr_in (i := 80) (by decide +kernel) (by decide +kernel), by decide +kernel⟩
theorem mi_X12_rule : Cond.instanceMethod yX12_rule ∈ dr_tbl := dr_in (i := 1087) (by decide +kernel) (by decide +kernel)
theorem msl_X12_rule : Cond.selects yX12_rule.cls yX12_rule yX12_rule ∈ dr_tbl := dr_in (i := 1088) (by decide +kernel) (by decide +kernel)
theorem mw_X12_in : dr_mw yX12_in cX12_in 3 (some .boolean) 3 := ⟨dr_in (i := 1092) (by decide +kernel) (by decide +kernel), dr_in (i := 80) (by decide +kernel) (by decide +kernel), by decide +kernel⟩
theorem ms_X12_in : Cond.static yX12_in ∈ dr_tbl := dr_in (i := 1091) (by decide +kernel) (by decide +kernel)
theorem mw_X12_byteOf : dr_mw yX12_byteOf cX12_byteOf 7 (some .int) 6 := ⟨dr_in (i := 1095) (by decide +kernel) (by decide +kernel), dr_in (i := 80) (by decide +kernel) (by decide +kernel), by decide +kernel⟩
theorem ms_X12_byteOf : Cond.static yX12_byteOf ∈ dr_tbl := dr_in (i := 1094) (by decide +kernel) (by decide +kernel)
theorem mw_X12_isRead : dr_mw yX12_isRead cX12_isRead 3 (some .boolean) 1 := ⟨dr_in (i := 1099) (by decide +kernel) (by decide +kernel), dr_in (i := 80) (by decide +kernel) (by decide +kernel), by decide +kernel⟩
theorem mi_X12_isRead : Cond.instanceMethod yX12_isRead ∈ dr_tbl := dr_in (i := 1098) (by decide +kernel) (by decide +kernel)
theorem msl_X12_isRead : Cond.selects yX12_isRead.cls yX12_isRead yX12_isRead ∈ dr_tbl := dr_in (i := 29) (by decide +kernel) (by decide +kernel)
theorem mw_X12_ahead : dr_mw yX12_ahead cX12_ahead 3 (some .int) 2 := ⟨dr_in (i := 1103) (by decide +kernel) (by decide +kernel), dr_in (i := 80) (by decide +kernel) (by decide +kernel), by decide +kernel⟩
theorem mi_X12_ahead : Cond.instanceMethod yX12_ahead ∈ dr_tbl := dr_in (i := 1101) (by decide +kernel) (by decide +kernel)
theorem msl_X12_ahead : Cond.selects yX12_ahead.cls yX12_ahead yX12_ahead ∈ dr_tbl := dr_in (i := 1102) (by decide +kernel) (by decide +kernel)
theorem mw_X12_isHeading : dr_mw yX12_isHeading cX12_isHeading 1 (some .boolean) 1 := ⟨dr_in (i := 1106) (by decide +kernel) (by decide +kernel), dr_in (i := 80) (by decide +kernel) (by decide +kernel), by decide +kernel⟩
theorem ms_X12_isHeading : Cond.static yX12_isHeading ∈ dr_tbl := dr_in (i := 1105) (by decide +kernel) (by decide +kernel)
theorem mw_X12_isAhead : dr_mw yX12_isAhead cX12_isAhead 6 (some .boolean) 2 := ⟨dr_in (i := 1110) (by decide +kernel) (by decide +kernel), dr_in (i := 80) (by decide +kernel) (by decide +kernel), by decide +kernel⟩
theorem mi_X12_isAhead : Cond.instanceMethod yX12_isAhead ∈ dr_tbl := dr_in (i := 1109) (by decide +kernel) (by decide +kernel)
theorem msl_X12_isAhead : Cond.selects yX12_isAhead.cls yX12_isAhead yX12_isAhead ∈ dr_tbl := dr_in (i := 30) (by decide +kernel) (by decide +kernel)
theorem mw_X12_digit : dr_mw yX12_digit cX12_digit 2 (some .int) 2 := ⟨dr_in (i := 1113) (by decide +kernel) (by decide +kernel), dr_in (i := 80) (by decide +kernel) (by decide +kernel), by decide +kernel⟩
theorem ms_X12_digit : Cond.static yX12_digit ∈ dr_tbl := dr_in (i := 1112) (by decide +kernel) (by decide +kernel)
theorem mw_X12_fault : dr_mw yX12_fault cX12_fault 3 (some .boolean) 2 := ⟨dr_in (i := 1117) (by decide +kernel) (by decide +kernel), dr_in (i := 80) (by decide +kernel) (by decide +kernel), by decide +kernel⟩
theorem mi_X12_fault : Cond.instanceMethod yX12_fault ∈ dr_tbl := dr_in (i := 1115) (by decide +kernel) (by decide +kernel)
theorem msl_X12_fault : Cond.selects yX12_fault.cls yX12_fault yX12_fault ∈ dr_tbl := dr_in (i := 1116) (by decide +kernel) (by decide +kernel)
theorem mw_X12_begin : dr_mw yX12_begin cX12_begin 5 (some .int) 3 := ⟨dr_in (i := 1121) (by decide +kernel) (by decide +kernel), dr_in (i := 80) (by decide +kernel) (by decide +kernel), by decide +kernel⟩
theorem mi_X12_begin : Cond.instanceMethod yX12_begin ∈ dr_tbl := dr_in (i := 1119) (by decide +kernel) (by decide +kernel)
theorem msl_X12_begin : Cond.selects yX12_begin.cls yX12_begin yX12_begin ∈ dr_tbl := dr_in (i := 1120) (by decide +kernel) (by decide +kernel)
theorem mw_X12_used : dr_mw yX12_used cX12_used 3 (some .int) 0 := ⟨dr_in (i := 1125) (by decide +kernel) (by decide +kernel), dr_in (i := 80) (by decide +kernel) (by decide +kernel), by decide +kernel⟩
theorem mi_X12_used : Cond.instanceMethod yX12_used ∈ dr_tbl := dr_in (i := 1124) (by decide +kernel) (by decide +kernel)
theorem msl_X12_used : Cond.selects yX12_used.cls yX12_used yX12_used ∈ dr_tbl := dr_in (i := 31) (by decide +kernel) (by decide +kernel)
theorem mw_X12_step : dr_mw yX12_step cX12_step 4 (some .int) 2 := ⟨dr_in (i := 1129) (by decide +kernel) (by decide +kernel), dr_in (i := 80) (by decide +kernel) (by decide +kernel), by decide +kernel⟩
theorem mi_X12_step : Cond.instanceMethod yX12_step ∈ dr_tbl := dr_in (i := 1127) (by decide +kernel) (by decide +kernel)
theorem msl_X12_step : Cond.selects yX12_step.cls yX12_step yX12_step ∈ dr_tbl := dr_in (i := 1128) (by decide +kernel) (by decide +kernel)
theorem mw_X12_one : dr_mw yX12_one cX12_one 2 none 1 := ⟨dr_in (i := 1133) (by decide +kernel) (by decide +kernel), dr_in (i := 80) (by decide +kernel) (by decide +kernel), by decide +kernel⟩
theorem mi_X12_one : Cond.instanceMethod yX12_one ∈ dr_tbl := dr_in (i := 1132) (by decide +kernel) (by decide +kernel)
theorem msl_X12_one : Cond.selects yX12_one.cls yX12_one yX12_one ∈ dr_tbl := dr_in (i := 32) (by decide +kernel) (by decide +kernel)
theorem mw_X12_reads : dr_mw yX12_reads cX12_reads 4 none 1 := ⟨dr_in (i := 1137) (by decide +kernel) (by decide +kernel), dr_in (i := 80) (by decide +kernel) (by decide +kernel), by decide +kernel⟩
theorem mi_X12_reads : Cond.instanceMethod yX12_reads ∈ dr_tbl := dr_in (i := 1136) (by decide +kernel) (by decide +kernel)
theorem msl_X12_reads : Cond.selects yX12_reads.cls yX12_reads yX12_reads ∈ dr_tbl := dr_in (i := 33) (by decide +kernel) (by decide +kernel)
theorem mw_X12_covered : dr_mw yX12_covered cX12_covered 4 (some .boolean) 3 := ⟨dr_in (i := 1141) (by decide +kernel) (by decide +kernel), dr_in (i := 80) (by decide +kernel) (by decide +kernel), by decide +kernel⟩
theorem mi_X12_covered : Cond.instanceMethod yX12_covered ∈ dr_tbl := dr_in (i := 1140) (by decide +kernel) (by decide +kernel)
theorem msl_X12_covered : Cond.selects yX12_covered.cls yX12_covered yX12_covered ∈ dr_tbl := dr_in (i := 34) (by decide +kernel) (by decide +kernel)
theorem mw_X12_covers : dr_mw yX12_covers cX12_covers 3 (some .boolean) 2 := ⟨dr_in (i := 1145) (by decide +kernel) (by decide +kernel), dr_in (i := 80) (by decide +kernel) (by decide +kernel), by decide +kernel⟩
theorem mi_X12_covers : Cond.instanceMethod yX12_covers ∈ dr_tbl := dr_in (i := 1144) (by decide +kernel) (by decide +kernel)
theorem msl_X12_covers : Cond.selects yX12_covers.cls yX12_covers yX12_covers ∈ dr_tbl := dr_in (i := 35) (by decide +kernel) (by decide +kernel)
theorem mw_X12_way : dr_mw yX12_way cX12_way 4 (some .int) 2 := ⟨dr_in (i := 1149) (by decide +kernel) (by decide +kernel), dr_in (i := 80) (by decide +kernel) (by decide +kernel), by decide +kernel⟩
theorem mi_X12_way : Cond.instanceMethod yX12_way ∈ dr_tbl := dr_in (i := 1148) (by decide +kernel) (by decide +kernel)
theorem msl_X12_way : Cond.selects yX12_way.cls yX12_way yX12_way ∈ dr_tbl := dr_in (i := 36) (by decide +kernel) (by decide +kernel)
theorem mw_X12_hasCard : dr_mw yX12_hasCard cX12_hasCard 4 (some .boolean) 2 := ⟨dr_in (i := 1153) (by decide +kernel) (by decide +kernel), dr_in (i := 80) (by decide +kernel) (by decide +kernel), by decide +kernel⟩
theorem mi_X12_hasCard : Cond.instanceMethod yX12_hasCard ∈ dr_tbl := dr_in (i := 1152) (by decide +kernel) (by decide +kernel)
theorem msl_X12_hasCard : Cond.selects yX12_hasCard.cls yX12_hasCard yX12_hasCard ∈ dr_tbl := dr_in (i := 37) (by decide +kernel) (by decide +kernel)
theorem mw_X12_ends : dr_mw yX12_ends cX12_ends 3 none 2 := ⟨dr_in (i := 1157) (by decide +kernel) (by decide +kernel), dr_in (i := 80) (by decide +kernel) (by decide +kernel), by decide +kernel⟩
theorem mi_X12_ends : Cond.instanceMethod yX12_ends ∈ dr_tbl := dr_in (i := 1156) (by decide +kernel) (by decide +kernel)
theorem msl_X12_ends : Cond.selects yX12_ends.cls yX12_ends yX12_ends ∈ dr_tbl := dr_in (i := 38) (by decide +kernel) (by decide +kernel)
theorem mw_X12_isOthers : dr_mw yX12_isOthers cX12_isOthers 3 (some .boolean) 2 := ⟨dr_in (i := 1161) (by decide +kernel) (by decide +kernel), dr_in (i := 80) (by decide +kernel) (by decide +kernel), by decide +kernel⟩
theorem mi_X12_isOthers : Cond.instanceMethod yX12_isOthers ∈ dr_tbl := dr_in (i := 1160) (by decide +kernel) (by decide +kernel)
theorem msl_X12_isOthers : Cond.selects yX12_isOthers.cls yX12_isOthers yX12_isOthers ∈ dr_tbl := dr_in (i := 39) (by decide +kernel) (by decide +kernel)
theorem mw_X12_latches : dr_mw yX12_latches cX12_latches 3 none 2 := ⟨dr_in (i := 1165) (by decide +kernel) (by decide +kernel), dr_in (i := 80) (by decide +kernel) (by decide +kernel), by decide +kernel⟩
theorem mi_X12_latches : Cond.instanceMethod yX12_latches ∈ dr_tbl := dr_in (i := 1164) (by decide +kernel) (by decide +kernel)
theorem msl_X12_latches : Cond.selects yX12_latches.cls yX12_latches yX12_latches ∈ dr_tbl := dr_in (i := 40) (by decide +kernel) (by decide +kernel)
theorem mw_X12_holds : dr_mw yX12_holds cX12_holds 4 none 1 := ⟨dr_in (i := 1169) (by decide +kernel) (by decide +kernel), dr_in (i := 80) (by decide +kernel) (by decide +kernel), by decide +kernel⟩
theorem mi_X12_holds : Cond.instanceMethod yX12_holds ∈ dr_tbl := dr_in (i := 1168) (by decide +kernel) (by decide +kernel)
theorem msl_X12_holds : Cond.selects yX12_holds.cls yX12_holds yX12_holds ∈ dr_tbl := dr_in (i := 41) (by decide +kernel) (by decide +kernel)
theorem mw_X12_looksFor : dr_mw yX12_looksFor cX12_looksFor 2 (some .int) 1 := ⟨dr_in (i := 1173) (by decide +kernel) (by decide +kernel), dr_in (i := 80) (by decide +kernel) (by decide +kernel), by decide +kernel⟩
theorem mi_X12_looksFor : Cond.instanceMethod yX12_looksFor ∈ dr_tbl := dr_in (i := 1172) (by decide +kernel) (by decide +kernel)
theorem msl_X12_looksFor : Cond.selects yX12_looksFor.cls yX12_looksFor yX12_looksFor ∈ dr_tbl := dr_in (i := 42) (by decide +kernel) (by decide +kernel)
theorem mw_X12_letsGo : dr_mw yX12_letsGo cX12_letsGo 3 none 2 := ⟨dr_in (i := 1177) (by decide +kernel) (by decide +kernel), dr_in (i := 80) (by decide +kernel) (by decide +kernel), by decide +kernel⟩
theorem mi_X12_letsGo : Cond.instanceMethod yX12_letsGo ∈ dr_tbl := dr_in (i := 1176) (by decide +kernel) (by decide +kernel)
theorem msl_X12_letsGo : Cond.selects yX12_letsGo.cls yX12_letsGo yX12_letsGo ∈ dr_tbl := dr_in (i := 43) (by decide +kernel) (by decide +kernel)
theorem mw_X12_writes : dr_mw yX12_writes cX12_writes 8 none 1 := ⟨dr_in (i := 1181) (by decide +kernel) (by decide +kernel), dr_in (i := 80) (by decide +kernel) (by decide +kernel), by decide +kernel⟩
theorem mi_X12_writes : Cond.instanceMethod yX12_writes ∈ dr_tbl := dr_in (i := 1180) (by decide +kernel) (by decide +kernel)
theorem msl_X12_writes : Cond.selects yX12_writes.cls yX12_writes yX12_writes ∈ dr_tbl := dr_in (i := 44) (by decide +kernel) (by decide +kernel)
theorem mw_X12_hasCopy : dr_mw yX12_hasCopy cX12_hasCopy 4 (some .boolean) 2 := ⟨dr_in (i := 1185) (by decide +kernel) (by decide +kernel), dr_in (i := 80) (by decide +kernel) (by decide +kernel), by decide +kernel⟩
theorem mi_X12_hasCopy : Cond.instanceMethod yX12_hasCopy ∈ dr_tbl := dr_in (i := 1184) (by decide +kernel) (by decide +kernel)
theorem msl_X12_hasCopy : Cond.selects yX12_hasCopy.cls yX12_hasCopy yX12_hasCopy ∈ dr_tbl := dr_in (i := 45) (by decide +kernel) (by decide +kernel)
theorem mw_X12_placeIn : dr_mw yX12_placeIn cX12_placeIn 4 (some .int) 2 := ⟨dr_in (i := 1189) (by decide +kernel) (by decide +kernel), dr_in (i := 80) (by decide +kernel) (by decide +kernel), by decide +kernel⟩
theorem mi_X12_placeIn : Cond.instanceMethod yX12_placeIn ∈ dr_tbl := dr_in (i := 1188) (by decide +kernel) (by decide +kernel)
theorem msl_X12_placeIn : Cond.selects yX12_placeIn.cls yX12_placeIn yX12_placeIn ∈ dr_tbl := dr_in (i := 46) (by decide +kernel) (by decide +kernel)
theorem mw_X12_becomes : dr_mw yX12_becomes cX12_becomes 4 none 1 := ⟨dr_in (i := 1193) (by decide +kernel) (by decide +kernel), dr_in (i := 80) (by decide +kernel) (by decide +kernel), by decide +kernel⟩
theorem mi_X12_becomes : Cond.instanceMethod yX12_becomes ∈ dr_tbl := dr_in (i := 1192) (by decide +kernel) (by decide +kernel)
theorem msl_X12_becomes : Cond.selects yX12_becomes.cls yX12_becomes yX12_becomes ∈ dr_tbl := dr_in (i := 47) (by decide +kernel) (by decide +kernel)
theorem mw_X12_comes : dr_mw yX12_comes cX12_comes 5 none 3 := ⟨dr_in (i := 1197) (by decide +kernel) (by decide +kernel), dr_in (i := 80) (by decide +kernel) (by decide +kernel), by decide +kernel⟩
theorem mi_X12_comes : Cond.instanceMethod yX12_comes ∈ dr_tbl := dr_in (i := 1196) (by decide +kernel) (by decide +kernel)
theorem msl_X12_comes : Cond.selects yX12_comes.cls yX12_comes yX12_comes ∈ dr_tbl := dr_in (i := 48) (by decide +kernel) (by decide +kernel)
theorem mw_X12_parted : dr_mw yX12_parted cX12_parted 5 (some .int) 1 := ⟨dr_in (i := 1201) (by decide +kernel) (by decide +kernel), dr_in (i := 80) (by decide +kernel) (by decide +kernel), by decide +kernel⟩
theorem mi_X12_parted : Cond.instanceMethod yX12_parted ∈ dr_tbl := dr_in (i := 1200) (by decide +kernel) (by decide +kernel)
theorem msl_X12_parted : Cond.selects yX12_parted.cls yX12_parted yX12_parted ∈ dr_tbl := dr_in (i := 49) (by decide +kernel) (by decide +kernel)
theorem mw_X12_spare : dr_mw yX12_spare cX12_spare 2 (some .int) 0 := ⟨dr_in (i := 1205) (by decide +kernel) (by decide +kernel), dr_in (i := 80) (by decide +kernel) (by decide +kernel), by decide +kernel⟩
theorem mi_X12_spare : Cond.instanceMethod yX12_spare ∈ dr_tbl := dr_in (i := 1204) (by decide +kernel) (by decide +kernel)
theorem msl_X12_spare : Cond.selects yX12_spare.cls yX12_spare yX12_spare ∈ dr_tbl := dr_in (i := 50) (by decide +kernel) (by decide +kernel)
theorem mw_X12_goesUp : dr_mw yX12_goesUp cX12_goesUp 4 none 1 := ⟨dr_in (i := 1209) (by decide +kernel) (by decide +kernel), dr_in (i := 80) (by decide +kernel) (by decide +kernel), by decide +kernel⟩
theorem mi_X12_goesUp : Cond.instanceMethod yX12_goesUp ∈ dr_tbl := dr_in (i := 1208) (by decide +kernel) (by decide +kernel)
theorem msl_X12_goesUp : Cond.selects yX12_goesUp.cls yX12_goesUp yX12_goesUp ∈ dr_tbl := dr_in (i := 51) (by decide +kernel) (by decide +kernel)
theorem mw_X12_firstOf : dr_mw yX12_firstOf cX12_firstOf 3 (some .int) 1 := ⟨dr_in (i := 1213) (by decide +kernel) (by decide +kernel), dr_in (i := 80) (by decide +kernel) (by decide +kernel), by decide +kernel⟩
theorem mi_X12_firstOf : Cond.instanceMethod yX12_firstOf ∈ dr_tbl := dr_in (i := 1212) (by decide +kernel) (by decide +kernel)
theorem msl_X12_firstOf : Cond.selects yX12_firstOf.cls yX12_firstOf yX12_firstOf ∈ dr_tbl := dr_in (i := 52) (by decide +kernel) (by decide +kernel)
theorem mw_X12_clerk : dr_mw yX12_clerk cX12_clerk 3 (some .int) 2 := ⟨dr_in (i := 1217) (by decide +kernel) (by decide +kernel), dr_in (i := 80) (by decide +kernel) (by decide +kernel), by decide +kernel⟩
theorem mi_X12_clerk : Cond.instanceMethod yX12_clerk ∈ dr_tbl := dr_in (i := 1215) (by decide +kernel) (by decide +kernel)
theorem msl_X12_clerk : Cond.selects yX12_clerk.cls yX12_clerk yX12_clerk ∈ dr_tbl := dr_in (i := 1216) (by decide +kernel) (by decide +kernel)
theorem mw_X12_job : dr_mw yX12_job cX12_job 3 (some .int) 2 := ⟨dr_in (i := 1221) (by decide +kernel) (by decide +kernel), dr_in (i := 80) (by decide +kernel) (by decide +kernel), by decide +kernel⟩
theorem mi_X12_job : Cond.instanceMethod yX12_job ∈ dr_tbl := dr_in (i := 1219) (by decide +kernel) (by decide +kernel)
theorem msl_X12_job : Cond.selects yX12_job.cls yX12_job yX12_job ∈ dr_tbl := dr_in (i := 1220) (by decide +kernel) (by decide +kernel)
theorem mw_X12_drawer : dr_mw yX12_drawer cX12_drawer 3 (some .int) 2 := ⟨dr_in (i := 1225) (by decide +kernel) (by decide +kernel), dr_in (i := 80) (by decide +kernel) (by decide +kernel), by decide +kernel⟩
theorem mi_X12_drawer : Cond.instanceMethod yX12_drawer ∈ dr_tbl := dr_in (i := 1223) (by decide +kernel) (by decide +kernel)
theorem msl_X12_drawer : Cond.selects yX12_drawer.cls yX12_drawer yX12_drawer ∈ dr_tbl := dr_in (i := 1224) (by decide +kernel) (by decide +kernel)
theorem mw_X12_at : dr_mw yX12_at cX12_at 4 (some .int) 3 := ⟨dr_in (i := 1229) (by decide +kernel) (by decide +kernel), dr_in (i := 80) (by decide +kernel) (by decide +kernel), by decide +kernel⟩
theorem mi_X12_at : Cond.instanceMethod yX12_at ∈ dr_tbl := dr_in (i := 1227) (by decide +kernel) (by decide +kernel)
theorem msl_X12_at : Cond.selects yX12_at.cls yX12_at yX12_at ∈ dr_tbl := dr_in (i := 1228) (by decide +kernel) (by decide +kernel)
theorem mw_X12_nth : dr_mw yX12_nth cX12_nth 2 (some .int) 1 := ⟨dr_in (i := 1233) (by decide +kernel) (by decide +kernel), dr_in (i := 80) (by decide +kernel) (by decide +kernel), by decide +kernel⟩
theorem mi_X12_nth : Cond.instanceMethod yX12_nth ∈ dr_tbl := dr_in (i := 1231) (by decide +kernel) (by decide +kernel)
theorem msl_X12_nth : Cond.selects yX12_nth.cls yX12_nth yX12_nth ∈ dr_tbl := dr_in (i := 1232) (by decide +kernel) (by decide +kernel)
theorem mw_X12_lists : dr_mw yX12_lists cX12_lists 4 none 0 := ⟨dr_in (i := 1237) (by decide +kernel) (by decide +kernel), dr_in (i := 80) (by decide +kernel) (by decide +kernel), by decide +kernel⟩
theorem mi_X12_lists : Cond.instanceMethod yX12_lists ∈ dr_tbl := dr_in (i := 1236) (by decide +kernel) (by decide +kernel)
theorem msl_X12_lists : Cond.selects yX12_lists.cls yX12_lists yX12_lists ∈ dr_tbl := dr_in (i := 53) (by decide +kernel) (by decide +kernel)
theorem mw_X12_rank : dr_mw yX12_rank cX12_rank 4 (some .int) 1 := ⟨dr_in (i := 1241) (by decide +kernel) (by decide +kernel), dr_in (i := 80) (by decide +kernel) (by decide +kernel), by decide +kernel⟩
theorem mi_X12_rank : Cond.instanceMethod yX12_rank ∈ dr_tbl := dr_in (i := 1239) (by decide +kernel) (by decide +kernel)
theorem msl_X12_rank : Cond.selects yX12_rank.cls yX12_rank yX12_rank ∈ dr_tbl := dr_in (i := 1240) (by decide +kernel) (by decide +kernel)
theorem mw_X12_there : dr_mw yX12_there cX12_there 9 (some .int) 3 := ⟨dr_in (i := 1245) (by decide +kernel) (by decide +kernel), dr_in (i := 80) (by decide +kernel) (by decide +kernel), by decide +kernel⟩
theorem mi_X12_there : Cond.instanceMethod yX12_there ∈ dr_tbl := dr_in (i := 1243) (by decide +kernel) (by decide +kernel)
theorem msl_X12_there : Cond.selects yX12_there.cls yX12_there yX12_there ∈ dr_tbl := dr_in (i := 1244) (by decide +kernel) (by decide +kernel)
theorem mw_X12_line : dr_mw yX12_line cX12_line 2 (some .int) 1 := ⟨dr_in (i := 1249) (by decide +kernel) (by decide +kernel), dr_in (i := 80) (by decide +kernel) (by decide +kernel), by decide +kernel⟩
theorem mi_X12_line : Cond.instanceMethod yX12_line ∈ dr_tbl := dr_in (i := 1247) (by decide +kernel) (by decide +kernel)
theorem msl_X12_line : Cond.selects yX12_line.cls yX12_line yX12_line ∈ dr_tbl := dr_in (i := 1248) (by decide +kernel) (by decide +kernel)
theorem mw_X12_canBeAsked : dr_mw yX12_canBeAsked cX12_canBeAsked 3 (some .boolean) 1 := ⟨dr_in (i := 1253) (by decide +kernel) (by decide +kernel), dr_in (i := 80) (by decide +kernel) (by decide +kernel), by decide +kernel⟩
theorem mi_X12_canBeAsked : Cond.instanceMethod yX12_canBeAsked ∈ dr_tbl := dr_in (i := 1252) (by decide +kernel) (by decide +kernel)
theorem msl_X12_canBeAsked : Cond.selects yX12_canBeAsked.cls yX12_canBeAsked yX12_canBeAsked ∈ dr_tbl := dr_in (i := 54) (by decide +kernel) (by decide +kernel)
theorem mw_X12_isSound : dr_mw yX12_isSound cX12_isSound 5 (some .boolean) 1 := ⟨dr_in (i := 1257) (by decide +kernel) (by decide +kernel), dr_in (i := 80) (by decide +kernel) (by decide +kernel), by decide +kernel⟩
theorem mi_X12_isSound : Cond.instanceMethod yX12_isSound ∈ dr_tbl := dr_in (i := 1256) (by decide +kernel) (by decide +kernel)
theorem msl_X12_isSound : Cond.selects yX12_isSound.cls yX12_isSound yX12_isSound ∈ dr_tbl := dr_in (i := 55) (by decide +kernel) (by decide +kernel)
theorem mw_X12_mayCome : dr_mw yX12_mayCome cX12_mayCome 5 (some .boolean) 2 := ⟨dr_in (i := 1261) (by decide +kernel) (by decide +kernel), dr_in (i := 80) (by decide +kernel) (by decide +kernel), by decide +kernel⟩
theorem mi_X12_mayCome : Cond.instanceMethod yX12_mayCome ∈ dr_tbl := dr_in (i := 1260) (by decide +kernel) (by decide +kernel)
theorem msl_X12_mayCome : Cond.selects yX12_mayCome.cls yX12_mayCome yX12_mayCome ∈ dr_tbl := dr_in (i := 56) (by decide +kernel) (by decide +kernel)
theorem mw_X12_isThere : dr_mw yX12_isThere cX12_isThere 4 (some .boolean) 1 := ⟨dr_in (i := 1265) (by decide +kernel) (by decide +kernel), dr_in (i := 80) (by decide +kernel) (by decide +kernel), by decide +kernel⟩
theorem mi_X12_isThere : Cond.instanceMethod yX12_isThere ∈ dr_tbl := dr_in (i := 1264) (by decide +kernel) (by decide +kernel)
theorem msl_X12_isThere : Cond.selects yX12_isThere.cls yX12_isThere yX12_isThere ∈ dr_tbl := dr_in (i := 57) (by decide +kernel) (by decide +kernel)
theorem mw_X12_order : dr_mw yX12_order cX12_order 7 (some .int) 2 := ⟨dr_in (i := 1269) (by decide +kernel) (by decide +kernel), dr_in (i := 80) (by decide +kernel) (by decide +kernel), by decide +kernel⟩
theorem mi_X12_order : Cond.instanceMethod yX12_order ∈ dr_tbl := dr_in (i := 1267) (by decide +kernel) (by decide +kernel)
theorem msl_X12_order : Cond.selects yX12_order.cls yX12_order yX12_order ∈ dr_tbl := dr_in (i := 1268) (by decide +kernel) (by decide +kernel)
theorem mw_X12_shape : dr_mw yX12_shape cX12_shape 2 (some .int) 0 := ⟨dr_in (i := 1274) (by decide +kernel) (by decide +kernel), dr_in (i := 80) (by decide +kernel) (by decide +kernel), by decide +kernel⟩
theorem mi_X12_shape : Cond.instanceMethod yX12_shape ∈ dr_tbl := dr_in (i := 1272) (by decide +kernel) (by decide +kernel)
theorem msl_X12_shape : Cond.selects yX12_shape.cls yX12_shape yX12_shape ∈ dr_tbl := dr_in (i := 1273) (by decide +kernel) (by decide +kernel)
theorem mw_X12_isBad : dr_mw yX12_isBad cX12_isBad 4 (some .boolean) 1 := ⟨dr_in (i := 1278) (by decide +kernel) (by decide +kernel), dr_in (i := 80) (by decide +kernel) (by decide +kernel), by decide +kernel⟩
theorem mi_X12_isBad : Cond.instanceMethod yX12_isBad ∈ dr_tbl := dr_in (i := 1277) (by decide +kernel) (by decide +kernel)
theorem msl_X12_isBad : Cond.selects yX12_isBad.cls yX12_isBad yX12_isBad ∈ dr_tbl := dr_in (i := 58) (by decide +kernel) (by decide +kernel)
theorem mw_X12_found : dr_mw yX12_found cX12_found 9 (some .int) 2 := ⟨dr_in (i := 1282) (by decide +kernel) (by decide +kernel), dr_in (i := 80) (by decide +kernel) (by decide +kernel), by decide +kernel⟩
theorem mi_X12_found : Cond.instanceMethod yX12_found ∈ dr_tbl := dr_in (i := 1280) (by decide +kernel) (by decide +kernel)
theorem msl_X12_found : Cond.selects yX12_found.cls yX12_found yX12_found ∈ dr_tbl := dr_in (i := 1281) (by decide +kernel) (by decide +kernel)
theorem mw_X12_atJobs : dr_mw yX12_atJobs cX12_atJobs 3 (some .int) 0 := ⟨dr_in (i := 1286) (by decide +kernel) (by decide +kernel), dr_in (i := 80) (by decide +kernel) (by decide +kernel), by decide +kernel⟩
theorem mi_X12_atJobs : Cond.instanceMethod yX12_atJobs ∈ dr_tbl := dr_in (i := 1285) (by decide +kernel) (by decide +kernel)
theorem msl_X12_atJobs : Cond.selects yX12_atJobs.cls yX12_atJobs yX12_atJobs ∈ dr_tbl := dr_in (i := 59) (by decide +kernel) (by decide +kernel)
theorem mw_X12_saves : dr_mw yX12_saves cX12_saves 2 none 0 := ⟨dr_in (i := 1290) (by decide +kernel) (by decide +kernel), dr_in (i := 80) (by decide +kernel) (by decide +kernel), by decide +kernel⟩
theorem mi_X12_saves : Cond.instanceMethod yX12_saves ∈ dr_tbl := dr_in (i := 1289) (by decide +kernel) (by decide +kernel)
theorem msl_X12_saves : Cond.selects yX12_saves.cls yX12_saves yX12_saves ∈ dr_tbl := dr_in (i := 60) (by decide +kernel) (by decide +kernel)
theorem mw_X12_goesBy : dr_mw yX12_goesBy cX12_goesBy 8 (some .boolean) 4 := ⟨dr_in (i := 1294) (by decide +kernel) (by decide +kernel), dr_in (i := 80) (by decide +kernel) (by decide +kernel), by decide +kernel⟩
theorem mi_X12_goesBy : Cond.instanceMethod yX12_goesBy ∈ dr_tbl := dr_in (i := 1293) (by decide +kernel) (by decide +kernel)
theorem msl_X12_goesBy : Cond.selects yX12_goesBy.cls yX12_goesBy yX12_goesBy ∈ dr_tbl := dr_in (i := 61) (by decide +kernel) (by decide +kernel)
theorem mw_X12_isBroken : dr_mw yX12_isBroken cX12_isBroken 2 (some .boolean) 1 := ⟨dr_in (i := 1299) (by decide +kernel) (by decide +kernel), dr_in (i := 80) (by decide +kernel) (by decide +kernel), by decide +kernel⟩
theorem mi_X12_isBroken : Cond.instanceMethod yX12_isBroken ∈ dr_tbl := dr_in (i := 1298) (by decide +kernel) (by decide +kernel)
theorem msl_X12_isBroken : Cond.selects yX12_isBroken.cls yX12_isBroken yX12_isBroken ∈ dr_tbl := dr_in (i := 62) (by decide +kernel) (by decide +kernel)
theorem mw_X12_putsBack : dr_mw yX12_putsBack cX12_putsBack 2 none 0 := ⟨dr_in (i := 1303) (by decide +kernel) (by decide +kernel), dr_in (i := 80) (by decide +kernel) (by decide +kernel), by decide +kernel⟩
theorem mi_X12_putsBack : Cond.instanceMethod yX12_putsBack ∈ dr_tbl := dr_in (i := 1302) (by decide +kernel) (by decide +kernel)
theorem msl_X12_putsBack : Cond.selects yX12_putsBack.cls yX12_putsBack yX12_putsBack ∈ dr_tbl := dr_in (i := 63) (by decide +kernel) (by decide +kernel)
theorem mw_X12_fall : dr_mw yX12_fall cX12_fall 5 (some .int) 0 := ⟨dr_in (i := 1307) (by decide +kernel) (by decide +kernel), dr_in (i := 80) (by decide +kernel) (by decide +kernel), by decide +kernel⟩
theorem mi_X12_fall : Cond.instanceMethod yX12_fall ∈ dr_tbl := dr_in (i := 1305) (by decide +kernel) (by decide +kernel)
theorem msl_X12_fall : Cond.selects yX12_fall.cls yX12_fall yX12_fall ∈ dr_tbl := dr_in (i := 1306) (by decide +kernel) (by decide +kernel)
theorem mw_X12_night : dr_mw yX12_night cX12_night 9 (some .int) 1 := ⟨dr_in (i := 1311) (by decide +kernel) (by decide +kernel), dr_in (i := 80) (by decide +kernel) (by decide +kernel), by decide +kernel⟩
theorem mi_X12_night : Cond.instanceMethod yX12_night ∈ dr_tbl := dr_in (i := 1309) (by decide +kernel) (by decide +kernel)
theorem msl_X12_night : Cond.selects yX12_night.cls yX12_night yX12_night ∈ dr_tbl := dr_in (i := 1310) (by decide +kernel) (by decide +kernel)
theorem mw_X12_sorts : dr_mw yX12_sorts cX12_sorts 6 none 0 := ⟨dr_in (i := 1315) (by decide +kernel) (by decide +kernel), dr_in (i := 80) (by decide +kernel) (by decide +kernel), by decide +kernel⟩
theorem mi_X12_sorts : Cond.instanceMethod yX12_sorts ∈ dr_tbl := dr_in (i := 1314) (by decide +kernel) (by decide +kernel)
theorem msl_X12_sorts : Cond.selects yX12_sorts.cls yX12_sorts yX12_sorts ∈ dr_tbl := dr_in (i := 64) (by decide +kernel) (by decide +kernel)
theorem mw_X12_binds : dr_mw yX12_binds cX12_binds 4 none 2 := ⟨dr_in (i := 1319) (by decide +kernel) (by decide +kernel), dr_in (i := 80) (by decide +kernel) (by decide +kernel), by decide +kernel⟩
theorem mi_X12_binds : Cond.instanceMethod yX12_binds ∈ dr_tbl := dr_in (i := 1318) (by decide +kernel) (by decide +kernel)
theorem msl_X12_binds : Cond.selects yX12_binds.cls yX12_binds yX12_binds ∈ dr_tbl := dr_in (i := 65) (by decide +kernel) (by decide +kernel)
theorem mw_X12_count : dr_mw yX12_count cX12_count 4 (some .int) 1 := ⟨dr_in (i := 1323) (by decide +kernel) (by decide +kernel), dr_in (i := 80) (by decide +kernel) (by decide +kernel), by decide +kernel⟩
theorem mi_X12_count : Cond.instanceMethod yX12_count ∈ dr_tbl := dr_in (i := 1321) (by decide +kernel) (by decide +kernel)
theorem msl_X12_count : Cond.selects yX12_count.cls yX12_count yX12_count ∈ dr_tbl := dr_in (i := 1322) (by decide +kernel) (by decide +kernel)
end
section
theorem ml_L_15 : Cond.methodLink RL 15 yX11_init ∈ dr_tbl := dr_in (i := 85) (by decide +kernel) (by decide +kernel)
theorem ml_11_7 : Cond.methodLink RX11 7 yJ9_min_7cf53 ∈ dr_tbl := dr_in (i := 91) (by decide +kernel) (by decide +kernel)
theorem ml_11_13 : Cond.methodLink RX11 13 yJ9_max_7cf53 ∈ dr_tbl := dr_in (i := 94) (by decide +kernel) (by decide +kernel)
theorem ml_11_16 : Cond.methodLink RX11 16 yX4_cellsFor ∈ dr_tbl := dr_in (i := 97) (by decide +kernel) (by decide +kernel)
theorem ml_4_23 : Cond.methodLink RX4 23 yX4_widthFor ∈ dr_tbl := dr_in (i := 100) (by decide +kernel) (by decide +kernel)
theorem ml_11_28 : Cond.methodLink RX11 28 yX2_init ∈ dr_tbl := dr_in (i := 105) (by decide +kernel) (by decide +kernel)
theorem ml_2_26 : Cond.methodLink RX2 26 yJ9_max_7cf53 ∈ dr_tbl := dr_in (i := 109) (by decide +kernel) (by decide +kernel)
theorem ml_11_40 : Cond.methodLink RX11 40 yX4_init ∈ dr_tbl := dr_in (i := 151) (by decide +kernel) (by decide +kernel)
theorem ml_4_39 : Cond.methodLink RX4 39 yX4_clear ∈ dr_tbl := dr_in (i := 155) (by decide +kernel) (by decide +kernel)
theorem ml_4_54 : Cond.methodLink RX4 54 yX2_put ∈ dr_tbl := dr_in (i := 159) (by decide +kernel) (by decide +kernel)
theorem ml_4_42 : Cond.methodLink RX4 42 yX4_open ∈ dr_tbl := dr_in (i := 163) (by decide +kernel) (by decide +kernel)
theorem ml_4_61 : Cond.methodLink RX4 61 yX4_inUse ∈ dr_tbl := dr_in (i := 167) (by decide +kernel) (by decide +kernel)
theorem ml_4_49 : Cond.methodLink RX4 49 yX2_get ∈ dr_tbl := dr_in (i := 171) (by decide +kernel) (by decide +kernel)
theorem ml_4_65 : Cond.methodLink RX4 65 yX4_set ∈ dr_tbl := dr_in (i := 175) (by decide +kernel) (by decide +kernel)
theorem ml_4_45 : Cond.methodLink RX4 45 yX4_setTop ∈ dr_tbl := dr_in (i := 179) (by decide +kernel) (by decide +kernel)
theorem ml_11_47 : Cond.methodLink RX11 47 yX3_init ∈ dr_tbl := dr_in (i := 207) (by decide +kernel) (by decide +kernel)
theorem ml_3_19 : Cond.methodLink RX3 19 yX3_set ∈ dr_tbl := dr_in (i := 211) (by decide +kernel) (by decide +kernel)
theorem ml_3_33 : Cond.methodLink RX3 33 yX2_put ∈ dr_tbl := dr_in (i := 215) (by decide +kernel) (by decide +kernel)
theorem ml_3_23 : Cond.methodLink RX3 23 yX3_rest ∈ dr_tbl := dr_in (i := 216) (by decide +kernel) (by decide +kernel)
theorem ml_11_54 : Cond.methodLink RX11 54 yX6_init ∈ dr_tbl := dr_in (i := 229) (by decide +kernel) (by decide +kernel)
theorem ml_11_61 : Cond.methodLink RX11 61 yX10_init ∈ dr_tbl := dr_in (i := 248) (by decide +kernel) (by decide +kernel)
theorem ml_11_70 : Cond.methodLink RX11 70 yX1_init ∈ dr_tbl := dr_in (i := 264) (by decide +kernel) (by decide +kernel)
theorem ml_11_79 : Cond.methodLink RX11 79 yX7_init ∈ dr_tbl := dr_in (i := 283) (by decide +kernel) (by decide +kernel)
theorem ml_11_88 : Cond.methodLink RX11 88 yX9_init ∈ dr_tbl := dr_in (i := 317) (by decide +kernel) (by decide +kernel)
theorem ml_11_95 : Cond.methodLink RX11 95 yX8_init ∈ dr_tbl := dr_in (i := 330) (by decide +kernel) (by decide +kernel)
theorem ml_11_104 : Cond.methodLink RX11 104 yX0_init ∈ dr_tbl := dr_in (i := 364) (by decide +kernel) (by decide +kernel)
theorem ml_L_21 : Cond.methodLink RL 21 yX11_rule ∈ dr_tbl := dr_in (i := 406) (by decide +kernel) (by decide +kernel)
theorem ml_11_111 : Cond.methodLink RX11 111 yX5_hear ∈ dr_tbl := dr_in (i := 410) (by decide +kernel) (by decide +kernel)
theorem ml_11_115 : Cond.methodLink RX11 115 yX5_faultOf ∈ dr_tbl := dr_in (i := 414) (by decide +kernel) (by decide +kernel)
theorem ml_5_28 : Cond.methodLink RX5 28 yX5_byteAt ∈ dr_tbl := dr_in (i := 418) (by decide +kernel) (by decide +kernel)
theorem ml_5_32 : Cond.methodLink RX5 32 yX5_takesLetter ∈ dr_tbl := dr_in (i := 422) (by decide +kernel) (by decide +kernel)
theorem ml_5_45 : Cond.methodLink RX5 45 yX5_worthOf ∈ dr_tbl := dr_in (i := 426) (by decide +kernel) (by decide +kernel)
theorem ml_5_48 : Cond.methodLink RX5 48 yJ9_abs_0f7a4 ∈ dr_tbl := dr_in (i := 429) (by decide +kernel) (by decide +kernel)
theorem ml_5_36 : Cond.methodLink RX5 36 yX5_takesDirection ∈ dr_tbl := dr_in (i := 432) (by decide +kernel) (by decide +kernel)
theorem ml_11_118 : Cond.methodLink RX11 118 yX6_begun ∈ dr_tbl := dr_in (i := 436) (by decide +kernel) (by decide +kernel)
theorem ml_6_25 : Cond.methodLink RX6 25 yX2_get ∈ dr_tbl := dr_in (i := 440) (by decide +kernel) (by decide +kernel)
theorem ml_11_122 : Cond.methodLink RX11 122 yX5_keepWhatWasRead ∈ dr_tbl := dr_in (i := 441) (by decide +kernel) (by decide +kernel)
theorem ml_L_26 : Cond.methodLink RL 26 yX11_ahead ∈ dr_tbl := dr_in (i := 448) (by decide +kernel) (by decide +kernel)
theorem ml_11_125 : Cond.methodLink RX11 125 yX11_isHeading ∈ dr_tbl := dr_in (i := 452) (by decide +kernel) (by decide +kernel)
theorem ml_11_129 : Cond.methodLink RX11 129 yX5_isAhead ∈ dr_tbl := dr_in (i := 455) (by decide +kernel) (by decide +kernel)
theorem ml_L_31 : Cond.methodLink RL 31 yX11_fault ∈ dr_tbl := dr_in (i := 459) (by decide +kernel) (by decide +kernel)
theorem ml_11_133 : Cond.methodLink RX11 133 yX11_isIdleClerk ∈ dr_tbl := dr_in (i := 463) (by decide +kernel) (by decide +kernel)
theorem ml_11_153 : Cond.methodLink RX11 153 yX11_isClerk ∈ dr_tbl := dr_in (i := 467) (by decide +kernel) (by decide +kernel)
theorem ml_11_156 : Cond.methodLink RX11 156 yX3_isIdle ∈ dr_tbl := dr_in (i := 470) (by decide +kernel) (by decide +kernel)
theorem ml_3_37 : Cond.methodLink RX3 37 yX3_get ∈ dr_tbl := dr_in (i := 474) (by decide +kernel) (by decide +kernel)
theorem ml_3_27 : Cond.methodLink RX3 27 yX2_get ∈ dr_tbl := dr_in (i := 478) (by decide +kernel) (by decide +kernel)
theorem ml_11_136 : Cond.methodLink RX11 136 yX3_set ∈ dr_tbl := dr_in (i := 479) (by decide +kernel) (by decide +kernel)
theorem ml_L_36 : Cond.methodLink RL 36 yX11_begin ∈ dr_tbl := dr_in (i := 480) (by decide +kernel) (by decide +kernel)
theorem ml_11_140 : Cond.methodLink RX11 140 yX4_inUse ∈ dr_tbl := dr_in (i := 484) (by decide +kernel) (by decide +kernel)
theorem ml_11_143 : Cond.methodLink RX11 143 yX6_open ∈ dr_tbl := dr_in (i := 485) (by decide +kernel) (by decide +kernel)
theorem ml_6_35 : Cond.methodLink RX6 35 yX6_begun ∈ dr_tbl := dr_in (i := 489) (by decide +kernel) (by decide +kernel)
theorem ml_6_31 : Cond.methodLink RX6 31 yX2_put ∈ dr_tbl := dr_in (i := 490) (by decide +kernel) (by decide +kernel)
theorem ml_6_39 : Cond.methodLink RX6 39 yX6_set ∈ dr_tbl := dr_in (i := 491) (by decide +kernel) (by decide +kernel)
theorem ml_6_43 : Cond.methodLink RX6 43 yX6_time ∈ dr_tbl := dr_in (i := 495) (by decide +kernel) (by decide +kernel)
theorem ml_11_146 : Cond.methodLink RX11 146 yX4_top ∈ dr_tbl := dr_in (i := 499) (by decide +kernel) (by decide +kernel)
theorem ml_11_149 : Cond.methodLink RX11 149 yX3_startReading ∈ dr_tbl := dr_in (i := 503) (by decide +kernel) (by decide +kernel)
theorem ml_3_44 : Cond.methodLink RX3 44 yX2_fill ∈ dr_tbl := dr_in (i := 507) (by decide +kernel) (by decide +kernel)
theorem ml_2_35 : Cond.methodLink RX2 35 yX2_put ∈ dr_tbl := dr_in (i := 511) (by decide +kernel) (by decide +kernel)
theorem ml_L_41 : Cond.methodLink RL 41 yX11_step ∈ dr_tbl := dr_in (i := 512) (by decide +kernel) (by decide +kernel)
theorem ml_11_159 : Cond.methodLink RX11 159 yX10_go ∈ dr_tbl := dr_in (i := 516) (by decide +kernel) (by decide +kernel)
theorem ml_10_25 : Cond.methodLink RX10 25 yX3_get ∈ dr_tbl := dr_in (i := 520) (by decide +kernel) (by decide +kernel)
theorem ml_10_29 : Cond.methodLink RX10 29 yX6_passStep ∈ dr_tbl := dr_in (i := 521) (by decide +kernel) (by decide +kernel)
theorem ml_6_46 : Cond.methodLink RX6 46 yX6_get ∈ dr_tbl := dr_in (i := 525) (by decide +kernel) (by decide +kernel)
theorem ml_10_35 : Cond.methodLink RX10 35 yX10_read ∈ dr_tbl := dr_in (i := 529) (by decide +kernel) (by decide +kernel)
theorem ml_10_49 : Cond.methodLink RX10 49 yX4_get ∈ dr_tbl := dr_in (i := 533) (by decide +kernel) (by decide +kernel)
theorem ml_10_50 : Cond.methodLink RX10 50 yX10_mustGoOn ∈ dr_tbl := dr_in (i := 537) (by decide +kernel) (by decide +kernel)
theorem ml_10_135 : Cond.methodLink RX10 135 yX4_covers ∈ dr_tbl := dr_in (i := 541) (by decide +kernel) (by decide +kernel)
theorem ml_4_58 : Cond.methodLink RX4 58 yX4_get ∈ dr_tbl := dr_in (i := 545) (by decide +kernel) (by decide +kernel)
theorem ml_4_69 : Cond.methodLink RX4 69 yX5_isAhead ∈ dr_tbl := dr_in (i := 546) (by decide +kernel) (by decide +kernel)
theorem ml_10_54 : Cond.methodLink RX10 54 yX3_set ∈ dr_tbl := dr_in (i := 547) (by decide +kernel) (by decide +kernel)
theorem ml_10_58 : Cond.methodLink RX10 58 yX3_keepPath ∈ dr_tbl := dr_in (i := 548) (by decide +kernel) (by decide +kernel)
theorem ml_10_61 : Cond.methodLink RX10 61 yX4_wayOf ∈ dr_tbl := dr_in (i := 552) (by decide +kernel) (by decide +kernel)
theorem ml_10_64 : Cond.methodLink RX10 64 yX4_child ∈ dr_tbl := dr_in (i := 556) (by decide +kernel) (by decide +kernel)
theorem ml_10_67 : Cond.methodLink RX10 67 yX10_kindOf ∈ dr_tbl := dr_in (i := 560) (by decide +kernel) (by decide +kernel)
theorem ml_10_143 : Cond.methodLink RX10 143 yX6_get ∈ dr_tbl := dr_in (i := 564) (by decide +kernel) (by decide +kernel)
theorem ml_10_71 : Cond.methodLink RX10 71 yX4_placeOf ∈ dr_tbl := dr_in (i := 565) (by decide +kernel) (by decide +kernel)
theorem ml_10_74 : Cond.methodLink RX10 74 yX10_end ∈ dr_tbl := dr_in (i := 569) (by decide +kernel) (by decide +kernel)
theorem ml_10_139 : Cond.methodLink RX10 139 yX6_end ∈ dr_tbl := dr_in (i := 573) (by decide +kernel) (by decide +kernel)
theorem ml_10_140 : Cond.methodLink RX10 140 yX3_rest ∈ dr_tbl := dr_in (i := 577) (by decide +kernel) (by decide +kernel)
theorem ml_10_78 : Cond.methodLink RX10 78 yX10_isFree ∈ dr_tbl := dr_in (i := 578) (by decide +kernel) (by decide +kernel)
theorem ml_10_82 : Cond.methodLink RX10 82 yX10_latch ∈ dr_tbl := dr_in (i := 582) (by decide +kernel) (by decide +kernel)
theorem ml_10_138 : Cond.methodLink RX10 138 yX4_set ∈ dr_tbl := dr_in (i := 586) (by decide +kernel) (by decide +kernel)
theorem ml_10_38 : Cond.methodLink RX10 38 yX10_hold ∈ dr_tbl := dr_in (i := 587) (by decide +kernel) (by decide +kernel)
theorem ml_10_85 : Cond.methodLink RX10 85 yX4_copyOf ∈ dr_tbl := dr_in (i := 591) (by decide +kernel) (by decide +kernel)
theorem ml_10_88 : Cond.methodLink RX10 88 yX4_bring ∈ dr_tbl := dr_in (i := 594) (by decide +kernel) (by decide +kernel)
theorem ml_4_75 : Cond.methodLink RX4 75 yX2_copy ∈ dr_tbl := dr_in (i := 598) (by decide +kernel) (by decide +kernel)
theorem ml_2_39 : Cond.methodLink RX2 39 yX2_get ∈ dr_tbl := dr_in (i := 602) (by decide +kernel) (by decide +kernel)
theorem ml_10_91 : Cond.methodLink RX10 91 yX10_moveTo ∈ dr_tbl := dr_in (i := 603) (by decide +kernel) (by decide +kernel)
theorem ml_10_100 : Cond.methodLink RX10 100 yX10_letGo ∈ dr_tbl := dr_in (i := 607) (by decide +kernel) (by decide +kernel)
theorem ml_10_41 : Cond.methodLink RX10 41 yX10_write ∈ dr_tbl := dr_in (i := 611) (by decide +kernel) (by decide +kernel)
theorem ml_10_94 : Cond.methodLink RX10 94 yX10_writeGuide ∈ dr_tbl := dr_in (i := 615) (by decide +kernel) (by decide +kernel)
theorem ml_10_110 : Cond.methodLink RX10 110 yX4_insert ∈ dr_tbl := dr_in (i := 619) (by decide +kernel) (by decide +kernel)
theorem ml_10_114 : Cond.methodLink RX10 114 yX4_setChild ∈ dr_tbl := dr_in (i := 623) (by decide +kernel) (by decide +kernel)
theorem ml_10_97 : Cond.methodLink RX10 97 yX10_writeCard ∈ dr_tbl := dr_in (i := 627) (by decide +kernel) (by decide +kernel)
theorem ml_10_117 : Cond.methodLink RX10 117 yX4_remove ∈ dr_tbl := dr_in (i := 631) (by decide +kernel) (by decide +kernel)
theorem ml_10_120 : Cond.methodLink RX10 120 yX6_changeCards ∈ dr_tbl := dr_in (i := 635) (by decide +kernel) (by decide +kernel)
theorem ml_10_103 : Cond.methodLink RX10 103 yX4_half ∈ dr_tbl := dr_in (i := 639) (by decide +kernel) (by decide +kernel)
theorem ml_10_107 : Cond.methodLink RX10 107 yX4_part ∈ dr_tbl := dr_in (i := 643) (by decide +kernel) (by decide +kernel)
theorem ml_10_44 : Cond.methodLink RX10 44 yX10_climb ∈ dr_tbl := dr_in (i := 647) (by decide +kernel) (by decide +kernel)
theorem ml_10_123 : Cond.methodLink RX10 123 yX4_top ∈ dr_tbl := dr_in (i := 651) (by decide +kernel) (by decide +kernel)
theorem ml_10_126 : Cond.methodLink RX10 126 yX4_raise ∈ dr_tbl := dr_in (i := 652) (by decide +kernel) (by decide +kernel)
theorem ml_4_78 : Cond.methodLink RX4 78 yX4_addHeading ∈ dr_tbl := dr_in (i := 656) (by decide +kernel) (by decide +kernel)
theorem ml_4_81 : Cond.methodLink RX4 81 yX4_setChild ∈ dr_tbl := dr_in (i := 660) (by decide +kernel) (by decide +kernel)
theorem ml_10_129 : Cond.methodLink RX10 129 yX3_path ∈ dr_tbl := dr_in (i := 661) (by decide +kernel) (by decide +kernel)
theorem ml_10_132 : Cond.methodLink RX10 132 yX4_firstOf ∈ dr_tbl := dr_in (i := 665) (by decide +kernel) (by decide +kernel)
theorem ml_4_84 : Cond.methodLink RX4 84 yX4_top ∈ dr_tbl := dr_in (i := 669) (by decide +kernel) (by decide +kernel)
theorem ml_4_87 : Cond.methodLink RX4 87 yX4_child ∈ dr_tbl := dr_in (i := 670) (by decide +kernel) (by decide +kernel)
theorem ml_L_45 : Cond.methodLink RL 45 yX11_clerk ∈ dr_tbl := dr_in (i := 671) (by decide +kernel) (by decide +kernel)
theorem ml_11_162 : Cond.methodLink RX11 162 yX3_get ∈ dr_tbl := dr_in (i := 675) (by decide +kernel) (by decide +kernel)
theorem ml_L_49 : Cond.methodLink RL 49 yX11_job ∈ dr_tbl := dr_in (i := 676) (by decide +kernel) (by decide +kernel)
theorem ml_11_165 : Cond.methodLink RX11 165 yX6_get ∈ dr_tbl := dr_in (i := 680) (by decide +kernel) (by decide +kernel)
theorem ml_L_53 : Cond.methodLink RL 53 yX11_drawer ∈ dr_tbl := dr_in (i := 681) (by decide +kernel) (by decide +kernel)
theorem ml_11_166 : Cond.methodLink RX11 166 yX4_get ∈ dr_tbl := dr_in (i := 685) (by decide +kernel) (by decide +kernel)
theorem ml_L_57 : Cond.methodLink RL 57 yX11_at ∈ dr_tbl := dr_in (i := 686) (by decide +kernel) (by decide +kernel)
theorem ml_11_167 : Cond.methodLink RX11 167 yX4_child ∈ dr_tbl := dr_in (i := 690) (by decide +kernel) (by decide +kernel)
theorem ml_11_170 : Cond.methodLink RX11 170 yX4_heading ∈ dr_tbl := dr_in (i := 691) (by decide +kernel) (by decide +kernel)
theorem ml_L_62 : Cond.methodLink RL 62 yX11_nth ∈ dr_tbl := dr_in (i := 695) (by decide +kernel) (by decide +kernel)
theorem ml_11_173 : Cond.methodLink RX11 173 yX1_kth ∈ dr_tbl := dr_in (i := 699) (by decide +kernel) (by decide +kernel)
theorem ml_1_27 : Cond.methodLink RX1 27 yX4_firstOf ∈ dr_tbl := dr_in (i := 703) (by decide +kernel) (by decide +kernel)
theorem ml_1_33 : Cond.methodLink RX1 33 yX4_get ∈ dr_tbl := dr_in (i := 704) (by decide +kernel) (by decide +kernel)
theorem ml_1_37 : Cond.methodLink RX1 37 yX4_heading ∈ dr_tbl := dr_in (i := 705) (by decide +kernel) (by decide +kernel)
theorem ml_L_67 : Cond.methodLink RL 67 yX11_rank ∈ dr_tbl := dr_in (i := 706) (by decide +kernel) (by decide +kernel)
theorem ml_11_176 : Cond.methodLink RX11 176 yX1_aheadOf ∈ dr_tbl := dr_in (i := 710) (by decide +kernel) (by decide +kernel)
theorem ml_1_40 : Cond.methodLink RX1 40 yX5_isAhead ∈ dr_tbl := dr_in (i := 714) (by decide +kernel) (by decide +kernel)
theorem ml_L_71 : Cond.methodLink RL 71 yX11_there ∈ dr_tbl := dr_in (i := 715) (by decide +kernel) (by decide +kernel)
theorem ml_11_179 : Cond.methodLink RX11 179 yX6_time ∈ dr_tbl := dr_in (i := 719) (by decide +kernel) (by decide +kernel)
theorem ml_11_182 : Cond.methodLink RX11 182 yX6_isLastChange ∈ dr_tbl := dr_in (i := 720) (by decide +kernel) (by decide +kernel)
theorem ml_L_75 : Cond.methodLink RL 75 yX11_line ∈ dr_tbl := dr_in (i := 724) (by decide +kernel) (by decide +kernel)
theorem ml_11_185 : Cond.methodLink RX11 185 yX7_judge ∈ dr_tbl := dr_in (i := 728) (by decide +kernel) (by decide +kernel)
theorem ml_7_41 : Cond.methodLink RX7 41 yX7_canBeAsked ∈ dr_tbl := dr_in (i := 732) (by decide +kernel) (by decide +kernel)
theorem ml_7_55 : Cond.methodLink RX7 55 yX6_begun ∈ dr_tbl := dr_in (i := 736) (by decide +kernel) (by decide +kernel)
theorem ml_7_61 : Cond.methodLink RX7 61 yX6_get ∈ dr_tbl := dr_in (i := 737) (by decide +kernel) (by decide +kernel)
theorem ml_7_45 : Cond.methodLink RX7 45 yJ7_fill_53178 ∈ dr_tbl := dr_in (i := 738) (by decide +kernel) (by decide +kernel)
theorem ml_7_51 : Cond.methodLink RX7 51 yX7_goesOn ∈ dr_tbl := dr_in (i := 741) (by decide +kernel) (by decide +kernel)
theorem ml_7_65 : Cond.methodLink RX7 65 yX7_nothingComesFirst ∈ dr_tbl := dr_in (i := 745) (by decide +kernel) (by decide +kernel)
theorem ml_7_69 : Cond.methodLink RX7 69 yX7_isRight ∈ dr_tbl := dr_in (i := 749) (by decide +kernel) (by decide +kernel)
theorem ml_L_79 : Cond.methodLink RL 79 yX11_order ∈ dr_tbl := dr_in (i := 753) (by decide +kernel) (by decide +kernel)
theorem ml_11_188 : Cond.methodLink RX11 188 yX7_kthOfRow ∈ dr_tbl := dr_in (i := 757) (by decide +kernel) (by decide +kernel)
theorem ml_L_83 : Cond.methodLink RL 83 yX11_shape ∈ dr_tbl := dr_in (i := 761) (by decide +kernel) (by decide +kernel)
theorem ml_11_191 : Cond.methodLink RX11 191 yX9_leastBad ∈ dr_tbl := dr_in (i := 765) (by decide +kernel) (by decide +kernel)
theorem ml_9_19 : Cond.methodLink RX9 19 yX4_inUse ∈ dr_tbl := dr_in (i := 769) (by decide +kernel) (by decide +kernel)
theorem ml_9_25 : Cond.methodLink RX9 25 yX4_get ∈ dr_tbl := dr_in (i := 770) (by decide +kernel) (by decide +kernel)
theorem ml_9_29 : Cond.methodLink RX9 29 yX9_hasBadHeadings ∈ dr_tbl := dr_in (i := 771) (by decide +kernel) (by decide +kernel)
theorem ml_9_36 : Cond.methodLink RX9 36 yX4_heading ∈ dr_tbl := dr_in (i := 775) (by decide +kernel) (by decide +kernel)
theorem ml_9_39 : Cond.methodLink RX9 39 yX5_isAhead ∈ dr_tbl := dr_in (i := 776) (by decide +kernel) (by decide +kernel)
theorem ml_9_45 : Cond.methodLink RX9 45 yX4_half ∈ dr_tbl := dr_in (i := 777) (by decide +kernel) (by decide +kernel)
theorem ml_9_48 : Cond.methodLink RX9 48 yX4_covers ∈ dr_tbl := dr_in (i := 778) (by decide +kernel) (by decide +kernel)
theorem ml_9_33 : Cond.methodLink RX9 33 yX9_hasBadChildren ∈ dr_tbl := dr_in (i := 779) (by decide +kernel) (by decide +kernel)
theorem ml_9_51 : Cond.methodLink RX9 51 yX4_child ∈ dr_tbl := dr_in (i := 783) (by decide +kernel) (by decide +kernel)
theorem ml_L_88 : Cond.methodLink RL 88 yX11_found ∈ dr_tbl := dr_in (i := 784) (by decide +kernel) (by decide +kernel)
theorem ml_11_194 : Cond.methodLink RX11 194 yX3_atJobs ∈ dr_tbl := dr_in (i := 788) (by decide +kernel) (by decide +kernel)
theorem ml_3_40 : Cond.methodLink RX3 40 yX3_isIdle ∈ dr_tbl := dr_in (i := 792) (by decide +kernel) (by decide +kernel)
theorem ml_11_197 : Cond.methodLink RX11 197 yX8_takeTheTwo ∈ dr_tbl := dr_in (i := 793) (by decide +kernel) (by decide +kernel)
theorem ml_8_46 : Cond.methodLink RX8 46 yX3_isIdle ∈ dr_tbl := dr_in (i := 797) (by decide +kernel) (by decide +kernel)
theorem ml_8_52 : Cond.methodLink RX8 52 yX8_isWrongNow ∈ dr_tbl := dr_in (i := 802) (by decide +kernel) (by decide +kernel)
theorem ml_8_75 : Cond.methodLink RX8 75 yX3_get ∈ dr_tbl := dr_in (i := 806) (by decide +kernel) (by decide +kernel)
theorem ml_8_81 : Cond.methodLink RX8 81 yX6_get ∈ dr_tbl := dr_in (i := 807) (by decide +kernel) (by decide +kernel)
theorem ml_8_82 : Cond.methodLink RX8 82 yX9_leastBad ∈ dr_tbl := dr_in (i := 808) (by decide +kernel) (by decide +kernel)
theorem ml_8_87 : Cond.methodLink RX8 87 yX7_judge ∈ dr_tbl := dr_in (i := 809) (by decide +kernel) (by decide +kernel)
theorem ml_8_56 : Cond.methodLink RX8 56 yX8_goesWrong ∈ dr_tbl := dr_in (i := 810) (by decide +kernel) (by decide +kernel)
theorem ml_8_60 : Cond.methodLink RX8 60 yX2_startTrying ∈ dr_tbl := dr_in (i := 811) (by decide +kernel) (by decide +kernel)
theorem ml_8_66 : Cond.methodLink RX8 66 yX10_go ∈ dr_tbl := dr_in (i := 815) (by decide +kernel) (by decide +kernel)
theorem ml_8_72 : Cond.methodLink RX8 72 yX2_takeBack ∈ dr_tbl := dr_in (i := 816) (by decide +kernel) (by decide +kernel)
theorem ml_2_43 : Cond.methodLink RX2 43 yJ9_min_7cf53 ∈ dr_tbl := dr_in (i := 820) (by decide +kernel) (by decide +kernel)
theorem ml_11_203 : Cond.methodLink RX11 203 yX8_kthClerk ∈ dr_tbl := dr_in (i := 821) (by decide +kernel) (by decide +kernel)
theorem ml_L_92 : Cond.methodLink RL 92 yX11_fall ∈ dr_tbl := dr_in (i := 825) (by decide +kernel) (by decide +kernel)
theorem ml_11_206 : Cond.methodLink RX11 206 yX6_set ∈ dr_tbl := dr_in (i := 829) (by decide +kernel) (by decide +kernel)
theorem ml_11_207 : Cond.methodLink RX11 207 yX3_rest ∈ dr_tbl := dr_in (i := 830) (by decide +kernel) (by decide +kernel)
theorem ml_11_210 : Cond.methodLink RX11 210 yX4_letAllGo ∈ dr_tbl := dr_in (i := 831) (by decide +kernel) (by decide +kernel)
theorem ml_11_213 : Cond.methodLink RX11 213 yX0_crownTheTop ∈ dr_tbl := dr_in (i := 835) (by decide +kernel) (by decide +kernel)
theorem ml_0_19 : Cond.methodLink RX0 19 yX4_top ∈ dr_tbl := dr_in (i := 839) (by decide +kernel) (by decide +kernel)
theorem ml_0_25 : Cond.methodLink RX0 25 yX4_get ∈ dr_tbl := dr_in (i := 840) (by decide +kernel) (by decide +kernel)
theorem ml_0_29 : Cond.methodLink RX0 29 yX4_open ∈ dr_tbl := dr_in (i := 841) (by decide +kernel) (by decide +kernel)
theorem ml_0_33 : Cond.methodLink RX0 33 yX4_half ∈ dr_tbl := dr_in (i := 842) (by decide +kernel) (by decide +kernel)
theorem ml_0_36 : Cond.methodLink RX0 36 yX4_addHeading ∈ dr_tbl := dr_in (i := 843) (by decide +kernel) (by decide +kernel)
theorem ml_0_40 : Cond.methodLink RX0 40 yX4_setChild ∈ dr_tbl := dr_in (i := 844) (by decide +kernel) (by decide +kernel)
theorem ml_0_44 : Cond.methodLink RX0 44 yX4_setTop ∈ dr_tbl := dr_in (i := 845) (by decide +kernel) (by decide +kernel)
theorem ml_L_96 : Cond.methodLink RL 96 yX11_night ∈ dr_tbl := dr_in (i := 846) (by decide +kernel) (by decide +kernel)
theorem ml_11_216 : Cond.methodLink RX11 216 yX4_half ∈ dr_tbl := dr_in (i := 850) (by decide +kernel) (by decide +kernel)
theorem ml_11_219 : Cond.methodLink RX11 219 yX0_buildAnew ∈ dr_tbl := dr_in (i := 851) (by decide +kernel) (by decide +kernel)
theorem ml_0_48 : Cond.methodLink RX0 48 yX1_sort ∈ dr_tbl := dr_in (i := 855) (by decide +kernel) (by decide +kernel)
theorem ml_1_46 : Cond.methodLink RX1 46 yX1_sortIn ∈ dr_tbl := dr_in (i := 859) (by decide +kernel) (by decide +kernel)
theorem ml_0_53 : Cond.methodLink RX0 53 yX4_clear ∈ dr_tbl := dr_in (i := 863) (by decide +kernel) (by decide +kernel)
theorem ml_0_56 : Cond.methodLink RX0 56 yX0_buildLeaves ∈ dr_tbl := dr_in (i := 864) (by decide +kernel) (by decide +kernel)
theorem ml_0_63 : Cond.methodLink RX0 63 yX1_kthSorted ∈ dr_tbl := dr_in (i := 868) (by decide +kernel) (by decide +kernel)
theorem ml_0_66 : Cond.methodLink RX0 66 yX4_set ∈ dr_tbl := dr_in (i := 872) (by decide +kernel) (by decide +kernel)
theorem ml_0_69 : Cond.methodLink RX0 69 yX4_inUse ∈ dr_tbl := dr_in (i := 873) (by decide +kernel) (by decide +kernel)
theorem ml_0_59 : Cond.methodLink RX0 59 yX0_buildGuides ∈ dr_tbl := dr_in (i := 874) (by decide +kernel) (by decide +kernel)
theorem ml_L_100 : Cond.methodLink RL 100 yX11_count ∈ dr_tbl := dr_in (i := 878) (by decide +kernel) (by decide +kernel)
theorem ml_11_222 : Cond.methodLink RX11 222 yX1_howMany ∈ dr_tbl := dr_in (i := 882) (by decide +kernel) (by decide +kernel)
theorem ml_11_225 : Cond.methodLink RX11 225 yX4_latched ∈ dr_tbl := dr_in (i := 886) (by decide +kernel) (by decide +kernel)
theorem ml_11_228 : Cond.methodLink RX11 228 yX5_parts ∈ dr_tbl := dr_in (i := 890) (by decide +kernel) (by decide +kernel)
theorem ml_L_9 : Cond.methodLink RL 9 yL_cell ∈ dr_tbl := dr_in (i := 894) (by decide +kernel) (by decide +kernel)
theorem ml_L_20 : Cond.methodLink RL 20 yX12_init ∈ dr_tbl := dr_in (i := 899) (by decide +kernel) (by decide +kernel)
theorem ml_12_156 : Cond.methodLink RX12 156 yX12_clears ∈ dr_tbl := dr_in (i := 903) (by decide +kernel) (by decide +kernel)
theorem ml_L_25 : Cond.methodLink RL 25 yX12_rule ∈ dr_tbl := dr_in (i := 1086) (by decide +kernel) (by decide +kernel)
theorem ml_12_160 : Cond.methodLink RX12 160 yX12_in ∈ dr_tbl := dr_in (i := 1090) (by decide +kernel) (by decide +kernel)
theorem ml_12_167 : Cond.methodLink RX12 167 yX12_byteOf ∈ dr_tbl := dr_in (i := 1093) (by decide +kernel) (by decide +kernel)
theorem ml_12_171 : Cond.methodLink RX12 171 yX12_isRead ∈ dr_tbl := dr_in (i := 1096) (by decide +kernel) (by decide +kernel)
theorem ml_L_30 : Cond.methodLink RL 30 yX12_ahead ∈ dr_tbl := dr_in (i := 1100) (by decide +kernel) (by decide +kernel)
theorem ml_12_185 : Cond.methodLink RX12 185 yX12_isHeading ∈ dr_tbl := dr_in (i := 1104) (by decide +kernel) (by decide +kernel)
theorem ml_12_188 : Cond.methodLink RX12 188 yX12_isAhead ∈ dr_tbl := dr_in (i := 1107) (by decide +kernel) (by decide +kernel)
theorem ml_12_181 : Cond.methodLink RX12 181 yX12_digit ∈ dr_tbl := dr_in (i := 1111) (by decide +kernel) (by decide +kernel)
theorem ml_L_35 : Cond.methodLink RL 35 yX12_fault ∈ dr_tbl := dr_in (i := 1114) (by decide +kernel) (by decide +kernel)
theorem ml_L_40 : Cond.methodLink RL 40 yX12_begin ∈ dr_tbl := dr_in (i := 1118) (by decide +kernel) (by decide +kernel)
theorem ml_12_196 : Cond.methodLink RX12 196 yX12_used ∈ dr_tbl := dr_in (i := 1122) (by decide +kernel) (by decide +kernel)
theorem ml_L_44 : Cond.methodLink RL 44 yX12_step ∈ dr_tbl := dr_in (i := 1126) (by decide +kernel) (by decide +kernel)
theorem ml_12_268 : Cond.methodLink RX12 268 yX12_one ∈ dr_tbl := dr_in (i := 1130) (by decide +kernel) (by decide +kernel)
theorem ml_12_256 : Cond.methodLink RX12 256 yX12_reads ∈ dr_tbl := dr_in (i := 1134) (by decide +kernel) (by decide +kernel)
theorem ml_12_208 : Cond.methodLink RX12 208 yX12_covered ∈ dr_tbl := dr_in (i := 1138) (by decide +kernel) (by decide +kernel)
theorem ml_12_205 : Cond.methodLink RX12 205 yX12_covers ∈ dr_tbl := dr_in (i := 1142) (by decide +kernel) (by decide +kernel)
theorem ml_12_211 : Cond.methodLink RX12 211 yX12_way ∈ dr_tbl := dr_in (i := 1146) (by decide +kernel) (by decide +kernel)
theorem ml_12_214 : Cond.methodLink RX12 214 yX12_hasCard ∈ dr_tbl := dr_in (i := 1150) (by decide +kernel) (by decide +kernel)
theorem ml_12_217 : Cond.methodLink RX12 217 yX12_ends ∈ dr_tbl := dr_in (i := 1154) (by decide +kernel) (by decide +kernel)
theorem ml_12_221 : Cond.methodLink RX12 221 yX12_isOthers ∈ dr_tbl := dr_in (i := 1158) (by decide +kernel) (by decide +kernel)
theorem ml_12_224 : Cond.methodLink RX12 224 yX12_latches ∈ dr_tbl := dr_in (i := 1162) (by decide +kernel) (by decide +kernel)
theorem ml_12_259 : Cond.methodLink RX12 259 yX12_holds ∈ dr_tbl := dr_in (i := 1166) (by decide +kernel) (by decide +kernel)
theorem ml_12_227 : Cond.methodLink RX12 227 yX12_looksFor ∈ dr_tbl := dr_in (i := 1170) (by decide +kernel) (by decide +kernel)
theorem ml_12_231 : Cond.methodLink RX12 231 yX12_letsGo ∈ dr_tbl := dr_in (i := 1174) (by decide +kernel) (by decide +kernel)
theorem ml_12_262 : Cond.methodLink RX12 262 yX12_writes ∈ dr_tbl := dr_in (i := 1178) (by decide +kernel) (by decide +kernel)
theorem ml_12_234 : Cond.methodLink RX12 234 yX12_hasCopy ∈ dr_tbl := dr_in (i := 1182) (by decide +kernel) (by decide +kernel)
theorem ml_12_237 : Cond.methodLink RX12 237 yX12_placeIn ∈ dr_tbl := dr_in (i := 1186) (by decide +kernel) (by decide +kernel)
theorem ml_12_240 : Cond.methodLink RX12 240 yX12_becomes ∈ dr_tbl := dr_in (i := 1190) (by decide +kernel) (by decide +kernel)
theorem ml_12_243 : Cond.methodLink RX12 243 yX12_comes ∈ dr_tbl := dr_in (i := 1194) (by decide +kernel) (by decide +kernel)
theorem ml_12_250 : Cond.methodLink RX12 250 yX12_parted ∈ dr_tbl := dr_in (i := 1198) (by decide +kernel) (by decide +kernel)
theorem ml_12_192 : Cond.methodLink RX12 192 yX12_spare ∈ dr_tbl := dr_in (i := 1202) (by decide +kernel) (by decide +kernel)
theorem ml_12_265 : Cond.methodLink RX12 265 yX12_goesUp ∈ dr_tbl := dr_in (i := 1206) (by decide +kernel) (by decide +kernel)
theorem ml_12_253 : Cond.methodLink RX12 253 yX12_firstOf ∈ dr_tbl := dr_in (i := 1210) (by decide +kernel) (by decide +kernel)
theorem ml_L_48 : Cond.methodLink RL 48 yX12_clerk ∈ dr_tbl := dr_in (i := 1214) (by decide +kernel) (by decide +kernel)
theorem ml_L_52 : Cond.methodLink RL 52 yX12_job ∈ dr_tbl := dr_in (i := 1218) (by decide +kernel) (by decide +kernel)
theorem ml_L_56 : Cond.methodLink RL 56 yX12_drawer ∈ dr_tbl := dr_in (i := 1222) (by decide +kernel) (by decide +kernel)
theorem ml_L_61 : Cond.methodLink RL 61 yX12_at ∈ dr_tbl := dr_in (i := 1226) (by decide +kernel) (by decide +kernel)
theorem ml_L_66 : Cond.methodLink RL 66 yX12_nth ∈ dr_tbl := dr_in (i := 1230) (by decide +kernel) (by decide +kernel)
theorem ml_12_274 : Cond.methodLink RX12 274 yX12_lists ∈ dr_tbl := dr_in (i := 1234) (by decide +kernel) (by decide +kernel)
theorem ml_L_70 : Cond.methodLink RL 70 yX12_rank ∈ dr_tbl := dr_in (i := 1238) (by decide +kernel) (by decide +kernel)
theorem ml_L_74 : Cond.methodLink RL 74 yX12_there ∈ dr_tbl := dr_in (i := 1242) (by decide +kernel) (by decide +kernel)
theorem ml_L_78 : Cond.methodLink RL 78 yX12_line ∈ dr_tbl := dr_in (i := 1246) (by decide +kernel) (by decide +kernel)
theorem ml_12_286 : Cond.methodLink RX12 286 yX12_canBeAsked ∈ dr_tbl := dr_in (i := 1250) (by decide +kernel) (by decide +kernel)
theorem ml_12_289 : Cond.methodLink RX12 289 yX12_isSound ∈ dr_tbl := dr_in (i := 1254) (by decide +kernel) (by decide +kernel)
theorem ml_12_283 : Cond.methodLink RX12 283 yX12_mayCome ∈ dr_tbl := dr_in (i := 1258) (by decide +kernel) (by decide +kernel)
theorem ml_12_280 : Cond.methodLink RX12 280 yX12_isThere ∈ dr_tbl := dr_in (i := 1262) (by decide +kernel) (by decide +kernel)
theorem ml_L_82 : Cond.methodLink RL 82 yX12_order ∈ dr_tbl := dr_in (i := 1266) (by decide +kernel) (by decide +kernel)
theorem ml_12_292 : Cond.methodLink RX12 292 yX12_line ∈ dr_tbl := dr_in (i := 1270) (by decide +kernel) (by decide +kernel)
theorem ml_L_87 : Cond.methodLink RL 87 yX12_shape ∈ dr_tbl := dr_in (i := 1271) (by decide +kernel) (by decide +kernel)
theorem ml_12_295 : Cond.methodLink RX12 295 yX12_isBad ∈ dr_tbl := dr_in (i := 1275) (by decide +kernel) (by decide +kernel)
theorem ml_L_91 : Cond.methodLink RL 91 yX12_found ∈ dr_tbl := dr_in (i := 1279) (by decide +kernel) (by decide +kernel)
theorem ml_12_307 : Cond.methodLink RX12 307 yX12_atJobs ∈ dr_tbl := dr_in (i := 1283) (by decide +kernel) (by decide +kernel)
theorem ml_12_310 : Cond.methodLink RX12 310 yX12_saves ∈ dr_tbl := dr_in (i := 1287) (by decide +kernel) (by decide +kernel)
theorem ml_12_313 : Cond.methodLink RX12 313 yX12_goesBy ∈ dr_tbl := dr_in (i := 1291) (by decide +kernel) (by decide +kernel)
theorem ml_12_317 : Cond.methodLink RX12 317 yX12_shape ∈ dr_tbl := dr_in (i := 1295) (by decide +kernel) (by decide +kernel)
theorem ml_12_320 : Cond.methodLink RX12 320 yX12_isBroken ∈ dr_tbl := dr_in (i := 1296) (by decide +kernel) (by decide +kernel)
theorem ml_12_323 : Cond.methodLink RX12 323 yX12_putsBack ∈ dr_tbl := dr_in (i := 1300) (by decide +kernel) (by decide +kernel)
theorem ml_L_95 : Cond.methodLink RL 95 yX12_fall ∈ dr_tbl := dr_in (i := 1304) (by decide +kernel) (by decide +kernel)
theorem ml_L_99 : Cond.methodLink RL 99 yX12_night ∈ dr_tbl := dr_in (i := 1308) (by decide +kernel) (by decide +kernel)
theorem ml_12_326 : Cond.methodLink RX12 326 yX12_sorts ∈ dr_tbl := dr_in (i := 1312) (by decide +kernel) (by decide +kernel)
theorem ml_12_329 : Cond.methodLink RX12 329 yX12_binds ∈ dr_tbl := dr_in (i := 1316) (by decide +kernel) (by decide +kernel)
theorem ml_L_103 : Cond.methodLink RL 103 yX12_count ∈ dr_tbl := dr_in (i := 1320) (by decide +kernel) (by decide +kernel)
end
section
section DR
variable {p : Program} {l : Launch} {e : Env} {R : Room} {s0 : State} {m : MethodId} {args : Array Value} {below : List Frame} {meth : Method} {c : Code} {cells slots : Nat} {A : Nat → Prop} {H0 : Heap} {D : va_G} {cI cZ : ClassId} {ad ln : Nat → Nat} {L : List Nat} {cc : ByteArray} {nL : Nat} {own : String} {ret : Option FieldType} {Z : Int32 → dr_S → State → Prop}
variable {pc : Nat} {lv : List (Nat × Value)} {st : List Value} {s : dr_S} {F F1 F2 : Option (Int32 × dr_S)}

theorem gg_0_9 (E : dr_E p R s0 m args meth c cells slots A H0 D cI cZ ad L cc nL RX0 ret) (hid : 0 ∈ L) (hdg : decode cc pc = .ok (.getfield 9, 3)) (kk : dr_G p l e R s0 m args below meth c cells slots A H0 D cI cZ ad ln L nL Z (pc + 3) lv (.ref (ad 4) :: st) s F) : dr_G p l e R s0 m args below meth c cells slots A H0 D cI cZ ad ln L nL Z pc lv (.ref (ad 0) :: st) s F := g_get E (k := 0) hid (by decide) rfl wu_0 (by decide) wf_0_9 rfl hdg kk
theorem gg_0_15 (E : dr_E p R s0 m args meth c cells slots A H0 D cI cZ ad L cc nL RX0 ret) (hid : 0 ∈ L) (hdg : decode cc pc = .ok (.getfield 15, 3)) (kk : dr_G p l e R s0 m args below meth c cells slots A H0 D cI cZ ad ln L nL Z (pc + 3) lv (.ref (ad 1) :: st) s F) : dr_G p l e R s0 m args below meth c cells slots A H0 D cI cZ ad ln L nL Z pc lv (.ref (ad 0) :: st) s F := g_get E (k := 1) hid (by decide) rfl wu_0 (by decide) wf_0_15 rfl hdg kk
theorem gg_1_9 (E : dr_E p R s0 m args meth c cells slots A H0 D cI cZ ad L cc nL RX1 ret) (hid : 1 ∈ L) (hdg : decode cc pc = .ok (.getfield 9, 3)) (kk : dr_G p l e R s0 m args below meth c cells slots A H0 D cI cZ ad ln L nL Z (pc + 3) lv (.ref (ad 13) :: st) s F) : dr_G p l e R s0 m args below meth c cells slots A H0 D cI cZ ad ln L nL Z pc lv (.ref (ad 1) :: st) s F := g_get E (k := 2) hid (by decide) rfl wu_1 (by decide) wf_1_9 rfl hdg kk
theorem gg_1_15 (E : dr_E p R s0 m args meth c cells slots A H0 D cI cZ ad L cc nL RX1 ret) (hid : 1 ∈ L) (hdg : decode cc pc = .ok (.getfield 15, 3)) (kk : dr_G p l e R s0 m args below meth c cells slots A H0 D cI cZ ad ln L nL Z (pc + 3) lv (.int (s.2 103) :: st) s F) : dr_G p l e R s0 m args below meth c cells slots A H0 D cI cZ ad ln L nL Z pc lv (.ref (ad 1) :: st) s F := g_get E (k := 3) hid (by decide) rfl wu_1 (by decide) wf_1_15 rfl hdg kk
theorem po_103 (v : Int32) : ∀ j, j < 13 → j ≠ 1 → dr_fs ad s j = dr_fs ad (dr_pf s 103 v) j := fun j h hj => match j, h, hj with | 0, _, _ => rfl | 1, _, hj => absurd rfl hj | 2, _, _ => rfl | 3, _, _ => rfl | 4, _, _ => rfl | 5, _, _ => rfl | 6, _, _ => rfl | 7, _, _ => rfl | 8, _, _ => rfl | 9, _, _ => rfl | 10, _, _ => rfl | 11, _, _ => rfl | 12, _, _ => rfl | n + 13, h, _ => absurd h (by omega)
theorem pe_103 (v : Int32) : ∀ j, j ≠ 1 → dr_e cI cZ ad ln s j = dr_e cI cZ ad ln (dr_pf s 103 v) j := by
  intro j hj
  unfold dr_e
  by_cases h : j < 13
  · rw [if_pos h, if_pos h, po_103 v j h hj]
  · rw [if_neg h, if_neg h]
    rfl
theorem gp_1_15 (E : dr_E p R s0 m args meth c cells slots A H0 D cI cZ ad L cc nL RX1 ret) {v : Int32} (hid : 1 ∈ L) (hdg : decode cc pc = .ok (.putfield 15, 3)) {Kx : dr_S → Option (Int32 × dr_S)} (kk : ∀ s2 : dr_S, dr_G p l e R s0 m args below meth c cells slots A H0 D cI cZ ad ln L nL Z (pc + 3) lv st s2 (Kx s2)) : dr_G p l e R s0 m args below meth c cells slots A H0 D cI cZ ad ln L nL Z pc lv (.int v :: .ref (ad 1) :: st) s (dr_letS (dr_pf s 103 v) Kx) := g_put E (s := s) (v := v) (s1 := dr_pf s 103 v) (k := 3) hid (by decide) rfl wu_1 tyX1 tyX1_ok nmX1 (by decide) wf_1_15 rfl (ty := .int) (by decide +kernel) rfl rfl (Nat.le_of_ble_eq_true rfl) rfl (pe_103 v) hdg kk
theorem gg_1_19 (E : dr_E p R s0 m args meth c cells slots A H0 D cI cZ ad L cc nL RX1 ret) (hid : 1 ∈ L) (hdg : decode cc pc = .ok (.getfield 19, 3)) (kk : dr_G p l e R s0 m args below meth c cells slots A H0 D cI cZ ad ln L nL Z (pc + 3) lv (.ref (ad 4) :: st) s F) : dr_G p l e R s0 m args below meth c cells slots A H0 D cI cZ ad ln L nL Z pc lv (.ref (ad 1) :: st) s F := g_get E (k := 0) hid (by decide) rfl wu_1 (by decide) wf_1_19 rfl hdg kk
theorem gg_1_23 (E : dr_E p R s0 m args meth c cells slots A H0 D cI cZ ad L cc nL RX1 ret) (hid : 1 ∈ L) (hdg : decode cc pc = .ok (.getfield 23, 3)) (kk : dr_G p l e R s0 m args below meth c cells slots A H0 D cI cZ ad ln L nL Z (pc + 3) lv (.ref (ad 5) :: st) s F) : dr_G p l e R s0 m args below meth c cells slots A H0 D cI cZ ad ln L nL Z pc lv (.ref (ad 1) :: st) s F := g_get E (k := 1) hid (by decide) rfl wu_1 (by decide) wf_1_23 rfl hdg kk
theorem gg_2_11 (E : dr_E p R s0 m args meth c cells slots A H0 D cI cZ ad L cc nL RX2 ret) (hid : 2 ∈ L) (hdg : decode cc pc = .ok (.getfield 11, 3)) (kk : dr_G p l e R s0 m args below meth c cells slots A H0 D cI cZ ad ln L nL Z (pc + 3) lv (.ref (ad 15) :: st) s F) : dr_G p l e R s0 m args below meth c cells slots A H0 D cI cZ ad ln L nL Z pc lv (.ref (ad 2) :: st) s F := g_get E (k := 1) hid (by decide) rfl wu_2 (by decide) wf_2_11 rfl hdg kk
theorem gg_2_15 (E : dr_E p R s0 m args meth c cells slots A H0 D cI cZ ad L cc nL RX2 ret) (hid : 2 ∈ L) (hdg : decode cc pc = .ok (.getfield 15, 3)) (kk : dr_G p l e R s0 m args below meth c cells slots A H0 D cI cZ ad ln L nL Z (pc + 3) lv (.ref (ad 16) :: st) s F) : dr_G p l e R s0 m args below meth c cells slots A H0 D cI cZ ad ln L nL Z pc lv (.ref (ad 2) :: st) s F := g_get E (k := 2) hid (by decide) rfl wu_2 (by decide) wf_2_15 rfl hdg kk
theorem gg_2_18 (E : dr_E p R s0 m args meth c cells slots A H0 D cI cZ ad L cc nL RX2 ret) (hid : 2 ∈ L) (hdg : decode cc pc = .ok (.getfield 18, 3)) (kk : dr_G p l e R s0 m args below meth c cells slots A H0 D cI cZ ad ln L nL Z (pc + 3) lv (.int (s.2 203) :: st) s F) : dr_G p l e R s0 m args below meth c cells slots A H0 D cI cZ ad ln L nL Z pc lv (.ref (ad 2) :: st) s F := g_get E (k := 3) hid (by decide) rfl wu_2 (by decide) wf_2_18 rfl hdg kk
theorem po_203 (v : Int32) : ∀ j, j < 13 → j ≠ 2 → dr_fs ad s j = dr_fs ad (dr_pf s 203 v) j := fun j h hj => match j, h, hj with | 0, _, _ => rfl | 1, _, _ => rfl | 2, _, hj => absurd rfl hj | 3, _, _ => rfl | 4, _, _ => rfl | 5, _, _ => rfl | 6, _, _ => rfl | 7, _, _ => rfl | 8, _, _ => rfl | 9, _, _ => rfl | 10, _, _ => rfl | 11, _, _ => rfl | 12, _, _ => rfl | n + 13, h, _ => absurd h (by omega)
theorem pe_203 (v : Int32) : ∀ j, j ≠ 2 → dr_e cI cZ ad ln s j = dr_e cI cZ ad ln (dr_pf s 203 v) j := by
  intro j hj
  unfold dr_e
  by_cases h : j < 13
  · rw [if_pos h, if_pos h, po_203 v j h hj]
  · rw [if_neg h, if_neg h]
    rfl
theorem gp_2_18 (E : dr_E p R s0 m args meth c cells slots A H0 D cI cZ ad L cc nL RX2 ret) {v : Int32} (hid : 2 ∈ L) (hdg : decode cc pc = .ok (.putfield 18, 3)) {Kx : dr_S → Option (Int32 × dr_S)} (kk : ∀ s2 : dr_S, dr_G p l e R s0 m args below meth c cells slots A H0 D cI cZ ad ln L nL Z (pc + 3) lv st s2 (Kx s2)) : dr_G p l e R s0 m args below meth c cells slots A H0 D cI cZ ad ln L nL Z pc lv (.int v :: .ref (ad 2) :: st) s (dr_letS (dr_pf s 203 v) Kx) := g_put E (s := s) (v := v) (s1 := dr_pf s 203 v) (k := 3) hid (by decide) rfl wu_2 tyX2 tyX2_ok nmX2 (by decide) wf_2_18 rfl (ty := .int) (by decide +kernel) rfl rfl (Nat.le_of_ble_eq_true rfl) rfl (pe_203 v) hdg kk
theorem gg_2_22 (E : dr_E p R s0 m args meth c cells slots A H0 D cI cZ ad L cc nL RX2 ret) (hid : 2 ∈ L) (hdg : decode cc pc = .ok (.getfield 22, 3)) (kk : dr_G p l e R s0 m args below meth c cells slots A H0 D cI cZ ad ln L nL Z (pc + 3) lv (.int (s.2 204) :: st) s F) : dr_G p l e R s0 m args below meth c cells slots A H0 D cI cZ ad ln L nL Z pc lv (.ref (ad 2) :: st) s F := g_get E (k := 4) hid (by decide) rfl wu_2 (by decide) wf_2_22 rfl hdg kk
theorem po_204 (v : Int32) : ∀ j, j < 13 → j ≠ 2 → dr_fs ad s j = dr_fs ad (dr_pf s 204 v) j := fun j h hj => match j, h, hj with | 0, _, _ => rfl | 1, _, _ => rfl | 2, _, hj => absurd rfl hj | 3, _, _ => rfl | 4, _, _ => rfl | 5, _, _ => rfl | 6, _, _ => rfl | 7, _, _ => rfl | 8, _, _ => rfl | 9, _, _ => rfl | 10, _, _ => rfl | 11, _, _ => rfl | 12, _, _ => rfl | n + 13, h, _ => absurd h (by omega)
theorem pe_204 (v : Int32) : ∀ j, j ≠ 2 → dr_e cI cZ ad ln s j = dr_e cI cZ ad ln (dr_pf s 204 v) j := by
  intro j hj
  unfold dr_e
  by_cases h : j < 13
  · rw [if_pos h, if_pos h, po_204 v j h hj]
  · rw [if_neg h, if_neg h]
    rfl
theorem gp_2_22 (E : dr_E p R s0 m args meth c cells slots A H0 D cI cZ ad L cc nL RX2 ret) {v : Int32} (hid : 2 ∈ L) (hv : v = 0 ∨ v = 1) (hdg : decode cc pc = .ok (.putfield 22, 3)) {Kx : dr_S → Option (Int32 × dr_S)} (kk : ∀ s2 : dr_S, dr_G p l e R s0 m args below meth c cells slots A H0 D cI cZ ad ln L nL Z (pc + 3) lv st s2 (Kx s2)) : dr_G p l e R s0 m args below meth c cells slots A H0 D cI cZ ad ln L nL Z pc lv (.int v :: .ref (ad 2) :: st) s (dr_letS (dr_pf s 204 v) Kx) := g_put E (s := s) (v := v) (s1 := dr_pf s 204 v) (k := 4) hid (by decide) rfl wu_2 tyX2 tyX2_ok nmX2 (by decide) wf_2_22 rfl (ty := .boolean) (by decide +kernel) (by rcases hv with rfl | rfl <;> rfl) (by rcases hv with rfl | rfl <;> rfl) (Nat.le_of_ble_eq_true rfl) rfl (pe_204 v) hdg kk
theorem gg_2_32 (E : dr_E p R s0 m args meth c cells slots A H0 D cI cZ ad L cc nL RX2 ret) (hid : 2 ∈ L) (hdg : decode cc pc = .ok (.getfield 32, 3)) (kk : dr_G p l e R s0 m args below meth c cells slots A H0 D cI cZ ad ln L nL Z (pc + 3) lv (.ref (ad 14) :: st) s F) : dr_G p l e R s0 m args below meth c cells slots A H0 D cI cZ ad ln L nL Z pc lv (.ref (ad 2) :: st) s F := g_get E (k := 0) hid (by decide) rfl wu_2 (by decide) wf_2_32 rfl hdg kk
theorem gg_3_11 (E : dr_E p R s0 m args meth c cells slots A H0 D cI cZ ad L cc nL RX3 ret) (hid : 3 ∈ L) (hdg : decode cc pc = .ok (.getfield 11, 3)) (kk : dr_G p l e R s0 m args below meth c cells slots A H0 D cI cZ ad ln L nL Z (pc + 3) lv (.ref (ad 2) :: st) s F) : dr_G p l e R s0 m args below meth c cells slots A H0 D cI cZ ad ln L nL Z pc lv (.ref (ad 3) :: st) s F := g_get E (k := 0) hid (by decide) rfl wu_3 (by decide) wf_3_11 rfl hdg kk
theorem gg_3_15 (E : dr_E p R s0 m args meth c cells slots A H0 D cI cZ ad L cc nL RX3 ret) (hid : 3 ∈ L) (hdg : decode cc pc = .ok (.getfield 15, 3)) (kk : dr_G p l e R s0 m args below meth c cells slots A H0 D cI cZ ad ln L nL Z (pc + 3) lv (.int (s.2 301) :: st) s F) : dr_G p l e R s0 m args below meth c cells slots A H0 D cI cZ ad ln L nL Z pc lv (.ref (ad 3) :: st) s F := g_get E (k := 1) hid (by decide) rfl wu_3 (by decide) wf_3_15 rfl hdg kk
theorem gg_4_9 (E : dr_E p R s0 m args meth c cells slots A H0 D cI cZ ad L cc nL RX4 ret) (hid : 4 ∈ L) (hdg : decode cc pc = .ok (.getfield 9, 3)) (kk : dr_G p l e R s0 m args below meth c cells slots A H0 D cI cZ ad ln L nL Z (pc + 3) lv (.ref (ad 2) :: st) s F) : dr_G p l e R s0 m args below meth c cells slots A H0 D cI cZ ad ln L nL Z pc lv (.ref (ad 4) :: st) s F := g_get E (k := 0) hid (by decide) rfl wu_4 (by decide) wf_4_9 rfl hdg kk
theorem gg_4_15 (E : dr_E p R s0 m args meth c cells slots A H0 D cI cZ ad L cc nL RX4 ret) (hid : 4 ∈ L) (hdg : decode cc pc = .ok (.getfield 15, 3)) (kk : dr_G p l e R s0 m args below meth c cells slots A H0 D cI cZ ad ln L nL Z (pc + 3) lv (.ref (ad 5) :: st) s F) : dr_G p l e R s0 m args below meth c cells slots A H0 D cI cZ ad ln L nL Z pc lv (.ref (ad 4) :: st) s F := g_get E (k := 1) hid (by decide) rfl wu_4 (by decide) wf_4_15 rfl hdg kk
theorem gg_4_19 (E : dr_E p R s0 m args meth c cells slots A H0 D cI cZ ad L cc nL RX4 ret) (hid : 4 ∈ L) (hdg : decode cc pc = .ok (.getfield 19, 3)) (kk : dr_G p l e R s0 m args below meth c cells slots A H0 D cI cZ ad ln L nL Z (pc + 3) lv (.int (s.2 402) :: st) s F) : dr_G p l e R s0 m args below meth c cells slots A H0 D cI cZ ad ln L nL Z pc lv (.ref (ad 4) :: st) s F := g_get E (k := 2) hid (by decide) rfl wu_4 (by decide) wf_4_19 rfl hdg kk
theorem gg_4_27 (E : dr_E p R s0 m args meth c cells slots A H0 D cI cZ ad L cc nL RX4 ret) (hid : 4 ∈ L) (hdg : decode cc pc = .ok (.getfield 27, 3)) (kk : dr_G p l e R s0 m args below meth c cells slots A H0 D cI cZ ad ln L nL Z (pc + 3) lv (.int (s.2 403) :: st) s F) : dr_G p l e R s0 m args below meth c cells slots A H0 D cI cZ ad ln L nL Z pc lv (.ref (ad 4) :: st) s F := g_get E (k := 3) hid (by decide) rfl wu_4 (by decide) wf_4_27 rfl hdg kk
theorem gg_4_30 (E : dr_E p R s0 m args meth c cells slots A H0 D cI cZ ad L cc nL RX4 ret) (hid : 4 ∈ L) (hdg : decode cc pc = .ok (.getfield 30, 3)) (kk : dr_G p l e R s0 m args below meth c cells slots A H0 D cI cZ ad ln L nL Z (pc + 3) lv (.int (s.2 404) :: st) s F) : dr_G p l e R s0 m args below meth c cells slots A H0 D cI cZ ad ln L nL Z pc lv (.ref (ad 4) :: st) s F := g_get E (k := 4) hid (by decide) rfl wu_4 (by decide) wf_4_30 rfl hdg kk
theorem gg_4_33 (E : dr_E p R s0 m args meth c cells slots A H0 D cI cZ ad L cc nL RX4 ret) (hid : 4 ∈ L) (hdg : decode cc pc = .ok (.getfield 33, 3)) (kk : dr_G p l e R s0 m args below meth c cells slots A H0 D cI cZ ad ln L nL Z (pc + 3) lv (.int (s.2 405) :: st) s F) : dr_G p l e R s0 m args below meth c cells slots A H0 D cI cZ ad ln L nL Z pc lv (.ref (ad 4) :: st) s F := g_get E (k := 5) hid (by decide) rfl wu_4 (by decide) wf_4_33 rfl hdg kk
theorem gg_4_36 (E : dr_E p R s0 m args meth c cells slots A H0 D cI cZ ad L cc nL RX4 ret) (hid : 4 ∈ L) (hdg : decode cc pc = .ok (.getfield 36, 3)) (kk : dr_G p l e R s0 m args below meth c cells slots A H0 D cI cZ ad ln L nL Z (pc + 3) lv (.int (s.2 406) :: st) s F) : dr_G p l e R s0 m args below meth c cells slots A H0 D cI cZ ad ln L nL Z pc lv (.ref (ad 4) :: st) s F := g_get E (k := 6) hid (by decide) rfl wu_4 (by decide) wf_4_36 rfl hdg kk
theorem gg_5_11 (E : dr_E p R s0 m args meth c cells slots A H0 D cI cZ ad L cc nL RX5 ret) (hid : 5 ∈ L) (hdg : decode cc pc = .ok (.getfield 11, 3)) (kk : dr_G p l e R s0 m args below meth c cells slots A H0 D cI cZ ad ln L nL Z (pc + 3) lv (.ref (ad 17) :: st) s F) : dr_G p l e R s0 m args below meth c cells slots A H0 D cI cZ ad ln L nL Z pc lv (.ref (ad 5) :: st) s F := g_get E (k := 0) hid (by decide) rfl wu_5 (by decide) wf_5_11 rfl hdg kk
theorem gg_5_15 (E : dr_E p R s0 m args meth c cells slots A H0 D cI cZ ad L cc nL RX5 ret) (hid : 5 ∈ L) (hdg : decode cc pc = .ok (.getfield 15, 3)) (kk : dr_G p l e R s0 m args below meth c cells slots A H0 D cI cZ ad ln L nL Z (pc + 3) lv (.ref (ad 18) :: st) s F) : dr_G p l e R s0 m args below meth c cells slots A H0 D cI cZ ad ln L nL Z pc lv (.ref (ad 5) :: st) s F := g_get E (k := 1) hid (by decide) rfl wu_5 (by decide) wf_5_15 rfl hdg kk
theorem gg_5_18 (E : dr_E p R s0 m args meth c cells slots A H0 D cI cZ ad L cc nL RX5 ret) (hid : 5 ∈ L) (hdg : decode cc pc = .ok (.getfield 18, 3)) (kk : dr_G p l e R s0 m args below meth c cells slots A H0 D cI cZ ad ln L nL Z (pc + 3) lv (.ref (ad 19) :: st) s F) : dr_G p l e R s0 m args below meth c cells slots A H0 D cI cZ ad ln L nL Z pc lv (.ref (ad 5) :: st) s F := g_get E (k := 2) hid (by decide) rfl wu_5 (by decide) wf_5_18 rfl hdg kk
theorem gg_5_21 (E : dr_E p R s0 m args meth c cells slots A H0 D cI cZ ad L cc nL RX5 ret) (hid : 5 ∈ L) (hdg : decode cc pc = .ok (.getfield 21, 3)) (kk : dr_G p l e R s0 m args below meth c cells slots A H0 D cI cZ ad ln L nL Z (pc + 3) lv (.int (s.2 503) :: st) s F) : dr_G p l e R s0 m args below meth c cells slots A H0 D cI cZ ad ln L nL Z pc lv (.ref (ad 5) :: st) s F := g_get E (k := 3) hid (by decide) rfl wu_5 (by decide) wf_5_21 rfl hdg kk
theorem po_503 (v : Int32) : ∀ j, j < 13 → j ≠ 5 → dr_fs ad s j = dr_fs ad (dr_pf s 503 v) j := fun j h hj => match j, h, hj with | 0, _, _ => rfl | 1, _, _ => rfl | 2, _, _ => rfl | 3, _, _ => rfl | 4, _, _ => rfl | 5, _, hj => absurd rfl hj | 6, _, _ => rfl | 7, _, _ => rfl | 8, _, _ => rfl | 9, _, _ => rfl | 10, _, _ => rfl | 11, _, _ => rfl | 12, _, _ => rfl | n + 13, h, _ => absurd h (by omega)
theorem pe_503 (v : Int32) : ∀ j, j ≠ 5 → dr_e cI cZ ad ln s j = dr_e cI cZ ad ln (dr_pf s 503 v) j := by
  intro j hj
  unfold dr_e
  by_cases h : j < 13
  · rw [if_pos h, if_pos h, po_503 v j h hj]
  · rw [if_neg h, if_neg h]
    rfl
theorem gp_5_21 (E : dr_E p R s0 m args meth c cells slots A H0 D cI cZ ad L cc nL RX5 ret) {v : Int32} (hid : 5 ∈ L) (hdg : decode cc pc = .ok (.putfield 21, 3)) {Kx : dr_S → Option (Int32 × dr_S)} (kk : ∀ s2 : dr_S, dr_G p l e R s0 m args below meth c cells slots A H0 D cI cZ ad ln L nL Z (pc + 3) lv st s2 (Kx s2)) : dr_G p l e R s0 m args below meth c cells slots A H0 D cI cZ ad ln L nL Z pc lv (.int v :: .ref (ad 5) :: st) s (dr_letS (dr_pf s 503 v) Kx) := g_put E (s := s) (v := v) (s1 := dr_pf s 503 v) (k := 3) hid (by decide) rfl wu_5 tyX5 tyX5_ok nmX5 (by decide) wf_5_21 rfl (ty := .int) (by decide +kernel) rfl rfl (Nat.le_of_ble_eq_true rfl) rfl (pe_503 v) hdg kk
theorem gg_5_25 (E : dr_E p R s0 m args meth c cells slots A H0 D cI cZ ad L cc nL RX5 ret) (hid : 5 ∈ L) (hdg : decode cc pc = .ok (.getfield 25, 3)) (kk : dr_G p l e R s0 m args below meth c cells slots A H0 D cI cZ ad ln L nL Z (pc + 3) lv (.int (s.2 504) :: st) s F) : dr_G p l e R s0 m args below meth c cells slots A H0 D cI cZ ad ln L nL Z pc lv (.ref (ad 5) :: st) s F := g_get E (k := 4) hid (by decide) rfl wu_5 (by decide) wf_5_25 rfl hdg kk
theorem po_504 (v : Int32) : ∀ j, j < 13 → j ≠ 5 → dr_fs ad s j = dr_fs ad (dr_pf s 504 v) j := fun j h hj => match j, h, hj with | 0, _, _ => rfl | 1, _, _ => rfl | 2, _, _ => rfl | 3, _, _ => rfl | 4, _, _ => rfl | 5, _, hj => absurd rfl hj | 6, _, _ => rfl | 7, _, _ => rfl | 8, _, _ => rfl | 9, _, _ => rfl | 10, _, _ => rfl | 11, _, _ => rfl | 12, _, _ => rfl | n + 13, h, _ => absurd h (by omega)
theorem pe_504 (v : Int32) : ∀ j, j ≠ 5 → dr_e cI cZ ad ln s j = dr_e cI cZ ad ln (dr_pf s 504 v) j := by
  intro j hj
  unfold dr_e
  by_cases h : j < 13
  · rw [if_pos h, if_pos h, po_504 v j h hj]
  · rw [if_neg h, if_neg h]
    rfl
theorem gp_5_25 (E : dr_E p R s0 m args meth c cells slots A H0 D cI cZ ad L cc nL RX5 ret) {v : Int32} (hid : 5 ∈ L) (hdg : decode cc pc = .ok (.putfield 25, 3)) {Kx : dr_S → Option (Int32 × dr_S)} (kk : ∀ s2 : dr_S, dr_G p l e R s0 m args below meth c cells slots A H0 D cI cZ ad ln L nL Z (pc + 3) lv st s2 (Kx s2)) : dr_G p l e R s0 m args below meth c cells slots A H0 D cI cZ ad ln L nL Z pc lv (.int v :: .ref (ad 5) :: st) s (dr_letS (dr_pf s 504 v) Kx) := g_put E (s := s) (v := v) (s1 := dr_pf s 504 v) (k := 4) hid (by decide) rfl wu_5 tyX5 tyX5_ok nmX5 (by decide) wf_5_25 rfl (ty := .int) (by decide +kernel) rfl rfl (Nat.le_of_ble_eq_true rfl) rfl (pe_504 v) hdg kk
theorem gg_6_11 (E : dr_E p R s0 m args meth c cells slots A H0 D cI cZ ad L cc nL RX6 ret) (hid : 6 ∈ L) (hdg : decode cc pc = .ok (.getfield 11, 3)) (kk : dr_G p l e R s0 m args below meth c cells slots A H0 D cI cZ ad ln L nL Z (pc + 3) lv (.ref (ad 2) :: st) s F) : dr_G p l e R s0 m args below meth c cells slots A H0 D cI cZ ad ln L nL Z pc lv (.ref (ad 6) :: st) s F := g_get E (k := 0) hid (by decide) rfl wu_6 (by decide) wf_6_11 rfl hdg kk
theorem gg_6_15 (E : dr_E p R s0 m args meth c cells slots A H0 D cI cZ ad L cc nL RX6 ret) (hid : 6 ∈ L) (hdg : decode cc pc = .ok (.getfield 15, 3)) (kk : dr_G p l e R s0 m args below meth c cells slots A H0 D cI cZ ad ln L nL Z (pc + 3) lv (.int (s.2 601) :: st) s F) : dr_G p l e R s0 m args below meth c cells slots A H0 D cI cZ ad ln L nL Z pc lv (.ref (ad 6) :: st) s F := g_get E (k := 1) hid (by decide) rfl wu_6 (by decide) wf_6_15 rfl hdg kk
theorem gg_6_19 (E : dr_E p R s0 m args meth c cells slots A H0 D cI cZ ad L cc nL RX6 ret) (hid : 6 ∈ L) (hdg : decode cc pc = .ok (.getfield 19, 3)) (kk : dr_G p l e R s0 m args below meth c cells slots A H0 D cI cZ ad ln L nL Z (pc + 3) lv (.int (s.2 602) :: st) s F) : dr_G p l e R s0 m args below meth c cells slots A H0 D cI cZ ad ln L nL Z pc lv (.ref (ad 6) :: st) s F := g_get E (k := 2) hid (by decide) rfl wu_6 (by decide) wf_6_19 rfl hdg kk
theorem gg_6_22 (E : dr_E p R s0 m args meth c cells slots A H0 D cI cZ ad L cc nL RX6 ret) (hid : 6 ∈ L) (hdg : decode cc pc = .ok (.getfield 22, 3)) (kk : dr_G p l e R s0 m args below meth c cells slots A H0 D cI cZ ad ln L nL Z (pc + 3) lv (.int (s.2 603) :: st) s F) : dr_G p l e R s0 m args below meth c cells slots A H0 D cI cZ ad ln L nL Z pc lv (.ref (ad 6) :: st) s F := g_get E (k := 3) hid (by decide) rfl wu_6 (by decide) wf_6_22 rfl hdg kk
theorem gg_7_11 (E : dr_E p R s0 m args meth c cells slots A H0 D cI cZ ad L cc nL RX7 ret) (hid : 7 ∈ L) (hdg : decode cc pc = .ok (.getfield 11, 3)) (kk : dr_G p l e R s0 m args below meth c cells slots A H0 D cI cZ ad ln L nL Z (pc + 3) lv (.ref (ad 20) :: st) s F) : dr_G p l e R s0 m args below meth c cells slots A H0 D cI cZ ad ln L nL Z pc lv (.ref (ad 7) :: st) s F := g_get E (k := 1) hid (by decide) rfl wu_7 (by decide) wf_7_11 rfl hdg kk
theorem gg_7_15 (E : dr_E p R s0 m args meth c cells slots A H0 D cI cZ ad L cc nL RX7 ret) (hid : 7 ∈ L) (hdg : decode cc pc = .ok (.getfield 15, 3)) (kk : dr_G p l e R s0 m args below meth c cells slots A H0 D cI cZ ad ln L nL Z (pc + 3) lv (.ref (ad 21) :: st) s F) : dr_G p l e R s0 m args below meth c cells slots A H0 D cI cZ ad ln L nL Z pc lv (.ref (ad 7) :: st) s F := g_get E (k := 2) hid (by decide) rfl wu_7 (by decide) wf_7_15 rfl hdg kk
theorem gg_7_18 (E : dr_E p R s0 m args meth c cells slots A H0 D cI cZ ad L cc nL RX7 ret) (hid : 7 ∈ L) (hdg : decode cc pc = .ok (.getfield 18, 3)) (kk : dr_G p l e R s0 m args below meth c cells slots A H0 D cI cZ ad ln L nL Z (pc + 3) lv (.ref (ad 22) :: st) s F) : dr_G p l e R s0 m args below meth c cells slots A H0 D cI cZ ad ln L nL Z pc lv (.ref (ad 7) :: st) s F := g_get E (k := 3) hid (by decide) rfl wu_7 (by decide) wf_7_18 rfl hdg kk
theorem gg_7_21 (E : dr_E p R s0 m args meth c cells slots A H0 D cI cZ ad L cc nL RX7 ret) (hid : 7 ∈ L) (hdg : decode cc pc = .ok (.getfield 21, 3)) (kk : dr_G p l e R s0 m args below meth c cells slots A H0 D cI cZ ad ln L nL Z (pc + 3) lv (.ref (ad 23) :: st) s F) : dr_G p l e R s0 m args below meth c cells slots A H0 D cI cZ ad ln L nL Z pc lv (.ref (ad 7) :: st) s F := g_get E (k := 4) hid (by decide) rfl wu_7 (by decide) wf_7_21 rfl hdg kk
theorem gg_7_24 (E : dr_E p R s0 m args meth c cells slots A H0 D cI cZ ad L cc nL RX7 ret) (hid : 7 ∈ L) (hdg : decode cc pc = .ok (.getfield 24, 3)) (kk : dr_G p l e R s0 m args below meth c cells slots A H0 D cI cZ ad ln L nL Z (pc + 3) lv (.ref (ad 24) :: st) s F) : dr_G p l e R s0 m args below meth c cells slots A H0 D cI cZ ad ln L nL Z pc lv (.ref (ad 7) :: st) s F := g_get E (k := 5) hid (by decide) rfl wu_7 (by decide) wf_7_24 rfl hdg kk
theorem gg_7_27 (E : dr_E p R s0 m args meth c cells slots A H0 D cI cZ ad L cc nL RX7 ret) (hid : 7 ∈ L) (hdg : decode cc pc = .ok (.getfield 27, 3)) (kk : dr_G p l e R s0 m args below meth c cells slots A H0 D cI cZ ad ln L nL Z (pc + 3) lv (.ref (ad 25) :: st) s F) : dr_G p l e R s0 m args below meth c cells slots A H0 D cI cZ ad ln L nL Z pc lv (.ref (ad 7) :: st) s F := g_get E (k := 6) hid (by decide) rfl wu_7 (by decide) wf_7_27 rfl hdg kk
theorem gg_7_30 (E : dr_E p R s0 m args meth c cells slots A H0 D cI cZ ad L cc nL RX7 ret) (hid : 7 ∈ L) (hdg : decode cc pc = .ok (.getfield 30, 3)) (kk : dr_G p l e R s0 m args below meth c cells slots A H0 D cI cZ ad ln L nL Z (pc + 3) lv (.ref (ad 26) :: st) s F) : dr_G p l e R s0 m args below meth c cells slots A H0 D cI cZ ad ln L nL Z pc lv (.ref (ad 7) :: st) s F := g_get E (k := 7) hid (by decide) rfl wu_7 (by decide) wf_7_30 rfl hdg kk
theorem gg_7_33 (E : dr_E p R s0 m args meth c cells slots A H0 D cI cZ ad L cc nL RX7 ret) (hid : 7 ∈ L) (hdg : decode cc pc = .ok (.getfield 33, 3)) (kk : dr_G p l e R s0 m args below meth c cells slots A H0 D cI cZ ad ln L nL Z (pc + 3) lv (.int (s.2 708) :: st) s F) : dr_G p l e R s0 m args below meth c cells slots A H0 D cI cZ ad ln L nL Z pc lv (.ref (ad 7) :: st) s F := g_get E (k := 8) hid (by decide) rfl wu_7 (by decide) wf_7_33 rfl hdg kk
theorem po_708 (v : Int32) : ∀ j, j < 13 → j ≠ 7 → dr_fs ad s j = dr_fs ad (dr_pf s 708 v) j := fun j h hj => match j, h, hj with | 0, _, _ => rfl | 1, _, _ => rfl | 2, _, _ => rfl | 3, _, _ => rfl | 4, _, _ => rfl | 5, _, _ => rfl | 6, _, _ => rfl | 7, _, hj => absurd rfl hj | 8, _, _ => rfl | 9, _, _ => rfl | 10, _, _ => rfl | 11, _, _ => rfl | 12, _, _ => rfl | n + 13, h, _ => absurd h (by omega)
theorem pe_708 (v : Int32) : ∀ j, j ≠ 7 → dr_e cI cZ ad ln s j = dr_e cI cZ ad ln (dr_pf s 708 v) j := by
  intro j hj
  unfold dr_e
  by_cases h : j < 13
  · rw [if_pos h, if_pos h, po_708 v j h hj]
  · rw [if_neg h, if_neg h]
    rfl
theorem gp_7_33 (E : dr_E p R s0 m args meth c cells slots A H0 D cI cZ ad L cc nL RX7 ret) {v : Int32} (hid : 7 ∈ L) (hdg : decode cc pc = .ok (.putfield 33, 3)) {Kx : dr_S → Option (Int32 × dr_S)} (kk : ∀ s2 : dr_S, dr_G p l e R s0 m args below meth c cells slots A H0 D cI cZ ad ln L nL Z (pc + 3) lv st s2 (Kx s2)) : dr_G p l e R s0 m args below meth c cells slots A H0 D cI cZ ad ln L nL Z pc lv (.int v :: .ref (ad 7) :: st) s (dr_letS (dr_pf s 708 v) Kx) := g_put E (s := s) (v := v) (s1 := dr_pf s 708 v) (k := 8) hid (by decide) rfl wu_7 tyX7 tyX7_ok nmX7 (by decide) wf_7_33 rfl (ty := .int) (by decide +kernel) rfl rfl (Nat.le_of_ble_eq_true rfl) rfl (pe_708 v) hdg kk
theorem gg_7_37 (E : dr_E p R s0 m args meth c cells slots A H0 D cI cZ ad L cc nL RX7 ret) (hid : 7 ∈ L) (hdg : decode cc pc = .ok (.getfield 37, 3)) (kk : dr_G p l e R s0 m args below meth c cells slots A H0 D cI cZ ad ln L nL Z (pc + 3) lv (.ref (ad 6) :: st) s F) : dr_G p l e R s0 m args below meth c cells slots A H0 D cI cZ ad ln L nL Z pc lv (.ref (ad 7) :: st) s F := g_get E (k := 0) hid (by decide) rfl wu_7 (by decide) wf_7_37 rfl hdg kk
theorem gg_8_9 (E : dr_E p R s0 m args meth c cells slots A H0 D cI cZ ad L cc nL RX8 ret) (hid : 8 ∈ L) (hdg : decode cc pc = .ok (.getfield 9, 3)) (kk : dr_G p l e R s0 m args below meth c cells slots A H0 D cI cZ ad ln L nL Z (pc + 3) lv (.ref (ad 27) :: st) s F) : dr_G p l e R s0 m args below meth c cells slots A H0 D cI cZ ad ln L nL Z pc lv (.ref (ad 8) :: st) s F := g_get E (k := 6) hid (by decide) rfl wu_8 (by decide) wf_8_9 rfl hdg kk
theorem gg_8_15 (E : dr_E p R s0 m args meth c cells slots A H0 D cI cZ ad L cc nL RX8 ret) (hid : 8 ∈ L) (hdg : decode cc pc = .ok (.getfield 15, 3)) (kk : dr_G p l e R s0 m args below meth c cells slots A H0 D cI cZ ad ln L nL Z (pc + 3) lv (.int (s.2 807) :: st) s F) : dr_G p l e R s0 m args below meth c cells slots A H0 D cI cZ ad ln L nL Z pc lv (.ref (ad 8) :: st) s F := g_get E (k := 7) hid (by decide) rfl wu_8 (by decide) wf_8_15 rfl hdg kk
theorem po_807 (v : Int32) : ∀ j, j < 13 → j ≠ 8 → dr_fs ad s j = dr_fs ad (dr_pf s 807 v) j := fun j h hj => match j, h, hj with | 0, _, _ => rfl | 1, _, _ => rfl | 2, _, _ => rfl | 3, _, _ => rfl | 4, _, _ => rfl | 5, _, _ => rfl | 6, _, _ => rfl | 7, _, _ => rfl | 8, _, hj => absurd rfl hj | 9, _, _ => rfl | 10, _, _ => rfl | 11, _, _ => rfl | 12, _, _ => rfl | n + 13, h, _ => absurd h (by omega)
theorem pe_807 (v : Int32) : ∀ j, j ≠ 8 → dr_e cI cZ ad ln s j = dr_e cI cZ ad ln (dr_pf s 807 v) j := by
  intro j hj
  unfold dr_e
  by_cases h : j < 13
  · rw [if_pos h, if_pos h, po_807 v j h hj]
  · rw [if_neg h, if_neg h]
    rfl
theorem gp_8_15 (E : dr_E p R s0 m args meth c cells slots A H0 D cI cZ ad L cc nL RX8 ret) {v : Int32} (hid : 8 ∈ L) (hdg : decode cc pc = .ok (.putfield 15, 3)) {Kx : dr_S → Option (Int32 × dr_S)} (kk : ∀ s2 : dr_S, dr_G p l e R s0 m args below meth c cells slots A H0 D cI cZ ad ln L nL Z (pc + 3) lv st s2 (Kx s2)) : dr_G p l e R s0 m args below meth c cells slots A H0 D cI cZ ad ln L nL Z pc lv (.int v :: .ref (ad 8) :: st) s (dr_letS (dr_pf s 807 v) Kx) := g_put E (s := s) (v := v) (s1 := dr_pf s 807 v) (k := 7) hid (by decide) rfl wu_8 tyX8 tyX8_ok nmX8 (by decide) wf_8_15 rfl (ty := .int) (by decide +kernel) rfl rfl (Nat.le_of_ble_eq_true rfl) rfl (pe_807 v) hdg kk
theorem gg_8_19 (E : dr_E p R s0 m args meth c cells slots A H0 D cI cZ ad L cc nL RX8 ret) (hid : 8 ∈ L) (hdg : decode cc pc = .ok (.getfield 19, 3)) (kk : dr_G p l e R s0 m args below meth c cells slots A H0 D cI cZ ad ln L nL Z (pc + 3) lv (.int (s.2 808) :: st) s F) : dr_G p l e R s0 m args below meth c cells slots A H0 D cI cZ ad ln L nL Z pc lv (.ref (ad 8) :: st) s F := g_get E (k := 8) hid (by decide) rfl wu_8 (by decide) wf_8_19 rfl hdg kk
theorem po_808 (v : Int32) : ∀ j, j < 13 → j ≠ 8 → dr_fs ad s j = dr_fs ad (dr_pf s 808 v) j := fun j h hj => match j, h, hj with | 0, _, _ => rfl | 1, _, _ => rfl | 2, _, _ => rfl | 3, _, _ => rfl | 4, _, _ => rfl | 5, _, _ => rfl | 6, _, _ => rfl | 7, _, _ => rfl | 8, _, hj => absurd rfl hj | 9, _, _ => rfl | 10, _, _ => rfl | 11, _, _ => rfl | 12, _, _ => rfl | n + 13, h, _ => absurd h (by omega)
theorem pe_808 (v : Int32) : ∀ j, j ≠ 8 → dr_e cI cZ ad ln s j = dr_e cI cZ ad ln (dr_pf s 808 v) j := by
  intro j hj
  unfold dr_e
  by_cases h : j < 13
  · rw [if_pos h, if_pos h, po_808 v j h hj]
  · rw [if_neg h, if_neg h]
    rfl
theorem gp_8_19 (E : dr_E p R s0 m args meth c cells slots A H0 D cI cZ ad L cc nL RX8 ret) {v : Int32} (hid : 8 ∈ L) (hdg : decode cc pc = .ok (.putfield 19, 3)) {Kx : dr_S → Option (Int32 × dr_S)} (kk : ∀ s2 : dr_S, dr_G p l e R s0 m args below meth c cells slots A H0 D cI cZ ad ln L nL Z (pc + 3) lv st s2 (Kx s2)) : dr_G p l e R s0 m args below meth c cells slots A H0 D cI cZ ad ln L nL Z pc lv (.int v :: .ref (ad 8) :: st) s (dr_letS (dr_pf s 808 v) Kx) := g_put E (s := s) (v := v) (s1 := dr_pf s 808 v) (k := 8) hid (by decide) rfl wu_8 tyX8 tyX8_ok nmX8 (by decide) wf_8_19 rfl (ty := .int) (by decide +kernel) rfl rfl (Nat.le_of_ble_eq_true rfl) rfl (pe_808 v) hdg kk
theorem gg_8_22 (E : dr_E p R s0 m args meth c cells slots A H0 D cI cZ ad L cc nL RX8 ret) (hid : 8 ∈ L) (hdg : decode cc pc = .ok (.getfield 22, 3)) (kk : dr_G p l e R s0 m args below meth c cells slots A H0 D cI cZ ad ln L nL Z (pc + 3) lv (.ref (ad 2) :: st) s F) : dr_G p l e R s0 m args below meth c cells slots A H0 D cI cZ ad ln L nL Z pc lv (.ref (ad 8) :: st) s F := g_get E (k := 0) hid (by decide) rfl wu_8 (by decide) wf_8_22 rfl hdg kk
theorem gg_8_26 (E : dr_E p R s0 m args meth c cells slots A H0 D cI cZ ad L cc nL RX8 ret) (hid : 8 ∈ L) (hdg : decode cc pc = .ok (.getfield 26, 3)) (kk : dr_G p l e R s0 m args below meth c cells slots A H0 D cI cZ ad ln L nL Z (pc + 3) lv (.ref (ad 3) :: st) s F) : dr_G p l e R s0 m args below meth c cells slots A H0 D cI cZ ad ln L nL Z pc lv (.ref (ad 8) :: st) s F := g_get E (k := 1) hid (by decide) rfl wu_8 (by decide) wf_8_26 rfl hdg kk
theorem gg_8_30 (E : dr_E p R s0 m args meth c cells slots A H0 D cI cZ ad L cc nL RX8 ret) (hid : 8 ∈ L) (hdg : decode cc pc = .ok (.getfield 30, 3)) (kk : dr_G p l e R s0 m args below meth c cells slots A H0 D cI cZ ad ln L nL Z (pc + 3) lv (.ref (ad 6) :: st) s F) : dr_G p l e R s0 m args below meth c cells slots A H0 D cI cZ ad ln L nL Z pc lv (.ref (ad 8) :: st) s F := g_get E (k := 2) hid (by decide) rfl wu_8 (by decide) wf_8_30 rfl hdg kk
theorem gg_8_34 (E : dr_E p R s0 m args meth c cells slots A H0 D cI cZ ad L cc nL RX8 ret) (hid : 8 ∈ L) (hdg : decode cc pc = .ok (.getfield 34, 3)) (kk : dr_G p l e R s0 m args below meth c cells slots A H0 D cI cZ ad ln L nL Z (pc + 3) lv (.ref (ad 10) :: st) s F) : dr_G p l e R s0 m args below meth c cells slots A H0 D cI cZ ad ln L nL Z pc lv (.ref (ad 8) :: st) s F := g_get E (k := 3) hid (by decide) rfl wu_8 (by decide) wf_8_34 rfl hdg kk
theorem gg_8_38 (E : dr_E p R s0 m args meth c cells slots A H0 D cI cZ ad L cc nL RX8 ret) (hid : 8 ∈ L) (hdg : decode cc pc = .ok (.getfield 38, 3)) (kk : dr_G p l e R s0 m args below meth c cells slots A H0 D cI cZ ad ln L nL Z (pc + 3) lv (.ref (ad 7) :: st) s F) : dr_G p l e R s0 m args below meth c cells slots A H0 D cI cZ ad ln L nL Z pc lv (.ref (ad 8) :: st) s F := g_get E (k := 4) hid (by decide) rfl wu_8 (by decide) wf_8_38 rfl hdg kk
theorem gg_8_42 (E : dr_E p R s0 m args meth c cells slots A H0 D cI cZ ad L cc nL RX8 ret) (hid : 8 ∈ L) (hdg : decode cc pc = .ok (.getfield 42, 3)) (kk : dr_G p l e R s0 m args below meth c cells slots A H0 D cI cZ ad ln L nL Z (pc + 3) lv (.ref (ad 9) :: st) s F) : dr_G p l e R s0 m args below meth c cells slots A H0 D cI cZ ad ln L nL Z pc lv (.ref (ad 8) :: st) s F := g_get E (k := 5) hid (by decide) rfl wu_8 (by decide) wf_8_42 rfl hdg kk
theorem gg_9_9 (E : dr_E p R s0 m args meth c cells slots A H0 D cI cZ ad L cc nL RX9 ret) (hid : 9 ∈ L) (hdg : decode cc pc = .ok (.getfield 9, 3)) (kk : dr_G p l e R s0 m args below meth c cells slots A H0 D cI cZ ad ln L nL Z (pc + 3) lv (.ref (ad 4) :: st) s F) : dr_G p l e R s0 m args below meth c cells slots A H0 D cI cZ ad ln L nL Z pc lv (.ref (ad 9) :: st) s F := g_get E (k := 0) hid (by decide) rfl wu_9 (by decide) wf_9_9 rfl hdg kk
theorem gg_9_15 (E : dr_E p R s0 m args meth c cells slots A H0 D cI cZ ad L cc nL RX9 ret) (hid : 9 ∈ L) (hdg : decode cc pc = .ok (.getfield 15, 3)) (kk : dr_G p l e R s0 m args below meth c cells slots A H0 D cI cZ ad ln L nL Z (pc + 3) lv (.ref (ad 5) :: st) s F) : dr_G p l e R s0 m args below meth c cells slots A H0 D cI cZ ad ln L nL Z pc lv (.ref (ad 9) :: st) s F := g_get E (k := 1) hid (by decide) rfl wu_9 (by decide) wf_9_15 rfl hdg kk
theorem gg_10_9 (E : dr_E p R s0 m args meth c cells slots A H0 D cI cZ ad L cc nL RX10 ret) (hid : 10 ∈ L) (hdg : decode cc pc = .ok (.getfield 9, 3)) (kk : dr_G p l e R s0 m args below meth c cells slots A H0 D cI cZ ad ln L nL Z (pc + 3) lv (.ref (ad 4) :: st) s F) : dr_G p l e R s0 m args below meth c cells slots A H0 D cI cZ ad ln L nL Z pc lv (.ref (ad 10) :: st) s F := g_get E (k := 0) hid (by decide) rfl wu_10 (by decide) wf_10_9 rfl hdg kk
theorem gg_10_15 (E : dr_E p R s0 m args meth c cells slots A H0 D cI cZ ad L cc nL RX10 ret) (hid : 10 ∈ L) (hdg : decode cc pc = .ok (.getfield 15, 3)) (kk : dr_G p l e R s0 m args below meth c cells slots A H0 D cI cZ ad ln L nL Z (pc + 3) lv (.ref (ad 3) :: st) s F) : dr_G p l e R s0 m args below meth c cells slots A H0 D cI cZ ad ln L nL Z pc lv (.ref (ad 10) :: st) s F := g_get E (k := 1) hid (by decide) rfl wu_10 (by decide) wf_10_15 rfl hdg kk
theorem gg_10_19 (E : dr_E p R s0 m args meth c cells slots A H0 D cI cZ ad L cc nL RX10 ret) (hid : 10 ∈ L) (hdg : decode cc pc = .ok (.getfield 19, 3)) (kk : dr_G p l e R s0 m args below meth c cells slots A H0 D cI cZ ad ln L nL Z (pc + 3) lv (.ref (ad 6) :: st) s F) : dr_G p l e R s0 m args below meth c cells slots A H0 D cI cZ ad ln L nL Z pc lv (.ref (ad 10) :: st) s F := g_get E (k := 2) hid (by decide) rfl wu_10 (by decide) wf_10_19 rfl hdg kk
theorem gg_11_34 (E : dr_E p R s0 m args meth c cells slots A H0 D cI cZ ad L cc nL RX11 ret) (hid : 11 ∈ L) (hdg : decode cc pc = .ok (.getfield 34, 3)) (kk : dr_G p l e R s0 m args below meth c cells slots A H0 D cI cZ ad ln L nL Z (pc + 3) lv (.ref (ad 5) :: st) s F) : dr_G p l e R s0 m args below meth c cells slots A H0 D cI cZ ad ln L nL Z pc lv (.ref (ad 11) :: st) s F := g_get E (k := 0) hid (by decide) rfl wu_11 (by decide) wf_11_34 rfl hdg kk
theorem gg_11_43 (E : dr_E p R s0 m args meth c cells slots A H0 D cI cZ ad L cc nL RX11 ret) (hid : 11 ∈ L) (hdg : decode cc pc = .ok (.getfield 43, 3)) (kk : dr_G p l e R s0 m args below meth c cells slots A H0 D cI cZ ad ln L nL Z (pc + 3) lv (.ref (ad 4) :: st) s F) : dr_G p l e R s0 m args below meth c cells slots A H0 D cI cZ ad ln L nL Z pc lv (.ref (ad 11) :: st) s F := g_get E (k := 1) hid (by decide) rfl wu_11 (by decide) wf_11_43 rfl hdg kk
theorem gg_11_50 (E : dr_E p R s0 m args meth c cells slots A H0 D cI cZ ad L cc nL RX11 ret) (hid : 11 ∈ L) (hdg : decode cc pc = .ok (.getfield 50, 3)) (kk : dr_G p l e R s0 m args below meth c cells slots A H0 D cI cZ ad ln L nL Z (pc + 3) lv (.ref (ad 3) :: st) s F) : dr_G p l e R s0 m args below meth c cells slots A H0 D cI cZ ad ln L nL Z pc lv (.ref (ad 11) :: st) s F := g_get E (k := 2) hid (by decide) rfl wu_11 (by decide) wf_11_50 rfl hdg kk
theorem gg_11_55 (E : dr_E p R s0 m args meth c cells slots A H0 D cI cZ ad L cc nL RX11 ret) (hid : 11 ∈ L) (hdg : decode cc pc = .ok (.getfield 55, 3)) (kk : dr_G p l e R s0 m args below meth c cells slots A H0 D cI cZ ad ln L nL Z (pc + 3) lv (.ref (ad 6) :: st) s F) : dr_G p l e R s0 m args below meth c cells slots A H0 D cI cZ ad ln L nL Z pc lv (.ref (ad 11) :: st) s F := g_get E (k := 3) hid (by decide) rfl wu_11 (by decide) wf_11_55 rfl hdg kk
theorem gg_11_64 (E : dr_E p R s0 m args meth c cells slots A H0 D cI cZ ad L cc nL RX11 ret) (hid : 11 ∈ L) (hdg : decode cc pc = .ok (.getfield 64, 3)) (kk : dr_G p l e R s0 m args below meth c cells slots A H0 D cI cZ ad ln L nL Z (pc + 3) lv (.ref (ad 10) :: st) s F) : dr_G p l e R s0 m args below meth c cells slots A H0 D cI cZ ad ln L nL Z pc lv (.ref (ad 11) :: st) s F := g_get E (k := 4) hid (by decide) rfl wu_11 (by decide) wf_11_64 rfl hdg kk
theorem gg_11_73 (E : dr_E p R s0 m args meth c cells slots A H0 D cI cZ ad L cc nL RX11 ret) (hid : 11 ∈ L) (hdg : decode cc pc = .ok (.getfield 73, 3)) (kk : dr_G p l e R s0 m args below meth c cells slots A H0 D cI cZ ad ln L nL Z (pc + 3) lv (.ref (ad 1) :: st) s F) : dr_G p l e R s0 m args below meth c cells slots A H0 D cI cZ ad ln L nL Z pc lv (.ref (ad 11) :: st) s F := g_get E (k := 5) hid (by decide) rfl wu_11 (by decide) wf_11_73 rfl hdg kk
theorem gg_11_82 (E : dr_E p R s0 m args meth c cells slots A H0 D cI cZ ad L cc nL RX11 ret) (hid : 11 ∈ L) (hdg : decode cc pc = .ok (.getfield 82, 3)) (kk : dr_G p l e R s0 m args below meth c cells slots A H0 D cI cZ ad ln L nL Z (pc + 3) lv (.ref (ad 7) :: st) s F) : dr_G p l e R s0 m args below meth c cells slots A H0 D cI cZ ad ln L nL Z pc lv (.ref (ad 11) :: st) s F := g_get E (k := 6) hid (by decide) rfl wu_11 (by decide) wf_11_82 rfl hdg kk
theorem gg_11_89 (E : dr_E p R s0 m args meth c cells slots A H0 D cI cZ ad L cc nL RX11 ret) (hid : 11 ∈ L) (hdg : decode cc pc = .ok (.getfield 89, 3)) (kk : dr_G p l e R s0 m args below meth c cells slots A H0 D cI cZ ad ln L nL Z (pc + 3) lv (.ref (ad 9) :: st) s F) : dr_G p l e R s0 m args below meth c cells slots A H0 D cI cZ ad ln L nL Z pc lv (.ref (ad 11) :: st) s F := g_get E (k := 7) hid (by decide) rfl wu_11 (by decide) wf_11_89 rfl hdg kk
theorem gg_11_98 (E : dr_E p R s0 m args meth c cells slots A H0 D cI cZ ad L cc nL RX11 ret) (hid : 11 ∈ L) (hdg : decode cc pc = .ok (.getfield 98, 3)) (kk : dr_G p l e R s0 m args below meth c cells slots A H0 D cI cZ ad ln L nL Z (pc + 3) lv (.ref (ad 8) :: st) s F) : dr_G p l e R s0 m args below meth c cells slots A H0 D cI cZ ad ln L nL Z pc lv (.ref (ad 11) :: st) s F := g_get E (k := 8) hid (by decide) rfl wu_11 (by decide) wf_11_98 rfl hdg kk
theorem gg_11_107 (E : dr_E p R s0 m args meth c cells slots A H0 D cI cZ ad L cc nL RX11 ret) (hid : 11 ∈ L) (hdg : decode cc pc = .ok (.getfield 107, 3)) (kk : dr_G p l e R s0 m args below meth c cells slots A H0 D cI cZ ad ln L nL Z (pc + 3) lv (.ref (ad 0) :: st) s F) : dr_G p l e R s0 m args below meth c cells slots A H0 D cI cZ ad ln L nL Z pc lv (.ref (ad 11) :: st) s F := g_get E (k := 9) hid (by decide) rfl wu_11 (by decide) wf_11_107 rfl hdg kk
theorem gg_12_7 (E : dr_E p R s0 m args meth c cells slots A H0 D cI cZ ad L cc nL RX12 ret) (hid : 12 ∈ L) (hdg : decode cc pc = .ok (.getfield 7, 3)) (kk : dr_G p l e R s0 m args below meth c cells slots A H0 D cI cZ ad ln L nL Z (pc + 3) lv (.ref (ad 28) :: st) s F) : dr_G p l e R s0 m args below meth c cells slots A H0 D cI cZ ad ln L nL Z pc lv (.ref (ad 12) :: st) s F := g_get E (k := 2) hid (by decide) rfl wu_12 (by decide) wf_12_7 rfl hdg kk
theorem gg_12_13 (E : dr_E p R s0 m args meth c cells slots A H0 D cI cZ ad L cc nL RX12 ret) (hid : 12 ∈ L) (hdg : decode cc pc = .ok (.getfield 13, 3)) (kk : dr_G p l e R s0 m args below meth c cells slots A H0 D cI cZ ad ln L nL Z (pc + 3) lv (.ref (ad 29) :: st) s F) : dr_G p l e R s0 m args below meth c cells slots A H0 D cI cZ ad ln L nL Z pc lv (.ref (ad 12) :: st) s F := g_get E (k := 3) hid (by decide) rfl wu_12 (by decide) wf_12_13 rfl hdg kk
theorem gg_12_17 (E : dr_E p R s0 m args meth c cells slots A H0 D cI cZ ad L cc nL RX12 ret) (hid : 12 ∈ L) (hdg : decode cc pc = .ok (.getfield 17, 3)) (kk : dr_G p l e R s0 m args below meth c cells slots A H0 D cI cZ ad ln L nL Z (pc + 3) lv (.ref (ad 30) :: st) s F) : dr_G p l e R s0 m args below meth c cells slots A H0 D cI cZ ad ln L nL Z pc lv (.ref (ad 12) :: st) s F := g_get E (k := 6) hid (by decide) rfl wu_12 (by decide) wf_12_17 rfl hdg kk
theorem gg_12_20 (E : dr_E p R s0 m args meth c cells slots A H0 D cI cZ ad L cc nL RX12 ret) (hid : 12 ∈ L) (hdg : decode cc pc = .ok (.getfield 20, 3)) (kk : dr_G p l e R s0 m args below meth c cells slots A H0 D cI cZ ad ln L nL Z (pc + 3) lv (.ref (ad 31) :: st) s F) : dr_G p l e R s0 m args below meth c cells slots A H0 D cI cZ ad ln L nL Z pc lv (.ref (ad 12) :: st) s F := g_get E (k := 7) hid (by decide) rfl wu_12 (by decide) wf_12_20 rfl hdg kk
theorem gg_12_23 (E : dr_E p R s0 m args meth c cells slots A H0 D cI cZ ad L cc nL RX12 ret) (hid : 12 ∈ L) (hdg : decode cc pc = .ok (.getfield 23, 3)) (kk : dr_G p l e R s0 m args below meth c cells slots A H0 D cI cZ ad ln L nL Z (pc + 3) lv (.ref (ad 32) :: st) s F) : dr_G p l e R s0 m args below meth c cells slots A H0 D cI cZ ad ln L nL Z pc lv (.ref (ad 12) :: st) s F := g_get E (k := 8) hid (by decide) rfl wu_12 (by decide) wf_12_23 rfl hdg kk
theorem gg_12_26 (E : dr_E p R s0 m args meth c cells slots A H0 D cI cZ ad L cc nL RX12 ret) (hid : 12 ∈ L) (hdg : decode cc pc = .ok (.getfield 26, 3)) (kk : dr_G p l e R s0 m args below meth c cells slots A H0 D cI cZ ad ln L nL Z (pc + 3) lv (.ref (ad 33) :: st) s F) : dr_G p l e R s0 m args below meth c cells slots A H0 D cI cZ ad ln L nL Z pc lv (.ref (ad 12) :: st) s F := g_get E (k := 9) hid (by decide) rfl wu_12 (by decide) wf_12_26 rfl hdg kk
theorem gg_12_29 (E : dr_E p R s0 m args meth c cells slots A H0 D cI cZ ad L cc nL RX12 ret) (hid : 12 ∈ L) (hdg : decode cc pc = .ok (.getfield 29, 3)) (kk : dr_G p l e R s0 m args below meth c cells slots A H0 D cI cZ ad ln L nL Z (pc + 3) lv (.ref (ad 34) :: st) s F) : dr_G p l e R s0 m args below meth c cells slots A H0 D cI cZ ad ln L nL Z pc lv (.ref (ad 12) :: st) s F := g_get E (k := 10) hid (by decide) rfl wu_12 (by decide) wf_12_29 rfl hdg kk
theorem gg_12_32 (E : dr_E p R s0 m args meth c cells slots A H0 D cI cZ ad L cc nL RX12 ret) (hid : 12 ∈ L) (hdg : decode cc pc = .ok (.getfield 32, 3)) (kk : dr_G p l e R s0 m args below meth c cells slots A H0 D cI cZ ad ln L nL Z (pc + 3) lv (.ref (ad 35) :: st) s F) : dr_G p l e R s0 m args below meth c cells slots A H0 D cI cZ ad ln L nL Z pc lv (.ref (ad 12) :: st) s F := g_get E (k := 11) hid (by decide) rfl wu_12 (by decide) wf_12_32 rfl hdg kk
theorem gg_12_35 (E : dr_E p R s0 m args meth c cells slots A H0 D cI cZ ad L cc nL RX12 ret) (hid : 12 ∈ L) (hdg : decode cc pc = .ok (.getfield 35, 3)) (kk : dr_G p l e R s0 m args below meth c cells slots A H0 D cI cZ ad ln L nL Z (pc + 3) lv (.ref (ad 36) :: st) s F) : dr_G p l e R s0 m args below meth c cells slots A H0 D cI cZ ad ln L nL Z pc lv (.ref (ad 12) :: st) s F := g_get E (k := 12) hid (by decide) rfl wu_12 (by decide) wf_12_35 rfl hdg kk
theorem gg_12_38 (E : dr_E p R s0 m args meth c cells slots A H0 D cI cZ ad L cc nL RX12 ret) (hid : 12 ∈ L) (hdg : decode cc pc = .ok (.getfield 38, 3)) (kk : dr_G p l e R s0 m args below meth c cells slots A H0 D cI cZ ad ln L nL Z (pc + 3) lv (.ref (ad 37) :: st) s F) : dr_G p l e R s0 m args below meth c cells slots A H0 D cI cZ ad ln L nL Z pc lv (.ref (ad 12) :: st) s F := g_get E (k := 13) hid (by decide) rfl wu_12 (by decide) wf_12_38 rfl hdg kk
theorem gg_12_41 (E : dr_E p R s0 m args meth c cells slots A H0 D cI cZ ad L cc nL RX12 ret) (hid : 12 ∈ L) (hdg : decode cc pc = .ok (.getfield 41, 3)) (kk : dr_G p l e R s0 m args below meth c cells slots A H0 D cI cZ ad ln L nL Z (pc + 3) lv (.ref (ad 38) :: st) s F) : dr_G p l e R s0 m args below meth c cells slots A H0 D cI cZ ad ln L nL Z pc lv (.ref (ad 12) :: st) s F := g_get E (k := 14) hid (by decide) rfl wu_12 (by decide) wf_12_41 rfl hdg kk
theorem gg_12_44 (E : dr_E p R s0 m args meth c cells slots A H0 D cI cZ ad L cc nL RX12 ret) (hid : 12 ∈ L) (hdg : decode cc pc = .ok (.getfield 44, 3)) (kk : dr_G p l e R s0 m args below meth c cells slots A H0 D cI cZ ad ln L nL Z (pc + 3) lv (.ref (ad 39) :: st) s F) : dr_G p l e R s0 m args below meth c cells slots A H0 D cI cZ ad ln L nL Z pc lv (.ref (ad 12) :: st) s F := g_get E (k := 15) hid (by decide) rfl wu_12 (by decide) wf_12_44 rfl hdg kk
theorem gg_12_47 (E : dr_E p R s0 m args meth c cells slots A H0 D cI cZ ad L cc nL RX12 ret) (hid : 12 ∈ L) (hdg : decode cc pc = .ok (.getfield 47, 3)) (kk : dr_G p l e R s0 m args below meth c cells slots A H0 D cI cZ ad ln L nL Z (pc + 3) lv (.ref (ad 40) :: st) s F) : dr_G p l e R s0 m args below meth c cells slots A H0 D cI cZ ad ln L nL Z pc lv (.ref (ad 12) :: st) s F := g_get E (k := 16) hid (by decide) rfl wu_12 (by decide) wf_12_47 rfl hdg kk
theorem gg_12_50 (E : dr_E p R s0 m args meth c cells slots A H0 D cI cZ ad L cc nL RX12 ret) (hid : 12 ∈ L) (hdg : decode cc pc = .ok (.getfield 50, 3)) (kk : dr_G p l e R s0 m args below meth c cells slots A H0 D cI cZ ad ln L nL Z (pc + 3) lv (.ref (ad 41) :: st) s F) : dr_G p l e R s0 m args below meth c cells slots A H0 D cI cZ ad ln L nL Z pc lv (.ref (ad 12) :: st) s F := g_get E (k := 17) hid (by decide) rfl wu_12 (by decide) wf_12_50 rfl hdg kk
theorem gg_12_53 (E : dr_E p R s0 m args meth c cells slots A H0 D cI cZ ad L cc nL RX12 ret) (hid : 12 ∈ L) (hdg : decode cc pc = .ok (.getfield 53, 3)) (kk : dr_G p l e R s0 m args below meth c cells slots A H0 D cI cZ ad ln L nL Z (pc + 3) lv (.ref (ad 42) :: st) s F) : dr_G p l e R s0 m args below meth c cells slots A H0 D cI cZ ad ln L nL Z pc lv (.ref (ad 12) :: st) s F := g_get E (k := 18) hid (by decide) rfl wu_12 (by decide) wf_12_53 rfl hdg kk
theorem gg_12_56 (E : dr_E p R s0 m args meth c cells slots A H0 D cI cZ ad L cc nL RX12 ret) (hid : 12 ∈ L) (hdg : decode cc pc = .ok (.getfield 56, 3)) (kk : dr_G p l e R s0 m args below meth c cells slots A H0 D cI cZ ad ln L nL Z (pc + 3) lv (.ref (ad 43) :: st) s F) : dr_G p l e R s0 m args below meth c cells slots A H0 D cI cZ ad ln L nL Z pc lv (.ref (ad 12) :: st) s F := g_get E (k := 19) hid (by decide) rfl wu_12 (by decide) wf_12_56 rfl hdg kk
theorem gg_12_59 (E : dr_E p R s0 m args meth c cells slots A H0 D cI cZ ad L cc nL RX12 ret) (hid : 12 ∈ L) (hdg : decode cc pc = .ok (.getfield 59, 3)) (kk : dr_G p l e R s0 m args below meth c cells slots A H0 D cI cZ ad ln L nL Z (pc + 3) lv (.ref (ad 44) :: st) s F) : dr_G p l e R s0 m args below meth c cells slots A H0 D cI cZ ad ln L nL Z pc lv (.ref (ad 12) :: st) s F := g_get E (k := 20) hid (by decide) rfl wu_12 (by decide) wf_12_59 rfl hdg kk
theorem gg_12_62 (E : dr_E p R s0 m args meth c cells slots A H0 D cI cZ ad L cc nL RX12 ret) (hid : 12 ∈ L) (hdg : decode cc pc = .ok (.getfield 62, 3)) (kk : dr_G p l e R s0 m args below meth c cells slots A H0 D cI cZ ad ln L nL Z (pc + 3) lv (.ref (ad 45) :: st) s F) : dr_G p l e R s0 m args below meth c cells slots A H0 D cI cZ ad ln L nL Z pc lv (.ref (ad 12) :: st) s F := g_get E (k := 21) hid (by decide) rfl wu_12 (by decide) wf_12_62 rfl hdg kk
theorem gg_12_65 (E : dr_E p R s0 m args meth c cells slots A H0 D cI cZ ad L cc nL RX12 ret) (hid : 12 ∈ L) (hdg : decode cc pc = .ok (.getfield 65, 3)) (kk : dr_G p l e R s0 m args below meth c cells slots A H0 D cI cZ ad ln L nL Z (pc + 3) lv (.ref (ad 46) :: st) s F) : dr_G p l e R s0 m args below meth c cells slots A H0 D cI cZ ad ln L nL Z pc lv (.ref (ad 12) :: st) s F := g_get E (k := 22) hid (by decide) rfl wu_12 (by decide) wf_12_65 rfl hdg kk
theorem gg_12_68 (E : dr_E p R s0 m args meth c cells slots A H0 D cI cZ ad L cc nL RX12 ret) (hid : 12 ∈ L) (hdg : decode cc pc = .ok (.getfield 68, 3)) (kk : dr_G p l e R s0 m args below meth c cells slots A H0 D cI cZ ad ln L nL Z (pc + 3) lv (.ref (ad 47) :: st) s F) : dr_G p l e R s0 m args below meth c cells slots A H0 D cI cZ ad ln L nL Z pc lv (.ref (ad 12) :: st) s F := g_get E (k := 23) hid (by decide) rfl wu_12 (by decide) wf_12_68 rfl hdg kk
theorem gg_12_71 (E : dr_E p R s0 m args meth c cells slots A H0 D cI cZ ad L cc nL RX12 ret) (hid : 12 ∈ L) (hdg : decode cc pc = .ok (.getfield 71, 3)) (kk : dr_G p l e R s0 m args below meth c cells slots A H0 D cI cZ ad ln L nL Z (pc + 3) lv (.ref (ad 48) :: st) s F) : dr_G p l e R s0 m args below meth c cells slots A H0 D cI cZ ad ln L nL Z pc lv (.ref (ad 12) :: st) s F := g_get E (k := 24) hid (by decide) rfl wu_12 (by decide) wf_12_71 rfl hdg kk
theorem gg_12_74 (E : dr_E p R s0 m args meth c cells slots A H0 D cI cZ ad L cc nL RX12 ret) (hid : 12 ∈ L) (hdg : decode cc pc = .ok (.getfield 74, 3)) (kk : dr_G p l e R s0 m args below meth c cells slots A H0 D cI cZ ad ln L nL Z (pc + 3) lv (.ref (ad 49) :: st) s F) : dr_G p l e R s0 m args below meth c cells slots A H0 D cI cZ ad ln L nL Z pc lv (.ref (ad 12) :: st) s F := g_get E (k := 25) hid (by decide) rfl wu_12 (by decide) wf_12_74 rfl hdg kk
theorem gg_12_77 (E : dr_E p R s0 m args meth c cells slots A H0 D cI cZ ad L cc nL RX12 ret) (hid : 12 ∈ L) (hdg : decode cc pc = .ok (.getfield 77, 3)) (kk : dr_G p l e R s0 m args below meth c cells slots A H0 D cI cZ ad ln L nL Z (pc + 3) lv (.ref (ad 50) :: st) s F) : dr_G p l e R s0 m args below meth c cells slots A H0 D cI cZ ad ln L nL Z pc lv (.ref (ad 12) :: st) s F := g_get E (k := 27) hid (by decide) rfl wu_12 (by decide) wf_12_77 rfl hdg kk
theorem gg_12_80 (E : dr_E p R s0 m args meth c cells slots A H0 D cI cZ ad L cc nL RX12 ret) (hid : 12 ∈ L) (hdg : decode cc pc = .ok (.getfield 80, 3)) (kk : dr_G p l e R s0 m args below meth c cells slots A H0 D cI cZ ad ln L nL Z (pc + 3) lv (.ref (ad 51) :: st) s F) : dr_G p l e R s0 m args below meth c cells slots A H0 D cI cZ ad ln L nL Z pc lv (.ref (ad 12) :: st) s F := g_get E (k := 28) hid (by decide) rfl wu_12 (by decide) wf_12_80 rfl hdg kk
theorem gg_12_83 (E : dr_E p R s0 m args meth c cells slots A H0 D cI cZ ad L cc nL RX12 ret) (hid : 12 ∈ L) (hdg : decode cc pc = .ok (.getfield 83, 3)) (kk : dr_G p l e R s0 m args below meth c cells slots A H0 D cI cZ ad ln L nL Z (pc + 3) lv (.ref (ad 52) :: st) s F) : dr_G p l e R s0 m args below meth c cells slots A H0 D cI cZ ad ln L nL Z pc lv (.ref (ad 12) :: st) s F := g_get E (k := 29) hid (by decide) rfl wu_12 (by decide) wf_12_83 rfl hdg kk
theorem gg_12_86 (E : dr_E p R s0 m args meth c cells slots A H0 D cI cZ ad L cc nL RX12 ret) (hid : 12 ∈ L) (hdg : decode cc pc = .ok (.getfield 86, 3)) (kk : dr_G p l e R s0 m args below meth c cells slots A H0 D cI cZ ad ln L nL Z (pc + 3) lv (.ref (ad 53) :: st) s F) : dr_G p l e R s0 m args below meth c cells slots A H0 D cI cZ ad ln L nL Z pc lv (.ref (ad 12) :: st) s F := g_get E (k := 30) hid (by decide) rfl wu_12 (by decide) wf_12_86 rfl hdg kk
theorem gg_12_89 (E : dr_E p R s0 m args meth c cells slots A H0 D cI cZ ad L cc nL RX12 ret) (hid : 12 ∈ L) (hdg : decode cc pc = .ok (.getfield 89, 3)) (kk : dr_G p l e R s0 m args below meth c cells slots A H0 D cI cZ ad ln L nL Z (pc + 3) lv (.ref (ad 54) :: st) s F) : dr_G p l e R s0 m args below meth c cells slots A H0 D cI cZ ad ln L nL Z pc lv (.ref (ad 12) :: st) s F := g_get E (k := 31) hid (by decide) rfl wu_12 (by decide) wf_12_89 rfl hdg kk
theorem gg_12_92 (E : dr_E p R s0 m args meth c cells slots A H0 D cI cZ ad L cc nL RX12 ret) (hid : 12 ∈ L) (hdg : decode cc pc = .ok (.getfield 92, 3)) (kk : dr_G p l e R s0 m args below meth c cells slots A H0 D cI cZ ad ln L nL Z (pc + 3) lv (.ref (ad 55) :: st) s F) : dr_G p l e R s0 m args below meth c cells slots A H0 D cI cZ ad ln L nL Z pc lv (.ref (ad 12) :: st) s F := g_get E (k := 32) hid (by decide) rfl wu_12 (by decide) wf_12_92 rfl hdg kk
theorem gg_12_95 (E : dr_E p R s0 m args meth c cells slots A H0 D cI cZ ad L cc nL RX12 ret) (hid : 12 ∈ L) (hdg : decode cc pc = .ok (.getfield 95, 3)) (kk : dr_G p l e R s0 m args below meth c cells slots A H0 D cI cZ ad ln L nL Z (pc + 3) lv (.ref (ad 56) :: st) s F) : dr_G p l e R s0 m args below meth c cells slots A H0 D cI cZ ad ln L nL Z pc lv (.ref (ad 12) :: st) s F := g_get E (k := 33) hid (by decide) rfl wu_12 (by decide) wf_12_95 rfl hdg kk
theorem gg_12_98 (E : dr_E p R s0 m args meth c cells slots A H0 D cI cZ ad L cc nL RX12 ret) (hid : 12 ∈ L) (hdg : decode cc pc = .ok (.getfield 98, 3)) (kk : dr_G p l e R s0 m args below meth c cells slots A H0 D cI cZ ad ln L nL Z (pc + 3) lv (.ref (ad 57) :: st) s F) : dr_G p l e R s0 m args below meth c cells slots A H0 D cI cZ ad ln L nL Z pc lv (.ref (ad 12) :: st) s F := g_get E (k := 35) hid (by decide) rfl wu_12 (by decide) wf_12_98 rfl hdg kk
theorem gg_12_101 (E : dr_E p R s0 m args meth c cells slots A H0 D cI cZ ad L cc nL RX12 ret) (hid : 12 ∈ L) (hdg : decode cc pc = .ok (.getfield 101, 3)) (kk : dr_G p l e R s0 m args below meth c cells slots A H0 D cI cZ ad ln L nL Z (pc + 3) lv (.ref (ad 58) :: st) s F) : dr_G p l e R s0 m args below meth c cells slots A H0 D cI cZ ad ln L nL Z pc lv (.ref (ad 12) :: st) s F := g_get E (k := 36) hid (by decide) rfl wu_12 (by decide) wf_12_101 rfl hdg kk
theorem gg_12_104 (E : dr_E p R s0 m args meth c cells slots A H0 D cI cZ ad L cc nL RX12 ret) (hid : 12 ∈ L) (hdg : decode cc pc = .ok (.getfield 104, 3)) (kk : dr_G p l e R s0 m args below meth c cells slots A H0 D cI cZ ad ln L nL Z (pc + 3) lv (.ref (ad 59) :: st) s F) : dr_G p l e R s0 m args below meth c cells slots A H0 D cI cZ ad ln L nL Z pc lv (.ref (ad 12) :: st) s F := g_get E (k := 37) hid (by decide) rfl wu_12 (by decide) wf_12_104 rfl hdg kk
theorem gg_12_107 (E : dr_E p R s0 m args meth c cells slots A H0 D cI cZ ad L cc nL RX12 ret) (hid : 12 ∈ L) (hdg : decode cc pc = .ok (.getfield 107, 3)) (kk : dr_G p l e R s0 m args below meth c cells slots A H0 D cI cZ ad ln L nL Z (pc + 3) lv (.ref (ad 60) :: st) s F) : dr_G p l e R s0 m args below meth c cells slots A H0 D cI cZ ad ln L nL Z pc lv (.ref (ad 12) :: st) s F := g_get E (k := 38) hid (by decide) rfl wu_12 (by decide) wf_12_107 rfl hdg kk
theorem gg_12_110 (E : dr_E p R s0 m args meth c cells slots A H0 D cI cZ ad L cc nL RX12 ret) (hid : 12 ∈ L) (hdg : decode cc pc = .ok (.getfield 110, 3)) (kk : dr_G p l e R s0 m args below meth c cells slots A H0 D cI cZ ad ln L nL Z (pc + 3) lv (.ref (ad 61) :: st) s F) : dr_G p l e R s0 m args below meth c cells slots A H0 D cI cZ ad ln L nL Z pc lv (.ref (ad 12) :: st) s F := g_get E (k := 39) hid (by decide) rfl wu_12 (by decide) wf_12_110 rfl hdg kk
theorem gg_12_113 (E : dr_E p R s0 m args meth c cells slots A H0 D cI cZ ad L cc nL RX12 ret) (hid : 12 ∈ L) (hdg : decode cc pc = .ok (.getfield 113, 3)) (kk : dr_G p l e R s0 m args below meth c cells slots A H0 D cI cZ ad ln L nL Z (pc + 3) lv (.ref (ad 62) :: st) s F) : dr_G p l e R s0 m args below meth c cells slots A H0 D cI cZ ad ln L nL Z pc lv (.ref (ad 12) :: st) s F := g_get E (k := 41) hid (by decide) rfl wu_12 (by decide) wf_12_113 rfl hdg kk
theorem gg_12_116 (E : dr_E p R s0 m args meth c cells slots A H0 D cI cZ ad L cc nL RX12 ret) (hid : 12 ∈ L) (hdg : decode cc pc = .ok (.getfield 116, 3)) (kk : dr_G p l e R s0 m args below meth c cells slots A H0 D cI cZ ad ln L nL Z (pc + 3) lv (.ref (ad 63) :: st) s F) : dr_G p l e R s0 m args below meth c cells slots A H0 D cI cZ ad ln L nL Z pc lv (.ref (ad 12) :: st) s F := g_get E (k := 43) hid (by decide) rfl wu_12 (by decide) wf_12_116 rfl hdg kk
theorem gg_12_119 (E : dr_E p R s0 m args meth c cells slots A H0 D cI cZ ad L cc nL RX12 ret) (hid : 12 ∈ L) (hdg : decode cc pc = .ok (.getfield 119, 3)) (kk : dr_G p l e R s0 m args below meth c cells slots A H0 D cI cZ ad ln L nL Z (pc + 3) lv (.ref (ad 64) :: st) s F) : dr_G p l e R s0 m args below meth c cells slots A H0 D cI cZ ad ln L nL Z pc lv (.ref (ad 12) :: st) s F := g_get E (k := 45) hid (by decide) rfl wu_12 (by decide) wf_12_119 rfl hdg kk
theorem gg_12_122 (E : dr_E p R s0 m args meth c cells slots A H0 D cI cZ ad L cc nL RX12 ret) (hid : 12 ∈ L) (hdg : decode cc pc = .ok (.getfield 122, 3)) (kk : dr_G p l e R s0 m args below meth c cells slots A H0 D cI cZ ad ln L nL Z (pc + 3) lv (.ref (ad 65) :: st) s F) : dr_G p l e R s0 m args below meth c cells slots A H0 D cI cZ ad ln L nL Z pc lv (.ref (ad 12) :: st) s F := g_get E (k := 46) hid (by decide) rfl wu_12 (by decide) wf_12_122 rfl hdg kk
theorem gg_12_125 (E : dr_E p R s0 m args meth c cells slots A H0 D cI cZ ad L cc nL RX12 ret) (hid : 12 ∈ L) (hdg : decode cc pc = .ok (.getfield 125, 3)) (kk : dr_G p l e R s0 m args below meth c cells slots A H0 D cI cZ ad ln L nL Z (pc + 3) lv (.ref (ad 66) :: st) s F) : dr_G p l e R s0 m args below meth c cells slots A H0 D cI cZ ad ln L nL Z pc lv (.ref (ad 12) :: st) s F := g_get E (k := 47) hid (by decide) rfl wu_12 (by decide) wf_12_125 rfl hdg kk
theorem gg_12_128 (E : dr_E p R s0 m args meth c cells slots A H0 D cI cZ ad L cc nL RX12 ret) (hid : 12 ∈ L) (hdg : decode cc pc = .ok (.getfield 128, 3)) (kk : dr_G p l e R s0 m args below meth c cells slots A H0 D cI cZ ad ln L nL Z (pc + 3) lv (.ref (ad 67) :: st) s F) : dr_G p l e R s0 m args below meth c cells slots A H0 D cI cZ ad ln L nL Z pc lv (.ref (ad 12) :: st) s F := g_get E (k := 48) hid (by decide) rfl wu_12 (by decide) wf_12_128 rfl hdg kk
theorem gg_12_131 (E : dr_E p R s0 m args meth c cells slots A H0 D cI cZ ad L cc nL RX12 ret) (hid : 12 ∈ L) (hdg : decode cc pc = .ok (.getfield 131, 3)) (kk : dr_G p l e R s0 m args below meth c cells slots A H0 D cI cZ ad ln L nL Z (pc + 3) lv (.ref (ad 68) :: st) s F) : dr_G p l e R s0 m args below meth c cells slots A H0 D cI cZ ad ln L nL Z pc lv (.ref (ad 12) :: st) s F := g_get E (k := 49) hid (by decide) rfl wu_12 (by decide) wf_12_131 rfl hdg kk
theorem gg_12_134 (E : dr_E p R s0 m args meth c cells slots A H0 D cI cZ ad L cc nL RX12 ret) (hid : 12 ∈ L) (hdg : decode cc pc = .ok (.getfield 134, 3)) (kk : dr_G p l e R s0 m args below meth c cells slots A H0 D cI cZ ad ln L nL Z (pc + 3) lv (.ref (ad 69) :: st) s F) : dr_G p l e R s0 m args below meth c cells slots A H0 D cI cZ ad ln L nL Z pc lv (.ref (ad 12) :: st) s F := g_get E (k := 50) hid (by decide) rfl wu_12 (by decide) wf_12_134 rfl hdg kk
theorem gg_12_137 (E : dr_E p R s0 m args meth c cells slots A H0 D cI cZ ad L cc nL RX12 ret) (hid : 12 ∈ L) (hdg : decode cc pc = .ok (.getfield 137, 3)) (kk : dr_G p l e R s0 m args below meth c cells slots A H0 D cI cZ ad ln L nL Z (pc + 3) lv (.ref (ad 70) :: st) s F) : dr_G p l e R s0 m args below meth c cells slots A H0 D cI cZ ad ln L nL Z pc lv (.ref (ad 12) :: st) s F := g_get E (k := 51) hid (by decide) rfl wu_12 (by decide) wf_12_137 rfl hdg kk
theorem gg_12_140 (E : dr_E p R s0 m args meth c cells slots A H0 D cI cZ ad L cc nL RX12 ret) (hid : 12 ∈ L) (hdg : decode cc pc = .ok (.getfield 140, 3)) (kk : dr_G p l e R s0 m args below meth c cells slots A H0 D cI cZ ad ln L nL Z (pc + 3) lv (.ref (ad 71) :: st) s F) : dr_G p l e R s0 m args below meth c cells slots A H0 D cI cZ ad ln L nL Z pc lv (.ref (ad 12) :: st) s F := g_get E (k := 52) hid (by decide) rfl wu_12 (by decide) wf_12_140 rfl hdg kk
theorem gg_12_143 (E : dr_E p R s0 m args meth c cells slots A H0 D cI cZ ad L cc nL RX12 ret) (hid : 12 ∈ L) (hdg : decode cc pc = .ok (.getfield 143, 3)) (kk : dr_G p l e R s0 m args below meth c cells slots A H0 D cI cZ ad ln L nL Z (pc + 3) lv (.ref (ad 72) :: st) s F) : dr_G p l e R s0 m args below meth c cells slots A H0 D cI cZ ad ln L nL Z pc lv (.ref (ad 12) :: st) s F := g_get E (k := 53) hid (by decide) rfl wu_12 (by decide) wf_12_143 rfl hdg kk
theorem gg_12_146 (E : dr_E p R s0 m args meth c cells slots A H0 D cI cZ ad L cc nL RX12 ret) (hid : 12 ∈ L) (hdg : decode cc pc = .ok (.getfield 146, 3)) (kk : dr_G p l e R s0 m args below meth c cells slots A H0 D cI cZ ad ln L nL Z (pc + 3) lv (.ref (ad 73) :: st) s F) : dr_G p l e R s0 m args below meth c cells slots A H0 D cI cZ ad ln L nL Z pc lv (.ref (ad 12) :: st) s F := g_get E (k := 54) hid (by decide) rfl wu_12 (by decide) wf_12_146 rfl hdg kk
theorem gg_12_149 (E : dr_E p R s0 m args meth c cells slots A H0 D cI cZ ad L cc nL RX12 ret) (hid : 12 ∈ L) (hdg : decode cc pc = .ok (.getfield 149, 3)) (kk : dr_G p l e R s0 m args below meth c cells slots A H0 D cI cZ ad ln L nL Z (pc + 3) lv (.ref (ad 74) :: st) s F) : dr_G p l e R s0 m args below meth c cells slots A H0 D cI cZ ad ln L nL Z pc lv (.ref (ad 12) :: st) s F := g_get E (k := 58) hid (by decide) rfl wu_12 (by decide) wf_12_149 rfl hdg kk
theorem gg_12_152 (E : dr_E p R s0 m args meth c cells slots A H0 D cI cZ ad L cc nL RX12 ret) (hid : 12 ∈ L) (hdg : decode cc pc = .ok (.getfield 152, 3)) (kk : dr_G p l e R s0 m args below meth c cells slots A H0 D cI cZ ad ln L nL Z (pc + 3) lv (.int (s.2 1200) :: st) s F) : dr_G p l e R s0 m args below meth c cells slots A H0 D cI cZ ad ln L nL Z pc lv (.ref (ad 12) :: st) s F := g_get E (k := 0) hid (by decide) rfl wu_12 (by decide) wf_12_152 rfl hdg kk
theorem gg_12_164 (E : dr_E p R s0 m args meth c cells slots A H0 D cI cZ ad L cc nL RX12 ret) (hid : 12 ∈ L) (hdg : decode cc pc = .ok (.getfield 164, 3)) (kk : dr_G p l e R s0 m args below meth c cells slots A H0 D cI cZ ad ln L nL Z (pc + 3) lv (.int (s.2 1240) :: st) s F) : dr_G p l e R s0 m args below meth c cells slots A H0 D cI cZ ad ln L nL Z pc lv (.ref (ad 12) :: st) s F := g_get E (k := 40) hid (by decide) rfl wu_12 (by decide) wf_12_164 rfl hdg kk
theorem po_1240 (v : Int32) : ∀ j, j < 13 → j ≠ 12 → dr_fs ad s j = dr_fs ad (dr_pf s 1240 v) j := fun j h hj => match j, h, hj with | 0, _, _ => rfl | 1, _, _ => rfl | 2, _, _ => rfl | 3, _, _ => rfl | 4, _, _ => rfl | 5, _, _ => rfl | 6, _, _ => rfl | 7, _, _ => rfl | 8, _, _ => rfl | 9, _, _ => rfl | 10, _, _ => rfl | 11, _, _ => rfl | 12, _, hj => absurd rfl hj | n + 13, h, _ => absurd h (by omega)
theorem pe_1240 (v : Int32) : ∀ j, j ≠ 12 → dr_e cI cZ ad ln s j = dr_e cI cZ ad ln (dr_pf s 1240 v) j := by
  intro j hj
  unfold dr_e
  by_cases h : j < 13
  · rw [if_pos h, if_pos h, po_1240 v j h hj]
  · rw [if_neg h, if_neg h]
    rfl
theorem gp_12_164 (E : dr_E p R s0 m args meth c cells slots A H0 D cI cZ ad L cc nL RX12 ret) {v : Int32} (hid : 12 ∈ L) (hdg : decode cc pc = .ok (.putfield 164, 3)) {Kx : dr_S → Option (Int32 × dr_S)} (kk : ∀ s2 : dr_S, dr_G p l e R s0 m args below meth c cells slots A H0 D cI cZ ad ln L nL Z (pc + 3) lv st s2 (Kx s2)) : dr_G p l e R s0 m args below meth c cells slots A H0 D cI cZ ad ln L nL Z pc lv (.int v :: .ref (ad 12) :: st) s (dr_letS (dr_pf s 1240 v) Kx) := g_put E (s := s) (v := v) (s1 := dr_pf s 1240 v) (k := 40) hid (by decide) rfl wu_12 tyX12 tyX12_ok nmX12 (by decide) wf_12_164 rfl (ty := .int) (by decide +kernel) rfl rfl (Nat.le_of_ble_eq_true rfl) rfl (pe_1240 v) hdg kk
theorem gg_12_175 (E : dr_E p R s0 m args meth c cells slots A H0 D cI cZ ad L cc nL RX12 ret) (hid : 12 ∈ L) (hdg : decode cc pc = .ok (.getfield 175, 3)) (kk : dr_G p l e R s0 m args below meth c cells slots A H0 D cI cZ ad ln L nL Z (pc + 3) lv (.int (s.2 1226) :: st) s F) : dr_G p l e R s0 m args below meth c cells slots A H0 D cI cZ ad ln L nL Z pc lv (.ref (ad 12) :: st) s F := g_get E (k := 26) hid (by decide) rfl wu_12 (by decide) wf_12_175 rfl hdg kk
theorem po_1226 (v : Int32) : ∀ j, j < 13 → j ≠ 12 → dr_fs ad s j = dr_fs ad (dr_pf s 1226 v) j := fun j h hj => match j, h, hj with | 0, _, _ => rfl | 1, _, _ => rfl | 2, _, _ => rfl | 3, _, _ => rfl | 4, _, _ => rfl | 5, _, _ => rfl | 6, _, _ => rfl | 7, _, _ => rfl | 8, _, _ => rfl | 9, _, _ => rfl | 10, _, _ => rfl | 11, _, _ => rfl | 12, _, hj => absurd rfl hj | n + 13, h, _ => absurd h (by omega)
theorem pe_1226 (v : Int32) : ∀ j, j ≠ 12 → dr_e cI cZ ad ln s j = dr_e cI cZ ad ln (dr_pf s 1226 v) j := by
  intro j hj
  unfold dr_e
  by_cases h : j < 13
  · rw [if_pos h, if_pos h, po_1226 v j h hj]
  · rw [if_neg h, if_neg h]
    rfl
theorem gp_12_175 (E : dr_E p R s0 m args meth c cells slots A H0 D cI cZ ad L cc nL RX12 ret) {v : Int32} (hid : 12 ∈ L) (hdg : decode cc pc = .ok (.putfield 175, 3)) {Kx : dr_S → Option (Int32 × dr_S)} (kk : ∀ s2 : dr_S, dr_G p l e R s0 m args below meth c cells slots A H0 D cI cZ ad ln L nL Z (pc + 3) lv st s2 (Kx s2)) : dr_G p l e R s0 m args below meth c cells slots A H0 D cI cZ ad ln L nL Z pc lv (.int v :: .ref (ad 12) :: st) s (dr_letS (dr_pf s 1226 v) Kx) := g_put E (s := s) (v := v) (s1 := dr_pf s 1226 v) (k := 26) hid (by decide) rfl wu_12 tyX12 tyX12_ok nmX12 (by decide) wf_12_175 rfl (ty := .int) (by decide +kernel) rfl rfl (Nat.le_of_ble_eq_true rfl) rfl (pe_1226 v) hdg kk
theorem gg_12_178 (E : dr_E p R s0 m args meth c cells slots A H0 D cI cZ ad L cc nL RX12 ret) (hid : 12 ∈ L) (hdg : decode cc pc = .ok (.getfield 178, 3)) (kk : dr_G p l e R s0 m args below meth c cells slots A H0 D cI cZ ad ln L nL Z (pc + 3) lv (.int (s.2 1201) :: st) s F) : dr_G p l e R s0 m args below meth c cells slots A H0 D cI cZ ad ln L nL Z pc lv (.ref (ad 12) :: st) s F := g_get E (k := 1) hid (by decide) rfl wu_12 (by decide) wf_12_178 rfl hdg kk
theorem po_1201 (v : Int32) : ∀ j, j < 13 → j ≠ 12 → dr_fs ad s j = dr_fs ad (dr_pf s 1201 v) j := fun j h hj => match j, h, hj with | 0, _, _ => rfl | 1, _, _ => rfl | 2, _, _ => rfl | 3, _, _ => rfl | 4, _, _ => rfl | 5, _, _ => rfl | 6, _, _ => rfl | 7, _, _ => rfl | 8, _, _ => rfl | 9, _, _ => rfl | 10, _, _ => rfl | 11, _, _ => rfl | 12, _, hj => absurd rfl hj | n + 13, h, _ => absurd h (by omega)
theorem pe_1201 (v : Int32) : ∀ j, j ≠ 12 → dr_e cI cZ ad ln s j = dr_e cI cZ ad ln (dr_pf s 1201 v) j := by
  intro j hj
  unfold dr_e
  by_cases h : j < 13
  · rw [if_pos h, if_pos h, po_1201 v j h hj]
  · rw [if_neg h, if_neg h]
    rfl
theorem gp_12_178 (E : dr_E p R s0 m args meth c cells slots A H0 D cI cZ ad L cc nL RX12 ret) {v : Int32} (hid : 12 ∈ L) (hdg : decode cc pc = .ok (.putfield 178, 3)) {Kx : dr_S → Option (Int32 × dr_S)} (kk : ∀ s2 : dr_S, dr_G p l e R s0 m args below meth c cells slots A H0 D cI cZ ad ln L nL Z (pc + 3) lv st s2 (Kx s2)) : dr_G p l e R s0 m args below meth c cells slots A H0 D cI cZ ad ln L nL Z pc lv (.int v :: .ref (ad 12) :: st) s (dr_letS (dr_pf s 1201 v) Kx) := g_put E (s := s) (v := v) (s1 := dr_pf s 1201 v) (k := 1) hid (by decide) rfl wu_12 tyX12 tyX12_ok nmX12 (by decide) wf_12_178 rfl (ty := .int) (by decide +kernel) rfl rfl (Nat.le_of_ble_eq_true rfl) rfl (pe_1201 v) hdg kk
theorem gg_12_199 (E : dr_E p R s0 m args meth c cells slots A H0 D cI cZ ad L cc nL RX12 ret) (hid : 12 ∈ L) (hdg : decode cc pc = .ok (.getfield 199, 3)) (kk : dr_G p l e R s0 m args below meth c cells slots A H0 D cI cZ ad ln L nL Z (pc + 3) lv (.int (s.2 1204) :: st) s F) : dr_G p l e R s0 m args below meth c cells slots A H0 D cI cZ ad ln L nL Z pc lv (.ref (ad 12) :: st) s F := g_get E (k := 4) hid (by decide) rfl wu_12 (by decide) wf_12_199 rfl hdg kk
theorem po_1204 (v : Int32) : ∀ j, j < 13 → j ≠ 12 → dr_fs ad s j = dr_fs ad (dr_pf s 1204 v) j := fun j h hj => match j, h, hj with | 0, _, _ => rfl | 1, _, _ => rfl | 2, _, _ => rfl | 3, _, _ => rfl | 4, _, _ => rfl | 5, _, _ => rfl | 6, _, _ => rfl | 7, _, _ => rfl | 8, _, _ => rfl | 9, _, _ => rfl | 10, _, _ => rfl | 11, _, _ => rfl | 12, _, hj => absurd rfl hj | n + 13, h, _ => absurd h (by omega)
theorem pe_1204 (v : Int32) : ∀ j, j ≠ 12 → dr_e cI cZ ad ln s j = dr_e cI cZ ad ln (dr_pf s 1204 v) j := by
  intro j hj
  unfold dr_e
  by_cases h : j < 13
  · rw [if_pos h, if_pos h, po_1204 v j h hj]
  · rw [if_neg h, if_neg h]
    rfl
theorem gp_12_199 (E : dr_E p R s0 m args meth c cells slots A H0 D cI cZ ad L cc nL RX12 ret) {v : Int32} (hid : 12 ∈ L) (hdg : decode cc pc = .ok (.putfield 199, 3)) {Kx : dr_S → Option (Int32 × dr_S)} (kk : ∀ s2 : dr_S, dr_G p l e R s0 m args below meth c cells slots A H0 D cI cZ ad ln L nL Z (pc + 3) lv st s2 (Kx s2)) : dr_G p l e R s0 m args below meth c cells slots A H0 D cI cZ ad ln L nL Z pc lv (.int v :: .ref (ad 12) :: st) s (dr_letS (dr_pf s 1204 v) Kx) := g_put E (s := s) (v := v) (s1 := dr_pf s 1204 v) (k := 4) hid (by decide) rfl wu_12 tyX12 tyX12_ok nmX12 (by decide) wf_12_199 rfl (ty := .int) (by decide +kernel) rfl rfl (Nat.le_of_ble_eq_true rfl) rfl (pe_1204 v) hdg kk
theorem gg_12_202 (E : dr_E p R s0 m args meth c cells slots A H0 D cI cZ ad L cc nL RX12 ret) (hid : 12 ∈ L) (hdg : decode cc pc = .ok (.getfield 202, 3)) (kk : dr_G p l e R s0 m args below meth c cells slots A H0 D cI cZ ad ln L nL Z (pc + 3) lv (.int (s.2 1205) :: st) s F) : dr_G p l e R s0 m args below meth c cells slots A H0 D cI cZ ad ln L nL Z pc lv (.ref (ad 12) :: st) s F := g_get E (k := 5) hid (by decide) rfl wu_12 (by decide) wf_12_202 rfl hdg kk
theorem po_1205 (v : Int32) : ∀ j, j < 13 → j ≠ 12 → dr_fs ad s j = dr_fs ad (dr_pf s 1205 v) j := fun j h hj => match j, h, hj with | 0, _, _ => rfl | 1, _, _ => rfl | 2, _, _ => rfl | 3, _, _ => rfl | 4, _, _ => rfl | 5, _, _ => rfl | 6, _, _ => rfl | 7, _, _ => rfl | 8, _, _ => rfl | 9, _, _ => rfl | 10, _, _ => rfl | 11, _, _ => rfl | 12, _, hj => absurd rfl hj | n + 13, h, _ => absurd h (by omega)
theorem pe_1205 (v : Int32) : ∀ j, j ≠ 12 → dr_e cI cZ ad ln s j = dr_e cI cZ ad ln (dr_pf s 1205 v) j := by
  intro j hj
  unfold dr_e
  by_cases h : j < 13
  · rw [if_pos h, if_pos h, po_1205 v j h hj]
  · rw [if_neg h, if_neg h]
    rfl
theorem gp_12_202 (E : dr_E p R s0 m args meth c cells slots A H0 D cI cZ ad L cc nL RX12 ret) {v : Int32} (hid : 12 ∈ L) (hdg : decode cc pc = .ok (.putfield 202, 3)) {Kx : dr_S → Option (Int32 × dr_S)} (kk : ∀ s2 : dr_S, dr_G p l e R s0 m args below meth c cells slots A H0 D cI cZ ad ln L nL Z (pc + 3) lv st s2 (Kx s2)) : dr_G p l e R s0 m args below meth c cells slots A H0 D cI cZ ad ln L nL Z pc lv (.int v :: .ref (ad 12) :: st) s (dr_letS (dr_pf s 1205 v) Kx) := g_put E (s := s) (v := v) (s1 := dr_pf s 1205 v) (k := 5) hid (by decide) rfl wu_12 tyX12 tyX12_ok nmX12 (by decide) wf_12_202 rfl (ty := .int) (by decide +kernel) rfl rfl (Nat.le_of_ble_eq_true rfl) rfl (pe_1205 v) hdg kk
theorem gg_12_247 (E : dr_E p R s0 m args meth c cells slots A H0 D cI cZ ad L cc nL RX12 ret) (hid : 12 ∈ L) (hdg : decode cc pc = .ok (.getfield 247, 3)) (kk : dr_G p l e R s0 m args below meth c cells slots A H0 D cI cZ ad ln L nL Z (pc + 3) lv (.int (s.2 1234) :: st) s F) : dr_G p l e R s0 m args below meth c cells slots A H0 D cI cZ ad ln L nL Z pc lv (.ref (ad 12) :: st) s F := g_get E (k := 34) hid (by decide) rfl wu_12 (by decide) wf_12_247 rfl hdg kk
theorem po_1234 (v : Int32) : ∀ j, j < 13 → j ≠ 12 → dr_fs ad s j = dr_fs ad (dr_pf s 1234 v) j := fun j h hj => match j, h, hj with | 0, _, _ => rfl | 1, _, _ => rfl | 2, _, _ => rfl | 3, _, _ => rfl | 4, _, _ => rfl | 5, _, _ => rfl | 6, _, _ => rfl | 7, _, _ => rfl | 8, _, _ => rfl | 9, _, _ => rfl | 10, _, _ => rfl | 11, _, _ => rfl | 12, _, hj => absurd rfl hj | n + 13, h, _ => absurd h (by omega)
theorem pe_1234 (v : Int32) : ∀ j, j ≠ 12 → dr_e cI cZ ad ln s j = dr_e cI cZ ad ln (dr_pf s 1234 v) j := by
  intro j hj
  unfold dr_e
  by_cases h : j < 13
  · rw [if_pos h, if_pos h, po_1234 v j h hj]
  · rw [if_neg h, if_neg h]
    rfl
theorem gp_12_247 (E : dr_E p R s0 m args meth c cells slots A H0 D cI cZ ad L cc nL RX12 ret) {v : Int32} (hid : 12 ∈ L) (hdg : decode cc pc = .ok (.putfield 247, 3)) {Kx : dr_S → Option (Int32 × dr_S)} (kk : ∀ s2 : dr_S, dr_G p l e R s0 m args below meth c cells slots A H0 D cI cZ ad ln L nL Z (pc + 3) lv st s2 (Kx s2)) : dr_G p l e R s0 m args below meth c cells slots A H0 D cI cZ ad ln L nL Z pc lv (.int v :: .ref (ad 12) :: st) s (dr_letS (dr_pf s 1234 v) Kx) := g_put E (s := s) (v := v) (s1 := dr_pf s 1234 v) (k := 34) hid (by decide) rfl wu_12 tyX12 tyX12_ok nmX12 (by decide) wf_12_247 rfl (ty := .int) (by decide +kernel) rfl rfl (Nat.le_of_ble_eq_true rfl) rfl (pe_1234 v) hdg kk
theorem gg_12_271 (E : dr_E p R s0 m args meth c cells slots A H0 D cI cZ ad L cc nL RX12 ret) (hid : 12 ∈ L) (hdg : decode cc pc = .ok (.getfield 271, 3)) (kk : dr_G p l e R s0 m args below meth c cells slots A H0 D cI cZ ad ln L nL Z (pc + 3) lv (.int (s.2 1242) :: st) s F) : dr_G p l e R s0 m args below meth c cells slots A H0 D cI cZ ad ln L nL Z pc lv (.ref (ad 12) :: st) s F := g_get E (k := 42) hid (by decide) rfl wu_12 (by decide) wf_12_271 rfl hdg kk
theorem po_1242 (v : Int32) : ∀ j, j < 13 → j ≠ 12 → dr_fs ad s j = dr_fs ad (dr_pf s 1242 v) j := fun j h hj => match j, h, hj with | 0, _, _ => rfl | 1, _, _ => rfl | 2, _, _ => rfl | 3, _, _ => rfl | 4, _, _ => rfl | 5, _, _ => rfl | 6, _, _ => rfl | 7, _, _ => rfl | 8, _, _ => rfl | 9, _, _ => rfl | 10, _, _ => rfl | 11, _, _ => rfl | 12, _, hj => absurd rfl hj | n + 13, h, _ => absurd h (by omega)
theorem pe_1242 (v : Int32) : ∀ j, j ≠ 12 → dr_e cI cZ ad ln s j = dr_e cI cZ ad ln (dr_pf s 1242 v) j := by
  intro j hj
  unfold dr_e
  by_cases h : j < 13
  · rw [if_pos h, if_pos h, po_1242 v j h hj]
  · rw [if_neg h, if_neg h]
    rfl
theorem gp_12_271 (E : dr_E p R s0 m args meth c cells slots A H0 D cI cZ ad L cc nL RX12 ret) {v : Int32} (hid : 12 ∈ L) (hdg : decode cc pc = .ok (.putfield 271, 3)) {Kx : dr_S → Option (Int32 × dr_S)} (kk : ∀ s2 : dr_S, dr_G p l e R s0 m args below meth c cells slots A H0 D cI cZ ad ln L nL Z (pc + 3) lv st s2 (Kx s2)) : dr_G p l e R s0 m args below meth c cells slots A H0 D cI cZ ad ln L nL Z pc lv (.int v :: .ref (ad 12) :: st) s (dr_letS (dr_pf s 1242 v) Kx) := g_put E (s := s) (v := v) (s1 := dr_pf s 1242 v) (k := 42) hid (by decide) rfl wu_12 tyX12 tyX12_ok nmX12 (by decide) wf_12_271 rfl (ty := .int) (by decide +kernel) rfl rfl (Nat.le_of_ble_eq_true rfl) rfl (pe_1242 v) hdg kk
theorem gg_12_277 (E : dr_E p R s0 m args meth c cells slots A H0 D cI cZ ad L cc nL RX12 ret) (hid : 12 ∈ L) (hdg : decode cc pc = .ok (.getfield 277, 3)) (kk : dr_G p l e R s0 m args below meth c cells slots A H0 D cI cZ ad ln L nL Z (pc + 3) lv (.int (s.2 1244) :: st) s F) : dr_G p l e R s0 m args below meth c cells slots A H0 D cI cZ ad ln L nL Z pc lv (.ref (ad 12) :: st) s F := g_get E (k := 44) hid (by decide) rfl wu_12 (by decide) wf_12_277 rfl hdg kk
theorem po_1244 (v : Int32) : ∀ j, j < 13 → j ≠ 12 → dr_fs ad s j = dr_fs ad (dr_pf s 1244 v) j := fun j h hj => match j, h, hj with | 0, _, _ => rfl | 1, _, _ => rfl | 2, _, _ => rfl | 3, _, _ => rfl | 4, _, _ => rfl | 5, _, _ => rfl | 6, _, _ => rfl | 7, _, _ => rfl | 8, _, _ => rfl | 9, _, _ => rfl | 10, _, _ => rfl | 11, _, _ => rfl | 12, _, hj => absurd rfl hj | n + 13, h, _ => absurd h (by omega)
theorem pe_1244 (v : Int32) : ∀ j, j ≠ 12 → dr_e cI cZ ad ln s j = dr_e cI cZ ad ln (dr_pf s 1244 v) j := by
  intro j hj
  unfold dr_e
  by_cases h : j < 13
  · rw [if_pos h, if_pos h, po_1244 v j h hj]
  · rw [if_neg h, if_neg h]
    rfl
theorem gp_12_277 (E : dr_E p R s0 m args meth c cells slots A H0 D cI cZ ad L cc nL RX12 ret) {v : Int32} (hid : 12 ∈ L) (hdg : decode cc pc = .ok (.putfield 277, 3)) {Kx : dr_S → Option (Int32 × dr_S)} (kk : ∀ s2 : dr_S, dr_G p l e R s0 m args below meth c cells slots A H0 D cI cZ ad ln L nL Z (pc + 3) lv st s2 (Kx s2)) : dr_G p l e R s0 m args below meth c cells slots A H0 D cI cZ ad ln L nL Z pc lv (.int v :: .ref (ad 12) :: st) s (dr_letS (dr_pf s 1244 v) Kx) := g_put E (s := s) (v := v) (s1 := dr_pf s 1244 v) (k := 44) hid (by decide) rfl wu_12 tyX12 tyX12_ok nmX12 (by decide) wf_12_277 rfl (ty := .int) (by decide +kernel) rfl rfl (Nat.le_of_ble_eq_true rfl) rfl (pe_1244 v) hdg kk
theorem gg_12_298 (E : dr_E p R s0 m args meth c cells slots A H0 D cI cZ ad L cc nL RX12 ret) (hid : 12 ∈ L) (hdg : decode cc pc = .ok (.getfield 298, 3)) (kk : dr_G p l e R s0 m args below meth c cells slots A H0 D cI cZ ad ln L nL Z (pc + 3) lv (.int (s.2 1255) :: st) s F) : dr_G p l e R s0 m args below meth c cells slots A H0 D cI cZ ad ln L nL Z pc lv (.ref (ad 12) :: st) s F := g_get E (k := 55) hid (by decide) rfl wu_12 (by decide) wf_12_298 rfl hdg kk
theorem po_1255 (v : Int32) : ∀ j, j < 13 → j ≠ 12 → dr_fs ad s j = dr_fs ad (dr_pf s 1255 v) j := fun j h hj => match j, h, hj with | 0, _, _ => rfl | 1, _, _ => rfl | 2, _, _ => rfl | 3, _, _ => rfl | 4, _, _ => rfl | 5, _, _ => rfl | 6, _, _ => rfl | 7, _, _ => rfl | 8, _, _ => rfl | 9, _, _ => rfl | 10, _, _ => rfl | 11, _, _ => rfl | 12, _, hj => absurd rfl hj | n + 13, h, _ => absurd h (by omega)
theorem pe_1255 (v : Int32) : ∀ j, j ≠ 12 → dr_e cI cZ ad ln s j = dr_e cI cZ ad ln (dr_pf s 1255 v) j := by
  intro j hj
  unfold dr_e
  by_cases h : j < 13
  · rw [if_pos h, if_pos h, po_1255 v j h hj]
  · rw [if_neg h, if_neg h]
    rfl
theorem gp_12_298 (E : dr_E p R s0 m args meth c cells slots A H0 D cI cZ ad L cc nL RX12 ret) {v : Int32} (hid : 12 ∈ L) (hdg : decode cc pc = .ok (.putfield 298, 3)) {Kx : dr_S → Option (Int32 × dr_S)} (kk : ∀ s2 : dr_S, dr_G p l e R s0 m args below meth c cells slots A H0 D cI cZ ad ln L nL Z (pc + 3) lv st s2 (Kx s2)) : dr_G p l e R s0 m args below meth c cells slots A H0 D cI cZ ad ln L nL Z pc lv (.int v :: .ref (ad 12) :: st) s (dr_letS (dr_pf s 1255 v) Kx) := g_put E (s := s) (v := v) (s1 := dr_pf s 1255 v) (k := 55) hid (by decide) rfl wu_12 tyX12 tyX12_ok nmX12 (by decide) wf_12_298 rfl (ty := .int) (by decide +kernel) rfl rfl (Nat.le_of_ble_eq_true rfl) rfl (pe_1255 v) hdg kk
theorem gg_12_301 (E : dr_E p R s0 m args meth c cells slots A H0 D cI cZ ad L cc nL RX12 ret) (hid : 12 ∈ L) (hdg : decode cc pc = .ok (.getfield 301, 3)) (kk : dr_G p l e R s0 m args below meth c cells slots A H0 D cI cZ ad ln L nL Z (pc + 3) lv (.int (s.2 1256) :: st) s F) : dr_G p l e R s0 m args below meth c cells slots A H0 D cI cZ ad ln L nL Z pc lv (.ref (ad 12) :: st) s F := g_get E (k := 56) hid (by decide) rfl wu_12 (by decide) wf_12_301 rfl hdg kk
theorem po_1256 (v : Int32) : ∀ j, j < 13 → j ≠ 12 → dr_fs ad s j = dr_fs ad (dr_pf s 1256 v) j := fun j h hj => match j, h, hj with | 0, _, _ => rfl | 1, _, _ => rfl | 2, _, _ => rfl | 3, _, _ => rfl | 4, _, _ => rfl | 5, _, _ => rfl | 6, _, _ => rfl | 7, _, _ => rfl | 8, _, _ => rfl | 9, _, _ => rfl | 10, _, _ => rfl | 11, _, _ => rfl | 12, _, hj => absurd rfl hj | n + 13, h, _ => absurd h (by omega)
theorem pe_1256 (v : Int32) : ∀ j, j ≠ 12 → dr_e cI cZ ad ln s j = dr_e cI cZ ad ln (dr_pf s 1256 v) j := by
  intro j hj
  unfold dr_e
  by_cases h : j < 13
  · rw [if_pos h, if_pos h, po_1256 v j h hj]
  · rw [if_neg h, if_neg h]
    rfl
theorem gp_12_301 (E : dr_E p R s0 m args meth c cells slots A H0 D cI cZ ad L cc nL RX12 ret) {v : Int32} (hid : 12 ∈ L) (hdg : decode cc pc = .ok (.putfield 301, 3)) {Kx : dr_S → Option (Int32 × dr_S)} (kk : ∀ s2 : dr_S, dr_G p l e R s0 m args below meth c cells slots A H0 D cI cZ ad ln L nL Z (pc + 3) lv st s2 (Kx s2)) : dr_G p l e R s0 m args below meth c cells slots A H0 D cI cZ ad ln L nL Z pc lv (.int v :: .ref (ad 12) :: st) s (dr_letS (dr_pf s 1256 v) Kx) := g_put E (s := s) (v := v) (s1 := dr_pf s 1256 v) (k := 56) hid (by decide) rfl wu_12 tyX12 tyX12_ok nmX12 (by decide) wf_12_301 rfl (ty := .int) (by decide +kernel) rfl rfl (Nat.le_of_ble_eq_true rfl) rfl (pe_1256 v) hdg kk
theorem gg_12_304 (E : dr_E p R s0 m args meth c cells slots A H0 D cI cZ ad L cc nL RX12 ret) (hid : 12 ∈ L) (hdg : decode cc pc = .ok (.getfield 304, 3)) (kk : dr_G p l e R s0 m args below meth c cells slots A H0 D cI cZ ad ln L nL Z (pc + 3) lv (.int (s.2 1257) :: st) s F) : dr_G p l e R s0 m args below meth c cells slots A H0 D cI cZ ad ln L nL Z pc lv (.ref (ad 12) :: st) s F := g_get E (k := 57) hid (by decide) rfl wu_12 (by decide) wf_12_304 rfl hdg kk
theorem po_1257 (v : Int32) : ∀ j, j < 13 → j ≠ 12 → dr_fs ad s j = dr_fs ad (dr_pf s 1257 v) j := fun j h hj => match j, h, hj with | 0, _, _ => rfl | 1, _, _ => rfl | 2, _, _ => rfl | 3, _, _ => rfl | 4, _, _ => rfl | 5, _, _ => rfl | 6, _, _ => rfl | 7, _, _ => rfl | 8, _, _ => rfl | 9, _, _ => rfl | 10, _, _ => rfl | 11, _, _ => rfl | 12, _, hj => absurd rfl hj | n + 13, h, _ => absurd h (by omega)
theorem pe_1257 (v : Int32) : ∀ j, j ≠ 12 → dr_e cI cZ ad ln s j = dr_e cI cZ ad ln (dr_pf s 1257 v) j := by
  intro j hj
  unfold dr_e
  by_cases h : j < 13
  · rw [if_pos h, if_pos h, po_1257 v j h hj]
  · rw [if_neg h, if_neg h]
    rfl
theorem gp_12_304 (E : dr_E p R s0 m args meth c cells slots A H0 D cI cZ ad L cc nL RX12 ret) {v : Int32} (hid : 12 ∈ L) (hdg : decode cc pc = .ok (.putfield 304, 3)) {Kx : dr_S → Option (Int32 × dr_S)} (kk : ∀ s2 : dr_S, dr_G p l e R s0 m args below meth c cells slots A H0 D cI cZ ad ln L nL Z (pc + 3) lv st s2 (Kx s2)) : dr_G p l e R s0 m args below meth c cells slots A H0 D cI cZ ad ln L nL Z pc lv (.int v :: .ref (ad 12) :: st) s (dr_letS (dr_pf s 1257 v) Kx) := g_put E (s := s) (v := v) (s1 := dr_pf s 1257 v) (k := 57) hid (by decide) rfl wu_12 tyX12 tyX12_ok nmX12 (by decide) wf_12_304 rfl (ty := .int) (by decide +kernel) rfl rfl (Nat.le_of_ble_eq_true rfl) rfl (pe_1257 v) hdg kk
end DR
end
section
def dr_bnd (F1 : Option (Int32 × dr_S)) (Kx : Int32 → dr_S → Option (Int32 × dr_S)) : Option (Int32 × dr_S) := F1.bind (fun q => Kx q.1 q.2)
def dr_bndv (F1 : Option (Int32 × dr_S)) (Kx : dr_S → Option (Int32 × dr_S)) : Option (Int32 × dr_S) := F1.bind (fun q => Kx q.2)
/-- no loop of the class or the reference runs longer -/
def dr_N : Nat := 1000000
theorem w_copy : Cond.static arraycopyName ∈ dr_tbl ∧ Cond.native arraycopyName ∈ dr_tbl ∧ Cond.initialized "java/lang/System" ∈ dr_tbl := ⟨dr_in (i := 446) (by decide +kernel) (by decide +kernel), dr_in (i := 447) (by decide +kernel) (by decide +kernel), dr_in (i := 81) (by decide +kernel) (by decide +kernel)⟩
theorem ml_5_copy : Cond.methodLink RX5 39 arraycopyName ∈ dr_tbl := dr_in (i := 445) (by decide +kernel) (by decide +kernel)
section DR
variable {p : Program} {l : Launch} {e : Env} {R : Room} {s0 : State} {m : MethodId} {args : Array Value} {below : List Frame} {meth : Method} {c : Code} {cells slots : Nat} {A : Nat → Prop} {H0 : Heap} {D : va_G} {cI cZ : ClassId} {ad ln : Nat → Nat} {L : List Nat} {cc : ByteArray} {nL : Nat} {own : String} {ret : Option FieldType} {Z : Int32 → dr_S → State → Prop}
variable {pc : Nat} {lv : List (Nat × Value)} {st : List Value} {s : dr_S} {F F1 F2 : Option (Int32 × dr_S)}

theorem g_cVi (E : dr_E p R s0 m args meth c cells slots A H0 D cI cZ ad L cc nL own ret) {stk : List Value} {C : String} {T : u_T} {N ci : Nat} {index n : Nat} {y : MethodName} {bytes : ByteArray} {maxL d : Nat} {ret2 : Option FieldType} (As : List Value) {Kx : Int32 → dr_S → Option (Int32 × dr_S)} (hst : stk = As.reverse ++ .ref (ad ci) :: st) (hM : dr_Mi l D cI cZ ad ln L y bytes maxL ret2 d (.ref (ad ci) :: As) s F1) (hid : ci ∈ L) (hci : ci < 13) (hc : vwCl[ci]? = some (C, T, N)) (hcy : y.cls = C) (hins : Cond.instanceMethod y ∈ dr_tbl) (hsel : Cond.selects y.cls y y ∈ dr_tbl) (hmw : dr_mw y bytes maxL ret2 n) (hn : As.length = n) (hlink : Cond.methodLink own index y ∈ dr_tbl) (hR : d + 1 ≤ R.frames ∧ 8 + (maxL + 11) + 64 * d ≤ R.locals) (hroom : (st.map fun v => v.category).sum ≤ 8) (hdg : decode cc pc = .ok (.invokevirtual index, 3)) (kk : ∀ (r1 : Int32) (s1 : dr_S), dr_G p l e R s0 m args below meth c cells slots A H0 D cI cZ ad ln L nL Z (pc + 3) lv (.int r1 :: st) s1 (Kx r1 s1)) : dr_G p l e R s0 m args below meth c cells slots A H0 D cI cZ ad ln L nL Z pc lv stk s (dr_bnd F1 Kx) := g_callVi E As hst hM hid hci hc hcy hins hsel hmw hn hlink hR hroom hdg kk
theorem g_cSi (E : dr_E p R s0 m args meth c cells slots A H0 D cI cZ ad L cc nL own ret) {stk : List Value} {index n : Nat} {y : MethodName} {bytes : ByteArray} {maxL d : Nat} {ret2 : Option FieldType} (As : List Value) {Kx : Int32 → dr_S → Option (Int32 × dr_S)} (hst : stk = As.reverse ++ st) (hM : dr_Mi l D cI cZ ad ln L y bytes maxL ret2 d As s F1) (hst2 : Cond.static y ∈ dr_tbl) (hmw : dr_mw y bytes maxL ret2 n) (hn : As.length = n) (hlink : Cond.methodLink own index y ∈ dr_tbl) (hR : d + 1 ≤ R.frames ∧ 8 + (maxL + 11) + 64 * d ≤ R.locals) (hroom : (st.map fun v => v.category).sum ≤ 8) (hdg : decode cc pc = .ok (.invokestatic index, 3)) (kk : ∀ (r1 : Int32) (s1 : dr_S), dr_G p l e R s0 m args below meth c cells slots A H0 D cI cZ ad ln L nL Z (pc + 3) lv (.int r1 :: st) s1 (Kx r1 s1)) : dr_G p l e R s0 m args below meth c cells slots A H0 D cI cZ ad ln L nL Z pc lv stk s (dr_bnd F1 Kx) := g_callSi (T := fun _ => ("", "", "", false)) (N := 0) (C := "") (ci := 0) E As hst hM hst2 hmw hn hlink hR hroom hdg kk
theorem g_cVv (E : dr_E p R s0 m args meth c cells slots A H0 D cI cZ ad L cc nL own ret) {stk : List Value} {C : String} {T : u_T} {N ci : Nat} {index n : Nat} {y : MethodName} {bytes : ByteArray} {maxL d : Nat} (As : List Value) {Kx : dr_S → Option (Int32 × dr_S)} (hst : stk = As.reverse ++ .ref (ad ci) :: st) (hM : dr_Mv l D cI cZ ad ln L y bytes maxL d (.ref (ad ci) :: As) s F1) (hid : ci ∈ L) (hci : ci < 13) (hc : vwCl[ci]? = some (C, T, N)) (hcy : y.cls = C) (hins : Cond.instanceMethod y ∈ dr_tbl) (hsel : Cond.selects y.cls y y ∈ dr_tbl) (hmw : dr_mw y bytes maxL none n) (hn : As.length = n) (hlink : Cond.methodLink own index y ∈ dr_tbl) (hR : d + 1 ≤ R.frames ∧ 8 + (maxL + 11) + 64 * d ≤ R.locals) (hroom : (st.map fun v => v.category).sum ≤ 8) (hdg : decode cc pc = .ok (.invokevirtual index, 3)) (kk : ∀ (s1 : dr_S), dr_G p l e R s0 m args below meth c cells slots A H0 D cI cZ ad ln L nL Z (pc + 3) lv st s1 (Kx s1)) : dr_G p l e R s0 m args below meth c cells slots A H0 D cI cZ ad ln L nL Z pc lv stk s (dr_bndv F1 Kx) := g_callVv (ret2 := none) E As hst hM hid hci hc hcy hins hsel hmw hn hlink hR hroom hdg kk
theorem g_cSv (E : dr_E p R s0 m args meth c cells slots A H0 D cI cZ ad L cc nL own ret) {stk : List Value} {index n : Nat} {y : MethodName} {bytes : ByteArray} {maxL d : Nat} (As : List Value) {Kx : dr_S → Option (Int32 × dr_S)} (hst : stk = As.reverse ++ st) (hM : dr_Mv l D cI cZ ad ln L y bytes maxL d As s F1) (hst2 : Cond.static y ∈ dr_tbl) (hmw : dr_mw y bytes maxL none n) (hn : As.length = n) (hlink : Cond.methodLink own index y ∈ dr_tbl) (hR : d + 1 ≤ R.frames ∧ 8 + (maxL + 11) + 64 * d ≤ R.locals) (hroom : (st.map fun v => v.category).sum ≤ 8) (hdg : decode cc pc = .ok (.invokestatic index, 3)) (kk : ∀ (s1 : dr_S), dr_G p l e R s0 m args below meth c cells slots A H0 D cI cZ ad ln L nL Z (pc + 3) lv st s1 (Kx s1)) : dr_G p l e R s0 m args below meth c cells slots A H0 D cI cZ ad ln L nL Z pc lv stk s (dr_bndv F1 Kx) := g_callSv (T := fun _ => ("", "", "", false)) (N := 0) (C := "") (ci := 0) (ret2 := none) E As hst hM hst2 hmw hn hlink hR hroom hdg kk
theorem g_none : dr_G p l e R s0 m args below meth c cells slots A H0 D cI cZ ad ln L nL Z pc lv st s none := fun _ _ h => by cases h
theorem g_tsw (E : dr_E p R s0 m args meth c cells slots A H0 D cI cZ ad L cc nL own ret) {x : Int32} {dflt lo hi : Int} {offs : Array Int} {len : Nat} (Fs : List (Option (Int32 × dr_S))) (Fd : Option (Int32 × dr_S)) (tgts : List Nat) (td : Nat) (hdg : decode cc pc = .ok (.tableswitch dflt lo hi offs, len)) (hl1 : (tgts.length : Int) = hi - lo + 1) (ht : offs.toList.map (fun o => (pc : Int) + o) = tgts.map (fun t : Nat => (t : Int))) (htd : (pc : Int) + dflt = (td : Int)) (kd : dr_G p l e R s0 m args below meth c cells slots A H0 D cI cZ ad ln L nL Z td lv st s Fd) (kk : ∀ (j : Nat) (Fj : Option (Int32 × dr_S)) (t : Nat), Fs[j]? = some Fj → tgts[j]? = some t → dr_G p l e R s0 m args below meth c cells slots A H0 D cI cZ ad ln L nL Z t lv st s Fj) : dr_G p l e R s0 m args below meth c cells slots A H0 D cI cZ ad ln L nL Z pc lv (.int x :: st) s (dr_sw x lo hi Fs Fd) := by
  intro r s' hF H locs ls hP hS hl
  unfold dr_sw at hF
  split at hF
  · next h => exact lv_tableOut E.1 E.2.1 hdg h htd (kd r s' hF H locs ls hP hS hl)
  · next h =>
    rw [List.getD_eq_getElem?_getD] at hF
    cases hj : Fs[(x.toInt - lo).toNat]? with
    | none => rw [hj] at hF; cases hF
    | some Fj =>
      rw [hj] at hF
      have hlt : (x.toInt - lo).toNat < tgts.length := by omega
      obtain ⟨t, htj⟩ : ∃ t, tgts[(x.toInt - lo).toNat]? = some t := ⟨_, List.getElem?_eq_getElem hlt⟩
      have h2 : (offs.toList.map (fun o => (pc : Int) + o))[(x.toInt - lo).toNat]? = some (t : Int) := by rw [ht, List.getElem?_map, htj]; rfl
      rw [List.getElem?_map] at h2
      cases ho : offs.toList[(x.toInt - lo).toNat]? with
      | none => rw [ho] at h2; cases h2
      | some off =>
        rw [ho] at h2
        have h3 : (pc : Int) + off = (t : Int) := Option.some.inj h2
        exact lv_tableIn E.1 E.2.1 hdg (fun q => h (Or.inl q)) (fun q => h (Or.inr q)) (by rw [← Array.getElem?_toList]; exact ho) h3 (kk _ Fj t hj htj r s' hF H locs ls hP hS hl)
theorem g_copy (E : dr_E p R s0 m args meth c cells slots A H0 D cI cZ ad L cc nL own ret) {index a0 a1 : Nat} {sp dp n : Int32} (h0 : a0 ∈ L) (h1 : a1 ∈ L) (hb0 : 13 ≤ a0) (hb1 : 13 ≤ a1) (hz0 : dr_z a0 = false) (hz1 : dr_z a1 = false) (hlink : Cond.methodLink own index arraycopyName ∈ dr_tbl) (hR : 1 ≤ R.frames ∧ (st.map fun v => v.category).sum + (nativeFrameWords "java/lang/System" "arraycopy" 5 + 11) ≤ R.locals) (hdg : decode cc pc = .ok (.invokestatic index, 3)) {Kx : dr_S → Option (Int32 × dr_S)} (kk : ∀ s1 : dr_S, dr_G p l e R s0 m args below meth c cells slots A H0 D cI cZ ad ln L nL Z (pc + 3) lv st s1 (Kx s1)) : dr_G p l e R s0 m args below meth c cells slots A H0 D cI cZ ad ln L nL Z pc lv (.int n :: .int dp :: .ref (ad a1) :: .int sp :: .ref (ad a0) :: st) s ((dr_cp ln s a0 a1 sp dp n).bind Kx) := by
  intro r s' hF H locs ls hP hS hl
  obtain ⟨s1, hv, hK⟩ := Option.bind_eq_some_iff.mp hF
  unfold dr_cp at hv
  split at hv
  · cases hv
  · next hin =>
    cases hv
    obtain ⟨q0, hq0⟩ := List.getElem?_of_mem h0
    obtain ⟨q1, hq1⟩ := List.getElem?_of_mem h1
    have hD := dr_wD (cI := cI) (cZ := cZ) (ln := ln) s E.2.2.2.2.2.2.2.2.1 E.2.2.2.2.2.2.2.2.2.1
    have hts := E.2.2.2.2.2.2.1
    refine va_copyi E.1 E.2.1 (E.2.2.1.trans hl.1.symm) E.2.2.2.2.2.1 (hts _ hlink) (hts _ w_copy.2.1) (hts _ w_copy.1) (hts _ w_copy.2.2) E.2.2.2.2.2.2.2.1 hP hD hS q0 q1 0 0 ((dr_wget hq0).trans (by rw [dr_eI hb0 hz0])) ((dr_wget hq1).trans (by rw [dr_eI hb1 hz1])) rfl rfl rfl (fun q => hin (Or.inl q)) (fun q => hin (Or.inr (Or.inl q))) (fun q => hin (Or.inr (Or.inr (Or.inl q)))) (Nat.le_of_not_lt fun q => hin (Or.inr (Or.inr (Or.inr (Or.inl q))))) (Nat.le_of_not_lt fun q => hin (Or.inr (Or.inr (Or.inr (Or.inr q))))) (fun i _ => rfl) hR.1 hR.2 hdg (fun H1 locs1 hP1 hD1 hS1 => ?_)
    refine kk _ r s' hK H1 locs1 ls ?_ hS1 hl
    have e := dr_wset (cI := cI) (cZ := cZ) (ad := ad) (ln := ln) (s := s) (s' := dr_set s a1 (va_cpy (s.1 a0) (s.1 a1) sp.toNatClampNeg dp.toNatClampNeg n.toNatClampNeg)) E.2.2.2.2.2.2.2.2.1.1 hq1 (fun j _ hj => dr_set_e j hj)
    rw [← e, dr_eI hb1 hz1]
    simp only [dr_set, if_true]
    exact hP1
end DR
end
section
def dr_D : Nat := 12
abbrev nd_0 : List Nat := [0, 1, 2, 4, 5, 13, 14, 15, 16, 17, 18, 19]
abbrev nd_4 : List Nat := [2, 4, 5, 14, 15, 16, 17, 18, 19]
abbrev nd_2 : List Nat := [2, 14, 15, 16]
abbrev nd_1 : List Nat := [1, 2, 4, 5, 13, 14, 15, 16, 17, 18, 19]
abbrev nd_5 : List Nat := [5, 17, 18, 19]
abbrev nd_J9 : List Nat := []
abbrev nd_3 : List Nat := [2, 3, 14, 15, 16]
abbrev nd_6 : List Nat := [2, 6, 14, 15, 16]
abbrev nd_7 : List Nat := [2, 6, 7, 14, 15, 16, 20, 21, 22, 23, 24, 25, 26]
abbrev nd_J7 : List Nat := [26]
abbrev nd_8 : List Nat := [2, 3, 4, 5, 6, 7, 8, 9, 10, 14, 15, 16, 17, 18, 19, 20, 21, 22, 23, 24, 25, 26, 27]
abbrev nd_9 : List Nat := [2, 4, 5, 9, 14, 15, 16, 17, 18, 19]
abbrev nd_10 : List Nat := [2, 3, 4, 5, 6, 10, 14, 15, 16, 17, 18, 19]
abbrev nd_11 : List Nat := [0, 1, 2, 3, 4, 5, 6, 7, 9, 10, 11, 13, 14, 15, 16, 17, 18, 19, 20, 21, 22, 23, 24, 25, 26]
abbrev nd_12 : List Nat := [12, 28, 29, 30, 31, 32, 33, 34, 35, 36, 37, 38, 39, 40, 41, 42, 43, 44, 45, 46, 47, 48, 49, 50, 51, 52, 53, 54, 55, 56, 57, 58, 59, 60, 61, 62, 63, 64, 65, 66, 67, 68, 69, 70, 71, 72, 73, 74]
theorem ns_J7_7 : ∀ x ∈ nd_J7, x ∈ nd_7 := by decide
theorem ns_J9_2 : ∀ x ∈ nd_J9, x ∈ nd_2 := by decide
theorem ns_J9_5 : ∀ x ∈ nd_J9, x ∈ nd_5 := by decide
theorem ns_0_11 : ∀ x ∈ nd_0, x ∈ nd_11 := by decide
theorem ns_1_0 : ∀ x ∈ nd_1, x ∈ nd_0 := by decide
theorem ns_1_11 : ∀ x ∈ nd_1, x ∈ nd_11 := by decide
theorem ns_10_11 : ∀ x ∈ nd_10, x ∈ nd_11 := by decide
theorem ns_10_8 : ∀ x ∈ nd_10, x ∈ nd_8 := by decide
theorem ns_2_3 : ∀ x ∈ nd_2, x ∈ nd_3 := by decide
theorem ns_2_4 : ∀ x ∈ nd_2, x ∈ nd_4 := by decide
theorem ns_2_6 : ∀ x ∈ nd_2, x ∈ nd_6 := by decide
theorem ns_2_8 : ∀ x ∈ nd_2, x ∈ nd_8 := by decide
theorem ns_3_10 : ∀ x ∈ nd_3, x ∈ nd_10 := by decide
theorem ns_3_11 : ∀ x ∈ nd_3, x ∈ nd_11 := by decide
theorem ns_3_8 : ∀ x ∈ nd_3, x ∈ nd_8 := by decide
theorem ns_4_0 : ∀ x ∈ nd_4, x ∈ nd_0 := by decide
theorem ns_4_1 : ∀ x ∈ nd_4, x ∈ nd_1 := by decide
theorem ns_4_10 : ∀ x ∈ nd_4, x ∈ nd_10 := by decide
theorem ns_4_11 : ∀ x ∈ nd_4, x ∈ nd_11 := by decide
theorem ns_4_9 : ∀ x ∈ nd_4, x ∈ nd_9 := by decide
theorem ns_5_1 : ∀ x ∈ nd_5, x ∈ nd_1 := by decide
theorem ns_5_11 : ∀ x ∈ nd_5, x ∈ nd_11 := by decide
theorem ns_5_4 : ∀ x ∈ nd_5, x ∈ nd_4 := by decide
theorem ns_5_9 : ∀ x ∈ nd_5, x ∈ nd_9 := by decide
theorem ns_6_10 : ∀ x ∈ nd_6, x ∈ nd_10 := by decide
theorem ns_6_11 : ∀ x ∈ nd_6, x ∈ nd_11 := by decide
theorem ns_6_7 : ∀ x ∈ nd_6, x ∈ nd_7 := by decide
theorem ns_6_8 : ∀ x ∈ nd_6, x ∈ nd_8 := by decide
theorem ns_7_11 : ∀ x ∈ nd_7, x ∈ nd_11 := by decide
theorem ns_7_8 : ∀ x ∈ nd_7, x ∈ nd_8 := by decide
theorem ns_9_11 : ∀ x ∈ nd_9, x ∈ nd_11 := by decide
theorem ns_9_8 : ∀ x ∈ nd_9, x ∈ nd_8 := by decide
theorem g_eqL {p : Program} {l : Launch} {e : Env} {R : Room} {s0 : State} {m : MethodId} {args : Array Value} {below : List Frame} {meth : Method} {c : Code} {cells slots : Nat} {A : Nat → Prop} {H0 : Heap} {D : va_G} {cI cZ : ClassId} {ad ln : Nat → Nat} {L : List Nat} {nL : Nat} {Z : Int32 → dr_S → State → Prop} {pc : Nat} {lv lv' : List (Nat × Value)} {st : List Value} {s : dr_S} {F : Option (Int32 × dr_S)} (h : lv = lv') (kk : dr_G p l e R s0 m args below meth c cells slots A H0 D cI cZ ad ln L nL Z pc lv' st s F) : dr_G p l e R s0 m args below meth c cells slots A H0 D cI cZ ad ln L nL Z pc lv st s F := h ▸ kk
end
section
theorem dX2_get_0 : decode cX2_get 0 = .ok (.iload_n 1, 1) := by decide +kernel
theorem dX2_get_1 : decode cX2_get 1 = .ok (.ifCond .lt 21, 3) := by decide +kernel
theorem dX2_get_4 : decode cX2_get 4 = .ok (.iload_n 1, 1) := by decide +kernel
theorem dX2_get_5 : decode cX2_get 5 = .ok (.aload_n 0, 1) := by decide +kernel
theorem dX2_get_6 : decode cX2_get 6 = .ok (.getfield 32, 3) := by decide +kernel
theorem dX2_get_9 : decode cX2_get 9 = .ok (.arraylength, 1) := by decide +kernel
theorem dX2_get_10 : decode cX2_get 10 = .ok (.if_icmp .ge 12, 3) := by decide +kernel
theorem dX2_get_13 : decode cX2_get 13 = .ok (.aload_n 0, 1) := by decide +kernel
theorem dX2_get_14 : decode cX2_get 14 = .ok (.getfield 32, 3) := by decide +kernel
theorem dX2_get_17 : decode cX2_get 17 = .ok (.iload_n 1, 1) := by decide +kernel
theorem dX2_get_18 : decode cX2_get 18 = .ok (.iaload, 1) := by decide +kernel
theorem dX2_get_19 : decode cX2_get 19 = .ok (.goto 4, 3) := by decide +kernel
theorem dX2_get_22 : decode cX2_get 22 = .ok (.iconst (-1), 1) := by decide +kernel
theorem dX2_get_23 : decode cX2_get 23 = .ok (.ireturn, 1) := by decide +kernel
def f_X2_get (ln : Nat → Nat) (x1 : Int32) (s : dr_S) : Option (Int32 × dr_S) := (if x1 < 0 then some ((-1), s) else (if (Int32.ofNat (ln 14)) ≤ x1 then some ((-1), s) else (dr_rd ln s 14 x1).bind (fun v1 => some (v1, s))))
section
variable {p : Program} {l : Launch} {e : Env} {s0 : State} {m : MethodId} {args : Array Value} {below : List Frame} {meth : Method} {c : Code} {A : Nat → Prop} {D : va_G} {cI cZ : ClassId} {ad ln : Nat → Nat} {L : List Nat}
set_option maxHeartbeats 4000000 in
set_option maxRecDepth 20000 in
theorem c_X2_get (hap : dr_ap ad L) (hN : ∀ x ∈ nd_2, x ∈ L) (x1 : Int32) (s : dr_S) : dr_Mi l D cI cZ ad ln L yX2_get cX2_get 2 (some .int) 0 [.ref (ad 2), .int x1] s (f_X2_get ln x1 s) := by
  refine dr_meti (own := RX2) (by decide) rfl (Nat.le_of_ble_eq_true rfl) hap ?_
  intro p e s0 m args below meth c A E
  unfold f_X2_get
  refine g_eqL (lv' := [(0, .ref (ad 2)), (1, .int x1)]) rfl ?_
  refine g_iload_n E dX2_get_0 1 rfl ?_
  refine g_if_lt E 22 dX2_get_1 (by decide) ?_ ?_
  · refine g_iconst E (v := (-1)) dX2_get_22 (by decide) ?_
    exact g_iret E dX2_get_23
  · refine g_iload_n E dX2_get_4 1 rfl ?_
    refine g_aload_n E dX2_get_5 0 rfl ?_
    refine gg_2_32 E (hN 2 (by decide)) dX2_get_6 ?_
    refine g_alen E (hN 14 (by decide)) (by decide) rfl dX2_get_9 ?_
    refine g_icmp_ge E 22 dX2_get_10 (by decide) ?_ ?_
    · refine g_iconst E (v := (-1)) dX2_get_22 (by decide) ?_
      exact g_iret E dX2_get_23
    · refine g_aload_n E dX2_get_13 0 rfl ?_
      refine gg_2_32 E (hN 2 (by decide)) dX2_get_14 ?_
      refine g_iload_n E dX2_get_17 1 rfl ?_
      refine g_iaload E (hN 14 (by decide)) (by decide) rfl dX2_get_18 (fun v1 => ?_)
      refine g_goto E 23 dX2_get_19 (by decide) ?_
      exact g_iret E dX2_get_23
end

theorem dX4_top_0 : decode cX4_top 0 = .ok (.aload_n 0, 1) := by decide +kernel
theorem dX4_top_1 : decode cX4_top 1 = .ok (.getfield 9, 3) := by decide +kernel
theorem dX4_top_4 : decode cX4_top 4 = .ok (.aload_n 0, 1) := by decide +kernel
theorem dX4_top_5 : decode cX4_top 5 = .ok (.getfield 33, 3) := by decide +kernel
theorem dX4_top_8 : decode cX4_top 8 = .ok (.invokevirtual 49, 3) := by decide +kernel
theorem dX4_top_11 : decode cX4_top 11 = .ok (.ireturn, 1) := by decide +kernel
def f_X4_top (ln : Nat → Nat) (s : dr_S) : Option (Int32 × dr_S) := dr_bnd (f_X2_get ln ((s.2 405)) s) (fun r2 s1 => some (r2, s1))
section
variable {p : Program} {l : Launch} {e : Env} {s0 : State} {m : MethodId} {args : Array Value} {below : List Frame} {meth : Method} {c : Code} {A : Nat → Prop} {D : va_G} {cI cZ : ClassId} {ad ln : Nat → Nat} {L : List Nat}
set_option maxHeartbeats 4000000 in
set_option maxRecDepth 20000 in
theorem c_X4_top (hap : dr_ap ad L) (hN : ∀ x ∈ nd_4, x ∈ L) (s : dr_S) : dr_Mi l D cI cZ ad ln L yX4_top cX4_top 1 (some .int) 1 [.ref (ad 4)] s (f_X4_top ln  s) := by
  refine dr_meti (own := RX4) (by decide) rfl (Nat.le_of_ble_eq_true rfl) hap ?_
  intro p e s0 m args below meth c A E
  unfold f_X4_top
  refine g_eqL (lv' := [(0, .ref (ad 4))]) rfl ?_
  refine g_aload_n E dX4_top_0 0 rfl ?_
  refine gg_4_9 E (hN 4 (by decide)) dX4_top_1 ?_
  refine g_aload_n E dX4_top_4 0 rfl ?_
  refine gg_4_33 E (hN 4 (by decide)) dX4_top_5 ?_
  refine g_cVi E [.int (s.2 405)] rfl (c_X2_get hap (fun x h => hN x (ns_2_4 x h)) ((s.2 405)) s) (hN 2 (by decide)) (by decide) rfl rfl mi_X2_get msl_X2_get mw_X2_get rfl ml_4_49 ⟨Nat.le_of_ble_eq_true rfl, Nat.le_of_ble_eq_true rfl⟩ (Nat.le_of_ble_eq_true rfl) dX4_top_8 (fun r2 s1 => ?_)
  exact g_iret E dX4_top_11
end

theorem dX4_get_0 : decode cX4_get 0 = .ok (.aload_n 0, 1) := by decide +kernel
theorem dX4_get_1 : decode cX4_get 1 = .ok (.getfield 9, 3) := by decide +kernel
theorem dX4_get_4 : decode cX4_get 4 = .ok (.iload_n 1, 1) := by decide +kernel
theorem dX4_get_5 : decode cX4_get 5 = .ok (.aload_n 0, 1) := by decide +kernel
theorem dX4_get_6 : decode cX4_get 6 = .ok (.getfield 27, 3) := by decide +kernel
theorem dX4_get_9 : decode cX4_get 9 = .ok (.imul, 1) := by decide +kernel
theorem dX4_get_10 : decode cX4_get 10 = .ok (.iload_n 2, 1) := by decide +kernel
theorem dX4_get_11 : decode cX4_get 11 = .ok (.iadd, 1) := by decide +kernel
theorem dX4_get_12 : decode cX4_get 12 = .ok (.invokevirtual 49, 3) := by decide +kernel
theorem dX4_get_15 : decode cX4_get 15 = .ok (.ireturn, 1) := by decide +kernel
def f_X4_get (ln : Nat → Nat) (x1 : Int32) (x2 : Int32) (s : dr_S) : Option (Int32 × dr_S) := dr_bnd (f_X2_get ln (((x1 * (s.2 403)) + x2)) s) (fun r2 s1 => some (r2, s1))
section
variable {p : Program} {l : Launch} {e : Env} {s0 : State} {m : MethodId} {args : Array Value} {below : List Frame} {meth : Method} {c : Code} {A : Nat → Prop} {D : va_G} {cI cZ : ClassId} {ad ln : Nat → Nat} {L : List Nat}
set_option maxHeartbeats 4000000 in
set_option maxRecDepth 20000 in
theorem c_X4_get (hap : dr_ap ad L) (hN : ∀ x ∈ nd_4, x ∈ L) (x1 : Int32) (x2 : Int32) (s : dr_S) : dr_Mi l D cI cZ ad ln L yX4_get cX4_get 3 (some .int) 1 [.ref (ad 4), .int x1, .int x2] s (f_X4_get ln x1 x2 s) := by
  refine dr_meti (own := RX4) (by decide) rfl (Nat.le_of_ble_eq_true rfl) hap ?_
  intro p e s0 m args below meth c A E
  unfold f_X4_get
  refine g_eqL (lv' := [(0, .ref (ad 4)), (1, .int x1), (2, .int x2)]) rfl ?_
  refine g_aload_n E dX4_get_0 0 rfl ?_
  refine gg_4_9 E (hN 4 (by decide)) dX4_get_1 ?_
  refine g_iload_n E dX4_get_4 1 rfl ?_
  refine g_aload_n E dX4_get_5 0 rfl ?_
  refine gg_4_27 E (hN 4 (by decide)) dX4_get_6 ?_
  refine g_imul E dX4_get_9 ?_
  refine g_iload_n E dX4_get_10 2 rfl ?_
  refine g_iadd E dX4_get_11 ?_
  refine g_cVi E [.int ((x1 * (s.2 403)) + x2)] rfl (c_X2_get hap (fun x h => hN x (ns_2_4 x h)) (((x1 * (s.2 403)) + x2)) s) (hN 2 (by decide)) (by decide) rfl rfl mi_X2_get msl_X2_get mw_X2_get rfl ml_4_49 ⟨Nat.le_of_ble_eq_true rfl, Nat.le_of_ble_eq_true rfl⟩ (Nat.le_of_ble_eq_true rfl) dX4_get_12 (fun r2 s1 => ?_)
  exact g_iret E dX4_get_15
end

theorem dX4_inUse_0 : decode cX4_inUse 0 = .ok (.aload_n 0, 1) := by decide +kernel
theorem dX4_inUse_1 : decode cX4_inUse 1 = .ok (.getfield 9, 3) := by decide +kernel
theorem dX4_inUse_4 : decode cX4_inUse 4 = .ok (.aload_n 0, 1) := by decide +kernel
theorem dX4_inUse_5 : decode cX4_inUse 5 = .ok (.getfield 36, 3) := by decide +kernel
theorem dX4_inUse_8 : decode cX4_inUse 8 = .ok (.invokevirtual 49, 3) := by decide +kernel
theorem dX4_inUse_11 : decode cX4_inUse 11 = .ok (.ireturn, 1) := by decide +kernel
def f_X4_inUse (ln : Nat → Nat) (s : dr_S) : Option (Int32 × dr_S) := dr_bnd (f_X2_get ln ((s.2 406)) s) (fun r2 s1 => some (r2, s1))
section
variable {p : Program} {l : Launch} {e : Env} {s0 : State} {m : MethodId} {args : Array Value} {below : List Frame} {meth : Method} {c : Code} {A : Nat → Prop} {D : va_G} {cI cZ : ClassId} {ad ln : Nat → Nat} {L : List Nat}
set_option maxHeartbeats 4000000 in
set_option maxRecDepth 20000 in
theorem c_X4_inUse (hap : dr_ap ad L) (hN : ∀ x ∈ nd_4, x ∈ L) (s : dr_S) : dr_Mi l D cI cZ ad ln L yX4_inUse cX4_inUse 1 (some .int) 1 [.ref (ad 4)] s (f_X4_inUse ln  s) := by
  refine dr_meti (own := RX4) (by decide) rfl (Nat.le_of_ble_eq_true rfl) hap ?_
  intro p e s0 m args below meth c A E
  unfold f_X4_inUse
  refine g_eqL (lv' := [(0, .ref (ad 4))]) rfl ?_
  refine g_aload_n E dX4_inUse_0 0 rfl ?_
  refine gg_4_9 E (hN 4 (by decide)) dX4_inUse_1 ?_
  refine g_aload_n E dX4_inUse_4 0 rfl ?_
  refine gg_4_36 E (hN 4 (by decide)) dX4_inUse_5 ?_
  refine g_cVi E [.int (s.2 406)] rfl (c_X2_get hap (fun x h => hN x (ns_2_4 x h)) ((s.2 406)) s) (hN 2 (by decide)) (by decide) rfl rfl mi_X2_get msl_X2_get mw_X2_get rfl ml_4_49 ⟨Nat.le_of_ble_eq_true rfl, Nat.le_of_ble_eq_true rfl⟩ (Nat.le_of_ble_eq_true rfl) dX4_inUse_8 (fun r2 s1 => ?_)
  exact g_iret E dX4_inUse_11
end

theorem dX2_put_0 : decode cX2_put 0 = .ok (.iload_n 1, 1) := by decide +kernel
theorem dX2_put_1 : decode cX2_put 1 = .ok (.ifCond .lt 22, 3) := by decide +kernel
theorem dX2_put_4 : decode cX2_put 4 = .ok (.iload_n 1, 1) := by decide +kernel
theorem dX2_put_5 : decode cX2_put 5 = .ok (.aload_n 0, 1) := by decide +kernel
theorem dX2_put_6 : decode cX2_put 6 = .ok (.getfield 32, 3) := by decide +kernel
theorem dX2_put_9 : decode cX2_put 9 = .ok (.arraylength, 1) := by decide +kernel
theorem dX2_put_10 : decode cX2_put 10 = .ok (.if_icmp .ge 13, 3) := by decide +kernel
theorem dX2_put_13 : decode cX2_put 13 = .ok (.aload_n 0, 1) := by decide +kernel
theorem dX2_put_14 : decode cX2_put 14 = .ok (.getfield 32, 3) := by decide +kernel
theorem dX2_put_17 : decode cX2_put 17 = .ok (.iload_n 1, 1) := by decide +kernel
theorem dX2_put_18 : decode cX2_put 18 = .ok (.iaload, 1) := by decide +kernel
theorem dX2_put_19 : decode cX2_put 19 = .ok (.iload_n 2, 1) := by decide +kernel
theorem dX2_put_20 : decode cX2_put 20 = .ok (.if_icmp .ne 4, 3) := by decide +kernel
theorem dX2_put_23 : decode cX2_put 23 = .ok (.return_, 1) := by decide +kernel
theorem dX2_put_24 : decode cX2_put 24 = .ok (.aload_n 0, 1) := by decide +kernel
theorem dX2_put_25 : decode cX2_put 25 = .ok (.getfield 22, 3) := by decide +kernel
theorem dX2_put_28 : decode cX2_put 28 = .ok (.ifCond .eq 56, 3) := by decide +kernel
theorem dX2_put_31 : decode cX2_put 31 = .ok (.aload_n 0, 1) := by decide +kernel
theorem dX2_put_32 : decode cX2_put 32 = .ok (.getfield 18, 3) := by decide +kernel
theorem dX2_put_35 : decode cX2_put 35 = .ok (.ifCond .lt 13, 3) := by decide +kernel
theorem dX2_put_38 : decode cX2_put 38 = .ok (.aload_n 0, 1) := by decide +kernel
theorem dX2_put_39 : decode cX2_put 39 = .ok (.getfield 18, 3) := by decide +kernel
theorem dX2_put_42 : decode cX2_put 42 = .ok (.sipush 1024, 3) := by decide +kernel
theorem dX2_put_45 : decode cX2_put 45 = .ok (.if_icmp .lt 4, 3) := by decide +kernel
theorem dX2_put_48 : decode cX2_put 48 = .ok (.return_, 1) := by decide +kernel
theorem dX2_put_49 : decode cX2_put 49 = .ok (.aload_n 0, 1) := by decide +kernel
theorem dX2_put_50 : decode cX2_put 50 = .ok (.getfield 11, 3) := by decide +kernel
theorem dX2_put_53 : decode cX2_put 53 = .ok (.aload_n 0, 1) := by decide +kernel
theorem dX2_put_54 : decode cX2_put 54 = .ok (.getfield 18, 3) := by decide +kernel
theorem dX2_put_57 : decode cX2_put 57 = .ok (.iload_n 1, 1) := by decide +kernel
theorem dX2_put_58 : decode cX2_put 58 = .ok (.iastore, 1) := by decide +kernel
theorem dX2_put_59 : decode cX2_put 59 = .ok (.aload_n 0, 1) := by decide +kernel
theorem dX2_put_60 : decode cX2_put 60 = .ok (.getfield 15, 3) := by decide +kernel
theorem dX2_put_63 : decode cX2_put 63 = .ok (.aload_n 0, 1) := by decide +kernel
theorem dX2_put_64 : decode cX2_put 64 = .ok (.getfield 18, 3) := by decide +kernel
theorem dX2_put_67 : decode cX2_put 67 = .ok (.aload_n 0, 1) := by decide +kernel
theorem dX2_put_68 : decode cX2_put 68 = .ok (.getfield 32, 3) := by decide +kernel
theorem dX2_put_71 : decode cX2_put 71 = .ok (.iload_n 1, 1) := by decide +kernel
theorem dX2_put_72 : decode cX2_put 72 = .ok (.iaload, 1) := by decide +kernel
theorem dX2_put_73 : decode cX2_put 73 = .ok (.iastore, 1) := by decide +kernel
theorem dX2_put_74 : decode cX2_put 74 = .ok (.aload_n 0, 1) := by decide +kernel
theorem dX2_put_75 : decode cX2_put 75 = .ok (.dup, 1) := by decide +kernel
theorem dX2_put_76 : decode cX2_put 76 = .ok (.getfield 18, 3) := by decide +kernel
theorem dX2_put_79 : decode cX2_put 79 = .ok (.iconst 1, 1) := by decide +kernel
theorem dX2_put_80 : decode cX2_put 80 = .ok (.iadd, 1) := by decide +kernel
theorem dX2_put_81 : decode cX2_put 81 = .ok (.putfield 18, 3) := by decide +kernel
theorem dX2_put_84 : decode cX2_put 84 = .ok (.aload_n 0, 1) := by decide +kernel
theorem dX2_put_85 : decode cX2_put 85 = .ok (.getfield 32, 3) := by decide +kernel
theorem dX2_put_88 : decode cX2_put 88 = .ok (.iload_n 1, 1) := by decide +kernel
theorem dX2_put_89 : decode cX2_put 89 = .ok (.iload_n 2, 1) := by decide +kernel
theorem dX2_put_90 : decode cX2_put 90 = .ok (.iastore, 1) := by decide +kernel
theorem dX2_put_91 : decode cX2_put 91 = .ok (.return_, 1) := by decide +kernel
def f_X2_put_p84 (ln : Nat → Nat) (x1 : Int32) (x2 : Int32) (s : dr_S) : Option (Int32 × dr_S) := (dr_wr ln s 14 x1 x2).bind (fun s6 => some (0, s6))
def f_X2_put (ln : Nat → Nat) (x1 : Int32) (x2 : Int32) (s : dr_S) : Option (Int32 × dr_S) := (if x1 < 0 then some (0, s) else (if (Int32.ofNat (ln 14)) ≤ x1 then some (0, s) else (dr_rd ln s 14 x1).bind (fun v1 => (if v1 = x2 then some (0, s) else (if (s.2 204) = 0 then (f_X2_put_p84 ln x1 x2 s) else (if (s.2 203) < 0 then some (0, s) else (if (s.2 203) < 1024 then (dr_wr ln s 15 (s.2 203) x1).bind (fun s2 => (dr_rd ln s2 14 x1).bind (fun v3 => (dr_wr ln s2 16 (s2.2 203) v3).bind (fun s4 => dr_letS (dr_pf s4 203 ((s4.2 203) + 1)) (fun s5 => (f_X2_put_p84 ln x1 x2 s5))))) else some (0, s))))))))
section
variable {p : Program} {l : Launch} {e : Env} {s0 : State} {m : MethodId} {args : Array Value} {below : List Frame} {meth : Method} {c : Code} {A : Nat → Prop} {D : va_G} {cI cZ : ClassId} {ad ln : Nat → Nat} {L : List Nat}
set_option maxHeartbeats 4000000 in
set_option maxRecDepth 20000 in
theorem w_X2_put_p84 (E : dr_E p (dr_rm 0) s0 m args meth c 0 0 A s0.heap D cI cZ ad L cX2_put 3 RX2 none) (hap : dr_ap ad L) (hN : ∀ x ∈ nd_2, x ∈ L) : ∀ (x1 : Int32) (x2 : Int32) (s : dr_S), dr_G p l e (dr_rm 0) s0 m args below meth c 0 0 A s0.heap D cI cZ ad ln L 3 (dr_Zv D cI cZ ad ln L A below args s0 0 0) 84 [(0, .ref (ad 2)), (1, .int x1), (2, .int x2)] [] s (f_X2_put_p84 ln x1 x2 s) := by
  intro x1 x2 s
  unfold f_X2_put_p84
  refine g_aload_n E dX2_put_84 0 rfl ?_
  refine gg_2_32 E (hN 2 (by decide)) dX2_put_85 ?_
  refine g_iload_n E dX2_put_88 1 rfl ?_
  refine g_iload_n E dX2_put_89 2 rfl ?_
  refine g_iastore E (hN 14 (by decide)) (by decide) rfl dX2_put_90 (fun s6 => ?_)
  exact g_vret E dX2_put_91
set_option maxHeartbeats 4000000 in
set_option maxRecDepth 20000 in
theorem c_X2_put (hap : dr_ap ad L) (hN : ∀ x ∈ nd_2, x ∈ L) (x1 : Int32) (x2 : Int32) (s : dr_S) : dr_Mv l D cI cZ ad ln L yX2_put cX2_put 3 0 [.ref (ad 2), .int x1, .int x2] s (f_X2_put ln x1 x2 s) := by
  refine dr_metv (own := RX2) (by decide) rfl (Nat.le_of_ble_eq_true rfl) hap ?_
  intro p e s0 m args below meth c A E
  unfold f_X2_put
  refine g_eqL (lv' := [(0, .ref (ad 2)), (1, .int x1), (2, .int x2)]) rfl ?_
  refine g_iload_n E dX2_put_0 1 rfl ?_
  refine g_if_lt E 23 dX2_put_1 (by decide) ?_ ?_
  · exact g_vret E dX2_put_23
  · refine g_iload_n E dX2_put_4 1 rfl ?_
    refine g_aload_n E dX2_put_5 0 rfl ?_
    refine gg_2_32 E (hN 2 (by decide)) dX2_put_6 ?_
    refine g_alen E (hN 14 (by decide)) (by decide) rfl dX2_put_9 ?_
    refine g_icmp_ge E 23 dX2_put_10 (by decide) ?_ ?_
    · exact g_vret E dX2_put_23
    · refine g_aload_n E dX2_put_13 0 rfl ?_
      refine gg_2_32 E (hN 2 (by decide)) dX2_put_14 ?_
      refine g_iload_n E dX2_put_17 1 rfl ?_
      refine g_iaload E (hN 14 (by decide)) (by decide) rfl dX2_put_18 (fun v1 => ?_)
      refine g_iload_n E dX2_put_19 2 rfl ?_
      refine g_icmp_ne E 24 dX2_put_20 (by decide) ?_ ?_
      · refine g_aload_n E dX2_put_24 0 rfl ?_
        refine gg_2_22 E (hN 2 (by decide)) dX2_put_25 ?_
        refine g_if_eq E 84 dX2_put_28 (by decide) ?_ ?_
        · refine g_sub [0, 1, 2] rfl ?_
          exact w_X2_put_p84 E hap hN x1 x2 s
        · refine g_aload_n E dX2_put_31 0 rfl ?_
          refine gg_2_18 E (hN 2 (by decide)) dX2_put_32 ?_
          refine g_if_lt E 48 dX2_put_35 (by decide) ?_ ?_
          · exact g_vret E dX2_put_48
          · refine g_aload_n E dX2_put_38 0 rfl ?_
            refine gg_2_18 E (hN 2 (by decide)) dX2_put_39 ?_
            refine g_sipush E (v := 1024) dX2_put_42 (by decide) ?_
            refine g_icmp_lt E 49 dX2_put_45 (by decide) ?_ ?_
            · refine g_aload_n E dX2_put_49 0 rfl ?_
              refine gg_2_11 E (hN 2 (by decide)) dX2_put_50 ?_
              refine g_aload_n E dX2_put_53 0 rfl ?_
              refine gg_2_18 E (hN 2 (by decide)) dX2_put_54 ?_
              refine g_iload_n E dX2_put_57 1 rfl ?_
              refine g_iastore E (hN 15 (by decide)) (by decide) rfl dX2_put_58 (fun s2 => ?_)
              refine g_aload_n E dX2_put_59 0 rfl ?_
              refine gg_2_15 E (hN 2 (by decide)) dX2_put_60 ?_
              refine g_aload_n E dX2_put_63 0 rfl ?_
              refine gg_2_18 E (hN 2 (by decide)) dX2_put_64 ?_
              refine g_aload_n E dX2_put_67 0 rfl ?_
              refine gg_2_32 E (hN 2 (by decide)) dX2_put_68 ?_
              refine g_iload_n E dX2_put_71 1 rfl ?_
              refine g_iaload E (hN 14 (by decide)) (by decide) rfl dX2_put_72 (fun v3 => ?_)
              refine g_iastore E (hN 16 (by decide)) (by decide) rfl dX2_put_73 (fun s4 => ?_)
              refine g_aload_n E dX2_put_74 0 rfl ?_
              refine g_dup E dX2_put_75 rfl ?_
              refine gg_2_18 E (hN 2 (by decide)) dX2_put_76 ?_
              refine g_iconst E (v := 1) dX2_put_79 (by decide) ?_
              refine g_iadd E dX2_put_80 ?_
              refine gp_2_18 E (hN 2 (by decide)) dX2_put_81 (fun s5 => ?_)
              refine g_sub [0, 1, 2] rfl ?_
              exact w_X2_put_p84 E hap hN x1 x2 s5
            · exact g_vret E dX2_put_48
      · exact g_vret E dX2_put_23
end

theorem dX4_set_0 : decode cX4_set 0 = .ok (.aload_n 0, 1) := by decide +kernel
theorem dX4_set_1 : decode cX4_set 1 = .ok (.getfield 9, 3) := by decide +kernel
theorem dX4_set_4 : decode cX4_set 4 = .ok (.iload_n 1, 1) := by decide +kernel
theorem dX4_set_5 : decode cX4_set 5 = .ok (.aload_n 0, 1) := by decide +kernel
theorem dX4_set_6 : decode cX4_set 6 = .ok (.getfield 27, 3) := by decide +kernel
theorem dX4_set_9 : decode cX4_set 9 = .ok (.imul, 1) := by decide +kernel
theorem dX4_set_10 : decode cX4_set 10 = .ok (.iload_n 2, 1) := by decide +kernel
theorem dX4_set_11 : decode cX4_set 11 = .ok (.iadd, 1) := by decide +kernel
theorem dX4_set_12 : decode cX4_set 12 = .ok (.iload_n 3, 1) := by decide +kernel
theorem dX4_set_13 : decode cX4_set 13 = .ok (.invokevirtual 54, 3) := by decide +kernel
theorem dX4_set_16 : decode cX4_set 16 = .ok (.return_, 1) := by decide +kernel
def f_X4_set (ln : Nat → Nat) (x1 : Int32) (x2 : Int32) (x3 : Int32) (s : dr_S) : Option (Int32 × dr_S) := dr_bndv (f_X2_put ln (((x1 * (s.2 403)) + x2)) x3 s) (fun s1 => some (0, s1))
section
variable {p : Program} {l : Launch} {e : Env} {s0 : State} {m : MethodId} {args : Array Value} {below : List Frame} {meth : Method} {c : Code} {A : Nat → Prop} {D : va_G} {cI cZ : ClassId} {ad ln : Nat → Nat} {L : List Nat}
set_option maxHeartbeats 4000000 in
set_option maxRecDepth 20000 in
theorem c_X4_set (hap : dr_ap ad L) (hN : ∀ x ∈ nd_4, x ∈ L) (x1 : Int32) (x2 : Int32) (x3 : Int32) (s : dr_S) : dr_Mv l D cI cZ ad ln L yX4_set cX4_set 4 1 [.ref (ad 4), .int x1, .int x2, .int x3] s (f_X4_set ln x1 x2 x3 s) := by
  refine dr_metv (own := RX4) (by decide) rfl (Nat.le_of_ble_eq_true rfl) hap ?_
  intro p e s0 m args below meth c A E
  unfold f_X4_set
  refine g_eqL (lv' := [(0, .ref (ad 4)), (1, .int x1), (2, .int x2), (3, .int x3)]) rfl ?_
  refine g_aload_n E dX4_set_0 0 rfl ?_
  refine gg_4_9 E (hN 4 (by decide)) dX4_set_1 ?_
  refine g_iload_n E dX4_set_4 1 rfl ?_
  refine g_aload_n E dX4_set_5 0 rfl ?_
  refine gg_4_27 E (hN 4 (by decide)) dX4_set_6 ?_
  refine g_imul E dX4_set_9 ?_
  refine g_iload_n E dX4_set_10 2 rfl ?_
  refine g_iadd E dX4_set_11 ?_
  refine g_iload_n E dX4_set_12 3 rfl ?_
  refine g_cVv E [.int ((x1 * (s.2 403)) + x2), .int x3] rfl (c_X2_put hap (fun x h => hN x (ns_2_4 x h)) (((x1 * (s.2 403)) + x2)) x3 s) (hN 2 (by decide)) (by decide) rfl rfl mi_X2_put msl_X2_put mw_X2_put rfl ml_4_54 ⟨Nat.le_of_ble_eq_true rfl, Nat.le_of_ble_eq_true rfl⟩ (Nat.le_of_ble_eq_true rfl) dX4_set_13 (fun s1 => ?_)
  exact g_vret E dX4_set_16
end

theorem dX4_open_0 : decode cX4_open 0 = .ok (.aload_n 0, 1) := by decide +kernel
theorem dX4_open_1 : decode cX4_open 1 = .ok (.invokevirtual 61, 3) := by decide +kernel
theorem dX4_open_4 : decode cX4_open 4 = .ok (.istore_n 2, 1) := by decide +kernel
theorem dX4_open_5 : decode cX4_open 5 = .ok (.iload_n 2, 1) := by decide +kernel
theorem dX4_open_6 : decode cX4_open 6 = .ok (.sipush 256, 3) := by decide +kernel
theorem dX4_open_9 : decode cX4_open 9 = .ok (.if_icmp .lt 5, 3) := by decide +kernel
theorem dX4_open_12 : decode cX4_open 12 = .ok (.iconst (-1), 1) := by decide +kernel
theorem dX4_open_13 : decode cX4_open 13 = .ok (.ireturn, 1) := by decide +kernel
theorem dX4_open_14 : decode cX4_open 14 = .ok (.aload_n 0, 1) := by decide +kernel
theorem dX4_open_15 : decode cX4_open 15 = .ok (.getfield 9, 3) := by decide +kernel
theorem dX4_open_18 : decode cX4_open 18 = .ok (.aload_n 0, 1) := by decide +kernel
theorem dX4_open_19 : decode cX4_open 19 = .ok (.getfield 36, 3) := by decide +kernel
theorem dX4_open_22 : decode cX4_open 22 = .ok (.iload_n 2, 1) := by decide +kernel
theorem dX4_open_23 : decode cX4_open 23 = .ok (.iconst 1, 1) := by decide +kernel
theorem dX4_open_24 : decode cX4_open 24 = .ok (.iadd, 1) := by decide +kernel
theorem dX4_open_25 : decode cX4_open 25 = .ok (.invokevirtual 54, 3) := by decide +kernel
theorem dX4_open_28 : decode cX4_open 28 = .ok (.aload_n 0, 1) := by decide +kernel
theorem dX4_open_29 : decode cX4_open 29 = .ok (.iload_n 2, 1) := by decide +kernel
theorem dX4_open_30 : decode cX4_open 30 = .ok (.iconst 0, 1) := by decide +kernel
theorem dX4_open_31 : decode cX4_open 31 = .ok (.iload_n 1, 1) := by decide +kernel
theorem dX4_open_32 : decode cX4_open 32 = .ok (.invokevirtual 65, 3) := by decide +kernel
theorem dX4_open_35 : decode cX4_open 35 = .ok (.aload_n 0, 1) := by decide +kernel
theorem dX4_open_36 : decode cX4_open 36 = .ok (.iload_n 2, 1) := by decide +kernel
theorem dX4_open_37 : decode cX4_open 37 = .ok (.iconst 1, 1) := by decide +kernel
theorem dX4_open_38 : decode cX4_open 38 = .ok (.iconst 0, 1) := by decide +kernel
theorem dX4_open_39 : decode cX4_open 39 = .ok (.invokevirtual 65, 3) := by decide +kernel
theorem dX4_open_42 : decode cX4_open 42 = .ok (.aload_n 0, 1) := by decide +kernel
theorem dX4_open_43 : decode cX4_open 43 = .ok (.iload_n 2, 1) := by decide +kernel
theorem dX4_open_44 : decode cX4_open 44 = .ok (.iconst 2, 1) := by decide +kernel
theorem dX4_open_45 : decode cX4_open 45 = .ok (.iconst (-1), 1) := by decide +kernel
theorem dX4_open_46 : decode cX4_open 46 = .ok (.invokevirtual 65, 3) := by decide +kernel
theorem dX4_open_49 : decode cX4_open 49 = .ok (.aload_n 0, 1) := by decide +kernel
theorem dX4_open_50 : decode cX4_open 50 = .ok (.iload_n 2, 1) := by decide +kernel
theorem dX4_open_51 : decode cX4_open 51 = .ok (.iconst 3, 1) := by decide +kernel
theorem dX4_open_52 : decode cX4_open 52 = .ok (.iconst (-1), 1) := by decide +kernel
theorem dX4_open_53 : decode cX4_open 53 = .ok (.invokevirtual 65, 3) := by decide +kernel
theorem dX4_open_56 : decode cX4_open 56 = .ok (.aload_n 0, 1) := by decide +kernel
theorem dX4_open_57 : decode cX4_open 57 = .ok (.iload_n 2, 1) := by decide +kernel
theorem dX4_open_58 : decode cX4_open 58 = .ok (.iconst 4, 1) := by decide +kernel
theorem dX4_open_59 : decode cX4_open 59 = .ok (.iconst (-1), 1) := by decide +kernel
theorem dX4_open_60 : decode cX4_open 60 = .ok (.invokevirtual 65, 3) := by decide +kernel
theorem dX4_open_63 : decode cX4_open 63 = .ok (.iload_n 2, 1) := by decide +kernel
theorem dX4_open_64 : decode cX4_open 64 = .ok (.ireturn, 1) := by decide +kernel
def f_X4_open (ln : Nat → Nat) (x1 : Int32) (s : dr_S) : Option (Int32 × dr_S) := dr_bnd (f_X4_inUse ln  s) (fun r2 s1 => (if r2 < 256 then dr_bndv (f_X2_put ln ((s1.2 406)) ((r2 + 1)) s1) (fun s3 => dr_bndv (f_X4_set ln r2 0 x1 s3) (fun s4 => dr_bndv (f_X4_set ln r2 1 0 s4) (fun s5 => dr_bndv (f_X4_set ln r2 2 ((-1)) s5) (fun s6 => dr_bndv (f_X4_set ln r2 3 ((-1)) s6) (fun s7 => dr_bndv (f_X4_set ln r2 4 ((-1)) s7) (fun s8 => some (r2, s8))))))) else some ((-1), s1)))
section
variable {p : Program} {l : Launch} {e : Env} {s0 : State} {m : MethodId} {args : Array Value} {below : List Frame} {meth : Method} {c : Code} {A : Nat → Prop} {D : va_G} {cI cZ : ClassId} {ad ln : Nat → Nat} {L : List Nat}
set_option maxHeartbeats 4000000 in
set_option maxRecDepth 20000 in
theorem c_X4_open (hap : dr_ap ad L) (hN : ∀ x ∈ nd_4, x ∈ L) (x1 : Int32) (s : dr_S) : dr_Mi l D cI cZ ad ln L yX4_open cX4_open 3 (some .int) 2 [.ref (ad 4), .int x1] s (f_X4_open ln x1 s) := by
  refine dr_meti (own := RX4) (by decide) rfl (Nat.le_of_ble_eq_true rfl) hap ?_
  intro p e s0 m args below meth c A E
  unfold f_X4_open
  refine g_eqL (lv' := [(0, .ref (ad 4)), (1, .int x1)]) rfl ?_
  refine g_aload_n E dX4_open_0 0 rfl ?_
  refine g_cVi E [] rfl (c_X4_inUse hap hN  s) (hN 4 (by decide)) (by decide) rfl rfl mi_X4_inUse msl_X4_inUse mw_X4_inUse rfl ml_4_61 ⟨Nat.le_of_ble_eq_true rfl, Nat.le_of_ble_eq_true rfl⟩ (Nat.le_of_ble_eq_true rfl) dX4_open_1 (fun r2 s1 => ?_)
  refine g_istore_n E (lv' := [(2, .int r2), (0, .ref (ad 4)), (1, .int x1)]) dX4_open_4 (by decide) rfl ?_
  refine g_iload_n E dX4_open_5 0 rfl ?_
  refine g_sipush E (v := 256) dX4_open_6 (by decide) ?_
  refine g_icmp_lt E 14 dX4_open_9 (by decide) ?_ ?_
  · refine g_aload_n E dX4_open_14 1 rfl ?_
    refine gg_4_9 E (hN 4 (by decide)) dX4_open_15 ?_
    refine g_aload_n E dX4_open_18 1 rfl ?_
    refine gg_4_36 E (hN 4 (by decide)) dX4_open_19 ?_
    refine g_iload_n E dX4_open_22 0 rfl ?_
    refine g_iconst E (v := 1) dX4_open_23 (by decide) ?_
    refine g_iadd E dX4_open_24 ?_
    refine g_cVv E [.int (s1.2 406), .int (r2 + 1)] rfl (c_X2_put hap (fun x h => hN x (ns_2_4 x h)) ((s1.2 406)) ((r2 + 1)) s1) (hN 2 (by decide)) (by decide) rfl rfl mi_X2_put msl_X2_put mw_X2_put rfl ml_4_54 ⟨Nat.le_of_ble_eq_true rfl, Nat.le_of_ble_eq_true rfl⟩ (Nat.le_of_ble_eq_true rfl) dX4_open_25 (fun s3 => ?_)
    refine g_aload_n E dX4_open_28 1 rfl ?_
    refine g_iload_n E dX4_open_29 0 rfl ?_
    refine g_iconst E (v := 0) dX4_open_30 (by decide) ?_
    refine g_iload_n E dX4_open_31 2 rfl ?_
    refine g_cVv E [.int r2, .int 0, .int x1] rfl (c_X4_set hap hN r2 0 x1 s3) (hN 4 (by decide)) (by decide) rfl rfl mi_X4_set msl_X4_set mw_X4_set rfl ml_4_65 ⟨Nat.le_of_ble_eq_true rfl, Nat.le_of_ble_eq_true rfl⟩ (Nat.le_of_ble_eq_true rfl) dX4_open_32 (fun s4 => ?_)
    refine g_aload_n E dX4_open_35 1 rfl ?_
    refine g_iload_n E dX4_open_36 0 rfl ?_
    refine g_iconst E (v := 1) dX4_open_37 (by decide) ?_
    refine g_iconst E (v := 0) dX4_open_38 (by decide) ?_
    refine g_cVv E [.int r2, .int 1, .int 0] rfl (c_X4_set hap hN r2 1 0 s4) (hN 4 (by decide)) (by decide) rfl rfl mi_X4_set msl_X4_set mw_X4_set rfl ml_4_65 ⟨Nat.le_of_ble_eq_true rfl, Nat.le_of_ble_eq_true rfl⟩ (Nat.le_of_ble_eq_true rfl) dX4_open_39 (fun s5 => ?_)
    refine g_aload_n E dX4_open_42 1 rfl ?_
    refine g_iload_n E dX4_open_43 0 rfl ?_
    refine g_iconst E (v := 2) dX4_open_44 (by decide) ?_
    refine g_iconst E (v := (-1)) dX4_open_45 (by decide) ?_
    refine g_cVv E [.int r2, .int 2, .int (-1)] rfl (c_X4_set hap hN r2 2 ((-1)) s5) (hN 4 (by decide)) (by decide) rfl rfl mi_X4_set msl_X4_set mw_X4_set rfl ml_4_65 ⟨Nat.le_of_ble_eq_true rfl, Nat.le_of_ble_eq_true rfl⟩ (Nat.le_of_ble_eq_true rfl) dX4_open_46 (fun s6 => ?_)
    refine g_aload_n E dX4_open_49 1 rfl ?_
    refine g_iload_n E dX4_open_50 0 rfl ?_
    refine g_iconst E (v := 3) dX4_open_51 (by decide) ?_
    refine g_iconst E (v := (-1)) dX4_open_52 (by decide) ?_
    refine g_cVv E [.int r2, .int 3, .int (-1)] rfl (c_X4_set hap hN r2 3 ((-1)) s6) (hN 4 (by decide)) (by decide) rfl rfl mi_X4_set msl_X4_set mw_X4_set rfl ml_4_65 ⟨Nat.le_of_ble_eq_true rfl, Nat.le_of_ble_eq_true rfl⟩ (Nat.le_of_ble_eq_true rfl) dX4_open_53 (fun s7 => ?_)
    refine g_aload_n E dX4_open_56 1 rfl ?_
    refine g_iload_n E dX4_open_57 0 rfl ?_
    refine g_iconst E (v := 4) dX4_open_58 (by decide) ?_
    refine g_iconst E (v := (-1)) dX4_open_59 (by decide) ?_
    refine g_cVv E [.int r2, .int 4, .int (-1)] rfl (c_X4_set hap hN r2 4 ((-1)) s7) (hN 4 (by decide)) (by decide) rfl rfl mi_X4_set msl_X4_set mw_X4_set rfl ml_4_65 ⟨Nat.le_of_ble_eq_true rfl, Nat.le_of_ble_eq_true rfl⟩ (Nat.le_of_ble_eq_true rfl) dX4_open_60 (fun s8 => ?_)
    refine g_iload_n E dX4_open_63 0 rfl ?_
    exact g_iret E dX4_open_64
  · refine g_iconst E (v := (-1)) dX4_open_12 (by decide) ?_
    exact g_iret E dX4_open_13
end

theorem dX4_half_0 : decode cX4_half 0 = .ok (.aload_n 0, 1) := by decide +kernel
theorem dX4_half_1 : decode cX4_half 1 = .ok (.getfield 19, 3) := by decide +kernel
theorem dX4_half_4 : decode cX4_half 4 = .ok (.ireturn, 1) := by decide +kernel
def f_X4_half (ln : Nat → Nat) (s : dr_S) : Option (Int32 × dr_S) := some ((s.2 402), s)
section
variable {p : Program} {l : Launch} {e : Env} {s0 : State} {m : MethodId} {args : Array Value} {below : List Frame} {meth : Method} {c : Code} {A : Nat → Prop} {D : va_G} {cI cZ : ClassId} {ad ln : Nat → Nat} {L : List Nat}
set_option maxHeartbeats 4000000 in
set_option maxRecDepth 20000 in
theorem c_X4_half (hap : dr_ap ad L) (hN : ∀ x ∈ nd_4, x ∈ L) (s : dr_S) : dr_Mi l D cI cZ ad ln L yX4_half cX4_half 1 (some .int) 0 [.ref (ad 4)] s (f_X4_half ln  s) := by
  refine dr_meti (own := RX4) (by decide) rfl (Nat.le_of_ble_eq_true rfl) hap ?_
  intro p e s0 m args below meth c A E
  unfold f_X4_half
  refine g_eqL (lv' := [(0, .ref (ad 4))]) rfl ?_
  refine g_aload_n E dX4_half_0 0 rfl ?_
  refine gg_4_19 E (hN 4 (by decide)) dX4_half_1 ?_
  exact g_iret E dX4_half_4
end

theorem dX4_addHeading_0 : decode cX4_addHeading 0 = .ok (.aload_n 0, 1) := by decide +kernel
theorem dX4_addHeading_1 : decode cX4_addHeading 1 = .ok (.iload_n 1, 1) := by decide +kernel
theorem dX4_addHeading_2 : decode cX4_addHeading 2 = .ok (.iconst 1, 1) := by decide +kernel
theorem dX4_addHeading_3 : decode cX4_addHeading 3 = .ok (.invokevirtual 58, 3) := by decide +kernel
theorem dX4_addHeading_6 : decode cX4_addHeading 6 = .ok (.istore_n 3, 1) := by decide +kernel
theorem dX4_addHeading_7 : decode cX4_addHeading 7 = .ok (.iload_n 3, 1) := by decide +kernel
theorem dX4_addHeading_8 : decode cX4_addHeading 8 = .ok (.ifCond .lt 40, 3) := by decide +kernel
theorem dX4_addHeading_11 : decode cX4_addHeading 11 = .ok (.iload_n 3, 1) := by decide +kernel
theorem dX4_addHeading_12 : decode cX4_addHeading 12 = .ok (.iconst 2, 1) := by decide +kernel
theorem dX4_addHeading_13 : decode cX4_addHeading 13 = .ok (.aload_n 0, 1) := by decide +kernel
theorem dX4_addHeading_14 : decode cX4_addHeading 14 = .ok (.getfield 19, 3) := by decide +kernel
theorem dX4_addHeading_17 : decode cX4_addHeading 17 = .ok (.imul, 1) := by decide +kernel
theorem dX4_addHeading_18 : decode cX4_addHeading 18 = .ok (.if_icmp .gt 30, 3) := by decide +kernel
theorem dX4_addHeading_21 : decode cX4_addHeading 21 = .ok (.aload_n 0, 1) := by decide +kernel
theorem dX4_addHeading_22 : decode cX4_addHeading 22 = .ok (.getfield 9, 3) := by decide +kernel
theorem dX4_addHeading_25 : decode cX4_addHeading 25 = .ok (.iload_n 1, 1) := by decide +kernel
theorem dX4_addHeading_26 : decode cX4_addHeading 26 = .ok (.aload_n 0, 1) := by decide +kernel
theorem dX4_addHeading_27 : decode cX4_addHeading 27 = .ok (.getfield 27, 3) := by decide +kernel
theorem dX4_addHeading_30 : decode cX4_addHeading 30 = .ok (.imul, 1) := by decide +kernel
theorem dX4_addHeading_31 : decode cX4_addHeading 31 = .ok (.iconst 5, 1) := by decide +kernel
theorem dX4_addHeading_32 : decode cX4_addHeading 32 = .ok (.iadd, 1) := by decide +kernel
theorem dX4_addHeading_33 : decode cX4_addHeading 33 = .ok (.iload_n 3, 1) := by decide +kernel
theorem dX4_addHeading_34 : decode cX4_addHeading 34 = .ok (.iadd, 1) := by decide +kernel
theorem dX4_addHeading_35 : decode cX4_addHeading 35 = .ok (.iload_n 2, 1) := by decide +kernel
theorem dX4_addHeading_36 : decode cX4_addHeading 36 = .ok (.invokevirtual 54, 3) := by decide +kernel
theorem dX4_addHeading_39 : decode cX4_addHeading 39 = .ok (.aload_n 0, 1) := by decide +kernel
theorem dX4_addHeading_40 : decode cX4_addHeading 40 = .ok (.iload_n 1, 1) := by decide +kernel
theorem dX4_addHeading_41 : decode cX4_addHeading 41 = .ok (.iconst 1, 1) := by decide +kernel
theorem dX4_addHeading_42 : decode cX4_addHeading 42 = .ok (.iload_n 3, 1) := by decide +kernel
theorem dX4_addHeading_43 : decode cX4_addHeading 43 = .ok (.iconst 1, 1) := by decide +kernel
theorem dX4_addHeading_44 : decode cX4_addHeading 44 = .ok (.iadd, 1) := by decide +kernel
theorem dX4_addHeading_45 : decode cX4_addHeading 45 = .ok (.invokevirtual 65, 3) := by decide +kernel
theorem dX4_addHeading_48 : decode cX4_addHeading 48 = .ok (.return_, 1) := by decide +kernel
def f_X4_addHeading (ln : Nat → Nat) (x1 : Int32) (x2 : Int32) (s : dr_S) : Option (Int32 × dr_S) := dr_bnd (f_X4_get ln x1 1 s) (fun r2 s1 => (if r2 < 0 then some (0, s1) else (if (2 * (s1.2 402)) < r2 then some (0, s1) else dr_bndv (f_X2_put ln ((((x1 * (s1.2 403)) + 5) + r2)) x2 s1) (fun s3 => dr_bndv (f_X4_set ln x1 1 ((r2 + 1)) s3) (fun s4 => some (0, s4))))))
section
variable {p : Program} {l : Launch} {e : Env} {s0 : State} {m : MethodId} {args : Array Value} {below : List Frame} {meth : Method} {c : Code} {A : Nat → Prop} {D : va_G} {cI cZ : ClassId} {ad ln : Nat → Nat} {L : List Nat}
set_option maxHeartbeats 4000000 in
set_option maxRecDepth 20000 in
theorem c_X4_addHeading (hap : dr_ap ad L) (hN : ∀ x ∈ nd_4, x ∈ L) (x1 : Int32) (x2 : Int32) (s : dr_S) : dr_Mv l D cI cZ ad ln L yX4_addHeading cX4_addHeading 4 2 [.ref (ad 4), .int x1, .int x2] s (f_X4_addHeading ln x1 x2 s) := by
  refine dr_metv (own := RX4) (by decide) rfl (Nat.le_of_ble_eq_true rfl) hap ?_
  intro p e s0 m args below meth c A E
  unfold f_X4_addHeading
  refine g_eqL (lv' := [(0, .ref (ad 4)), (1, .int x1), (2, .int x2)]) rfl ?_
  refine g_aload_n E dX4_addHeading_0 0 rfl ?_
  refine g_iload_n E dX4_addHeading_1 1 rfl ?_
  refine g_iconst E (v := 1) dX4_addHeading_2 (by decide) ?_
  refine g_cVi E [.int x1, .int 1] rfl (c_X4_get hap hN x1 1 s) (hN 4 (by decide)) (by decide) rfl rfl mi_X4_get msl_X4_get mw_X4_get rfl ml_4_58 ⟨Nat.le_of_ble_eq_true rfl, Nat.le_of_ble_eq_true rfl⟩ (Nat.le_of_ble_eq_true rfl) dX4_addHeading_3 (fun r2 s1 => ?_)
  refine g_istore_n E (lv' := [(3, .int r2), (0, .ref (ad 4)), (1, .int x1), (2, .int x2)]) dX4_addHeading_6 (by decide) rfl ?_
  refine g_iload_n E dX4_addHeading_7 0 rfl ?_
  refine g_if_lt E 48 dX4_addHeading_8 (by decide) ?_ ?_
  · exact g_vret E dX4_addHeading_48
  · refine g_iload_n E dX4_addHeading_11 0 rfl ?_
    refine g_iconst E (v := 2) dX4_addHeading_12 (by decide) ?_
    refine g_aload_n E dX4_addHeading_13 1 rfl ?_
    refine gg_4_19 E (hN 4 (by decide)) dX4_addHeading_14 ?_
    refine g_imul E dX4_addHeading_17 ?_
    refine g_icmp_gt E 48 dX4_addHeading_18 (by decide) ?_ ?_
    · exact g_vret E dX4_addHeading_48
    · refine g_aload_n E dX4_addHeading_21 1 rfl ?_
      refine gg_4_9 E (hN 4 (by decide)) dX4_addHeading_22 ?_
      refine g_iload_n E dX4_addHeading_25 2 rfl ?_
      refine g_aload_n E dX4_addHeading_26 1 rfl ?_
      refine gg_4_27 E (hN 4 (by decide)) dX4_addHeading_27 ?_
      refine g_imul E dX4_addHeading_30 ?_
      refine g_iconst E (v := 5) dX4_addHeading_31 (by decide) ?_
      refine g_iadd E dX4_addHeading_32 ?_
      refine g_iload_n E dX4_addHeading_33 0 rfl ?_
      refine g_iadd E dX4_addHeading_34 ?_
      refine g_iload_n E dX4_addHeading_35 3 rfl ?_
      refine g_cVv E [.int (((x1 * (s1.2 403)) + 5) + r2), .int x2] rfl (c_X2_put hap (fun x h => hN x (ns_2_4 x h)) ((((x1 * (s1.2 403)) + 5) + r2)) x2 s1) (hN 2 (by decide)) (by decide) rfl rfl mi_X2_put msl_X2_put mw_X2_put rfl ml_4_54 ⟨Nat.le_of_ble_eq_true rfl, Nat.le_of_ble_eq_true rfl⟩ (Nat.le_of_ble_eq_true rfl) dX4_addHeading_36 (fun s3 => ?_)
      refine g_aload_n E dX4_addHeading_39 1 rfl ?_
      refine g_iload_n E dX4_addHeading_40 2 rfl ?_
      refine g_iconst E (v := 1) dX4_addHeading_41 (by decide) ?_
      refine g_iload_n E dX4_addHeading_42 0 rfl ?_
      refine g_iconst E (v := 1) dX4_addHeading_43 (by decide) ?_
      refine g_iadd E dX4_addHeading_44 ?_
      refine g_cVv E [.int x1, .int 1, .int (r2 + 1)] rfl (c_X4_set hap hN x1 1 ((r2 + 1)) s3) (hN 4 (by decide)) (by decide) rfl rfl mi_X4_set msl_X4_set mw_X4_set rfl ml_4_65 ⟨Nat.le_of_ble_eq_true rfl, Nat.le_of_ble_eq_true rfl⟩ (Nat.le_of_ble_eq_true rfl) dX4_addHeading_45 (fun s4 => ?_)
      exact g_vret E dX4_addHeading_48
end

theorem dX4_setChild_0 : decode cX4_setChild 0 = .ok (.iload_n 2, 1) := by decide +kernel
theorem dX4_setChild_1 : decode cX4_setChild 1 = .ok (.ifCond .lt 36, 3) := by decide +kernel
theorem dX4_setChild_4 : decode cX4_setChild 4 = .ok (.iload_n 2, 1) := by decide +kernel
theorem dX4_setChild_5 : decode cX4_setChild 5 = .ok (.iconst 2, 1) := by decide +kernel
theorem dX4_setChild_6 : decode cX4_setChild 6 = .ok (.aload_n 0, 1) := by decide +kernel
theorem dX4_setChild_7 : decode cX4_setChild 7 = .ok (.getfield 19, 3) := by decide +kernel
theorem dX4_setChild_10 : decode cX4_setChild 10 = .ok (.imul, 1) := by decide +kernel
theorem dX4_setChild_11 : decode cX4_setChild 11 = .ok (.iconst 1, 1) := by decide +kernel
theorem dX4_setChild_12 : decode cX4_setChild 12 = .ok (.iadd, 1) := by decide +kernel
theorem dX4_setChild_13 : decode cX4_setChild 13 = .ok (.if_icmp .gt 24, 3) := by decide +kernel
theorem dX4_setChild_16 : decode cX4_setChild 16 = .ok (.aload_n 0, 1) := by decide +kernel
theorem dX4_setChild_17 : decode cX4_setChild 17 = .ok (.getfield 9, 3) := by decide +kernel
theorem dX4_setChild_20 : decode cX4_setChild 20 = .ok (.iload_n 1, 1) := by decide +kernel
theorem dX4_setChild_21 : decode cX4_setChild 21 = .ok (.aload_n 0, 1) := by decide +kernel
theorem dX4_setChild_22 : decode cX4_setChild 22 = .ok (.getfield 27, 3) := by decide +kernel
theorem dX4_setChild_25 : decode cX4_setChild 25 = .ok (.imul, 1) := by decide +kernel
theorem dX4_setChild_26 : decode cX4_setChild 26 = .ok (.aload_n 0, 1) := by decide +kernel
theorem dX4_setChild_27 : decode cX4_setChild 27 = .ok (.getfield 30, 3) := by decide +kernel
theorem dX4_setChild_30 : decode cX4_setChild 30 = .ok (.iadd, 1) := by decide +kernel
theorem dX4_setChild_31 : decode cX4_setChild 31 = .ok (.iload_n 2, 1) := by decide +kernel
theorem dX4_setChild_32 : decode cX4_setChild 32 = .ok (.iadd, 1) := by decide +kernel
theorem dX4_setChild_33 : decode cX4_setChild 33 = .ok (.iload_n 3, 1) := by decide +kernel
theorem dX4_setChild_34 : decode cX4_setChild 34 = .ok (.invokevirtual 54, 3) := by decide +kernel
theorem dX4_setChild_37 : decode cX4_setChild 37 = .ok (.return_, 1) := by decide +kernel
def f_X4_setChild (ln : Nat → Nat) (x1 : Int32) (x2 : Int32) (x3 : Int32) (s : dr_S) : Option (Int32 × dr_S) := (if x2 < 0 then some (0, s) else (if ((2 * (s.2 402)) + 1) < x2 then some (0, s) else dr_bndv (f_X2_put ln ((((x1 * (s.2 403)) + (s.2 404)) + x2)) x3 s) (fun s1 => some (0, s1))))
section
variable {p : Program} {l : Launch} {e : Env} {s0 : State} {m : MethodId} {args : Array Value} {below : List Frame} {meth : Method} {c : Code} {A : Nat → Prop} {D : va_G} {cI cZ : ClassId} {ad ln : Nat → Nat} {L : List Nat}
set_option maxHeartbeats 4000000 in
set_option maxRecDepth 20000 in
theorem c_X4_setChild (hap : dr_ap ad L) (hN : ∀ x ∈ nd_4, x ∈ L) (x1 : Int32) (x2 : Int32) (x3 : Int32) (s : dr_S) : dr_Mv l D cI cZ ad ln L yX4_setChild cX4_setChild 4 1 [.ref (ad 4), .int x1, .int x2, .int x3] s (f_X4_setChild ln x1 x2 x3 s) := by
  refine dr_metv (own := RX4) (by decide) rfl (Nat.le_of_ble_eq_true rfl) hap ?_
  intro p e s0 m args below meth c A E
  unfold f_X4_setChild
  refine g_eqL (lv' := [(0, .ref (ad 4)), (1, .int x1), (2, .int x2), (3, .int x3)]) rfl ?_
  refine g_iload_n E dX4_setChild_0 2 rfl ?_
  refine g_if_lt E 37 dX4_setChild_1 (by decide) ?_ ?_
  · exact g_vret E dX4_setChild_37
  · refine g_iload_n E dX4_setChild_4 2 rfl ?_
    refine g_iconst E (v := 2) dX4_setChild_5 (by decide) ?_
    refine g_aload_n E dX4_setChild_6 0 rfl ?_
    refine gg_4_19 E (hN 4 (by decide)) dX4_setChild_7 ?_
    refine g_imul E dX4_setChild_10 ?_
    refine g_iconst E (v := 1) dX4_setChild_11 (by decide) ?_
    refine g_iadd E dX4_setChild_12 ?_
    refine g_icmp_gt E 37 dX4_setChild_13 (by decide) ?_ ?_
    · exact g_vret E dX4_setChild_37
    · refine g_aload_n E dX4_setChild_16 0 rfl ?_
      refine gg_4_9 E (hN 4 (by decide)) dX4_setChild_17 ?_
      refine g_iload_n E dX4_setChild_20 1 rfl ?_
      refine g_aload_n E dX4_setChild_21 0 rfl ?_
      refine gg_4_27 E (hN 4 (by decide)) dX4_setChild_22 ?_
      refine g_imul E dX4_setChild_25 ?_
      refine g_aload_n E dX4_setChild_26 0 rfl ?_
      refine gg_4_30 E (hN 4 (by decide)) dX4_setChild_27 ?_
      refine g_iadd E dX4_setChild_30 ?_
      refine g_iload_n E dX4_setChild_31 2 rfl ?_
      refine g_iadd E dX4_setChild_32 ?_
      refine g_iload_n E dX4_setChild_33 3 rfl ?_
      refine g_cVv E [.int (((x1 * (s.2 403)) + (s.2 404)) + x2), .int x3] rfl (c_X2_put hap (fun x h => hN x (ns_2_4 x h)) ((((x1 * (s.2 403)) + (s.2 404)) + x2)) x3 s) (hN 2 (by decide)) (by decide) rfl rfl mi_X2_put msl_X2_put mw_X2_put rfl ml_4_54 ⟨Nat.le_of_ble_eq_true rfl, Nat.le_of_ble_eq_true rfl⟩ (Nat.le_of_ble_eq_true rfl) dX4_setChild_34 (fun s1 => ?_)
      exact g_vret E dX4_setChild_37
end

theorem dX4_setTop_0 : decode cX4_setTop 0 = .ok (.aload_n 0, 1) := by decide +kernel
theorem dX4_setTop_1 : decode cX4_setTop 1 = .ok (.getfield 9, 3) := by decide +kernel
theorem dX4_setTop_4 : decode cX4_setTop 4 = .ok (.aload_n 0, 1) := by decide +kernel
theorem dX4_setTop_5 : decode cX4_setTop 5 = .ok (.getfield 33, 3) := by decide +kernel
theorem dX4_setTop_8 : decode cX4_setTop 8 = .ok (.iload_n 1, 1) := by decide +kernel
theorem dX4_setTop_9 : decode cX4_setTop 9 = .ok (.invokevirtual 54, 3) := by decide +kernel
theorem dX4_setTop_12 : decode cX4_setTop 12 = .ok (.return_, 1) := by decide +kernel
def f_X4_setTop (ln : Nat → Nat) (x1 : Int32) (s : dr_S) : Option (Int32 × dr_S) := dr_bndv (f_X2_put ln ((s.2 405)) x1 s) (fun s1 => some (0, s1))
section
variable {p : Program} {l : Launch} {e : Env} {s0 : State} {m : MethodId} {args : Array Value} {below : List Frame} {meth : Method} {c : Code} {A : Nat → Prop} {D : va_G} {cI cZ : ClassId} {ad ln : Nat → Nat} {L : List Nat}
set_option maxHeartbeats 4000000 in
set_option maxRecDepth 20000 in
theorem c_X4_setTop (hap : dr_ap ad L) (hN : ∀ x ∈ nd_4, x ∈ L) (x1 : Int32) (s : dr_S) : dr_Mv l D cI cZ ad ln L yX4_setTop cX4_setTop 2 1 [.ref (ad 4), .int x1] s (f_X4_setTop ln x1 s) := by
  refine dr_metv (own := RX4) (by decide) rfl (Nat.le_of_ble_eq_true rfl) hap ?_
  intro p e s0 m args below meth c A E
  unfold f_X4_setTop
  refine g_eqL (lv' := [(0, .ref (ad 4)), (1, .int x1)]) rfl ?_
  refine g_aload_n E dX4_setTop_0 0 rfl ?_
  refine gg_4_9 E (hN 4 (by decide)) dX4_setTop_1 ?_
  refine g_aload_n E dX4_setTop_4 0 rfl ?_
  refine gg_4_33 E (hN 4 (by decide)) dX4_setTop_5 ?_
  refine g_iload_n E dX4_setTop_8 1 rfl ?_
  refine g_cVv E [.int (s.2 405), .int x1] rfl (c_X2_put hap (fun x h => hN x (ns_2_4 x h)) ((s.2 405)) x1 s) (hN 2 (by decide)) (by decide) rfl rfl mi_X2_put msl_X2_put mw_X2_put rfl ml_4_54 ⟨Nat.le_of_ble_eq_true rfl, Nat.le_of_ble_eq_true rfl⟩ (Nat.le_of_ble_eq_true rfl) dX4_setTop_9 (fun s1 => ?_)
  exact g_vret E dX4_setTop_12
end

theorem dX0_crownTheTop_0 : decode cX0_crownTheTop 0 = .ok (.aload_n 0, 1) := by decide +kernel
theorem dX0_crownTheTop_1 : decode cX0_crownTheTop 1 = .ok (.getfield 9, 3) := by decide +kernel
theorem dX0_crownTheTop_4 : decode cX0_crownTheTop 4 = .ok (.invokevirtual 19, 3) := by decide +kernel
theorem dX0_crownTheTop_7 : decode cX0_crownTheTop 7 = .ok (.istore_n 1, 1) := by decide +kernel
theorem dX0_crownTheTop_8 : decode cX0_crownTheTop 8 = .ok (.aload_n 0, 1) := by decide +kernel
theorem dX0_crownTheTop_9 : decode cX0_crownTheTop 9 = .ok (.getfield 9, 3) := by decide +kernel
theorem dX0_crownTheTop_12 : decode cX0_crownTheTop 12 = .ok (.iload_n 1, 1) := by decide +kernel
theorem dX0_crownTheTop_13 : decode cX0_crownTheTop 13 = .ok (.iconst 3, 1) := by decide +kernel
theorem dX0_crownTheTop_14 : decode cX0_crownTheTop 14 = .ok (.invokevirtual 25, 3) := by decide +kernel
theorem dX0_crownTheTop_17 : decode cX0_crownTheTop 17 = .ok (.iconst (-1), 1) := by decide +kernel
theorem dX0_crownTheTop_18 : decode cX0_crownTheTop 18 = .ok (.if_icmp .ne 4, 3) := by decide +kernel
theorem dX0_crownTheTop_21 : decode cX0_crownTheTop 21 = .ok (.return_, 1) := by decide +kernel
theorem dX0_crownTheTop_22 : decode cX0_crownTheTop 22 = .ok (.aload_n 0, 1) := by decide +kernel
theorem dX0_crownTheTop_23 : decode cX0_crownTheTop 23 = .ok (.getfield 9, 3) := by decide +kernel
theorem dX0_crownTheTop_26 : decode cX0_crownTheTop 26 = .ok (.aload_n 0, 1) := by decide +kernel
theorem dX0_crownTheTop_27 : decode cX0_crownTheTop 27 = .ok (.getfield 9, 3) := by decide +kernel
theorem dX0_crownTheTop_30 : decode cX0_crownTheTop 30 = .ok (.iload_n 1, 1) := by decide +kernel
theorem dX0_crownTheTop_31 : decode cX0_crownTheTop 31 = .ok (.iconst 0, 1) := by decide +kernel
theorem dX0_crownTheTop_32 : decode cX0_crownTheTop 32 = .ok (.invokevirtual 25, 3) := by decide +kernel
theorem dX0_crownTheTop_35 : decode cX0_crownTheTop 35 = .ok (.iconst 1, 1) := by decide +kernel
theorem dX0_crownTheTop_36 : decode cX0_crownTheTop 36 = .ok (.iadd, 1) := by decide +kernel
theorem dX0_crownTheTop_37 : decode cX0_crownTheTop 37 = .ok (.invokevirtual 29, 3) := by decide +kernel
theorem dX0_crownTheTop_40 : decode cX0_crownTheTop 40 = .ok (.istore_n 2, 1) := by decide +kernel
theorem dX0_crownTheTop_41 : decode cX0_crownTheTop 41 = .ok (.iload_n 2, 1) := by decide +kernel
theorem dX0_crownTheTop_42 : decode cX0_crownTheTop 42 = .ok (.iconst (-1), 1) := by decide +kernel
theorem dX0_crownTheTop_43 : decode cX0_crownTheTop 43 = .ok (.if_icmp .ne 4, 3) := by decide +kernel
theorem dX0_crownTheTop_46 : decode cX0_crownTheTop 46 = .ok (.return_, 1) := by decide +kernel
theorem dX0_crownTheTop_47 : decode cX0_crownTheTop 47 = .ok (.iconst 2, 1) := by decide +kernel
theorem dX0_crownTheTop_48 : decode cX0_crownTheTop 48 = .ok (.aload_n 0, 1) := by decide +kernel
theorem dX0_crownTheTop_49 : decode cX0_crownTheTop 49 = .ok (.getfield 9, 3) := by decide +kernel
theorem dX0_crownTheTop_52 : decode cX0_crownTheTop 52 = .ok (.invokevirtual 33, 3) := by decide +kernel
theorem dX0_crownTheTop_55 : decode cX0_crownTheTop 55 = .ok (.imul, 1) := by decide +kernel
theorem dX0_crownTheTop_56 : decode cX0_crownTheTop 56 = .ok (.iconst 1, 1) := by decide +kernel
theorem dX0_crownTheTop_57 : decode cX0_crownTheTop 57 = .ok (.iadd, 1) := by decide +kernel
theorem dX0_crownTheTop_58 : decode cX0_crownTheTop 58 = .ok (.istore_n 3, 1) := by decide +kernel
theorem dX0_crownTheTop_59 : decode cX0_crownTheTop 59 = .ok (.iconst (-1), 1) := by decide +kernel
theorem dX0_crownTheTop_60 : decode cX0_crownTheTop 60 = .ok (.istore 4, 2) := by decide +kernel
theorem dX0_crownTheTop_62 : decode cX0_crownTheTop 62 = .ok (.iconst 0, 1) := by decide +kernel
theorem dX0_crownTheTop_63 : decode cX0_crownTheTop 63 = .ok (.istore 5, 2) := by decide +kernel
theorem dX0_crownTheTop_65 : decode cX0_crownTheTop 65 = .ok (.iload 5, 2) := by decide +kernel
theorem dX0_crownTheTop_67 : decode cX0_crownTheTop 67 = .ok (.iload_n 3, 1) := by decide +kernel
theorem dX0_crownTheTop_68 : decode cX0_crownTheTop 68 = .ok (.if_icmp .ge 61, 3) := by decide +kernel
theorem dX0_crownTheTop_71 : decode cX0_crownTheTop 71 = .ok (.iload_n 1, 1) := by decide +kernel
theorem dX0_crownTheTop_72 : decode cX0_crownTheTop 72 = .ok (.iconst (-1), 1) := by decide +kernel
theorem dX0_crownTheTop_73 : decode cX0_crownTheTop 73 = .ok (.if_icmp .eq 56, 3) := by decide +kernel
theorem dX0_crownTheTop_76 : decode cX0_crownTheTop 76 = .ok (.iload 5, 2) := by decide +kernel
theorem dX0_crownTheTop_78 : decode cX0_crownTheTop 78 = .ok (.ifCond .le 21, 3) := by decide +kernel
theorem dX0_crownTheTop_81 : decode cX0_crownTheTop 81 = .ok (.aload_n 0, 1) := by decide +kernel
theorem dX0_crownTheTop_82 : decode cX0_crownTheTop 82 = .ok (.getfield 9, 3) := by decide +kernel
theorem dX0_crownTheTop_85 : decode cX0_crownTheTop 85 = .ok (.iload_n 2, 1) := by decide +kernel
theorem dX0_crownTheTop_86 : decode cX0_crownTheTop 86 = .ok (.aload_n 0, 1) := by decide +kernel
theorem dX0_crownTheTop_87 : decode cX0_crownTheTop 87 = .ok (.getfield 9, 3) := by decide +kernel
theorem dX0_crownTheTop_90 : decode cX0_crownTheTop 90 = .ok (.iload 4, 2) := by decide +kernel
theorem dX0_crownTheTop_92 : decode cX0_crownTheTop 92 = .ok (.iconst 2, 1) := by decide +kernel
theorem dX0_crownTheTop_93 : decode cX0_crownTheTop 93 = .ok (.invokevirtual 25, 3) := by decide +kernel
theorem dX0_crownTheTop_96 : decode cX0_crownTheTop 96 = .ok (.invokevirtual 36, 3) := by decide +kernel
theorem dX0_crownTheTop_99 : decode cX0_crownTheTop 99 = .ok (.aload_n 0, 1) := by decide +kernel
theorem dX0_crownTheTop_100 : decode cX0_crownTheTop 100 = .ok (.getfield 9, 3) := by decide +kernel
theorem dX0_crownTheTop_103 : decode cX0_crownTheTop 103 = .ok (.iload_n 2, 1) := by decide +kernel
theorem dX0_crownTheTop_104 : decode cX0_crownTheTop 104 = .ok (.iload 5, 2) := by decide +kernel
theorem dX0_crownTheTop_106 : decode cX0_crownTheTop 106 = .ok (.iload_n 1, 1) := by decide +kernel
theorem dX0_crownTheTop_107 : decode cX0_crownTheTop 107 = .ok (.invokevirtual 40, 3) := by decide +kernel
theorem dX0_crownTheTop_110 : decode cX0_crownTheTop 110 = .ok (.iload_n 1, 1) := by decide +kernel
theorem dX0_crownTheTop_111 : decode cX0_crownTheTop 111 = .ok (.istore 4, 2) := by decide +kernel
theorem dX0_crownTheTop_113 : decode cX0_crownTheTop 113 = .ok (.aload_n 0, 1) := by decide +kernel
theorem dX0_crownTheTop_114 : decode cX0_crownTheTop 114 = .ok (.getfield 9, 3) := by decide +kernel
theorem dX0_crownTheTop_117 : decode cX0_crownTheTop 117 = .ok (.iload_n 1, 1) := by decide +kernel
theorem dX0_crownTheTop_118 : decode cX0_crownTheTop 118 = .ok (.iconst 3, 1) := by decide +kernel
theorem dX0_crownTheTop_119 : decode cX0_crownTheTop 119 = .ok (.invokevirtual 25, 3) := by decide +kernel
theorem dX0_crownTheTop_122 : decode cX0_crownTheTop 122 = .ok (.istore_n 1, 1) := by decide +kernel
theorem dX0_crownTheTop_123 : decode cX0_crownTheTop 123 = .ok (.iinc 5 1, 3) := by decide +kernel
theorem dX0_crownTheTop_126 : decode cX0_crownTheTop 126 = .ok (.goto (-61), 3) := by decide +kernel
theorem dX0_crownTheTop_129 : decode cX0_crownTheTop 129 = .ok (.aload_n 0, 1) := by decide +kernel
theorem dX0_crownTheTop_130 : decode cX0_crownTheTop 130 = .ok (.getfield 9, 3) := by decide +kernel
theorem dX0_crownTheTop_133 : decode cX0_crownTheTop 133 = .ok (.iload_n 2, 1) := by decide +kernel
theorem dX0_crownTheTop_134 : decode cX0_crownTheTop 134 = .ok (.invokevirtual 44, 3) := by decide +kernel
theorem dX0_crownTheTop_137 : decode cX0_crownTheTop 137 = .ok (.return_, 1) := by decide +kernel
def f_X0_crownTheTop_p129 (ln : Nat → Nat) (x2 : Int32) (s : dr_S) : Option (Int32 × dr_S) := dr_bndv (f_X4_setTop ln x2 s) (fun s19 => some (0, s19))
def f_X0_crownTheTop_p99 (ln : Nat → Nat) (kb65 : Int32 → Int32 → Int32 → Int32 → Int32 → dr_S → Option (Int32 × dr_S)) (x1 : Int32) (x2 : Int32) (x3 : Int32) (x5 : Int32) (s : dr_S) : Option (Int32 × dr_S) := dr_bndv (f_X4_setChild ln x2 x5 x1 s) (fun s15 => dr_bnd (f_X4_get ln x1 3 s15) (fun r17 s16 => dr_let (x5 + 1) (fun y18 => (kb65 r17 x2 x3 x1 y18 s16))))
def f_X0_crownTheTop_p65 (ln : Nat → Nat) : Nat → Int32 → Int32 → Int32 → Int32 → Int32 → dr_S → Option (Int32 × dr_S)
  | 0, _, _, _, _, _, _ => none
  | n + 1, x1, x2, x3, x4, x5, s => (if x3 ≤ x5 then (f_X0_crownTheTop_p129 ln x2 s) else (if x1 = (-1) then (f_X0_crownTheTop_p129 ln x2 s) else (if x5 ≤ 0 then (f_X0_crownTheTop_p99 ln (f_X0_crownTheTop_p65 ln n) x1 x2 x3 x5 s) else dr_bnd (f_X4_get ln x4 2 s) (fun r13 s12 => dr_bndv (f_X4_addHeading ln x2 r13 s12) (fun s14 => (f_X0_crownTheTop_p99 ln (f_X0_crownTheTop_p65 ln n) x1 x2 x3 x5 s14))))))
def f_X0_crownTheTop (ln : Nat → Nat) (s : dr_S) : Option (Int32 × dr_S) := dr_bnd (f_X4_top ln  s) (fun r2 s1 => dr_bnd (f_X4_get ln r2 3 s1) (fun r4 s3 => (if r4 = (-1) then some (0, s3) else dr_bnd (f_X4_get ln r2 0 s3) (fun r6 s5 => dr_bnd (f_X4_open ln ((r6 + 1)) s5) (fun r8 s7 => (if r8 = (-1) then some (0, s7) else dr_bnd (f_X4_half ln  s7) (fun r10 s9 => dr_let ((2 * r10) + 1) (fun y11 => (f_X0_crownTheTop_p65 ln dr_N r2 r8 y11 ((-1)) 0 s9)))))))))
section
variable {p : Program} {l : Launch} {e : Env} {s0 : State} {m : MethodId} {args : Array Value} {below : List Frame} {meth : Method} {c : Code} {A : Nat → Prop} {D : va_G} {cI cZ : ClassId} {ad ln : Nat → Nat} {L : List Nat}
set_option maxHeartbeats 4000000 in
set_option maxRecDepth 20000 in
theorem w_X0_crownTheTop_p129 (E : dr_E p (dr_rm 3) s0 m args meth c 0 0 A s0.heap D cI cZ ad L cX0_crownTheTop 6 RX0 none) (hap : dr_ap ad L) (hN : ∀ x ∈ nd_0, x ∈ L) : ∀ (x2 : Int32) (s : dr_S), dr_G p l e (dr_rm 3) s0 m args below meth c 0 0 A s0.heap D cI cZ ad ln L 6 (dr_Zv D cI cZ ad ln L A below args s0 0 0) 129 [(0, .ref (ad 0)), (2, .int x2)] [] s (f_X0_crownTheTop_p129 ln x2 s) := by
  intro x2 s
  unfold f_X0_crownTheTop_p129
  refine g_aload_n E dX0_crownTheTop_129 0 rfl ?_
  refine gg_0_9 E (hN 0 (by decide)) dX0_crownTheTop_130 ?_
  refine g_iload_n E dX0_crownTheTop_133 1 rfl ?_
  refine g_cVv E [.int x2] rfl (c_X4_setTop hap (fun x h => hN x (ns_4_0 x h)) x2 s) (hN 4 (by decide)) (by decide) rfl rfl mi_X4_setTop msl_X4_setTop mw_X4_setTop rfl ml_0_44 ⟨Nat.le_of_ble_eq_true rfl, Nat.le_of_ble_eq_true rfl⟩ (Nat.le_of_ble_eq_true rfl) dX0_crownTheTop_134 (fun s19 => ?_)
  exact g_vret E dX0_crownTheTop_137
set_option maxHeartbeats 4000000 in
set_option maxRecDepth 20000 in
theorem w_X0_crownTheTop_p99 {kb65 : Int32 → Int32 → Int32 → Int32 → Int32 → dr_S → Option (Int32 × dr_S)} (E : dr_E p (dr_rm 3) s0 m args meth c 0 0 A s0.heap D cI cZ ad L cX0_crownTheTop 6 RX0 none) (hap : dr_ap ad L) (hN : ∀ x ∈ nd_0, x ∈ L) (hkb65 : ∀ (x1 : Int32) (x2 : Int32) (x3 : Int32) (x4 : Int32) (x5 : Int32) (s : dr_S), dr_G p l e (dr_rm 3) s0 m args below meth c 0 0 A s0.heap D cI cZ ad ln L 6 (dr_Zv D cI cZ ad ln L A below args s0 0 0) 65 [(0, .ref (ad 0)), (1, .int x1), (2, .int x2), (3, .int x3), (4, .int x4), (5, .int x5)] [] s (kb65 x1 x2 x3 x4 x5 s)) : ∀ (x1 : Int32) (x2 : Int32) (x3 : Int32) (x5 : Int32) (s : dr_S), dr_G p l e (dr_rm 3) s0 m args below meth c 0 0 A s0.heap D cI cZ ad ln L 6 (dr_Zv D cI cZ ad ln L A below args s0 0 0) 99 [(0, .ref (ad 0)), (1, .int x1), (2, .int x2), (3, .int x3), (5, .int x5)] [] s (f_X0_crownTheTop_p99 ln kb65 x1 x2 x3 x5 s) := by
  intro x1 x2 x3 x5 s
  unfold f_X0_crownTheTop_p99
  refine g_aload_n E dX0_crownTheTop_99 0 rfl ?_
  refine gg_0_9 E (hN 0 (by decide)) dX0_crownTheTop_100 ?_
  refine g_iload_n E dX0_crownTheTop_103 2 rfl ?_
  refine g_iload E dX0_crownTheTop_104 4 rfl ?_
  refine g_iload_n E dX0_crownTheTop_106 1 rfl ?_
  refine g_cVv E [.int x2, .int x5, .int x1] rfl (c_X4_setChild hap (fun x h => hN x (ns_4_0 x h)) x2 x5 x1 s) (hN 4 (by decide)) (by decide) rfl rfl mi_X4_setChild msl_X4_setChild mw_X4_setChild rfl ml_0_40 ⟨Nat.le_of_ble_eq_true rfl, Nat.le_of_ble_eq_true rfl⟩ (Nat.le_of_ble_eq_true rfl) dX0_crownTheTop_107 (fun s15 => ?_)
  refine g_iload_n E dX0_crownTheTop_110 1 rfl ?_
  refine g_istore E (lv' := [(4, .int x1), (0, .ref (ad 0)), (1, .int x1), (2, .int x2), (3, .int x3), (5, .int x5)]) dX0_crownTheTop_111 (by decide) rfl ?_
  refine g_aload_n E dX0_crownTheTop_113 1 rfl ?_
  refine gg_0_9 E (hN 0 (by decide)) dX0_crownTheTop_114 ?_
  refine g_iload_n E dX0_crownTheTop_117 2 rfl ?_
  refine g_iconst E (v := 3) dX0_crownTheTop_118 (by decide) ?_
  refine g_cVi E [.int x1, .int 3] rfl (c_X4_get hap (fun x h => hN x (ns_4_0 x h)) x1 3 s15) (hN 4 (by decide)) (by decide) rfl rfl mi_X4_get msl_X4_get mw_X4_get rfl ml_0_25 ⟨Nat.le_of_ble_eq_true rfl, Nat.le_of_ble_eq_true rfl⟩ (Nat.le_of_ble_eq_true rfl) dX0_crownTheTop_119 (fun r17 s16 => ?_)
  refine g_istore_n E (lv' := [(1, .int r17), (4, .int x1), (0, .ref (ad 0)), (2, .int x2), (3, .int x3), (5, .int x5)]) dX0_crownTheTop_122 (by decide) rfl ?_
  refine g_iinc E (lv' := []) (lv'' := fun y18 => [(5, .int y18), (1, .int r17), (4, .int x1), (0, .ref (ad 0)), (2, .int x2), (3, .int x3)]) (v := 1) dX0_crownTheTop_123 5 rfl (by decide) (by decide) (fun _ => rfl) (fun y18 => ?_)
  refine g_goto E 65 dX0_crownTheTop_126 (by decide) ?_
  refine g_sub [3, 1, 4, 5, 2, 0] rfl ?_
  exact hkb65 r17 x2 x3 x1 y18 s16
set_option maxHeartbeats 4000000 in
set_option maxRecDepth 20000 in
theorem w_X0_crownTheTop_p65 (E : dr_E p (dr_rm 3) s0 m args meth c 0 0 A s0.heap D cI cZ ad L cX0_crownTheTop 6 RX0 none) (hap : dr_ap ad L) (hN : ∀ x ∈ nd_0, x ∈ L) : ∀ (n : Nat) (x1 : Int32) (x2 : Int32) (x3 : Int32) (x4 : Int32) (x5 : Int32) (s : dr_S), dr_G p l e (dr_rm 3) s0 m args below meth c 0 0 A s0.heap D cI cZ ad ln L 6 (dr_Zv D cI cZ ad ln L A below args s0 0 0) 65 [(0, .ref (ad 0)), (1, .int x1), (2, .int x2), (3, .int x3), (4, .int x4), (5, .int x5)] [] s (f_X0_crownTheTop_p65 ln n x1 x2 x3 x4 x5 s) := by
  intro n
  induction n with
  | zero =>
    intro x1 x2 x3 x4 x5 s
    rw [f_X0_crownTheTop_p65]
    exact g_none
  | succ n hkb65 =>
    intro x1 x2 x3 x4 x5 s
    rw [f_X0_crownTheTop_p65]
    refine g_iload E dX0_crownTheTop_65 5 rfl ?_
    refine g_iload_n E dX0_crownTheTop_67 3 rfl ?_
    refine g_icmp_ge E 129 dX0_crownTheTop_68 (by decide) ?_ ?_
    · refine g_sub [0, 2] rfl ?_
      exact w_X0_crownTheTop_p129 E hap hN x2 s
    · refine g_iload_n E dX0_crownTheTop_71 1 rfl ?_
      refine g_iconst E (v := (-1)) dX0_crownTheTop_72 (by decide) ?_
      refine g_icmp_eq E 129 dX0_crownTheTop_73 (by decide) ?_ ?_
      · refine g_sub [0, 2] rfl ?_
        exact w_X0_crownTheTop_p129 E hap hN x2 s
      · refine g_iload E dX0_crownTheTop_76 5 rfl ?_
        refine g_if_le E 99 dX0_crownTheTop_78 (by decide) ?_ ?_
        · refine g_sub [0, 1, 2, 3, 5] rfl ?_
          exact w_X0_crownTheTop_p99 E hap hN hkb65 x1 x2 x3 x5 s
        · refine g_aload_n E dX0_crownTheTop_81 0 rfl ?_
          refine gg_0_9 E (hN 0 (by decide)) dX0_crownTheTop_82 ?_
          refine g_iload_n E dX0_crownTheTop_85 2 rfl ?_
          refine g_aload_n E dX0_crownTheTop_86 0 rfl ?_
          refine gg_0_9 E (hN 0 (by decide)) dX0_crownTheTop_87 ?_
          refine g_iload E dX0_crownTheTop_90 4 rfl ?_
          refine g_iconst E (v := 2) dX0_crownTheTop_92 (by decide) ?_
          refine g_cVi E [.int x4, .int 2] rfl (c_X4_get hap (fun x h => hN x (ns_4_0 x h)) x4 2 s) (hN 4 (by decide)) (by decide) rfl rfl mi_X4_get msl_X4_get mw_X4_get rfl ml_0_25 ⟨Nat.le_of_ble_eq_true rfl, Nat.le_of_ble_eq_true rfl⟩ (Nat.le_of_ble_eq_true rfl) dX0_crownTheTop_93 (fun r13 s12 => ?_)
          refine g_cVv E [.int x2, .int r13] rfl (c_X4_addHeading hap (fun x h => hN x (ns_4_0 x h)) x2 r13 s12) (hN 4 (by decide)) (by decide) rfl rfl mi_X4_addHeading msl_X4_addHeading mw_X4_addHeading rfl ml_0_36 ⟨Nat.le_of_ble_eq_true rfl, Nat.le_of_ble_eq_true rfl⟩ (Nat.le_of_ble_eq_true rfl) dX0_crownTheTop_96 (fun s14 => ?_)
          refine g_sub [0, 1, 2, 3, 5] rfl ?_
          exact w_X0_crownTheTop_p99 E hap hN hkb65 x1 x2 x3 x5 s14
set_option maxHeartbeats 4000000 in
set_option maxRecDepth 20000 in
theorem c_X0_crownTheTop (hap : dr_ap ad L) (hN : ∀ x ∈ nd_0, x ∈ L) (s : dr_S) : dr_Mv l D cI cZ ad ln L yX0_crownTheTop cX0_crownTheTop 6 3 [.ref (ad 0)] s (f_X0_crownTheTop ln  s) := by
  refine dr_metv (own := RX0) (by decide) rfl (Nat.le_of_ble_eq_true rfl) hap ?_
  intro p e s0 m args below meth c A E
  unfold f_X0_crownTheTop
  refine g_eqL (lv' := [(0, .ref (ad 0))]) rfl ?_
  refine g_aload_n E dX0_crownTheTop_0 0 rfl ?_
  refine gg_0_9 E (hN 0 (by decide)) dX0_crownTheTop_1 ?_
  refine g_cVi E [] rfl (c_X4_top hap (fun x h => hN x (ns_4_0 x h))  s) (hN 4 (by decide)) (by decide) rfl rfl mi_X4_top msl_X4_top mw_X4_top rfl ml_0_19 ⟨Nat.le_of_ble_eq_true rfl, Nat.le_of_ble_eq_true rfl⟩ (Nat.le_of_ble_eq_true rfl) dX0_crownTheTop_4 (fun r2 s1 => ?_)
  refine g_istore_n E (lv' := [(1, .int r2), (0, .ref (ad 0))]) dX0_crownTheTop_7 (by decide) rfl ?_
  refine g_aload_n E dX0_crownTheTop_8 1 rfl ?_
  refine gg_0_9 E (hN 0 (by decide)) dX0_crownTheTop_9 ?_
  refine g_iload_n E dX0_crownTheTop_12 0 rfl ?_
  refine g_iconst E (v := 3) dX0_crownTheTop_13 (by decide) ?_
  refine g_cVi E [.int r2, .int 3] rfl (c_X4_get hap (fun x h => hN x (ns_4_0 x h)) r2 3 s1) (hN 4 (by decide)) (by decide) rfl rfl mi_X4_get msl_X4_get mw_X4_get rfl ml_0_25 ⟨Nat.le_of_ble_eq_true rfl, Nat.le_of_ble_eq_true rfl⟩ (Nat.le_of_ble_eq_true rfl) dX0_crownTheTop_14 (fun r4 s3 => ?_)
  refine g_iconst E (v := (-1)) dX0_crownTheTop_17 (by decide) ?_
  refine g_icmp_ne E 22 dX0_crownTheTop_18 (by decide) ?_ ?_
  · refine g_aload_n E dX0_crownTheTop_22 1 rfl ?_
    refine gg_0_9 E (hN 0 (by decide)) dX0_crownTheTop_23 ?_
    refine g_aload_n E dX0_crownTheTop_26 1 rfl ?_
    refine gg_0_9 E (hN 0 (by decide)) dX0_crownTheTop_27 ?_
    refine g_iload_n E dX0_crownTheTop_30 0 rfl ?_
    refine g_iconst E (v := 0) dX0_crownTheTop_31 (by decide) ?_
    refine g_cVi E [.int r2, .int 0] rfl (c_X4_get hap (fun x h => hN x (ns_4_0 x h)) r2 0 s3) (hN 4 (by decide)) (by decide) rfl rfl mi_X4_get msl_X4_get mw_X4_get rfl ml_0_25 ⟨Nat.le_of_ble_eq_true rfl, Nat.le_of_ble_eq_true rfl⟩ (Nat.le_of_ble_eq_true rfl) dX0_crownTheTop_32 (fun r6 s5 => ?_)
    refine g_iconst E (v := 1) dX0_crownTheTop_35 (by decide) ?_
    refine g_iadd E dX0_crownTheTop_36 ?_
    refine g_cVi E [.int (r6 + 1)] rfl (c_X4_open hap (fun x h => hN x (ns_4_0 x h)) ((r6 + 1)) s5) (hN 4 (by decide)) (by decide) rfl rfl mi_X4_open msl_X4_open mw_X4_open rfl ml_0_29 ⟨Nat.le_of_ble_eq_true rfl, Nat.le_of_ble_eq_true rfl⟩ (Nat.le_of_ble_eq_true rfl) dX0_crownTheTop_37 (fun r8 s7 => ?_)
    refine g_istore_n E (lv' := [(2, .int r8), (1, .int r2), (0, .ref (ad 0))]) dX0_crownTheTop_40 (by decide) rfl ?_
    refine g_iload_n E dX0_crownTheTop_41 0 rfl ?_
    refine g_iconst E (v := (-1)) dX0_crownTheTop_42 (by decide) ?_
    refine g_icmp_ne E 47 dX0_crownTheTop_43 (by decide) ?_ ?_
    · refine g_iconst E (v := 2) dX0_crownTheTop_47 (by decide) ?_
      refine g_aload_n E dX0_crownTheTop_48 2 rfl ?_
      refine gg_0_9 E (hN 0 (by decide)) dX0_crownTheTop_49 ?_
      refine g_cVi E [] rfl (c_X4_half hap (fun x h => hN x (ns_4_0 x h))  s7) (hN 4 (by decide)) (by decide) rfl rfl mi_X4_half msl_X4_half mw_X4_half rfl ml_0_33 ⟨Nat.le_of_ble_eq_true rfl, Nat.le_of_ble_eq_true rfl⟩ (Nat.le_of_ble_eq_true rfl) dX0_crownTheTop_52 (fun r10 s9 => ?_)
      refine g_imul E dX0_crownTheTop_55 ?_
      refine g_iconst E (v := 1) dX0_crownTheTop_56 (by decide) ?_
      refine g_iadd E dX0_crownTheTop_57 ?_
      refine g_let (fun y11 => ?_)
      refine g_istore_n E (lv' := [(3, .int y11), (2, .int r8), (1, .int r2), (0, .ref (ad 0))]) dX0_crownTheTop_58 (by decide) rfl ?_
      refine g_iconst E (v := (-1)) dX0_crownTheTop_59 (by decide) ?_
      refine g_istore E (lv' := [(4, .int (-1)), (3, .int y11), (2, .int r8), (1, .int r2), (0, .ref (ad 0))]) dX0_crownTheTop_60 (by decide) rfl ?_
      refine g_iconst E (v := 0) dX0_crownTheTop_62 (by decide) ?_
      refine g_istore E (lv' := [(5, .int 0), (4, .int (-1)), (3, .int y11), (2, .int r8), (1, .int r2), (0, .ref (ad 0))]) dX0_crownTheTop_63 (by decide) rfl ?_
      refine g_sub [5, 4, 3, 2, 1, 0] rfl ?_
      exact w_X0_crownTheTop_p65 E hap hN dr_N r2 r8 y11 ((-1)) 0 s9
    · exact g_vret E dX0_crownTheTop_46
  · exact g_vret E dX0_crownTheTop_21
end

theorem dX4_child_0 : decode cX4_child 0 = .ok (.aload_n 0, 1) := by decide +kernel
theorem dX4_child_1 : decode cX4_child 1 = .ok (.iload_n 1, 1) := by decide +kernel
theorem dX4_child_2 : decode cX4_child 2 = .ok (.iconst 0, 1) := by decide +kernel
theorem dX4_child_3 : decode cX4_child 3 = .ok (.invokevirtual 58, 3) := by decide +kernel
theorem dX4_child_6 : decode cX4_child 6 = .ok (.ifCond .le 21, 3) := by decide +kernel
theorem dX4_child_9 : decode cX4_child 9 = .ok (.iload_n 2, 1) := by decide +kernel
theorem dX4_child_10 : decode cX4_child 10 = .ok (.ifCond .lt 17, 3) := by decide +kernel
theorem dX4_child_13 : decode cX4_child 13 = .ok (.iload_n 2, 1) := by decide +kernel
theorem dX4_child_14 : decode cX4_child 14 = .ok (.aload_n 0, 1) := by decide +kernel
theorem dX4_child_15 : decode cX4_child 15 = .ok (.iload_n 1, 1) := by decide +kernel
theorem dX4_child_16 : decode cX4_child 16 = .ok (.iconst 1, 1) := by decide +kernel
theorem dX4_child_17 : decode cX4_child 17 = .ok (.invokevirtual 58, 3) := by decide +kernel
theorem dX4_child_20 : decode cX4_child 20 = .ok (.if_icmp .gt 7, 3) := by decide +kernel
theorem dX4_child_23 : decode cX4_child 23 = .ok (.iconst 1, 1) := by decide +kernel
theorem dX4_child_24 : decode cX4_child 24 = .ok (.goto 4, 3) := by decide +kernel
theorem dX4_child_27 : decode cX4_child 27 = .ok (.iconst 0, 1) := by decide +kernel
theorem dX4_child_28 : decode cX4_child 28 = .ok (.istore_n 3, 1) := by decide +kernel
theorem dX4_child_29 : decode cX4_child 29 = .ok (.iload_n 3, 1) := by decide +kernel
theorem dX4_child_30 : decode cX4_child 30 = .ok (.ifCond .eq 26, 3) := by decide +kernel
theorem dX4_child_33 : decode cX4_child 33 = .ok (.aload_n 0, 1) := by decide +kernel
theorem dX4_child_34 : decode cX4_child 34 = .ok (.getfield 9, 3) := by decide +kernel
theorem dX4_child_37 : decode cX4_child 37 = .ok (.iload_n 1, 1) := by decide +kernel
theorem dX4_child_38 : decode cX4_child 38 = .ok (.aload_n 0, 1) := by decide +kernel
theorem dX4_child_39 : decode cX4_child 39 = .ok (.getfield 27, 3) := by decide +kernel
theorem dX4_child_42 : decode cX4_child 42 = .ok (.imul, 1) := by decide +kernel
theorem dX4_child_43 : decode cX4_child 43 = .ok (.aload_n 0, 1) := by decide +kernel
theorem dX4_child_44 : decode cX4_child 44 = .ok (.getfield 30, 3) := by decide +kernel
theorem dX4_child_47 : decode cX4_child 47 = .ok (.iadd, 1) := by decide +kernel
theorem dX4_child_48 : decode cX4_child 48 = .ok (.iload_n 2, 1) := by decide +kernel
theorem dX4_child_49 : decode cX4_child 49 = .ok (.iadd, 1) := by decide +kernel
theorem dX4_child_50 : decode cX4_child 50 = .ok (.invokevirtual 49, 3) := by decide +kernel
theorem dX4_child_53 : decode cX4_child 53 = .ok (.goto 4, 3) := by decide +kernel
theorem dX4_child_56 : decode cX4_child 56 = .ok (.iconst (-1), 1) := by decide +kernel
theorem dX4_child_57 : decode cX4_child 57 = .ok (.ireturn, 1) := by decide +kernel
def f_X4_child_p28 (ln : Nat → Nat) (x1 : Int32) (x2 : Int32) (z0 : Int32) (s : dr_S) : Option (Int32 × dr_S) := (if z0 = 0 then some ((-1), s) else dr_bnd (f_X2_get ln ((((x1 * (s.2 403)) + (s.2 404)) + x2)) s) (fun r6 s5 => some (r6, s5)))
def f_X4_child_p27 (ln : Nat → Nat) (x1 : Int32) (x2 : Int32) (s : dr_S) : Option (Int32 × dr_S) := (f_X4_child_p28 ln x1 x2 0 s)
def f_X4_child (ln : Nat → Nat) (x1 : Int32) (x2 : Int32) (s : dr_S) : Option (Int32 × dr_S) := dr_bnd (f_X4_get ln x1 0 s) (fun r2 s1 => (if r2 ≤ 0 then (f_X4_child_p27 ln x1 x2 s1) else (if x2 < 0 then (f_X4_child_p27 ln x1 x2 s1) else dr_bnd (f_X4_get ln x1 1 s1) (fun r4 s3 => (if r4 < x2 then (f_X4_child_p27 ln x1 x2 s3) else (f_X4_child_p28 ln x1 x2 1 s3))))))
section
variable {p : Program} {l : Launch} {e : Env} {s0 : State} {m : MethodId} {args : Array Value} {below : List Frame} {meth : Method} {c : Code} {A : Nat → Prop} {D : va_G} {cI cZ : ClassId} {ad ln : Nat → Nat} {L : List Nat}
set_option maxHeartbeats 4000000 in
set_option maxRecDepth 20000 in
theorem w_X4_child_p28 (E : dr_E p (dr_rm 2) s0 m args meth c 0 0 A s0.heap D cI cZ ad L cX4_child 4 RX4 (some .int)) (hap : dr_ap ad L) (hN : ∀ x ∈ nd_4, x ∈ L) : ∀ (x1 : Int32) (x2 : Int32) (z0 : Int32) (s : dr_S), dr_G p l e (dr_rm 2) s0 m args below meth c 0 0 A s0.heap D cI cZ ad ln L 4 (dr_Zi D cI cZ ad ln L A below args s0 0 0) 28 [(0, .ref (ad 4)), (1, .int x1), (2, .int x2)] [.int z0] s (f_X4_child_p28 ln x1 x2 z0 s) := by
  intro x1 x2 z0 s
  unfold f_X4_child_p28
  refine g_istore_n E (lv' := [(3, .int z0), (0, .ref (ad 4)), (1, .int x1), (2, .int x2)]) dX4_child_28 (by decide) rfl ?_
  refine g_iload_n E dX4_child_29 0 rfl ?_
  refine g_if_eq E 56 dX4_child_30 (by decide) ?_ ?_
  · refine g_iconst E (v := (-1)) dX4_child_56 (by decide) ?_
    exact g_iret E dX4_child_57
  · refine g_aload_n E dX4_child_33 1 rfl ?_
    refine gg_4_9 E (hN 4 (by decide)) dX4_child_34 ?_
    refine g_iload_n E dX4_child_37 2 rfl ?_
    refine g_aload_n E dX4_child_38 1 rfl ?_
    refine gg_4_27 E (hN 4 (by decide)) dX4_child_39 ?_
    refine g_imul E dX4_child_42 ?_
    refine g_aload_n E dX4_child_43 1 rfl ?_
    refine gg_4_30 E (hN 4 (by decide)) dX4_child_44 ?_
    refine g_iadd E dX4_child_47 ?_
    refine g_iload_n E dX4_child_48 3 rfl ?_
    refine g_iadd E dX4_child_49 ?_
    refine g_cVi E [.int (((x1 * (s.2 403)) + (s.2 404)) + x2)] rfl (c_X2_get hap (fun x h => hN x (ns_2_4 x h)) ((((x1 * (s.2 403)) + (s.2 404)) + x2)) s) (hN 2 (by decide)) (by decide) rfl rfl mi_X2_get msl_X2_get mw_X2_get rfl ml_4_49 ⟨Nat.le_of_ble_eq_true rfl, Nat.le_of_ble_eq_true rfl⟩ (Nat.le_of_ble_eq_true rfl) dX4_child_50 (fun r6 s5 => ?_)
    refine g_goto E 57 dX4_child_53 (by decide) ?_
    exact g_iret E dX4_child_57
set_option maxHeartbeats 4000000 in
set_option maxRecDepth 20000 in
theorem w_X4_child_p27 (E : dr_E p (dr_rm 2) s0 m args meth c 0 0 A s0.heap D cI cZ ad L cX4_child 4 RX4 (some .int)) (hap : dr_ap ad L) (hN : ∀ x ∈ nd_4, x ∈ L) : ∀ (x1 : Int32) (x2 : Int32) (s : dr_S), dr_G p l e (dr_rm 2) s0 m args below meth c 0 0 A s0.heap D cI cZ ad ln L 4 (dr_Zi D cI cZ ad ln L A below args s0 0 0) 27 [(0, .ref (ad 4)), (1, .int x1), (2, .int x2)] [] s (f_X4_child_p27 ln x1 x2 s) := by
  intro x1 x2 s
  unfold f_X4_child_p27
  refine g_iconst E (v := 0) dX4_child_27 (by decide) ?_
  refine g_sub [0, 1, 2] rfl ?_
  exact w_X4_child_p28 E hap hN x1 x2 0 s
set_option maxHeartbeats 4000000 in
set_option maxRecDepth 20000 in
theorem c_X4_child (hap : dr_ap ad L) (hN : ∀ x ∈ nd_4, x ∈ L) (x1 : Int32) (x2 : Int32) (s : dr_S) : dr_Mi l D cI cZ ad ln L yX4_child cX4_child 4 (some .int) 2 [.ref (ad 4), .int x1, .int x2] s (f_X4_child ln x1 x2 s) := by
  refine dr_meti (own := RX4) (by decide) rfl (Nat.le_of_ble_eq_true rfl) hap ?_
  intro p e s0 m args below meth c A E
  unfold f_X4_child
  refine g_eqL (lv' := [(0, .ref (ad 4)), (1, .int x1), (2, .int x2)]) rfl ?_
  refine g_aload_n E dX4_child_0 0 rfl ?_
  refine g_iload_n E dX4_child_1 1 rfl ?_
  refine g_iconst E (v := 0) dX4_child_2 (by decide) ?_
  refine g_cVi E [.int x1, .int 0] rfl (c_X4_get hap hN x1 0 s) (hN 4 (by decide)) (by decide) rfl rfl mi_X4_get msl_X4_get mw_X4_get rfl ml_4_58 ⟨Nat.le_of_ble_eq_true rfl, Nat.le_of_ble_eq_true rfl⟩ (Nat.le_of_ble_eq_true rfl) dX4_child_3 (fun r2 s1 => ?_)
  refine g_if_le E 27 dX4_child_6 (by decide) ?_ ?_
  · refine g_sub [0, 1, 2] rfl ?_
    exact w_X4_child_p27 E hap hN x1 x2 s1
  · refine g_iload_n E dX4_child_9 2 rfl ?_
    refine g_if_lt E 27 dX4_child_10 (by decide) ?_ ?_
    · refine g_sub [0, 1, 2] rfl ?_
      exact w_X4_child_p27 E hap hN x1 x2 s1
    · refine g_iload_n E dX4_child_13 2 rfl ?_
      refine g_aload_n E dX4_child_14 0 rfl ?_
      refine g_iload_n E dX4_child_15 1 rfl ?_
      refine g_iconst E (v := 1) dX4_child_16 (by decide) ?_
      refine g_cVi E [.int x1, .int 1] rfl (c_X4_get hap hN x1 1 s1) (hN 4 (by decide)) (by decide) rfl rfl mi_X4_get msl_X4_get mw_X4_get rfl ml_4_58 ⟨Nat.le_of_ble_eq_true rfl, Nat.le_of_ble_eq_true rfl⟩ (Nat.le_of_ble_eq_true rfl) dX4_child_17 (fun r4 s3 => ?_)
      refine g_icmp_gt E 27 dX4_child_20 (by decide) ?_ ?_
      · refine g_sub [0, 1, 2] rfl ?_
        exact w_X4_child_p27 E hap hN x1 x2 s3
      · refine g_iconst E (v := 1) dX4_child_23 (by decide) ?_
        refine g_goto E 28 dX4_child_24 (by decide) ?_
        refine g_sub [0, 1, 2] rfl ?_
        exact w_X4_child_p28 E hap hN x1 x2 1 s3
end

theorem dX4_firstOf_0 : decode cX4_firstOf 0 = .ok (.aload_n 0, 1) := by decide +kernel
theorem dX4_firstOf_1 : decode cX4_firstOf 1 = .ok (.invokevirtual 84, 3) := by decide +kernel
theorem dX4_firstOf_4 : decode cX4_firstOf 4 = .ok (.istore_n 2, 1) := by decide +kernel
theorem dX4_firstOf_5 : decode cX4_firstOf 5 = .ok (.iconst 0, 1) := by decide +kernel
theorem dX4_firstOf_6 : decode cX4_firstOf 6 = .ok (.istore_n 3, 1) := by decide +kernel
theorem dX4_firstOf_7 : decode cX4_firstOf 7 = .ok (.iload_n 3, 1) := by decide +kernel
theorem dX4_firstOf_8 : decode cX4_firstOf 8 = .ok (.sipush 256, 3) := by decide +kernel
theorem dX4_firstOf_11 : decode cX4_firstOf 11 = .ok (.if_icmp .ge 26, 3) := by decide +kernel
theorem dX4_firstOf_14 : decode cX4_firstOf 14 = .ok (.aload_n 0, 1) := by decide +kernel
theorem dX4_firstOf_15 : decode cX4_firstOf 15 = .ok (.iload_n 2, 1) := by decide +kernel
theorem dX4_firstOf_16 : decode cX4_firstOf 16 = .ok (.iconst 0, 1) := by decide +kernel
theorem dX4_firstOf_17 : decode cX4_firstOf 17 = .ok (.invokevirtual 58, 3) := by decide +kernel
theorem dX4_firstOf_20 : decode cX4_firstOf 20 = .ok (.iload_n 1, 1) := by decide +kernel
theorem dX4_firstOf_21 : decode cX4_firstOf 21 = .ok (.if_icmp .le 16, 3) := by decide +kernel
theorem dX4_firstOf_24 : decode cX4_firstOf 24 = .ok (.aload_n 0, 1) := by decide +kernel
theorem dX4_firstOf_25 : decode cX4_firstOf 25 = .ok (.iload_n 2, 1) := by decide +kernel
theorem dX4_firstOf_26 : decode cX4_firstOf 26 = .ok (.iconst 0, 1) := by decide +kernel
theorem dX4_firstOf_27 : decode cX4_firstOf 27 = .ok (.invokevirtual 87, 3) := by decide +kernel
theorem dX4_firstOf_30 : decode cX4_firstOf 30 = .ok (.istore_n 2, 1) := by decide +kernel
theorem dX4_firstOf_31 : decode cX4_firstOf 31 = .ok (.iinc 3 1, 3) := by decide +kernel
theorem dX4_firstOf_34 : decode cX4_firstOf 34 = .ok (.goto (-27), 3) := by decide +kernel
theorem dX4_firstOf_37 : decode cX4_firstOf 37 = .ok (.aload_n 0, 1) := by decide +kernel
theorem dX4_firstOf_38 : decode cX4_firstOf 38 = .ok (.iload_n 2, 1) := by decide +kernel
theorem dX4_firstOf_39 : decode cX4_firstOf 39 = .ok (.iconst 0, 1) := by decide +kernel
theorem dX4_firstOf_40 : decode cX4_firstOf 40 = .ok (.invokevirtual 58, 3) := by decide +kernel
theorem dX4_firstOf_43 : decode cX4_firstOf 43 = .ok (.iload_n 1, 1) := by decide +kernel
theorem dX4_firstOf_44 : decode cX4_firstOf 44 = .ok (.if_icmp .ne 7, 3) := by decide +kernel
theorem dX4_firstOf_47 : decode cX4_firstOf 47 = .ok (.iload_n 2, 1) := by decide +kernel
theorem dX4_firstOf_48 : decode cX4_firstOf 48 = .ok (.goto 4, 3) := by decide +kernel
theorem dX4_firstOf_51 : decode cX4_firstOf 51 = .ok (.iconst (-1), 1) := by decide +kernel
theorem dX4_firstOf_52 : decode cX4_firstOf 52 = .ok (.ireturn, 1) := by decide +kernel
def f_X4_firstOf_p37 (ln : Nat → Nat) (x1 : Int32) (x2 : Int32) (s : dr_S) : Option (Int32 × dr_S) := dr_bnd (f_X4_get ln x2 0 s) (fun r9 s8 => (if r9 = x1 then some (x2, s8) else some ((-1), s8)))
def f_X4_firstOf_p7 (ln : Nat → Nat) : Nat → Int32 → Int32 → Int32 → dr_S → Option (Int32 × dr_S)
  | 0, _, _, _, _ => none
  | n + 1, x1, x2, x3, s => (if ((256 : Int32) ≤ x3 : Prop) then (f_X4_firstOf_p37 ln x1 x2 s) else dr_bnd (f_X4_get ln x2 0 s) (fun r4 s3 => (if r4 ≤ x1 then (f_X4_firstOf_p37 ln x1 x2 s3) else dr_bnd (f_X4_child ln x2 0 s3) (fun r6 s5 => dr_let (x3 + 1) (fun y7 => (f_X4_firstOf_p7 ln n x1 r6 y7 s5))))))
def f_X4_firstOf (ln : Nat → Nat) (x1 : Int32) (s : dr_S) : Option (Int32 × dr_S) := dr_bnd (f_X4_top ln  s) (fun r2 s1 => (f_X4_firstOf_p7 ln dr_N x1 r2 0 s1))
section
variable {p : Program} {l : Launch} {e : Env} {s0 : State} {m : MethodId} {args : Array Value} {below : List Frame} {meth : Method} {c : Code} {A : Nat → Prop} {D : va_G} {cI cZ : ClassId} {ad ln : Nat → Nat} {L : List Nat}
set_option maxHeartbeats 4000000 in
set_option maxRecDepth 20000 in
theorem w_X4_firstOf_p37 (E : dr_E p (dr_rm 3) s0 m args meth c 0 0 A s0.heap D cI cZ ad L cX4_firstOf 4 RX4 (some .int)) (hap : dr_ap ad L) (hN : ∀ x ∈ nd_4, x ∈ L) : ∀ (x1 : Int32) (x2 : Int32) (s : dr_S), dr_G p l e (dr_rm 3) s0 m args below meth c 0 0 A s0.heap D cI cZ ad ln L 4 (dr_Zi D cI cZ ad ln L A below args s0 0 0) 37 [(0, .ref (ad 4)), (1, .int x1), (2, .int x2)] [] s (f_X4_firstOf_p37 ln x1 x2 s) := by
  intro x1 x2 s
  unfold f_X4_firstOf_p37
  refine g_aload_n E dX4_firstOf_37 0 rfl ?_
  refine g_iload_n E dX4_firstOf_38 2 rfl ?_
  refine g_iconst E (v := 0) dX4_firstOf_39 (by decide) ?_
  refine g_cVi E [.int x2, .int 0] rfl (c_X4_get hap hN x2 0 s) (hN 4 (by decide)) (by decide) rfl rfl mi_X4_get msl_X4_get mw_X4_get rfl ml_4_58 ⟨Nat.le_of_ble_eq_true rfl, Nat.le_of_ble_eq_true rfl⟩ (Nat.le_of_ble_eq_true rfl) dX4_firstOf_40 (fun r9 s8 => ?_)
  refine g_iload_n E dX4_firstOf_43 1 rfl ?_
  refine g_icmp_ne E 51 dX4_firstOf_44 (by decide) ?_ ?_
  · refine g_iconst E (v := (-1)) dX4_firstOf_51 (by decide) ?_
    exact g_iret E dX4_firstOf_52
  · refine g_iload_n E dX4_firstOf_47 2 rfl ?_
    refine g_goto E 52 dX4_firstOf_48 (by decide) ?_
    exact g_iret E dX4_firstOf_52
set_option maxHeartbeats 4000000 in
set_option maxRecDepth 20000 in
theorem w_X4_firstOf_p7 (E : dr_E p (dr_rm 3) s0 m args meth c 0 0 A s0.heap D cI cZ ad L cX4_firstOf 4 RX4 (some .int)) (hap : dr_ap ad L) (hN : ∀ x ∈ nd_4, x ∈ L) : ∀ (n : Nat) (x1 : Int32) (x2 : Int32) (x3 : Int32) (s : dr_S), dr_G p l e (dr_rm 3) s0 m args below meth c 0 0 A s0.heap D cI cZ ad ln L 4 (dr_Zi D cI cZ ad ln L A below args s0 0 0) 7 [(0, .ref (ad 4)), (1, .int x1), (2, .int x2), (3, .int x3)] [] s (f_X4_firstOf_p7 ln n x1 x2 x3 s) := by
  intro n
  induction n with
  | zero =>
    intro x1 x2 x3 s
    rw [f_X4_firstOf_p7]
    exact g_none
  | succ n hkb7 =>
    intro x1 x2 x3 s
    rw [f_X4_firstOf_p7]
    refine g_iload_n E dX4_firstOf_7 3 rfl ?_
    refine g_sipush E (v := 256) dX4_firstOf_8 (by decide) ?_
    refine g_icmp_ge E 37 dX4_firstOf_11 (by decide) ?_ ?_
    · refine g_sub [0, 1, 2] rfl ?_
      exact w_X4_firstOf_p37 E hap hN x1 x2 s
    · refine g_aload_n E dX4_firstOf_14 0 rfl ?_
      refine g_iload_n E dX4_firstOf_15 2 rfl ?_
      refine g_iconst E (v := 0) dX4_firstOf_16 (by decide) ?_
      refine g_cVi E [.int x2, .int 0] rfl (c_X4_get hap hN x2 0 s) (hN 4 (by decide)) (by decide) rfl rfl mi_X4_get msl_X4_get mw_X4_get rfl ml_4_58 ⟨Nat.le_of_ble_eq_true rfl, Nat.le_of_ble_eq_true rfl⟩ (Nat.le_of_ble_eq_true rfl) dX4_firstOf_17 (fun r4 s3 => ?_)
      refine g_iload_n E dX4_firstOf_20 1 rfl ?_
      refine g_icmp_le E 37 dX4_firstOf_21 (by decide) ?_ ?_
      · refine g_sub [0, 1, 2] rfl ?_
        exact w_X4_firstOf_p37 E hap hN x1 x2 s3
      · refine g_aload_n E dX4_firstOf_24 0 rfl ?_
        refine g_iload_n E dX4_firstOf_25 2 rfl ?_
        refine g_iconst E (v := 0) dX4_firstOf_26 (by decide) ?_
        refine g_cVi E [.int x2, .int 0] rfl (c_X4_child hap hN x2 0 s3) (hN 4 (by decide)) (by decide) rfl rfl mi_X4_child msl_X4_child mw_X4_child rfl ml_4_87 ⟨Nat.le_of_ble_eq_true rfl, Nat.le_of_ble_eq_true rfl⟩ (Nat.le_of_ble_eq_true rfl) dX4_firstOf_27 (fun r6 s5 => ?_)
        refine g_istore_n E (lv' := [(2, .int r6), (0, .ref (ad 4)), (1, .int x1), (3, .int x3)]) dX4_firstOf_30 (by decide) rfl ?_
        refine g_iinc E (lv' := []) (lv'' := fun y7 => [(3, .int y7), (2, .int r6), (0, .ref (ad 4)), (1, .int x1)]) (v := 1) dX4_firstOf_31 3 rfl (by decide) (by decide) (fun _ => rfl) (fun y7 => ?_)
        refine g_goto E 7 dX4_firstOf_34 (by decide) ?_
        refine g_sub [2, 3, 1, 0] rfl ?_
        exact hkb7 x1 r6 y7 s5
set_option maxHeartbeats 4000000 in
set_option maxRecDepth 20000 in
theorem c_X4_firstOf (hap : dr_ap ad L) (hN : ∀ x ∈ nd_4, x ∈ L) (x1 : Int32) (s : dr_S) : dr_Mi l D cI cZ ad ln L yX4_firstOf cX4_firstOf 4 (some .int) 3 [.ref (ad 4), .int x1] s (f_X4_firstOf ln x1 s) := by
  refine dr_meti (own := RX4) (by decide) rfl (Nat.le_of_ble_eq_true rfl) hap ?_
  intro p e s0 m args below meth c A E
  unfold f_X4_firstOf
  refine g_eqL (lv' := [(0, .ref (ad 4)), (1, .int x1)]) rfl ?_
  refine g_aload_n E dX4_firstOf_0 0 rfl ?_
  refine g_cVi E [] rfl (c_X4_top hap hN  s) (hN 4 (by decide)) (by decide) rfl rfl mi_X4_top msl_X4_top mw_X4_top rfl ml_4_84 ⟨Nat.le_of_ble_eq_true rfl, Nat.le_of_ble_eq_true rfl⟩ (Nat.le_of_ble_eq_true rfl) dX4_firstOf_1 (fun r2 s1 => ?_)
  refine g_istore_n E (lv' := [(2, .int r2), (0, .ref (ad 4)), (1, .int x1)]) dX4_firstOf_4 (by decide) rfl ?_
  refine g_iconst E (v := 0) dX4_firstOf_5 (by decide) ?_
  refine g_istore_n E (lv' := [(3, .int 0), (2, .int r2), (0, .ref (ad 4)), (1, .int x1)]) dX4_firstOf_6 (by decide) rfl ?_
  refine g_sub [2, 3, 1, 0] rfl ?_
  exact w_X4_firstOf_p7 E hap hN dr_N x1 r2 0 s1
end

theorem dX4_heading_0 : decode cX4_heading 0 = .ok (.iload_n 2, 1) := by decide +kernel
theorem dX4_heading_1 : decode cX4_heading 1 = .ok (.ifCond .lt 33, 3) := by decide +kernel
theorem dX4_heading_4 : decode cX4_heading 4 = .ok (.iload_n 2, 1) := by decide +kernel
theorem dX4_heading_5 : decode cX4_heading 5 = .ok (.aload_n 0, 1) := by decide +kernel
theorem dX4_heading_6 : decode cX4_heading 6 = .ok (.iload_n 1, 1) := by decide +kernel
theorem dX4_heading_7 : decode cX4_heading 7 = .ok (.iconst 1, 1) := by decide +kernel
theorem dX4_heading_8 : decode cX4_heading 8 = .ok (.invokevirtual 58, 3) := by decide +kernel
theorem dX4_heading_11 : decode cX4_heading 11 = .ok (.if_icmp .ge 23, 3) := by decide +kernel
theorem dX4_heading_14 : decode cX4_heading 14 = .ok (.aload_n 0, 1) := by decide +kernel
theorem dX4_heading_15 : decode cX4_heading 15 = .ok (.getfield 9, 3) := by decide +kernel
theorem dX4_heading_18 : decode cX4_heading 18 = .ok (.iload_n 1, 1) := by decide +kernel
theorem dX4_heading_19 : decode cX4_heading 19 = .ok (.aload_n 0, 1) := by decide +kernel
theorem dX4_heading_20 : decode cX4_heading 20 = .ok (.getfield 27, 3) := by decide +kernel
theorem dX4_heading_23 : decode cX4_heading 23 = .ok (.imul, 1) := by decide +kernel
theorem dX4_heading_24 : decode cX4_heading 24 = .ok (.iconst 5, 1) := by decide +kernel
theorem dX4_heading_25 : decode cX4_heading 25 = .ok (.iadd, 1) := by decide +kernel
theorem dX4_heading_26 : decode cX4_heading 26 = .ok (.iload_n 2, 1) := by decide +kernel
theorem dX4_heading_27 : decode cX4_heading 27 = .ok (.iadd, 1) := by decide +kernel
theorem dX4_heading_28 : decode cX4_heading 28 = .ok (.invokevirtual 49, 3) := by decide +kernel
theorem dX4_heading_31 : decode cX4_heading 31 = .ok (.goto 4, 3) := by decide +kernel
theorem dX4_heading_34 : decode cX4_heading 34 = .ok (.iconst (-1), 1) := by decide +kernel
theorem dX4_heading_35 : decode cX4_heading 35 = .ok (.ireturn, 1) := by decide +kernel
def f_X4_heading (ln : Nat → Nat) (x1 : Int32) (x2 : Int32) (s : dr_S) : Option (Int32 × dr_S) := (if x2 < 0 then some ((-1), s) else dr_bnd (f_X4_get ln x1 1 s) (fun r2 s1 => (if r2 ≤ x2 then some ((-1), s1) else dr_bnd (f_X2_get ln ((((x1 * (s1.2 403)) + 5) + x2)) s1) (fun r4 s3 => some (r4, s3)))))
section
variable {p : Program} {l : Launch} {e : Env} {s0 : State} {m : MethodId} {args : Array Value} {below : List Frame} {meth : Method} {c : Code} {A : Nat → Prop} {D : va_G} {cI cZ : ClassId} {ad ln : Nat → Nat} {L : List Nat}
set_option maxHeartbeats 4000000 in
set_option maxRecDepth 20000 in
theorem c_X4_heading (hap : dr_ap ad L) (hN : ∀ x ∈ nd_4, x ∈ L) (x1 : Int32) (x2 : Int32) (s : dr_S) : dr_Mi l D cI cZ ad ln L yX4_heading cX4_heading 3 (some .int) 2 [.ref (ad 4), .int x1, .int x2] s (f_X4_heading ln x1 x2 s) := by
  refine dr_meti (own := RX4) (by decide) rfl (Nat.le_of_ble_eq_true rfl) hap ?_
  intro p e s0 m args below meth c A E
  unfold f_X4_heading
  refine g_eqL (lv' := [(0, .ref (ad 4)), (1, .int x1), (2, .int x2)]) rfl ?_
  refine g_iload_n E dX4_heading_0 2 rfl ?_
  refine g_if_lt E 34 dX4_heading_1 (by decide) ?_ ?_
  · refine g_iconst E (v := (-1)) dX4_heading_34 (by decide) ?_
    exact g_iret E dX4_heading_35
  · refine g_iload_n E dX4_heading_4 2 rfl ?_
    refine g_aload_n E dX4_heading_5 0 rfl ?_
    refine g_iload_n E dX4_heading_6 1 rfl ?_
    refine g_iconst E (v := 1) dX4_heading_7 (by decide) ?_
    refine g_cVi E [.int x1, .int 1] rfl (c_X4_get hap hN x1 1 s) (hN 4 (by decide)) (by decide) rfl rfl mi_X4_get msl_X4_get mw_X4_get rfl ml_4_58 ⟨Nat.le_of_ble_eq_true rfl, Nat.le_of_ble_eq_true rfl⟩ (Nat.le_of_ble_eq_true rfl) dX4_heading_8 (fun r2 s1 => ?_)
    refine g_icmp_ge E 34 dX4_heading_11 (by decide) ?_ ?_
    · refine g_iconst E (v := (-1)) dX4_heading_34 (by decide) ?_
      exact g_iret E dX4_heading_35
    · refine g_aload_n E dX4_heading_14 0 rfl ?_
      refine gg_4_9 E (hN 4 (by decide)) dX4_heading_15 ?_
      refine g_iload_n E dX4_heading_18 1 rfl ?_
      refine g_aload_n E dX4_heading_19 0 rfl ?_
      refine gg_4_27 E (hN 4 (by decide)) dX4_heading_20 ?_
      refine g_imul E dX4_heading_23 ?_
      refine g_iconst E (v := 5) dX4_heading_24 (by decide) ?_
      refine g_iadd E dX4_heading_25 ?_
      refine g_iload_n E dX4_heading_26 2 rfl ?_
      refine g_iadd E dX4_heading_27 ?_
      refine g_cVi E [.int (((x1 * (s1.2 403)) + 5) + x2)] rfl (c_X2_get hap (fun x h => hN x (ns_2_4 x h)) ((((x1 * (s1.2 403)) + 5) + x2)) s1) (hN 2 (by decide)) (by decide) rfl rfl mi_X2_get msl_X2_get mw_X2_get rfl ml_4_49 ⟨Nat.le_of_ble_eq_true rfl, Nat.le_of_ble_eq_true rfl⟩ (Nat.le_of_ble_eq_true rfl) dX4_heading_28 (fun r4 s3 => ?_)
      refine g_goto E 35 dX4_heading_31 (by decide) ?_
      exact g_iret E dX4_heading_35
end

theorem dX5_isAhead_0 : decode cX5_isAhead 0 = .ok (.iconst 0, 1) := by decide +kernel
theorem dX5_isAhead_1 : decode cX5_isAhead 1 = .ok (.istore_n 3, 1) := by decide +kernel
theorem dX5_isAhead_2 : decode cX5_isAhead 2 = .ok (.iload_n 3, 1) := by decide +kernel
theorem dX5_isAhead_3 : decode cX5_isAhead 3 = .ok (.aload_n 0, 1) := by decide +kernel
theorem dX5_isAhead_4 : decode cX5_isAhead 4 = .ok (.getfield 21, 3) := by decide +kernel
theorem dX5_isAhead_7 : decode cX5_isAhead 7 = .ok (.if_icmp .ge 119, 3) := by decide +kernel
theorem dX5_isAhead_10 : decode cX5_isAhead 10 = .ok (.iload_n 3, 1) := by decide +kernel
theorem dX5_isAhead_11 : decode cX5_isAhead 11 = .ok (.iconst 4, 1) := by decide +kernel
theorem dX5_isAhead_12 : decode cX5_isAhead 12 = .ok (.if_icmp .ge 114, 3) := by decide +kernel
theorem dX5_isAhead_15 : decode cX5_isAhead 15 = .ok (.aload_n 0, 1) := by decide +kernel
theorem dX5_isAhead_16 : decode cX5_isAhead 16 = .ok (.getfield 15, 3) := by decide +kernel
theorem dX5_isAhead_19 : decode cX5_isAhead 19 = .ok (.iload_n 3, 1) := by decide +kernel
theorem dX5_isAhead_20 : decode cX5_isAhead 20 = .ok (.iaload, 1) := by decide +kernel
theorem dX5_isAhead_21 : decode cX5_isAhead 21 = .ok (.ifCond .le 7, 3) := by decide +kernel
theorem dX5_isAhead_24 : decode cX5_isAhead 24 = .ok (.iconst 1, 1) := by decide +kernel
theorem dX5_isAhead_25 : decode cX5_isAhead 25 = .ok (.goto 4, 3) := by decide +kernel
theorem dX5_isAhead_28 : decode cX5_isAhead 28 = .ok (.iconst 0, 1) := by decide +kernel
theorem dX5_isAhead_29 : decode cX5_isAhead 29 = .ok (.istore 4, 2) := by decide +kernel
theorem dX5_isAhead_31 : decode cX5_isAhead 31 = .ok (.iload 4, 2) := by decide +kernel
theorem dX5_isAhead_33 : decode cX5_isAhead 33 = .ok (.ifCond .eq 12, 3) := by decide +kernel
theorem dX5_isAhead_36 : decode cX5_isAhead 36 = .ok (.aload_n 0, 1) := by decide +kernel
theorem dX5_isAhead_37 : decode cX5_isAhead 37 = .ok (.getfield 15, 3) := by decide +kernel
theorem dX5_isAhead_40 : decode cX5_isAhead 40 = .ok (.iload_n 3, 1) := by decide +kernel
theorem dX5_isAhead_41 : decode cX5_isAhead 41 = .ok (.iaload, 1) := by decide +kernel
theorem dX5_isAhead_42 : decode cX5_isAhead 42 = .ok (.goto 10, 3) := by decide +kernel
theorem dX5_isAhead_45 : decode cX5_isAhead 45 = .ok (.aload_n 0, 1) := by decide +kernel
theorem dX5_isAhead_46 : decode cX5_isAhead 46 = .ok (.getfield 15, 3) := by decide +kernel
theorem dX5_isAhead_49 : decode cX5_isAhead 49 = .ok (.iload_n 3, 1) := by decide +kernel
theorem dX5_isAhead_50 : decode cX5_isAhead 50 = .ok (.iaload, 1) := by decide +kernel
theorem dX5_isAhead_51 : decode cX5_isAhead 51 = .ok (.ineg, 1) := by decide +kernel
theorem dX5_isAhead_52 : decode cX5_isAhead 52 = .ok (.istore 5, 2) := by decide +kernel
theorem dX5_isAhead_54 : decode cX5_isAhead 54 = .ok (.iload 5, 2) := by decide +kernel
theorem dX5_isAhead_56 : decode cX5_isAhead 56 = .ok (.ifCond .ne 7, 3) := by decide +kernel
theorem dX5_isAhead_59 : decode cX5_isAhead 59 = .ok (.iconst 0, 1) := by decide +kernel
theorem dX5_isAhead_60 : decode cX5_isAhead 60 = .ok (.goto 10, 3) := by decide +kernel
theorem dX5_isAhead_63 : decode cX5_isAhead 63 = .ok (.iload_n 1, 1) := by decide +kernel
theorem dX5_isAhead_64 : decode cX5_isAhead 64 = .ok (.iload 5, 2) := by decide +kernel
theorem dX5_isAhead_66 : decode cX5_isAhead 66 = .ok (.idiv, 1) := by decide +kernel
theorem dX5_isAhead_67 : decode cX5_isAhead 67 = .ok (.bipush 10, 2) := by decide +kernel
theorem dX5_isAhead_69 : decode cX5_isAhead 69 = .ok (.irem, 1) := by decide +kernel
theorem dX5_isAhead_70 : decode cX5_isAhead 70 = .ok (.istore 6, 2) := by decide +kernel
theorem dX5_isAhead_72 : decode cX5_isAhead 72 = .ok (.iload 5, 2) := by decide +kernel
theorem dX5_isAhead_74 : decode cX5_isAhead 74 = .ok (.ifCond .ne 7, 3) := by decide +kernel
theorem dX5_isAhead_77 : decode cX5_isAhead 77 = .ok (.iconst 0, 1) := by decide +kernel
theorem dX5_isAhead_78 : decode cX5_isAhead 78 = .ok (.goto 10, 3) := by decide +kernel
theorem dX5_isAhead_81 : decode cX5_isAhead 81 = .ok (.iload_n 2, 1) := by decide +kernel
theorem dX5_isAhead_82 : decode cX5_isAhead 82 = .ok (.iload 5, 2) := by decide +kernel
theorem dX5_isAhead_84 : decode cX5_isAhead 84 = .ok (.idiv, 1) := by decide +kernel
theorem dX5_isAhead_85 : decode cX5_isAhead 85 = .ok (.bipush 10, 2) := by decide +kernel
theorem dX5_isAhead_87 : decode cX5_isAhead 87 = .ok (.irem, 1) := by decide +kernel
theorem dX5_isAhead_88 : decode cX5_isAhead 88 = .ok (.istore 7, 2) := by decide +kernel
theorem dX5_isAhead_90 : decode cX5_isAhead 90 = .ok (.iload 6, 2) := by decide +kernel
theorem dX5_isAhead_92 : decode cX5_isAhead 92 = .ok (.iload 7, 2) := by decide +kernel
theorem dX5_isAhead_94 : decode cX5_isAhead 94 = .ok (.if_icmp .eq 26, 3) := by decide +kernel
theorem dX5_isAhead_97 : decode cX5_isAhead 97 = .ok (.iload 4, 2) := by decide +kernel
theorem dX5_isAhead_99 : decode cX5_isAhead 99 = .ok (.iload 6, 2) := by decide +kernel
theorem dX5_isAhead_101 : decode cX5_isAhead 101 = .ok (.iload 7, 2) := by decide +kernel
theorem dX5_isAhead_103 : decode cX5_isAhead 103 = .ok (.if_icmp .ge 7, 3) := by decide +kernel
theorem dX5_isAhead_106 : decode cX5_isAhead 106 = .ok (.iconst 1, 1) := by decide +kernel
theorem dX5_isAhead_107 : decode cX5_isAhead 107 = .ok (.goto 4, 3) := by decide +kernel
theorem dX5_isAhead_110 : decode cX5_isAhead 110 = .ok (.iconst 0, 1) := by decide +kernel
theorem dX5_isAhead_111 : decode cX5_isAhead 111 = .ok (.if_icmp .ne 7, 3) := by decide +kernel
theorem dX5_isAhead_114 : decode cX5_isAhead 114 = .ok (.iconst 1, 1) := by decide +kernel
theorem dX5_isAhead_115 : decode cX5_isAhead 115 = .ok (.goto 4, 3) := by decide +kernel
theorem dX5_isAhead_118 : decode cX5_isAhead 118 = .ok (.iconst 0, 1) := by decide +kernel
theorem dX5_isAhead_119 : decode cX5_isAhead 119 = .ok (.ireturn, 1) := by decide +kernel
theorem dX5_isAhead_120 : decode cX5_isAhead 120 = .ok (.iinc 3 1, 3) := by decide +kernel
theorem dX5_isAhead_123 : decode cX5_isAhead 123 = .ok (.goto (-121), 3) := by decide +kernel
theorem dX5_isAhead_126 : decode cX5_isAhead 126 = .ok (.iload_n 1, 1) := by decide +kernel
theorem dX5_isAhead_127 : decode cX5_isAhead 127 = .ok (.iload_n 2, 1) := by decide +kernel
theorem dX5_isAhead_128 : decode cX5_isAhead 128 = .ok (.if_icmp .ge 7, 3) := by decide +kernel
theorem dX5_isAhead_131 : decode cX5_isAhead 131 = .ok (.iconst 1, 1) := by decide +kernel
theorem dX5_isAhead_132 : decode cX5_isAhead 132 = .ok (.goto 4, 3) := by decide +kernel
theorem dX5_isAhead_135 : decode cX5_isAhead 135 = .ok (.iconst 0, 1) := by decide +kernel
theorem dX5_isAhead_136 : decode cX5_isAhead 136 = .ok (.ireturn, 1) := by decide +kernel
def f_X5_isAhead_p126 (ln : Nat → Nat) (x1 : Int32) (x2 : Int32) (s : dr_S) : Option (Int32 × dr_S) := (if x2 ≤ x1 then some (0, s) else some (1, s))
def f_X5_isAhead_p111 (ln : Nat → Nat) (z0 : Int32) (z1 : Int32) (s : dr_S) : Option (Int32 × dr_S) := (if z1 = z0 then some (1, s) else some (0, s))
def f_X5_isAhead_p88 (ln : Nat → Nat) (kb2 : Int32 → Int32 → Int32 → dr_S → Option (Int32 × dr_S)) (x1 : Int32) (x2 : Int32) (x3 : Int32) (x4 : Int32) (x6 : Int32) (z0 : Int32) (s : dr_S) : Option (Int32 × dr_S) := (if x6 = z0 then dr_let (x3 + 1) (fun y4 => (kb2 x1 x2 y4 s)) else (if z0 ≤ x6 then (f_X5_isAhead_p111 ln 0 x4 s) else (f_X5_isAhead_p111 ln 1 x4 s)))
def f_X5_isAhead_p70 (ln : Nat → Nat) (kb2 : Int32 → Int32 → Int32 → dr_S → Option (Int32 × dr_S)) (x1 : Int32) (x2 : Int32) (x3 : Int32) (x4 : Int32) (x5 : Int32) (z0 : Int32) (s : dr_S) : Option (Int32 × dr_S) := (if x5 = 0 then (f_X5_isAhead_p88 ln kb2 x1 x2 x3 x4 z0 0 s) else dr_nz x5 ((f_X5_isAhead_p88 ln kb2 x1 x2 x3 x4 z0 (((x2 / x5) - (x2 / x5) / 10 * 10)) s)))
def f_X5_isAhead_p52 (ln : Nat → Nat) (kb2 : Int32 → Int32 → Int32 → dr_S → Option (Int32 × dr_S)) (x1 : Int32) (x2 : Int32) (x3 : Int32) (x4 : Int32) (z0 : Int32) (s : dr_S) : Option (Int32 × dr_S) := (if z0 = 0 then (f_X5_isAhead_p70 ln kb2 x1 x2 x3 x4 z0 0 s) else dr_nz z0 ((f_X5_isAhead_p70 ln kb2 x1 x2 x3 x4 z0 (((x1 / z0) - (x1 / z0) / 10 * 10)) s)))
def f_X5_isAhead_p29 (ln : Nat → Nat) (kb2 : Int32 → Int32 → Int32 → dr_S → Option (Int32 × dr_S)) (x1 : Int32) (x2 : Int32) (x3 : Int32) (z0 : Int32) (s : dr_S) : Option (Int32 × dr_S) := (if z0 = 0 then (dr_rd ln s 18 x3).bind (fun v2 => (f_X5_isAhead_p52 ln kb2 x1 x2 x3 z0 ((-v2)) s)) else (dr_rd ln s 18 x3).bind (fun v3 => (f_X5_isAhead_p52 ln kb2 x1 x2 x3 z0 v3 s)))
def f_X5_isAhead_p2 (ln : Nat → Nat) : Nat → Int32 → Int32 → Int32 → dr_S → Option (Int32 × dr_S)
  | 0, _, _, _, _ => none
  | n + 1, x1, x2, x3, s => (if (s.2 503) ≤ x3 then (f_X5_isAhead_p126 ln x1 x2 s) else (if ((4 : Int32) ≤ x3 : Prop) then (f_X5_isAhead_p126 ln x1 x2 s) else (dr_rd ln s 18 x3).bind (fun v1 => (if v1 ≤ 0 then (f_X5_isAhead_p29 ln (f_X5_isAhead_p2 ln n) x1 x2 x3 0 s) else (f_X5_isAhead_p29 ln (f_X5_isAhead_p2 ln n) x1 x2 x3 1 s)))))
def f_X5_isAhead (ln : Nat → Nat) (x1 : Int32) (x2 : Int32) (s : dr_S) : Option (Int32 × dr_S) := (f_X5_isAhead_p2 ln dr_N x1 x2 0 s)
section
variable {p : Program} {l : Launch} {e : Env} {s0 : State} {m : MethodId} {args : Array Value} {below : List Frame} {meth : Method} {c : Code} {A : Nat → Prop} {D : va_G} {cI cZ : ClassId} {ad ln : Nat → Nat} {L : List Nat}
set_option maxHeartbeats 4000000 in
set_option maxRecDepth 20000 in
theorem w_X5_isAhead_p126 (E : dr_E p (dr_rm 0) s0 m args meth c 0 0 A s0.heap D cI cZ ad L cX5_isAhead 8 RX5 (some .boolean)) (hap : dr_ap ad L) (hN : ∀ x ∈ nd_5, x ∈ L) : ∀ (x1 : Int32) (x2 : Int32) (s : dr_S), dr_G p l e (dr_rm 0) s0 m args below meth c 0 0 A s0.heap D cI cZ ad ln L 8 (dr_Zi D cI cZ ad ln L A below args s0 0 0) 126 [(1, .int x1), (2, .int x2)] [] s (f_X5_isAhead_p126 ln x1 x2 s) := by
  intro x1 x2 s
  unfold f_X5_isAhead_p126
  refine g_iload_n E dX5_isAhead_126 0 rfl ?_
  refine g_iload_n E dX5_isAhead_127 1 rfl ?_
  refine g_icmp_ge E 135 dX5_isAhead_128 (by decide) ?_ ?_
  · refine g_iconst E (v := 0) dX5_isAhead_135 (by decide) ?_
    exact g_zret E dX5_isAhead_136 (Or.inl rfl)
  · refine g_iconst E (v := 1) dX5_isAhead_131 (by decide) ?_
    refine g_goto E 136 dX5_isAhead_132 (by decide) ?_
    exact g_zret E dX5_isAhead_136 (Or.inr rfl)
set_option maxHeartbeats 4000000 in
set_option maxRecDepth 20000 in
theorem w_X5_isAhead_p111 (E : dr_E p (dr_rm 0) s0 m args meth c 0 0 A s0.heap D cI cZ ad L cX5_isAhead 8 RX5 (some .boolean)) (hap : dr_ap ad L) (hN : ∀ x ∈ nd_5, x ∈ L) : ∀ (z0 : Int32) (z1 : Int32) (s : dr_S), dr_G p l e (dr_rm 0) s0 m args below meth c 0 0 A s0.heap D cI cZ ad ln L 8 (dr_Zi D cI cZ ad ln L A below args s0 0 0) 111 [] [.int z0, .int z1] s (f_X5_isAhead_p111 ln z0 z1 s) := by
  intro z0 z1 s
  unfold f_X5_isAhead_p111
  refine g_icmp_ne E 118 dX5_isAhead_111 (by decide) ?_ ?_
  · refine g_iconst E (v := 0) dX5_isAhead_118 (by decide) ?_
    exact g_zret E dX5_isAhead_119 (Or.inl rfl)
  · refine g_iconst E (v := 1) dX5_isAhead_114 (by decide) ?_
    refine g_goto E 119 dX5_isAhead_115 (by decide) ?_
    exact g_zret E dX5_isAhead_119 (Or.inr rfl)
set_option maxHeartbeats 4000000 in
set_option maxRecDepth 20000 in
theorem w_X5_isAhead_p88 {kb2 : Int32 → Int32 → Int32 → dr_S → Option (Int32 × dr_S)} (E : dr_E p (dr_rm 0) s0 m args meth c 0 0 A s0.heap D cI cZ ad L cX5_isAhead 8 RX5 (some .boolean)) (hap : dr_ap ad L) (hN : ∀ x ∈ nd_5, x ∈ L) (hkb2 : ∀ (x1 : Int32) (x2 : Int32) (x3 : Int32) (s : dr_S), dr_G p l e (dr_rm 0) s0 m args below meth c 0 0 A s0.heap D cI cZ ad ln L 8 (dr_Zi D cI cZ ad ln L A below args s0 0 0) 2 [(0, .ref (ad 5)), (1, .int x1), (2, .int x2), (3, .int x3)] [] s (kb2 x1 x2 x3 s)) : ∀ (x1 : Int32) (x2 : Int32) (x3 : Int32) (x4 : Int32) (x6 : Int32) (z0 : Int32) (s : dr_S), dr_G p l e (dr_rm 0) s0 m args below meth c 0 0 A s0.heap D cI cZ ad ln L 8 (dr_Zi D cI cZ ad ln L A below args s0 0 0) 88 [(0, .ref (ad 5)), (1, .int x1), (2, .int x2), (3, .int x3), (4, .int x4), (6, .int x6)] [.int z0] s (f_X5_isAhead_p88 ln kb2 x1 x2 x3 x4 x6 z0 s) := by
  intro x1 x2 x3 x4 x6 z0 s
  unfold f_X5_isAhead_p88
  refine g_istore E (lv' := [(7, .int z0), (0, .ref (ad 5)), (1, .int x1), (2, .int x2), (3, .int x3), (4, .int x4), (6, .int x6)]) dX5_isAhead_88 (by decide) rfl ?_
  refine g_iload E dX5_isAhead_90 6 rfl ?_
  refine g_iload E dX5_isAhead_92 0 rfl ?_
  refine g_icmp_eq E 120 dX5_isAhead_94 (by decide) ?_ ?_
  · refine g_iinc E (lv' := []) (lv'' := fun y4 => [(3, .int y4), (7, .int z0), (0, .ref (ad 5)), (1, .int x1), (2, .int x2), (4, .int x4), (6, .int x6)]) (v := 1) dX5_isAhead_120 4 rfl (by decide) (by decide) (fun _ => rfl) (fun y4 => ?_)
    refine g_goto E 2 dX5_isAhead_123 (by decide) ?_
    refine g_sub [2, 3, 4, 0] rfl ?_
    exact hkb2 x1 x2 y4 s
  · refine g_iload E dX5_isAhead_97 5 rfl ?_
    refine g_iload E dX5_isAhead_99 6 rfl ?_
    refine g_iload E dX5_isAhead_101 0 rfl ?_
    refine g_icmp_ge E 110 dX5_isAhead_103 (by decide) ?_ ?_
    · refine g_iconst E (v := 0) dX5_isAhead_110 (by decide) ?_
      refine g_sub [] rfl ?_
      exact w_X5_isAhead_p111 E hap hN 0 x4 s
    · refine g_iconst E (v := 1) dX5_isAhead_106 (by decide) ?_
      refine g_goto E 111 dX5_isAhead_107 (by decide) ?_
      refine g_sub [] rfl ?_
      exact w_X5_isAhead_p111 E hap hN 1 x4 s
set_option maxHeartbeats 4000000 in
set_option maxRecDepth 20000 in
theorem w_X5_isAhead_p70 {kb2 : Int32 → Int32 → Int32 → dr_S → Option (Int32 × dr_S)} (E : dr_E p (dr_rm 0) s0 m args meth c 0 0 A s0.heap D cI cZ ad L cX5_isAhead 8 RX5 (some .boolean)) (hap : dr_ap ad L) (hN : ∀ x ∈ nd_5, x ∈ L) (hkb2 : ∀ (x1 : Int32) (x2 : Int32) (x3 : Int32) (s : dr_S), dr_G p l e (dr_rm 0) s0 m args below meth c 0 0 A s0.heap D cI cZ ad ln L 8 (dr_Zi D cI cZ ad ln L A below args s0 0 0) 2 [(0, .ref (ad 5)), (1, .int x1), (2, .int x2), (3, .int x3)] [] s (kb2 x1 x2 x3 s)) : ∀ (x1 : Int32) (x2 : Int32) (x3 : Int32) (x4 : Int32) (x5 : Int32) (z0 : Int32) (s : dr_S), dr_G p l e (dr_rm 0) s0 m args below meth c 0 0 A s0.heap D cI cZ ad ln L 8 (dr_Zi D cI cZ ad ln L A below args s0 0 0) 70 [(0, .ref (ad 5)), (1, .int x1), (2, .int x2), (3, .int x3), (4, .int x4), (5, .int x5)] [.int z0] s (f_X5_isAhead_p70 ln kb2 x1 x2 x3 x4 x5 z0 s) := by
  intro x1 x2 x3 x4 x5 z0 s
  unfold f_X5_isAhead_p70
  refine g_istore E (lv' := [(6, .int z0), (0, .ref (ad 5)), (1, .int x1), (2, .int x2), (3, .int x3), (4, .int x4), (5, .int x5)]) dX5_isAhead_70 (by decide) rfl ?_
  refine g_iload E dX5_isAhead_72 6 rfl ?_
  refine g_if_ne E 81 dX5_isAhead_74 (by decide) ?_ ?_
  · refine g_iload_n E dX5_isAhead_81 3 rfl ?_
    refine g_iload E dX5_isAhead_82 6 rfl ?_
    refine g_idivN E dX5_isAhead_84 ?_
    refine g_bipush E (v := 10) dX5_isAhead_85 (by decide) ?_
    refine g_irem E dX5_isAhead_87 (by decide) ?_
    refine g_sub [1, 2, 3, 4, 5, 0] rfl ?_
    exact w_X5_isAhead_p88 E hap hN hkb2 x1 x2 x3 x4 z0 (((x2 / x5) - (x2 / x5) / 10 * 10)) s
  · refine g_iconst E (v := 0) dX5_isAhead_77 (by decide) ?_
    refine g_goto E 88 dX5_isAhead_78 (by decide) ?_
    refine g_sub [1, 2, 3, 4, 5, 0] rfl ?_
    exact w_X5_isAhead_p88 E hap hN hkb2 x1 x2 x3 x4 z0 0 s
set_option maxHeartbeats 4000000 in
set_option maxRecDepth 20000 in
theorem w_X5_isAhead_p52 {kb2 : Int32 → Int32 → Int32 → dr_S → Option (Int32 × dr_S)} (E : dr_E p (dr_rm 0) s0 m args meth c 0 0 A s0.heap D cI cZ ad L cX5_isAhead 8 RX5 (some .boolean)) (hap : dr_ap ad L) (hN : ∀ x ∈ nd_5, x ∈ L) (hkb2 : ∀ (x1 : Int32) (x2 : Int32) (x3 : Int32) (s : dr_S), dr_G p l e (dr_rm 0) s0 m args below meth c 0 0 A s0.heap D cI cZ ad ln L 8 (dr_Zi D cI cZ ad ln L A below args s0 0 0) 2 [(0, .ref (ad 5)), (1, .int x1), (2, .int x2), (3, .int x3)] [] s (kb2 x1 x2 x3 s)) : ∀ (x1 : Int32) (x2 : Int32) (x3 : Int32) (x4 : Int32) (z0 : Int32) (s : dr_S), dr_G p l e (dr_rm 0) s0 m args below meth c 0 0 A s0.heap D cI cZ ad ln L 8 (dr_Zi D cI cZ ad ln L A below args s0 0 0) 52 [(0, .ref (ad 5)), (1, .int x1), (2, .int x2), (3, .int x3), (4, .int x4)] [.int z0] s (f_X5_isAhead_p52 ln kb2 x1 x2 x3 x4 z0 s) := by
  intro x1 x2 x3 x4 z0 s
  unfold f_X5_isAhead_p52
  refine g_istore E (lv' := [(5, .int z0), (0, .ref (ad 5)), (1, .int x1), (2, .int x2), (3, .int x3), (4, .int x4)]) dX5_isAhead_52 (by decide) rfl ?_
  refine g_iload E dX5_isAhead_54 0 rfl ?_
  refine g_if_ne E 63 dX5_isAhead_56 (by decide) ?_ ?_
  · refine g_iload_n E dX5_isAhead_63 2 rfl ?_
    refine g_iload E dX5_isAhead_64 0 rfl ?_
    refine g_idivN E dX5_isAhead_66 ?_
    refine g_bipush E (v := 10) dX5_isAhead_67 (by decide) ?_
    refine g_irem E dX5_isAhead_69 (by decide) ?_
    refine g_sub [1, 2, 3, 4, 5, 0] rfl ?_
    exact w_X5_isAhead_p70 E hap hN hkb2 x1 x2 x3 x4 z0 (((x1 / z0) - (x1 / z0) / 10 * 10)) s
  · refine g_iconst E (v := 0) dX5_isAhead_59 (by decide) ?_
    refine g_goto E 70 dX5_isAhead_60 (by decide) ?_
    refine g_sub [1, 2, 3, 4, 5, 0] rfl ?_
    exact w_X5_isAhead_p70 E hap hN hkb2 x1 x2 x3 x4 z0 0 s
set_option maxHeartbeats 4000000 in
set_option maxRecDepth 20000 in
theorem w_X5_isAhead_p29 {kb2 : Int32 → Int32 → Int32 → dr_S → Option (Int32 × dr_S)} (E : dr_E p (dr_rm 0) s0 m args meth c 0 0 A s0.heap D cI cZ ad L cX5_isAhead 8 RX5 (some .boolean)) (hap : dr_ap ad L) (hN : ∀ x ∈ nd_5, x ∈ L) (hkb2 : ∀ (x1 : Int32) (x2 : Int32) (x3 : Int32) (s : dr_S), dr_G p l e (dr_rm 0) s0 m args below meth c 0 0 A s0.heap D cI cZ ad ln L 8 (dr_Zi D cI cZ ad ln L A below args s0 0 0) 2 [(0, .ref (ad 5)), (1, .int x1), (2, .int x2), (3, .int x3)] [] s (kb2 x1 x2 x3 s)) : ∀ (x1 : Int32) (x2 : Int32) (x3 : Int32) (z0 : Int32) (s : dr_S), dr_G p l e (dr_rm 0) s0 m args below meth c 0 0 A s0.heap D cI cZ ad ln L 8 (dr_Zi D cI cZ ad ln L A below args s0 0 0) 29 [(0, .ref (ad 5)), (1, .int x1), (2, .int x2), (3, .int x3)] [.int z0] s (f_X5_isAhead_p29 ln kb2 x1 x2 x3 z0 s) := by
  intro x1 x2 x3 z0 s
  unfold f_X5_isAhead_p29
  refine g_istore E (lv' := [(4, .int z0), (0, .ref (ad 5)), (1, .int x1), (2, .int x2), (3, .int x3)]) dX5_isAhead_29 (by decide) rfl ?_
  refine g_iload E dX5_isAhead_31 0 rfl ?_
  refine g_if_eq E 45 dX5_isAhead_33 (by decide) ?_ ?_
  · refine g_aload_n E dX5_isAhead_45 1 rfl ?_
    refine gg_5_15 E (hN 5 (by decide)) dX5_isAhead_46 ?_
    refine g_iload_n E dX5_isAhead_49 4 rfl ?_
    refine g_iaload E (hN 18 (by decide)) (by decide) rfl dX5_isAhead_50 (fun v2 => ?_)
    refine g_ineg E dX5_isAhead_51 ?_
    refine g_sub [1, 2, 3, 4, 0] rfl ?_
    exact w_X5_isAhead_p52 E hap hN hkb2 x1 x2 x3 z0 ((-v2)) s
  · refine g_aload_n E dX5_isAhead_36 1 rfl ?_
    refine gg_5_15 E (hN 5 (by decide)) dX5_isAhead_37 ?_
    refine g_iload_n E dX5_isAhead_40 4 rfl ?_
    refine g_iaload E (hN 18 (by decide)) (by decide) rfl dX5_isAhead_41 (fun v3 => ?_)
    refine g_goto E 52 dX5_isAhead_42 (by decide) ?_
    refine g_sub [1, 2, 3, 4, 0] rfl ?_
    exact w_X5_isAhead_p52 E hap hN hkb2 x1 x2 x3 z0 v3 s
set_option maxHeartbeats 4000000 in
set_option maxRecDepth 20000 in
theorem w_X5_isAhead_p2 (E : dr_E p (dr_rm 0) s0 m args meth c 0 0 A s0.heap D cI cZ ad L cX5_isAhead 8 RX5 (some .boolean)) (hap : dr_ap ad L) (hN : ∀ x ∈ nd_5, x ∈ L) : ∀ (n : Nat) (x1 : Int32) (x2 : Int32) (x3 : Int32) (s : dr_S), dr_G p l e (dr_rm 0) s0 m args below meth c 0 0 A s0.heap D cI cZ ad ln L 8 (dr_Zi D cI cZ ad ln L A below args s0 0 0) 2 [(0, .ref (ad 5)), (1, .int x1), (2, .int x2), (3, .int x3)] [] s (f_X5_isAhead_p2 ln n x1 x2 x3 s) := by
  intro n
  induction n with
  | zero =>
    intro x1 x2 x3 s
    rw [f_X5_isAhead_p2]
    exact g_none
  | succ n hkb2 =>
    intro x1 x2 x3 s
    rw [f_X5_isAhead_p2]
    refine g_iload_n E dX5_isAhead_2 3 rfl ?_
    refine g_aload_n E dX5_isAhead_3 0 rfl ?_
    refine gg_5_21 E (hN 5 (by decide)) dX5_isAhead_4 ?_
    refine g_icmp_ge E 126 dX5_isAhead_7 (by decide) ?_ ?_
    · refine g_sub [1, 2] rfl ?_
      exact w_X5_isAhead_p126 E hap hN x1 x2 s
    · refine g_iload_n E dX5_isAhead_10 3 rfl ?_
      refine g_iconst E (v := 4) dX5_isAhead_11 (by decide) ?_
      refine g_icmp_ge E 126 dX5_isAhead_12 (by decide) ?_ ?_
      · refine g_sub [1, 2] rfl ?_
        exact w_X5_isAhead_p126 E hap hN x1 x2 s
      · refine g_aload_n E dX5_isAhead_15 0 rfl ?_
        refine gg_5_15 E (hN 5 (by decide)) dX5_isAhead_16 ?_
        refine g_iload_n E dX5_isAhead_19 3 rfl ?_
        refine g_iaload E (hN 18 (by decide)) (by decide) rfl dX5_isAhead_20 (fun v1 => ?_)
        refine g_if_le E 28 dX5_isAhead_21 (by decide) ?_ ?_
        · refine g_iconst E (v := 0) dX5_isAhead_28 (by decide) ?_
          refine g_sub [0, 1, 2, 3] rfl ?_
          exact w_X5_isAhead_p29 E hap hN hkb2 x1 x2 x3 0 s
        · refine g_iconst E (v := 1) dX5_isAhead_24 (by decide) ?_
          refine g_goto E 29 dX5_isAhead_25 (by decide) ?_
          refine g_sub [0, 1, 2, 3] rfl ?_
          exact w_X5_isAhead_p29 E hap hN hkb2 x1 x2 x3 1 s
set_option maxHeartbeats 4000000 in
set_option maxRecDepth 20000 in
theorem c_X5_isAhead (hap : dr_ap ad L) (hN : ∀ x ∈ nd_5, x ∈ L) (x1 : Int32) (x2 : Int32) (s : dr_S) : dr_Mi l D cI cZ ad ln L yX5_isAhead cX5_isAhead 8 (some .boolean) 0 [.ref (ad 5), .int x1, .int x2] s (f_X5_isAhead ln x1 x2 s) := by
  refine dr_meti (own := RX5) (by decide) rfl (Nat.le_of_ble_eq_true rfl) hap ?_
  intro p e s0 m args below meth c A E
  unfold f_X5_isAhead
  refine g_eqL (lv' := [(0, .ref (ad 5)), (1, .int x1), (2, .int x2)]) rfl ?_
  refine g_iconst E (v := 0) dX5_isAhead_0 (by decide) ?_
  refine g_istore_n E (lv' := [(3, .int 0), (0, .ref (ad 5)), (1, .int x1), (2, .int x2)]) dX5_isAhead_1 (by decide) rfl ?_
  refine g_sub [1, 2, 3, 0] rfl ?_
  exact w_X5_isAhead_p2 E hap hN dr_N x1 x2 0 s
end
end

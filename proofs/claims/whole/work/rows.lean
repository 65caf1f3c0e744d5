section
-- ===== PART A: goes FIRST, ahead of the names: the tables' words, and 'selects' of the private methods out of them =====
/-- a private method of a class that the tables say can be made, by its rows of tables_1 -/
def lw_okq (q : MethodName × Nat) : Prop := (q.1.cls ≠ "java/lang/invoke/MethodHandle" ∧ q.1.cls ≠ "java/lang/invoke/VarHandle") ∧ Cond.instantiable q.1.cls q.2 ∈ tables_1 ∧ Cond.privateMethod q.1 ∈ tables_1 ∧ Cond.instanceMethod q.1 ∈ tables_1
theorem lw_p0 : lw_okq (⟨"DrawerRoom$Filing", "byteAt", "(I)I"⟩, 5) := ⟨⟨by decide +kernel, by decide +kernel⟩, List.mem_of_getElem? (i := 62) (by decide +kernel), List.mem_of_getElem? (i := 353) (by decide +kernel), List.mem_of_getElem? (i := 354) (by decide +kernel)⟩
theorem lw_p1 : lw_okq (⟨"DrawerRoom$Filing", "takesLetter", "(I)Z"⟩, 5) := ⟨⟨by decide +kernel, by decide +kernel⟩, List.mem_of_getElem? (i := 62) (by decide +kernel), List.mem_of_getElem? (i := 357) (by decide +kernel), List.mem_of_getElem? (i := 358) (by decide +kernel)⟩
theorem lw_p2 : lw_okq (⟨"DrawerRoom$Filing", "takesDirection", "(I)Z"⟩, 5) := ⟨⟨by decide +kernel, by decide +kernel⟩, List.mem_of_getElem? (i := 62) (by decide +kernel), List.mem_of_getElem? (i := 367) (by decide +kernel), List.mem_of_getElem? (i := 368) (by decide +kernel)⟩
theorem lw_p3 : lw_okq (⟨"DrawerRoom", "isIdleClerk", "(I)Z"⟩, 10) := ⟨⟨by decide +kernel, by decide +kernel⟩, List.mem_of_getElem? (i := 18) (by decide +kernel), List.mem_of_getElem? (i := 398) (by decide +kernel), List.mem_of_getElem? (i := 399) (by decide +kernel)⟩
theorem lw_p4 : lw_okq (⟨"DrawerRoom$Steps", "read", "(I)V"⟩, 3) := ⟨⟨by decide +kernel, by decide +kernel⟩, List.mem_of_getElem? (i := 181) (by decide +kernel), List.mem_of_getElem? (i := 464) (by decide +kernel), List.mem_of_getElem? (i := 465) (by decide +kernel)⟩
theorem lw_p5 : lw_okq (⟨"DrawerRoom$Steps", "mustGoOn", "(III)Z"⟩, 3) := ⟨⟨by decide +kernel, by decide +kernel⟩, List.mem_of_getElem? (i := 181) (by decide +kernel), List.mem_of_getElem? (i := 472) (by decide +kernel), List.mem_of_getElem? (i := 473) (by decide +kernel)⟩
theorem lw_p6 : lw_okq (⟨"DrawerRoom$Steps", "kindOf", "(I)I"⟩, 3) := ⟨⟨by decide +kernel, by decide +kernel⟩, List.mem_of_getElem? (i := 181) (by decide +kernel), List.mem_of_getElem? (i := 495) (by decide +kernel), List.mem_of_getElem? (i := 496) (by decide +kernel)⟩
theorem lw_p7 : lw_okq (⟨"DrawerRoom$Steps", "end", "(II)V"⟩, 3) := ⟨⟨by decide +kernel, by decide +kernel⟩, List.mem_of_getElem? (i := 181) (by decide +kernel), List.mem_of_getElem? (i := 504) (by decide +kernel), List.mem_of_getElem? (i := 505) (by decide +kernel)⟩
theorem lw_p8 : lw_okq (⟨"DrawerRoom$Steps", "isFree", "(II)Z"⟩, 3) := ⟨⟨by decide +kernel, by decide +kernel⟩, List.mem_of_getElem? (i := 181) (by decide +kernel), List.mem_of_getElem? (i := 513) (by decide +kernel), List.mem_of_getElem? (i := 514) (by decide +kernel)⟩
theorem lw_p9 : lw_okq (⟨"DrawerRoom$Steps", "latch", "(II)V"⟩, 3) := ⟨⟨by decide +kernel, by decide +kernel⟩, List.mem_of_getElem? (i := 181) (by decide +kernel), List.mem_of_getElem? (i := 517) (by decide +kernel), List.mem_of_getElem? (i := 518) (by decide +kernel)⟩
theorem lw_p10 : lw_okq (⟨"DrawerRoom$Steps", "hold", "(I)V"⟩, 3) := ⟨⟨by decide +kernel, by decide +kernel⟩, List.mem_of_getElem? (i := 181) (by decide +kernel), List.mem_of_getElem? (i := 522) (by decide +kernel), List.mem_of_getElem? (i := 523) (by decide +kernel)⟩
theorem lw_p11 : lw_okq (⟨"DrawerRoom$Steps", "moveTo", "(II)V"⟩, 3) := ⟨⟨by decide +kernel, by decide +kernel⟩, List.mem_of_getElem? (i := 181) (by decide +kernel), List.mem_of_getElem? (i := 538) (by decide +kernel), List.mem_of_getElem? (i := 539) (by decide +kernel)⟩
theorem lw_p12 : lw_okq (⟨"DrawerRoom$Steps", "letGo", "(II)V"⟩, 3) := ⟨⟨by decide +kernel, by decide +kernel⟩, List.mem_of_getElem? (i := 181) (by decide +kernel), List.mem_of_getElem? (i := 542) (by decide +kernel), List.mem_of_getElem? (i := 543) (by decide +kernel)⟩
theorem lw_p13 : lw_okq (⟨"DrawerRoom$Steps", "write", "(I)V"⟩, 3) := ⟨⟨by decide +kernel, by decide +kernel⟩, List.mem_of_getElem? (i := 181) (by decide +kernel), List.mem_of_getElem? (i := 546) (by decide +kernel), List.mem_of_getElem? (i := 547) (by decide +kernel)⟩
theorem lw_p14 : lw_okq (⟨"DrawerRoom$Steps", "writeGuide", "(II)V"⟩, 3) := ⟨⟨by decide +kernel, by decide +kernel⟩, List.mem_of_getElem? (i := 181) (by decide +kernel), List.mem_of_getElem? (i := 550) (by decide +kernel), List.mem_of_getElem? (i := 551) (by decide +kernel)⟩
theorem lw_p15 : lw_okq (⟨"DrawerRoom$Steps", "writeCard", "(II)Z"⟩, 3) := ⟨⟨by decide +kernel, by decide +kernel⟩, List.mem_of_getElem? (i := 181) (by decide +kernel), List.mem_of_getElem? (i := 562) (by decide +kernel), List.mem_of_getElem? (i := 563) (by decide +kernel)⟩
def lw_privs_1 : List (MethodName × Nat) := [(⟨"DrawerRoom$Filing", "byteAt", "(I)I"⟩, 5), (⟨"DrawerRoom$Filing", "takesLetter", "(I)Z"⟩, 5), (⟨"DrawerRoom$Filing", "takesDirection", "(I)Z"⟩, 5), (⟨"DrawerRoom", "isIdleClerk", "(I)Z"⟩, 10), (⟨"DrawerRoom$Steps", "read", "(I)V"⟩, 3), (⟨"DrawerRoom$Steps", "mustGoOn", "(III)Z"⟩, 3), (⟨"DrawerRoom$Steps", "kindOf", "(I)I"⟩, 3), (⟨"DrawerRoom$Steps", "end", "(II)V"⟩, 3), (⟨"DrawerRoom$Steps", "isFree", "(II)Z"⟩, 3), (⟨"DrawerRoom$Steps", "latch", "(II)V"⟩, 3), (⟨"DrawerRoom$Steps", "hold", "(I)V"⟩, 3), (⟨"DrawerRoom$Steps", "moveTo", "(II)V"⟩, 3), (⟨"DrawerRoom$Steps", "letGo", "(II)V"⟩, 3), (⟨"DrawerRoom$Steps", "write", "(I)V"⟩, 3), (⟨"DrawerRoom$Steps", "writeGuide", "(II)V"⟩, 3), (⟨"DrawerRoom$Steps", "writeCard", "(II)Z"⟩, 3)]
theorem lw_r1 : ∀ q ∈ lw_privs_1, lw_okq q := List.forall_mem_cons.mpr ⟨lw_p0, List.forall_mem_cons.mpr ⟨lw_p1, List.forall_mem_cons.mpr ⟨lw_p2, List.forall_mem_cons.mpr ⟨lw_p3, List.forall_mem_cons.mpr ⟨lw_p4, List.forall_mem_cons.mpr ⟨lw_p5, List.forall_mem_cons.mpr ⟨lw_p6, List.forall_mem_cons.mpr ⟨lw_p7, List.forall_mem_cons.mpr ⟨lw_p8, List.forall_mem_cons.mpr ⟨lw_p9, List.forall_mem_cons.mpr ⟨lw_p10, List.forall_mem_cons.mpr ⟨lw_p11, List.forall_mem_cons.mpr ⟨lw_p12, List.forall_mem_cons.mpr ⟨lw_p13, List.forall_mem_cons.mpr ⟨lw_p14, List.forall_mem_cons.mpr ⟨lw_p15, fun _ h => absurd h List.not_mem_nil⟩⟩⟩⟩⟩⟩⟩⟩⟩⟩⟩⟩⟩⟩⟩⟩
theorem lw_p16 : lw_okq (⟨"DrawerRoom$Steps", "climb", "(I)V"⟩, 3) := ⟨⟨by decide +kernel, by decide +kernel⟩, List.mem_of_getElem? (i := 181) (by decide +kernel), List.mem_of_getElem? (i := 582) (by decide +kernel), List.mem_of_getElem? (i := 583) (by decide +kernel)⟩
theorem lw_p17 : lw_okq (⟨"DrawerRoom$Line", "canBeAsked", "(I)Z"⟩, 9) := ⟨⟨by decide +kernel, by decide +kernel⟩, List.mem_of_getElem? (i := 216) (by decide +kernel), List.mem_of_getElem? (i := 667) (by decide +kernel), List.mem_of_getElem? (i := 668) (by decide +kernel)⟩
theorem lw_p18 : lw_okq (⟨"DrawerRoom$Line", "goesOn", "(IIZ)Z"⟩, 9) := ⟨⟨by decide +kernel, by decide +kernel⟩, List.mem_of_getElem? (i := 216) (by decide +kernel), List.mem_of_getElem? (i := 676) (by decide +kernel), List.mem_of_getElem? (i := 677) (by decide +kernel)⟩
theorem lw_p19 : lw_okq (⟨"DrawerRoom$Line", "nothingComesFirst", "(II)Z"⟩, 9) := ⟨⟨by decide +kernel, by decide +kernel⟩, List.mem_of_getElem? (i := 216) (by decide +kernel), List.mem_of_getElem? (i := 680) (by decide +kernel), List.mem_of_getElem? (i := 681) (by decide +kernel)⟩
theorem lw_p20 : lw_okq (⟨"DrawerRoom$Line", "isRight", "(IZ)Z"⟩, 9) := ⟨⟨by decide +kernel, by decide +kernel⟩, List.mem_of_getElem? (i := 216) (by decide +kernel), List.mem_of_getElem? (i := 684) (by decide +kernel), List.mem_of_getElem? (i := 685) (by decide +kernel)⟩
theorem lw_p21 : lw_okq (⟨"DrawerRoom$Shape", "hasBadHeadings", "(I)Z"⟩, 2) := ⟨⟨by decide +kernel, by decide +kernel⟩, List.mem_of_getElem? (i := 250) (by decide +kernel), List.mem_of_getElem? (i := 706) (by decide +kernel), List.mem_of_getElem? (i := 707) (by decide +kernel)⟩
theorem lw_p22 : lw_okq (⟨"DrawerRoom$Shape", "hasBadChildren", "(I)Z"⟩, 2) := ⟨⟨by decide +kernel, by decide +kernel⟩, List.mem_of_getElem? (i := 250) (by decide +kernel), List.mem_of_getElem? (i := 714) (by decide +kernel), List.mem_of_getElem? (i := 715) (by decide +kernel)⟩
theorem lw_p23 : lw_okq (⟨"DrawerRoom$Search", "goesWrong", "(II)Z"⟩, 9) := ⟨⟨by decide +kernel, by decide +kernel⟩, List.mem_of_getElem? (i := 263) (by decide +kernel), List.mem_of_getElem? (i := 733) (by decide +kernel), List.mem_of_getElem? (i := 734) (by decide +kernel)⟩
theorem lw_p24 : lw_okq (⟨"DrawerRoom$Search", "isWrongNow", "()Z"⟩, 9) := ⟨⟨by decide +kernel, by decide +kernel⟩, List.mem_of_getElem? (i := 263) (by decide +kernel), List.mem_of_getElem? (i := 737) (by decide +kernel), List.mem_of_getElem? (i := 738) (by decide +kernel)⟩
theorem lw_p25 : lw_okq (⟨"DrawerRoom$Cards", "sortIn", "(I)V"⟩, 4) := ⟨⟨by decide +kernel, by decide +kernel⟩, List.mem_of_getElem? (i := 197) (by decide +kernel), List.mem_of_getElem? (i := 794) (by decide +kernel), List.mem_of_getElem? (i := 795) (by decide +kernel)⟩
theorem lw_p26 : lw_okq (⟨"DrawerRoom$Builder", "buildLeaves", "(II)I"⟩, 2) := ⟨⟨by decide +kernel, by decide +kernel⟩, List.mem_of_getElem? (i := 297) (by decide +kernel), List.mem_of_getElem? (i := 799) (by decide +kernel), List.mem_of_getElem? (i := 800) (by decide +kernel)⟩
theorem lw_p27 : lw_okq (⟨"DrawerRoom$Builder", "buildGuides", "(IIII)I"⟩, 2) := ⟨⟨by decide +kernel, by decide +kernel⟩, List.mem_of_getElem? (i := 297) (by decide +kernel), List.mem_of_getElem? (i := 809) (by decide +kernel), List.mem_of_getElem? (i := 810) (by decide +kernel)⟩
theorem lw_p28 : lw_okq (⟨"DrawerRoomModel", "clears", "(I)V"⟩, 59) := ⟨⟨by decide +kernel, by decide +kernel⟩, List.mem_of_getElem? (i := 832) (by decide +kernel), List.mem_of_getElem? (i := 838) (by decide +kernel), List.mem_of_getElem? (i := 839) (by decide +kernel)⟩
theorem lw_p29 : lw_okq (⟨"DrawerRoomModel", "isRead", "(I)Z"⟩, 59) := ⟨⟨by decide +kernel, by decide +kernel⟩, List.mem_of_getElem? (i := 832) (by decide +kernel), List.mem_of_getElem? (i := 1031) (by decide +kernel), List.mem_of_getElem? (i := 1032) (by decide +kernel)⟩
theorem lw_p30 : lw_okq (⟨"DrawerRoomModel", "isAhead", "(II)Z"⟩, 59) := ⟨⟨by decide +kernel, by decide +kernel⟩, List.mem_of_getElem? (i := 832) (by decide +kernel), List.mem_of_getElem? (i := 1042) (by decide +kernel), List.mem_of_getElem? (i := 1043) (by decide +kernel)⟩
theorem lw_p31 : lw_okq (⟨"DrawerRoomModel", "used", "()I"⟩, 59) := ⟨⟨by decide +kernel, by decide +kernel⟩, List.mem_of_getElem? (i := 832) (by decide +kernel), List.mem_of_getElem? (i := 1057) (by decide +kernel), List.mem_of_getElem? (i := 1058) (by decide +kernel)⟩
def lw_privs_2 : List (MethodName × Nat) := [(⟨"DrawerRoom$Steps", "climb", "(I)V"⟩, 3), (⟨"DrawerRoom$Line", "canBeAsked", "(I)Z"⟩, 9), (⟨"DrawerRoom$Line", "goesOn", "(IIZ)Z"⟩, 9), (⟨"DrawerRoom$Line", "nothingComesFirst", "(II)Z"⟩, 9), (⟨"DrawerRoom$Line", "isRight", "(IZ)Z"⟩, 9), (⟨"DrawerRoom$Shape", "hasBadHeadings", "(I)Z"⟩, 2), (⟨"DrawerRoom$Shape", "hasBadChildren", "(I)Z"⟩, 2), (⟨"DrawerRoom$Search", "goesWrong", "(II)Z"⟩, 9), (⟨"DrawerRoom$Search", "isWrongNow", "()Z"⟩, 9), (⟨"DrawerRoom$Cards", "sortIn", "(I)V"⟩, 4), (⟨"DrawerRoom$Builder", "buildLeaves", "(II)I"⟩, 2), (⟨"DrawerRoom$Builder", "buildGuides", "(IIII)I"⟩, 2), (⟨"DrawerRoomModel", "clears", "(I)V"⟩, 59), (⟨"DrawerRoomModel", "isRead", "(I)Z"⟩, 59), (⟨"DrawerRoomModel", "isAhead", "(II)Z"⟩, 59), (⟨"DrawerRoomModel", "used", "()I"⟩, 59)]
theorem lw_r2 : ∀ q ∈ lw_privs_2, lw_okq q := List.forall_mem_cons.mpr ⟨lw_p16, List.forall_mem_cons.mpr ⟨lw_p17, List.forall_mem_cons.mpr ⟨lw_p18, List.forall_mem_cons.mpr ⟨lw_p19, List.forall_mem_cons.mpr ⟨lw_p20, List.forall_mem_cons.mpr ⟨lw_p21, List.forall_mem_cons.mpr ⟨lw_p22, List.forall_mem_cons.mpr ⟨lw_p23, List.forall_mem_cons.mpr ⟨lw_p24, List.forall_mem_cons.mpr ⟨lw_p25, List.forall_mem_cons.mpr ⟨lw_p26, List.forall_mem_cons.mpr ⟨lw_p27, List.forall_mem_cons.mpr ⟨lw_p28, List.forall_mem_cons.mpr ⟨lw_p29, List.forall_mem_cons.mpr ⟨lw_p30, List.forall_mem_cons.mpr ⟨lw_p31, fun _ h => absurd h List.not_mem_nil⟩⟩⟩⟩⟩⟩⟩⟩⟩⟩⟩⟩⟩⟩⟩⟩
theorem lw_p32 : lw_okq (⟨"DrawerRoomModel", "one", "(I)V"⟩, 59) := ⟨⟨by decide +kernel, by decide +kernel⟩, List.mem_of_getElem? (i := 832) (by decide +kernel), List.mem_of_getElem? (i := 1065) (by decide +kernel), List.mem_of_getElem? (i := 1066) (by decide +kernel)⟩
theorem lw_p33 : lw_okq (⟨"DrawerRoomModel", "reads", "(I)V"⟩, 59) := ⟨⟨by decide +kernel, by decide +kernel⟩, List.mem_of_getElem? (i := 832) (by decide +kernel), List.mem_of_getElem? (i := 1069) (by decide +kernel), List.mem_of_getElem? (i := 1070) (by decide +kernel)⟩
theorem lw_p34 : lw_okq (⟨"DrawerRoomModel", "covered", "(III)Z"⟩, 59) := ⟨⟨by decide +kernel, by decide +kernel⟩, List.mem_of_getElem? (i := 832) (by decide +kernel), List.mem_of_getElem? (i := 1073) (by decide +kernel), List.mem_of_getElem? (i := 1074) (by decide +kernel)⟩
theorem lw_p35 : lw_okq (⟨"DrawerRoomModel", "covers", "(II)Z"⟩, 59) := ⟨⟨by decide +kernel, by decide +kernel⟩, List.mem_of_getElem? (i := 832) (by decide +kernel), List.mem_of_getElem? (i := 1077) (by decide +kernel), List.mem_of_getElem? (i := 1078) (by decide +kernel)⟩
theorem lw_p36 : lw_okq (⟨"DrawerRoomModel", "way", "(II)I"⟩, 59) := ⟨⟨by decide +kernel, by decide +kernel⟩, List.mem_of_getElem? (i := 832) (by decide +kernel), List.mem_of_getElem? (i := 1081) (by decide +kernel), List.mem_of_getElem? (i := 1082) (by decide +kernel)⟩
theorem lw_p37 : lw_okq (⟨"DrawerRoomModel", "hasCard", "(II)Z"⟩, 59) := ⟨⟨by decide +kernel, by decide +kernel⟩, List.mem_of_getElem? (i := 832) (by decide +kernel), List.mem_of_getElem? (i := 1085) (by decide +kernel), List.mem_of_getElem? (i := 1086) (by decide +kernel)⟩
theorem lw_p38 : lw_okq (⟨"DrawerRoomModel", "ends", "(II)V"⟩, 59) := ⟨⟨by decide +kernel, by decide +kernel⟩, List.mem_of_getElem? (i := 832) (by decide +kernel), List.mem_of_getElem? (i := 1089) (by decide +kernel), List.mem_of_getElem? (i := 1090) (by decide +kernel)⟩
theorem lw_p39 : lw_okq (⟨"DrawerRoomModel", "isOthers", "(II)Z"⟩, 59) := ⟨⟨by decide +kernel, by decide +kernel⟩, List.mem_of_getElem? (i := 832) (by decide +kernel), List.mem_of_getElem? (i := 1093) (by decide +kernel), List.mem_of_getElem? (i := 1094) (by decide +kernel)⟩
theorem lw_p40 : lw_okq (⟨"DrawerRoomModel", "latches", "(II)V"⟩, 59) := ⟨⟨by decide +kernel, by decide +kernel⟩, List.mem_of_getElem? (i := 832) (by decide +kernel), List.mem_of_getElem? (i := 1097) (by decide +kernel), List.mem_of_getElem? (i := 1098) (by decide +kernel)⟩
theorem lw_p41 : lw_okq (⟨"DrawerRoomModel", "holds", "(I)V"⟩, 59) := ⟨⟨by decide +kernel, by decide +kernel⟩, List.mem_of_getElem? (i := 832) (by decide +kernel), List.mem_of_getElem? (i := 1101) (by decide +kernel), List.mem_of_getElem? (i := 1102) (by decide +kernel)⟩
theorem lw_p42 : lw_okq (⟨"DrawerRoomModel", "looksFor", "(I)I"⟩, 59) := ⟨⟨by decide +kernel, by decide +kernel⟩, List.mem_of_getElem? (i := 832) (by decide +kernel), List.mem_of_getElem? (i := 1105) (by decide +kernel), List.mem_of_getElem? (i := 1106) (by decide +kernel)⟩
theorem lw_p43 : lw_okq (⟨"DrawerRoomModel", "letsGo", "(II)V"⟩, 59) := ⟨⟨by decide +kernel, by decide +kernel⟩, List.mem_of_getElem? (i := 832) (by decide +kernel), List.mem_of_getElem? (i := 1109) (by decide +kernel), List.mem_of_getElem? (i := 1110) (by decide +kernel)⟩
theorem lw_p44 : lw_okq (⟨"DrawerRoomModel", "writes", "(I)V"⟩, 59) := ⟨⟨by decide +kernel, by decide +kernel⟩, List.mem_of_getElem? (i := 832) (by decide +kernel), List.mem_of_getElem? (i := 1113) (by decide +kernel), List.mem_of_getElem? (i := 1114) (by decide +kernel)⟩
theorem lw_p45 : lw_okq (⟨"DrawerRoomModel", "hasCopy", "(II)Z"⟩, 59) := ⟨⟨by decide +kernel, by decide +kernel⟩, List.mem_of_getElem? (i := 832) (by decide +kernel), List.mem_of_getElem? (i := 1117) (by decide +kernel), List.mem_of_getElem? (i := 1118) (by decide +kernel)⟩
theorem lw_p46 : lw_okq (⟨"DrawerRoomModel", "placeIn", "(II)I"⟩, 59) := ⟨⟨by decide +kernel, by decide +kernel⟩, List.mem_of_getElem? (i := 832) (by decide +kernel), List.mem_of_getElem? (i := 1121) (by decide +kernel), List.mem_of_getElem? (i := 1122) (by decide +kernel)⟩
theorem lw_p47 : lw_okq (⟨"DrawerRoomModel", "becomes", "(I)V"⟩, 59) := ⟨⟨by decide +kernel, by decide +kernel⟩, List.mem_of_getElem? (i := 832) (by decide +kernel), List.mem_of_getElem? (i := 1125) (by decide +kernel), List.mem_of_getElem? (i := 1126) (by decide +kernel)⟩
def lw_privs_3 : List (MethodName × Nat) := [(⟨"DrawerRoomModel", "one", "(I)V"⟩, 59), (⟨"DrawerRoomModel", "reads", "(I)V"⟩, 59), (⟨"DrawerRoomModel", "covered", "(III)Z"⟩, 59), (⟨"DrawerRoomModel", "covers", "(II)Z"⟩, 59), (⟨"DrawerRoomModel", "way", "(II)I"⟩, 59), (⟨"DrawerRoomModel", "hasCard", "(II)Z"⟩, 59), (⟨"DrawerRoomModel", "ends", "(II)V"⟩, 59), (⟨"DrawerRoomModel", "isOthers", "(II)Z"⟩, 59), (⟨"DrawerRoomModel", "latches", "(II)V"⟩, 59), (⟨"DrawerRoomModel", "holds", "(I)V"⟩, 59), (⟨"DrawerRoomModel", "looksFor", "(I)I"⟩, 59), (⟨"DrawerRoomModel", "letsGo", "(II)V"⟩, 59), (⟨"DrawerRoomModel", "writes", "(I)V"⟩, 59), (⟨"DrawerRoomModel", "hasCopy", "(II)Z"⟩, 59), (⟨"DrawerRoomModel", "placeIn", "(II)I"⟩, 59), (⟨"DrawerRoomModel", "becomes", "(I)V"⟩, 59)]
theorem lw_r3 : ∀ q ∈ lw_privs_3, lw_okq q := List.forall_mem_cons.mpr ⟨lw_p32, List.forall_mem_cons.mpr ⟨lw_p33, List.forall_mem_cons.mpr ⟨lw_p34, List.forall_mem_cons.mpr ⟨lw_p35, List.forall_mem_cons.mpr ⟨lw_p36, List.forall_mem_cons.mpr ⟨lw_p37, List.forall_mem_cons.mpr ⟨lw_p38, List.forall_mem_cons.mpr ⟨lw_p39, List.forall_mem_cons.mpr ⟨lw_p40, List.forall_mem_cons.mpr ⟨lw_p41, List.forall_mem_cons.mpr ⟨lw_p42, List.forall_mem_cons.mpr ⟨lw_p43, List.forall_mem_cons.mpr ⟨lw_p44, List.forall_mem_cons.mpr ⟨lw_p45, List.forall_mem_cons.mpr ⟨lw_p46, List.forall_mem_cons.mpr ⟨lw_p47, fun _ h => absurd h List.not_mem_nil⟩⟩⟩⟩⟩⟩⟩⟩⟩⟩⟩⟩⟩⟩⟩⟩
theorem lw_p48 : lw_okq (⟨"DrawerRoomModel", "comes", "(III)V"⟩, 59) := ⟨⟨by decide +kernel, by decide +kernel⟩, List.mem_of_getElem? (i := 832) (by decide +kernel), List.mem_of_getElem? (i := 1129) (by decide +kernel), List.mem_of_getElem? (i := 1130) (by decide +kernel)⟩
theorem lw_p49 : lw_okq (⟨"DrawerRoomModel", "parted", "(I)I"⟩, 59) := ⟨⟨by decide +kernel, by decide +kernel⟩, List.mem_of_getElem? (i := 832) (by decide +kernel), List.mem_of_getElem? (i := 1133) (by decide +kernel), List.mem_of_getElem? (i := 1134) (by decide +kernel)⟩
theorem lw_p50 : lw_okq (⟨"DrawerRoomModel", "spare", "()I"⟩, 59) := ⟨⟨by decide +kernel, by decide +kernel⟩, List.mem_of_getElem? (i := 832) (by decide +kernel), List.mem_of_getElem? (i := 1137) (by decide +kernel), List.mem_of_getElem? (i := 1138) (by decide +kernel)⟩
theorem lw_p51 : lw_okq (⟨"DrawerRoomModel", "goesUp", "(I)V"⟩, 59) := ⟨⟨by decide +kernel, by decide +kernel⟩, List.mem_of_getElem? (i := 832) (by decide +kernel), List.mem_of_getElem? (i := 1141) (by decide +kernel), List.mem_of_getElem? (i := 1142) (by decide +kernel)⟩
theorem lw_p52 : lw_okq (⟨"DrawerRoomModel", "firstOf", "(I)I"⟩, 59) := ⟨⟨by decide +kernel, by decide +kernel⟩, List.mem_of_getElem? (i := 832) (by decide +kernel), List.mem_of_getElem? (i := 1145) (by decide +kernel), List.mem_of_getElem? (i := 1146) (by decide +kernel)⟩
theorem lw_p53 : lw_okq (⟨"DrawerRoomModel", "lists", "()V"⟩, 59) := ⟨⟨by decide +kernel, by decide +kernel⟩, List.mem_of_getElem? (i := 832) (by decide +kernel), List.mem_of_getElem? (i := 1169) (by decide +kernel), List.mem_of_getElem? (i := 1170) (by decide +kernel)⟩
theorem lw_p54 : lw_okq (⟨"DrawerRoomModel", "canBeAsked", "(I)Z"⟩, 59) := ⟨⟨by decide +kernel, by decide +kernel⟩, List.mem_of_getElem? (i := 832) (by decide +kernel), List.mem_of_getElem? (i := 1185) (by decide +kernel), List.mem_of_getElem? (i := 1186) (by decide +kernel)⟩
theorem lw_p55 : lw_okq (⟨"DrawerRoomModel", "isSound", "(I)Z"⟩, 59) := ⟨⟨by decide +kernel, by decide +kernel⟩, List.mem_of_getElem? (i := 832) (by decide +kernel), List.mem_of_getElem? (i := 1189) (by decide +kernel), List.mem_of_getElem? (i := 1190) (by decide +kernel)⟩
theorem lw_p56 : lw_okq (⟨"DrawerRoomModel", "mayCome", "(II)Z"⟩, 59) := ⟨⟨by decide +kernel, by decide +kernel⟩, List.mem_of_getElem? (i := 832) (by decide +kernel), List.mem_of_getElem? (i := 1193) (by decide +kernel), List.mem_of_getElem? (i := 1194) (by decide +kernel)⟩
theorem lw_p57 : lw_okq (⟨"DrawerRoomModel", "isThere", "(I)Z"⟩, 59) := ⟨⟨by decide +kernel, by decide +kernel⟩, List.mem_of_getElem? (i := 832) (by decide +kernel), List.mem_of_getElem? (i := 1197) (by decide +kernel), List.mem_of_getElem? (i := 1198) (by decide +kernel)⟩
theorem lw_p58 : lw_okq (⟨"DrawerRoomModel", "isBad", "(I)Z"⟩, 59) := ⟨⟨by decide +kernel, by decide +kernel⟩, List.mem_of_getElem? (i := 832) (by decide +kernel), List.mem_of_getElem? (i := 1210) (by decide +kernel), List.mem_of_getElem? (i := 1211) (by decide +kernel)⟩
theorem lw_p59 : lw_okq (⟨"DrawerRoomModel", "atJobs", "()I"⟩, 59) := ⟨⟨by decide +kernel, by decide +kernel⟩, List.mem_of_getElem? (i := 832) (by decide +kernel), List.mem_of_getElem? (i := 1218) (by decide +kernel), List.mem_of_getElem? (i := 1219) (by decide +kernel)⟩
theorem lw_p60 : lw_okq (⟨"DrawerRoomModel", "saves", "()V"⟩, 59) := ⟨⟨by decide +kernel, by decide +kernel⟩, List.mem_of_getElem? (i := 832) (by decide +kernel), List.mem_of_getElem? (i := 1222) (by decide +kernel), List.mem_of_getElem? (i := 1223) (by decide +kernel)⟩
theorem lw_p61 : lw_okq (⟨"DrawerRoomModel", "goesBy", "(IIII)Z"⟩, 59) := ⟨⟨by decide +kernel, by decide +kernel⟩, List.mem_of_getElem? (i := 832) (by decide +kernel), List.mem_of_getElem? (i := 1226) (by decide +kernel), List.mem_of_getElem? (i := 1227) (by decide +kernel)⟩
theorem lw_p62 : lw_okq (⟨"DrawerRoomModel", "isBroken", "(I)Z"⟩, 59) := ⟨⟨by decide +kernel, by decide +kernel⟩, List.mem_of_getElem? (i := 832) (by decide +kernel), List.mem_of_getElem? (i := 1231) (by decide +kernel), List.mem_of_getElem? (i := 1232) (by decide +kernel)⟩
theorem lw_p63 : lw_okq (⟨"DrawerRoomModel", "putsBack", "()V"⟩, 59) := ⟨⟨by decide +kernel, by decide +kernel⟩, List.mem_of_getElem? (i := 832) (by decide +kernel), List.mem_of_getElem? (i := 1235) (by decide +kernel), List.mem_of_getElem? (i := 1236) (by decide +kernel)⟩
def lw_privs_4 : List (MethodName × Nat) := [(⟨"DrawerRoomModel", "comes", "(III)V"⟩, 59), (⟨"DrawerRoomModel", "parted", "(I)I"⟩, 59), (⟨"DrawerRoomModel", "spare", "()I"⟩, 59), (⟨"DrawerRoomModel", "goesUp", "(I)V"⟩, 59), (⟨"DrawerRoomModel", "firstOf", "(I)I"⟩, 59), (⟨"DrawerRoomModel", "lists", "()V"⟩, 59), (⟨"DrawerRoomModel", "canBeAsked", "(I)Z"⟩, 59), (⟨"DrawerRoomModel", "isSound", "(I)Z"⟩, 59), (⟨"DrawerRoomModel", "mayCome", "(II)Z"⟩, 59), (⟨"DrawerRoomModel", "isThere", "(I)Z"⟩, 59), (⟨"DrawerRoomModel", "isBad", "(I)Z"⟩, 59), (⟨"DrawerRoomModel", "atJobs", "()I"⟩, 59), (⟨"DrawerRoomModel", "saves", "()V"⟩, 59), (⟨"DrawerRoomModel", "goesBy", "(IIII)Z"⟩, 59), (⟨"DrawerRoomModel", "isBroken", "(I)Z"⟩, 59), (⟨"DrawerRoomModel", "putsBack", "()V"⟩, 59)]
theorem lw_r4 : ∀ q ∈ lw_privs_4, lw_okq q := List.forall_mem_cons.mpr ⟨lw_p48, List.forall_mem_cons.mpr ⟨lw_p49, List.forall_mem_cons.mpr ⟨lw_p50, List.forall_mem_cons.mpr ⟨lw_p51, List.forall_mem_cons.mpr ⟨lw_p52, List.forall_mem_cons.mpr ⟨lw_p53, List.forall_mem_cons.mpr ⟨lw_p54, List.forall_mem_cons.mpr ⟨lw_p55, List.forall_mem_cons.mpr ⟨lw_p56, List.forall_mem_cons.mpr ⟨lw_p57, List.forall_mem_cons.mpr ⟨lw_p58, List.forall_mem_cons.mpr ⟨lw_p59, List.forall_mem_cons.mpr ⟨lw_p60, List.forall_mem_cons.mpr ⟨lw_p61, List.forall_mem_cons.mpr ⟨lw_p62, List.forall_mem_cons.mpr ⟨lw_p63, fun _ h => absurd h List.not_mem_nil⟩⟩⟩⟩⟩⟩⟩⟩⟩⟩⟩⟩⟩⟩⟩⟩
theorem lw_p64 : lw_okq (⟨"DrawerRoomModel", "sorts", "()V"⟩, 59) := ⟨⟨by decide +kernel, by decide +kernel⟩, List.mem_of_getElem? (i := 832) (by decide +kernel), List.mem_of_getElem? (i := 1247) (by decide +kernel), List.mem_of_getElem? (i := 1248) (by decide +kernel)⟩
theorem lw_p65 : lw_okq (⟨"DrawerRoomModel", "binds", "(II)V"⟩, 59) := ⟨⟨by decide +kernel, by decide +kernel⟩, List.mem_of_getElem? (i := 832) (by decide +kernel), List.mem_of_getElem? (i := 1251) (by decide +kernel), List.mem_of_getElem? (i := 1252) (by decide +kernel)⟩
def lw_privs_5 : List (MethodName × Nat) := [(⟨"DrawerRoomModel", "sorts", "()V"⟩, 59), (⟨"DrawerRoomModel", "binds", "(II)V"⟩, 59)]
theorem lw_r5 : ∀ q ∈ lw_privs_5, lw_okq q := List.forall_mem_cons.mpr ⟨lw_p64, List.forall_mem_cons.mpr ⟨lw_p65, fun _ h => absurd h List.not_mem_nil⟩⟩
def lw_privs : List (MethodName × Nat) := lw_privs_1 ++ (lw_privs_2 ++ (lw_privs_3 ++ (lw_privs_4 ++ (lw_privs_5))))
def lw_tbl : List Cond := k2_sels lw_privs ++ tables_1
theorem lw_privs_ok : ∀ q ∈ lw_privs, lw_okq q := by
  show ∀ q ∈ lw_privs_1 ++ (lw_privs_2 ++ (lw_privs_3 ++ (lw_privs_4 ++ (lw_privs_5)))), lw_okq q
  exact List.forall_mem_append.mpr ⟨lw_r1, List.forall_mem_append.mpr ⟨lw_r2, List.forall_mem_append.mpr ⟨lw_r3, List.forall_mem_append.mpr ⟨lw_r4, lw_r5⟩⟩⟩⟩
end
section
def RX0 : String := "DrawerRoom$Builder"
def TX0 : u_T := fun k => match k with
  | 0 => ("DrawerRoom$Builder", "drawers", "LDrawerRoom$Drawers;", true)
  | _ => ("DrawerRoom$Builder", "cards", "LDrawerRoom$Cards;", true)
def tyX0 : Nat → FieldType := fun k => match k with
  | 0 => .object "DrawerRoom$Drawers"
  | _ => .object "DrawerRoom$Cards"
abbrev wsX00 : List Cond := u_ws RX0 TX0 2
theorem nmX0 : ∀ a, a < 2 → ∀ b, b < 2 → a ≠ b → (TX0 a).2.1 ≠ (TX0 b).2.1 := by decide +kernel
theorem tyX0_ok : ∀ k, k < 2 → parseFieldDescriptor (TX0 k).2.2.1 = some (tyX0 k) := by decide +kernel
abbrev cX0_init : ByteArray := prog_2_method_1_code
def yX0_init : MethodName := ⟨RX0, "<init>", "(LDrawerRoom$Drawers;LDrawerRoom$Cards;)V"⟩
abbrev cX0_crownTheTop : ByteArray := prog_2_method_2_code
def yX0_crownTheTop : MethodName := ⟨RX0, "crownTheTop", "()V"⟩
abbrev cX0_buildAnew : ByteArray := prog_2_method_3_code
def yX0_buildAnew : MethodName := ⟨RX0, "buildAnew", "(I)V"⟩
abbrev cX0_buildLeaves : ByteArray := prog_2_method_4_code
def yX0_buildLeaves : MethodName := ⟨RX0, "buildLeaves", "(II)I"⟩
abbrev cX0_buildGuides : ByteArray := prog_2_method_5_code
def yX0_buildGuides : MethodName := ⟨RX0, "buildGuides", "(IIII)I"⟩
def RX1 : String := "DrawerRoom$Cards"
def TX1 : u_T := fun k => match k with
  | 0 => ("DrawerRoom$Cards", "drawers", "LDrawerRoom$Drawers;", true)
  | 1 => ("DrawerRoom$Cards", "filing", "LDrawerRoom$Filing;", true)
  | 2 => ("DrawerRoom$Cards", "sorted", "[I", true)
  | _ => ("DrawerRoom$Cards", "sortedCount", "I", false)
def tyX1 : Nat → FieldType := fun k => match k with
  | 0 => .object "DrawerRoom$Drawers"
  | 1 => .object "DrawerRoom$Filing"
  | 2 => .array .int
  | _ => .int
abbrev wsX10 : List Cond := u_ws RX1 TX1 4
theorem nmX1 : ∀ a, a < 4 → ∀ b, b < 4 → a ≠ b → (TX1 a).2.1 ≠ (TX1 b).2.1 := by decide +kernel
theorem tyX1_ok : ∀ k, k < 4 → parseFieldDescriptor (TX1 k).2.2.1 = some (tyX1 k) := by decide +kernel
abbrev cX1_init : ByteArray := prog_3_method_1_code
def yX1_init : MethodName := ⟨RX1, "<init>", "(LDrawerRoom$Drawers;LDrawerRoom$Filing;)V"⟩
abbrev cX1_howMany : ByteArray := prog_3_method_2_code
def yX1_howMany : MethodName := ⟨RX1, "howMany", "()I"⟩
abbrev cX1_kth : ByteArray := prog_3_method_3_code
def yX1_kth : MethodName := ⟨RX1, "kth", "(I)I"⟩
abbrev cX1_aheadOf : ByteArray := prog_3_method_4_code
def yX1_aheadOf : MethodName := ⟨RX1, "aheadOf", "(I)I"⟩
abbrev cX1_sort : ByteArray := prog_3_method_5_code
def yX1_sort : MethodName := ⟨RX1, "sort", "()I"⟩
abbrev cX1_kthSorted : ByteArray := prog_3_method_6_code
def yX1_kthSorted : MethodName := ⟨RX1, "kthSorted", "(I)I"⟩
abbrev cX1_sortIn : ByteArray := prog_3_method_7_code
def yX1_sortIn : MethodName := ⟨RX1, "sortIn", "(I)V"⟩
def RX2 : String := "DrawerRoom$Cells"
def TX2 : u_T := fun k => match k with
  | 0 => ("DrawerRoom$Cells", "now", "[I", true)
  | 1 => ("DrawerRoom$Cells", "places", "[I", true)
  | 2 => ("DrawerRoom$Cells", "before", "[I", true)
  | 3 => ("DrawerRoom$Cells", "logged", "I", false)
  | _ => ("DrawerRoom$Cells", "trying", "Z", false)
def tyX2 : Nat → FieldType := fun k => match k with
  | 0 => .array .int
  | 1 => .array .int
  | 2 => .array .int
  | 3 => .int
  | _ => .boolean
abbrev wsX20 : List Cond := u_ws RX2 TX2 5
theorem nmX2 : ∀ a, a < 5 → ∀ b, b < 5 → a ≠ b → (TX2 a).2.1 ≠ (TX2 b).2.1 := by decide +kernel
theorem tyX2_ok : ∀ k, k < 5 → parseFieldDescriptor (TX2 k).2.2.1 = some (tyX2 k) := by decide +kernel
abbrev cX2_init : ByteArray := prog_4_method_1_code
def yX2_init : MethodName := ⟨RX2, "<init>", "(I)V"⟩
abbrev cX2_get : ByteArray := prog_4_method_2_code
def yX2_get : MethodName := ⟨RX2, "get", "(I)I"⟩
abbrev cX2_put : ByteArray := prog_4_method_3_code
def yX2_put : MethodName := ⟨RX2, "put", "(II)V"⟩
abbrev cX2_fill : ByteArray := prog_4_method_4_code
def yX2_fill : MethodName := ⟨RX2, "fill", "(III)V"⟩
abbrev cX2_copy : ByteArray := prog_4_method_5_code
def yX2_copy : MethodName := ⟨RX2, "copy", "(III)V"⟩
abbrev cX2_startTrying : ByteArray := prog_4_method_6_code
def yX2_startTrying : MethodName := ⟨RX2, "startTrying", "()I"⟩
abbrev cX2_takeBack : ByteArray := prog_4_method_7_code
def yX2_takeBack : MethodName := ⟨RX2, "takeBack", "(I)V"⟩
def RX3 : String := "DrawerRoom$Clerks"
def TX3 : u_T := fun k => match k with
  | 0 => ("DrawerRoom$Clerks", "cells", "LDrawerRoom$Cells;", true)
  | _ => ("DrawerRoom$Clerks", "from", "I", true)
def tyX3 : Nat → FieldType := fun k => match k with
  | 0 => .object "DrawerRoom$Cells"
  | _ => .int
abbrev wsX30 : List Cond := u_ws RX3 TX3 2
theorem nmX3 : ∀ a, a < 2 → ∀ b, b < 2 → a ≠ b → (TX3 a).2.1 ≠ (TX3 b).2.1 := by decide +kernel
theorem tyX3_ok : ∀ k, k < 2 → parseFieldDescriptor (TX3 k).2.2.1 = some (tyX3 k) := by decide +kernel
abbrev cX3_init : ByteArray := prog_5_method_1_code
def yX3_init : MethodName := ⟨RX3, "<init>", "(LDrawerRoom$Cells;I)V"⟩
abbrev cX3_get : ByteArray := prog_5_method_2_code
def yX3_get : MethodName := ⟨RX3, "get", "(II)I"⟩
abbrev cX3_set : ByteArray := prog_5_method_3_code
def yX3_set : MethodName := ⟨RX3, "set", "(III)V"⟩
abbrev cX3_isIdle : ByteArray := prog_5_method_4_code
def yX3_isIdle : MethodName := ⟨RX3, "isIdle", "(I)Z"⟩
abbrev cX3_atJobs : ByteArray := prog_5_method_5_code
def yX3_atJobs : MethodName := ⟨RX3, "atJobs", "()I"⟩
abbrev cX3_startReading : ByteArray := prog_5_method_6_code
def yX3_startReading : MethodName := ⟨RX3, "startReading", "(II)V"⟩
abbrev cX3_rest : ByteArray := prog_5_method_7_code
def yX3_rest : MethodName := ⟨RX3, "rest", "(I)V"⟩
abbrev cX3_path : ByteArray := prog_5_method_8_code
def yX3_path : MethodName := ⟨RX3, "path", "(II)I"⟩
abbrev cX3_keepPath : ByteArray := prog_5_method_9_code
def yX3_keepPath : MethodName := ⟨RX3, "keepPath", "(III)V"⟩
def RX4 : String := "DrawerRoom$Drawers"
def TX4 : u_T := fun k => match k with
  | 0 => ("DrawerRoom$Drawers", "cells", "LDrawerRoom$Cells;", true)
  | 1 => ("DrawerRoom$Drawers", "filing", "LDrawerRoom$Filing;", true)
  | 2 => ("DrawerRoom$Drawers", "half", "I", true)
  | 3 => ("DrawerRoom$Drawers", "width", "I", true)
  | 4 => ("DrawerRoom$Drawers", "firstChild", "I", true)
  | 5 => ("DrawerRoom$Drawers", "topCell", "I", true)
  | _ => ("DrawerRoom$Drawers", "inUseCell", "I", true)
def tyX4 : Nat → FieldType := fun k => match k with
  | 0 => .object "DrawerRoom$Cells"
  | 1 => .object "DrawerRoom$Filing"
  | 2 => .int
  | 3 => .int
  | 4 => .int
  | 5 => .int
  | _ => .int
abbrev wsX40 : List Cond := u_ws RX4 TX4 7
theorem nmX4 : ∀ a, a < 7 → ∀ b, b < 7 → a ≠ b → (TX4 a).2.1 ≠ (TX4 b).2.1 := by decide +kernel
theorem tyX4_ok : ∀ k, k < 7 → parseFieldDescriptor (TX4 k).2.2.1 = some (tyX4 k) := by decide +kernel
abbrev cX4_init : ByteArray := prog_6_method_1_code
def yX4_init : MethodName := ⟨RX4, "<init>", "(LDrawerRoom$Cells;LDrawerRoom$Filing;I)V"⟩
abbrev cX4_cellsFor : ByteArray := prog_6_method_2_code
def yX4_cellsFor : MethodName := ⟨RX4, "cellsFor", "(I)I"⟩
abbrev cX4_widthFor : ByteArray := prog_6_method_3_code
def yX4_widthFor : MethodName := ⟨RX4, "widthFor", "(I)I"⟩
abbrev cX4_copyOf : ByteArray := prog_6_method_4_code
def yX4_copyOf : MethodName := ⟨RX4, "copyOf", "(I)I"⟩
abbrev cX4_half : ByteArray := prog_6_method_5_code
def yX4_half : MethodName := ⟨RX4, "half", "()I"⟩
abbrev cX4_top : ByteArray := prog_6_method_6_code
def yX4_top : MethodName := ⟨RX4, "top", "()I"⟩
abbrev cX4_setTop : ByteArray := prog_6_method_7_code
def yX4_setTop : MethodName := ⟨RX4, "setTop", "(I)V"⟩
abbrev cX4_inUse : ByteArray := prog_6_method_8_code
def yX4_inUse : MethodName := ⟨RX4, "inUse", "()I"⟩
abbrev cX4_clear : ByteArray := prog_6_method_9_code
def yX4_clear : MethodName := ⟨RX4, "clear", "()V"⟩
abbrev cX4_get : ByteArray := prog_6_method_10_code
def yX4_get : MethodName := ⟨RX4, "get", "(II)I"⟩
abbrev cX4_set : ByteArray := prog_6_method_11_code
def yX4_set : MethodName := ⟨RX4, "set", "(III)V"⟩
abbrev cX4_heading : ByteArray := prog_6_method_12_code
def yX4_heading : MethodName := ⟨RX4, "heading", "(II)I"⟩
abbrev cX4_child : ByteArray := prog_6_method_13_code
def yX4_child : MethodName := ⟨RX4, "child", "(II)I"⟩
abbrev cX4_open : ByteArray := prog_6_method_14_code
def yX4_open : MethodName := ⟨RX4, "open", "(I)I"⟩
abbrev cX4_addHeading : ByteArray := prog_6_method_15_code
def yX4_addHeading : MethodName := ⟨RX4, "addHeading", "(II)V"⟩
abbrev cX4_setChild : ByteArray := prog_6_method_16_code
def yX4_setChild : MethodName := ⟨RX4, "setChild", "(III)V"⟩
abbrev cX4_covers : ByteArray := prog_6_method_17_code
def yX4_covers : MethodName := ⟨RX4, "covers", "(II)Z"⟩
abbrev cX4_wayOf : ByteArray := prog_6_method_18_code
def yX4_wayOf : MethodName := ⟨RX4, "wayOf", "(II)I"⟩
abbrev cX4_placeOf : ByteArray := prog_6_method_19_code
def yX4_placeOf : MethodName := ⟨RX4, "placeOf", "(II)I"⟩
abbrev cX4_bring : ByteArray := prog_6_method_20_code
def yX4_bring : MethodName := ⟨RX4, "bring", "(II)V"⟩
abbrev cX4_insert : ByteArray := prog_6_method_21_code
def yX4_insert : MethodName := ⟨RX4, "insert", "(IIII)V"⟩
abbrev cX4_remove : ByteArray := prog_6_method_22_code
def yX4_remove : MethodName := ⟨RX4, "remove", "(II)V"⟩
abbrev cX4_part : ByteArray := prog_6_method_23_code
def yX4_part : MethodName := ⟨RX4, "part", "(I)I"⟩
abbrev cX4_raise : ByteArray := prog_6_method_24_code
def yX4_raise : MethodName := ⟨RX4, "raise", "(III)V"⟩
abbrev cX4_firstOf : ByteArray := prog_6_method_25_code
def yX4_firstOf : MethodName := ⟨RX4, "firstOf", "(I)I"⟩
abbrev cX4_latched : ByteArray := prog_6_method_26_code
def yX4_latched : MethodName := ⟨RX4, "latched", "()I"⟩
abbrev cX4_letAllGo : ByteArray := prog_6_method_27_code
def yX4_letAllGo : MethodName := ⟨RX4, "letAllGo", "()V"⟩
def RX5 : String := "DrawerRoom$Filing"
def TX5 : u_T := fun k => match k with
  | 0 => ("DrawerRoom$Filing", "words", "[I", true)
  | 1 => ("DrawerRoom$Filing", "kept", "[I", true)
  | 2 => ("DrawerRoom$Filing", "read", "[I", true)
  | 3 => ("DrawerRoom$Filing", "keptParts", "I", false)
  | _ => ("DrawerRoom$Filing", "readParts", "I", false)
def tyX5 : Nat → FieldType := fun k => match k with
  | 0 => .array .int
  | 1 => .array .int
  | 2 => .array .int
  | 3 => .int
  | _ => .int
abbrev wsX50 : List Cond := u_ws RX5 TX5 5
theorem nmX5 : ∀ a, a < 5 → ∀ b, b < 5 → a ≠ b → (TX5 a).2.1 ≠ (TX5 b).2.1 := by decide +kernel
theorem tyX5_ok : ∀ k, k < 5 → parseFieldDescriptor (TX5 k).2.2.1 = some (tyX5 k) := by decide +kernel
abbrev cX5_init : ByteArray := prog_7_method_1_code
def yX5_init : MethodName := ⟨RX5, "<init>", "()V"⟩
abbrev cX5_parts : ByteArray := prog_7_method_2_code
def yX5_parts : MethodName := ⟨RX5, "parts", "()I"⟩
abbrev cX5_hear : ByteArray := prog_7_method_3_code
def yX5_hear : MethodName := ⟨RX5, "hear", "(IIIII)V"⟩
abbrev cX5_faultOf : ByteArray := prog_7_method_4_code
def yX5_faultOf : MethodName := ⟨RX5, "faultOf", "(I)I"⟩
abbrev cX5_keepWhatWasRead : ByteArray := prog_7_method_5_code
def yX5_keepWhatWasRead : MethodName := ⟨RX5, "keepWhatWasRead", "()V"⟩
abbrev cX5_isAhead : ByteArray := prog_7_method_6_code
def yX5_isAhead : MethodName := ⟨RX5, "isAhead", "(II)Z"⟩
abbrev cX5_byteAt : ByteArray := prog_7_method_7_code
def yX5_byteAt : MethodName := ⟨RX5, "byteAt", "(I)I"⟩
abbrev cX5_takesLetter : ByteArray := prog_7_method_8_code
def yX5_takesLetter : MethodName := ⟨RX5, "takesLetter", "(I)Z"⟩
abbrev cX5_takesDirection : ByteArray := prog_7_method_9_code
def yX5_takesDirection : MethodName := ⟨RX5, "takesDirection", "(I)Z"⟩
abbrev cX5_worthOf : ByteArray := prog_7_method_10_code
def yX5_worthOf : MethodName := ⟨RX5, "worthOf", "(I)I"⟩
def RX6 : String := "DrawerRoom$Jobs"
def TX6 : u_T := fun k => match k with
  | 0 => ("DrawerRoom$Jobs", "cells", "LDrawerRoom$Cells;", true)
  | 1 => ("DrawerRoom$Jobs", "from", "I", true)
  | 2 => ("DrawerRoom$Jobs", "timeCell", "I", true)
  | _ => ("DrawerRoom$Jobs", "begunCell", "I", true)
def tyX6 : Nat → FieldType := fun k => match k with
  | 0 => .object "DrawerRoom$Cells"
  | 1 => .int
  | 2 => .int
  | _ => .int
abbrev wsX60 : List Cond := u_ws RX6 TX6 4
theorem nmX6 : ∀ a, a < 4 → ∀ b, b < 4 → a ≠ b → (TX6 a).2.1 ≠ (TX6 b).2.1 := by decide +kernel
theorem tyX6_ok : ∀ k, k < 4 → parseFieldDescriptor (TX6 k).2.2.1 = some (tyX6 k) := by decide +kernel
abbrev cX6_init : ByteArray := prog_8_method_1_code
def yX6_init : MethodName := ⟨RX6, "<init>", "(LDrawerRoom$Cells;I)V"⟩
abbrev cX6_get : ByteArray := prog_8_method_2_code
def yX6_get : MethodName := ⟨RX6, "get", "(II)I"⟩
abbrev cX6_set : ByteArray := prog_8_method_3_code
def yX6_set : MethodName := ⟨RX6, "set", "(III)V"⟩
abbrev cX6_time : ByteArray := prog_8_method_4_code
def yX6_time : MethodName := ⟨RX6, "time", "()I"⟩
abbrev cX6_begun : ByteArray := prog_8_method_5_code
def yX6_begun : MethodName := ⟨RX6, "begun", "()I"⟩
abbrev cX6_open : ByteArray := prog_8_method_6_code
def yX6_open : MethodName := ⟨RX6, "open", "(II)I"⟩
abbrev cX6_passStep : ByteArray := prog_8_method_7_code
def yX6_passStep : MethodName := ⟨RX6, "passStep", "(I)V"⟩
abbrev cX6_changeCards : ByteArray := prog_8_method_8_code
def yX6_changeCards : MethodName := ⟨RX6, "changeCards", "(I)V"⟩
abbrev cX6_end : ByteArray := prog_8_method_9_code
def yX6_end : MethodName := ⟨RX6, "end", "(II)V"⟩
abbrev cX6_isLastChange : ByteArray := prog_8_method_10_code
def yX6_isLastChange : MethodName := ⟨RX6, "isLastChange", "(II)Z"⟩
def RX7 : String := "DrawerRoom$Line"
def TX7 : u_T := fun k => match k with
  | 0 => ("DrawerRoom$Line", "jobs", "LDrawerRoom$Jobs;", true)
  | 1 => ("DrawerRoom$Line", "mine", "[I", true)
  | 2 => ("DrawerRoom$Line", "kinds", "[I", true)
  | 3 => ("DrawerRoom$Line", "answers", "[I", true)
  | 4 => ("DrawerRoom$Line", "began", "[I", true)
  | 5 => ("DrawerRoom$Line", "ended", "[I", true)
  | 6 => ("DrawerRoom$Line", "row", "[I", true)
  | 7 => ("DrawerRoom$Line", "dead", "[I", true)
  | _ => ("DrawerRoom$Line", "found", "I", false)
def tyX7 : Nat → FieldType := fun k => match k with
  | 0 => .object "DrawerRoom$Jobs"
  | 1 => .array .int
  | 2 => .array .int
  | 3 => .array .int
  | 4 => .array .int
  | 5 => .array .int
  | 6 => .array .int
  | 7 => .array .int
  | _ => .int
abbrev wsX70 : List Cond := u_ws RX7 TX7 9
theorem nmX7 : ∀ a, a < 9 → ∀ b, b < 9 → a ≠ b → (TX7 a).2.1 ≠ (TX7 b).2.1 := by decide +kernel
theorem tyX7_ok : ∀ k, k < 9 → parseFieldDescriptor (TX7 k).2.2.1 = some (tyX7 k) := by decide +kernel
abbrev cX7_init : ByteArray := prog_9_method_1_code
def yX7_init : MethodName := ⟨RX7, "<init>", "(LDrawerRoom$Jobs;)V"⟩
abbrev cX7_judge : ByteArray := prog_9_method_2_code
def yX7_judge : MethodName := ⟨RX7, "judge", "(I)I"⟩
abbrev cX7_kthOfRow : ByteArray := prog_9_method_3_code
def yX7_kthOfRow : MethodName := ⟨RX7, "kthOfRow", "(I)I"⟩
abbrev cX7_canBeAsked : ByteArray := prog_9_method_4_code
def yX7_canBeAsked : MethodName := ⟨RX7, "canBeAsked", "(I)Z"⟩
abbrev cX7_goesOn : ByteArray := prog_9_method_5_code
def yX7_goesOn : MethodName := ⟨RX7, "goesOn", "(IIZ)Z"⟩
abbrev cX7_nothingComesFirst : ByteArray := prog_9_method_6_code
def yX7_nothingComesFirst : MethodName := ⟨RX7, "nothingComesFirst", "(II)Z"⟩
abbrev cX7_isRight : ByteArray := prog_9_method_7_code
def yX7_isRight : MethodName := ⟨RX7, "isRight", "(IZ)Z"⟩
def RX8 : String := "DrawerRoom$Search"
def TX8 : u_T := fun k => match k with
  | 0 => ("DrawerRoom$Search", "cells", "LDrawerRoom$Cells;", true)
  | 1 => ("DrawerRoom$Search", "clerks", "LDrawerRoom$Clerks;", true)
  | 2 => ("DrawerRoom$Search", "jobs", "LDrawerRoom$Jobs;", true)
  | 3 => ("DrawerRoom$Search", "steps", "LDrawerRoom$Steps;", true)
  | 4 => ("DrawerRoom$Search", "lines", "LDrawerRoom$Line;", true)
  | 5 => ("DrawerRoom$Search", "shapes", "LDrawerRoom$Shape;", true)
  | 6 => ("DrawerRoom$Search", "row", "[I", true)
  | 7 => ("DrawerRoom$Search", "lower", "I", false)
  | _ => ("DrawerRoom$Search", "upper", "I", false)
def tyX8 : Nat → FieldType := fun k => match k with
  | 0 => .object "DrawerRoom$Cells"
  | 1 => .object "DrawerRoom$Clerks"
  | 2 => .object "DrawerRoom$Jobs"
  | 3 => .object "DrawerRoom$Steps"
  | 4 => .object "DrawerRoom$Line"
  | 5 => .object "DrawerRoom$Shape"
  | 6 => .array .int
  | 7 => .int
  | _ => .int
abbrev wsX80 : List Cond := u_ws RX8 TX8 9
theorem nmX8 : ∀ a, a < 9 → ∀ b, b < 9 → a ≠ b → (TX8 a).2.1 ≠ (TX8 b).2.1 := by decide +kernel
theorem tyX8_ok : ∀ k, k < 9 → parseFieldDescriptor (TX8 k).2.2.1 = some (tyX8 k) := by decide +kernel
abbrev cX8_init : ByteArray := prog_10_method_1_code
def yX8_init : MethodName := ⟨RX8, "<init>", "(LDrawerRoom$Cells;LDrawerRoom$Clerks;LDrawerRoom$Jobs;LDrawerRoom$Steps;LDrawerRoom$Line;LDrawerRoom$Shape;)V"⟩
abbrev cX8_takeTheTwo : ByteArray := prog_10_method_2_code
def yX8_takeTheTwo : MethodName := ⟨RX8, "takeTheTwo", "()V"⟩
abbrev cX8_kthClerk : ByteArray := prog_10_method_3_code
def yX8_kthClerk : MethodName := ⟨RX8, "kthClerk", "(I)I"⟩
abbrev cX8_goesWrong : ByteArray := prog_10_method_4_code
def yX8_goesWrong : MethodName := ⟨RX8, "goesWrong", "(II)Z"⟩
abbrev cX8_isWrongNow : ByteArray := prog_10_method_5_code
def yX8_isWrongNow : MethodName := ⟨RX8, "isWrongNow", "()Z"⟩
def RX9 : String := "DrawerRoom$Shape"
def TX9 : u_T := fun k => match k with
  | 0 => ("DrawerRoom$Shape", "drawers", "LDrawerRoom$Drawers;", true)
  | _ => ("DrawerRoom$Shape", "filing", "LDrawerRoom$Filing;", true)
def tyX9 : Nat → FieldType := fun k => match k with
  | 0 => .object "DrawerRoom$Drawers"
  | _ => .object "DrawerRoom$Filing"
abbrev wsX90 : List Cond := u_ws RX9 TX9 2
theorem nmX9 : ∀ a, a < 2 → ∀ b, b < 2 → a ≠ b → (TX9 a).2.1 ≠ (TX9 b).2.1 := by decide +kernel
theorem tyX9_ok : ∀ k, k < 2 → parseFieldDescriptor (TX9 k).2.2.1 = some (tyX9 k) := by decide +kernel
abbrev cX9_init : ByteArray := prog_11_method_1_code
def yX9_init : MethodName := ⟨RX9, "<init>", "(LDrawerRoom$Drawers;LDrawerRoom$Filing;)V"⟩
abbrev cX9_leastBad : ByteArray := prog_11_method_2_code
def yX9_leastBad : MethodName := ⟨RX9, "leastBad", "()I"⟩
abbrev cX9_hasBadHeadings : ByteArray := prog_11_method_3_code
def yX9_hasBadHeadings : MethodName := ⟨RX9, "hasBadHeadings", "(I)Z"⟩
abbrev cX9_hasBadChildren : ByteArray := prog_11_method_4_code
def yX9_hasBadChildren : MethodName := ⟨RX9, "hasBadChildren", "(I)Z"⟩
def RX10 : String := "DrawerRoom$Steps"
def TX10 : u_T := fun k => match k with
  | 0 => ("DrawerRoom$Steps", "drawers", "LDrawerRoom$Drawers;", true)
  | 1 => ("DrawerRoom$Steps", "clerks", "LDrawerRoom$Clerks;", true)
  | _ => ("DrawerRoom$Steps", "jobs", "LDrawerRoom$Jobs;", true)
def tyX10 : Nat → FieldType := fun k => match k with
  | 0 => .object "DrawerRoom$Drawers"
  | 1 => .object "DrawerRoom$Clerks"
  | _ => .object "DrawerRoom$Jobs"
abbrev wsX100 : List Cond := u_ws RX10 TX10 3
theorem nmX10 : ∀ a, a < 3 → ∀ b, b < 3 → a ≠ b → (TX10 a).2.1 ≠ (TX10 b).2.1 := by decide +kernel
theorem tyX10_ok : ∀ k, k < 3 → parseFieldDescriptor (TX10 k).2.2.1 = some (tyX10 k) := by decide +kernel
abbrev cX10_init : ByteArray := prog_12_method_1_code
def yX10_init : MethodName := ⟨RX10, "<init>", "(LDrawerRoom$Drawers;LDrawerRoom$Clerks;LDrawerRoom$Jobs;)V"⟩
abbrev cX10_go : ByteArray := prog_12_method_2_code
def yX10_go : MethodName := ⟨RX10, "go", "(I)V"⟩
abbrev cX10_read : ByteArray := prog_12_method_3_code
def yX10_read : MethodName := ⟨RX10, "read", "(I)V"⟩
abbrev cX10_hold : ByteArray := prog_12_method_4_code
def yX10_hold : MethodName := ⟨RX10, "hold", "(I)V"⟩
abbrev cX10_write : ByteArray := prog_12_method_5_code
def yX10_write : MethodName := ⟨RX10, "write", "(I)V"⟩
abbrev cX10_writeGuide : ByteArray := prog_12_method_6_code
def yX10_writeGuide : MethodName := ⟨RX10, "writeGuide", "(II)V"⟩
abbrev cX10_writeCard : ByteArray := prog_12_method_7_code
def yX10_writeCard : MethodName := ⟨RX10, "writeCard", "(II)Z"⟩
abbrev cX10_climb : ByteArray := prog_12_method_8_code
def yX10_climb : MethodName := ⟨RX10, "climb", "(I)V"⟩
abbrev cX10_moveTo : ByteArray := prog_12_method_9_code
def yX10_moveTo : MethodName := ⟨RX10, "moveTo", "(II)V"⟩
abbrev cX10_mustGoOn : ByteArray := prog_12_method_10_code
def yX10_mustGoOn : MethodName := ⟨RX10, "mustGoOn", "(III)Z"⟩
abbrev cX10_isFree : ByteArray := prog_12_method_11_code
def yX10_isFree : MethodName := ⟨RX10, "isFree", "(II)Z"⟩
abbrev cX10_latch : ByteArray := prog_12_method_12_code
def yX10_latch : MethodName := ⟨RX10, "latch", "(II)V"⟩
abbrev cX10_letGo : ByteArray := prog_12_method_13_code
def yX10_letGo : MethodName := ⟨RX10, "letGo", "(II)V"⟩
abbrev cX10_end : ByteArray := prog_12_method_14_code
def yX10_end : MethodName := ⟨RX10, "end", "(II)V"⟩
abbrev cX10_kindOf : ByteArray := prog_12_method_15_code
def yX10_kindOf : MethodName := ⟨RX10, "kindOf", "(I)I"⟩
def RX11 : String := "DrawerRoom"
def TX11 : u_T := fun k => match k with
  | 0 => ("DrawerRoom", "filing", "LDrawerRoom$Filing;", true)
  | 1 => ("DrawerRoom", "drawers", "LDrawerRoom$Drawers;", true)
  | 2 => ("DrawerRoom", "clerks", "LDrawerRoom$Clerks;", true)
  | 3 => ("DrawerRoom", "jobs", "LDrawerRoom$Jobs;", true)
  | 4 => ("DrawerRoom", "steps", "LDrawerRoom$Steps;", true)
  | 5 => ("DrawerRoom", "cards", "LDrawerRoom$Cards;", true)
  | 6 => ("DrawerRoom", "lines", "LDrawerRoom$Line;", true)
  | 7 => ("DrawerRoom", "shapes", "LDrawerRoom$Shape;", true)
  | 8 => ("DrawerRoom", "search", "LDrawerRoom$Search;", true)
  | _ => ("DrawerRoom", "builder", "LDrawerRoom$Builder;", true)
def tyX11 : Nat → FieldType := fun k => match k with
  | 0 => .object "DrawerRoom$Filing"
  | 1 => .object "DrawerRoom$Drawers"
  | 2 => .object "DrawerRoom$Clerks"
  | 3 => .object "DrawerRoom$Jobs"
  | 4 => .object "DrawerRoom$Steps"
  | 5 => .object "DrawerRoom$Cards"
  | 6 => .object "DrawerRoom$Line"
  | 7 => .object "DrawerRoom$Shape"
  | 8 => .object "DrawerRoom$Search"
  | _ => .object "DrawerRoom$Builder"
abbrev wsX110 : List Cond := u_ws RX11 TX11 10
theorem nmX11 : ∀ a, a < 10 → ∀ b, b < 10 → a ≠ b → (TX11 a).2.1 ≠ (TX11 b).2.1 := by decide +kernel
theorem tyX11_ok : ∀ k, k < 10 → parseFieldDescriptor (TX11 k).2.2.1 = some (tyX11 k) := by decide +kernel
abbrev cX11_init : ByteArray := prog_1_method_1_code
def yX11_init : MethodName := ⟨RX11, "<init>", "(I)V"⟩
abbrev cX11_rule : ByteArray := prog_1_method_2_code
def yX11_rule : MethodName := ⟨RX11, "rule", "(IIIIII)I"⟩
abbrev cX11_ahead : ByteArray := prog_1_method_3_code
def yX11_ahead : MethodName := ⟨RX11, "ahead", "(II)I"⟩
abbrev cX11_fault : ByteArray := prog_1_method_4_code
def yX11_fault : MethodName := ⟨RX11, "fault", "(II)Z"⟩
abbrev cX11_begin : ByteArray := prog_1_method_5_code
def yX11_begin : MethodName := ⟨RX11, "begin", "(III)I"⟩
abbrev cX11_step : ByteArray := prog_1_method_6_code
def yX11_step : MethodName := ⟨RX11, "step", "(II)I"⟩
abbrev cX11_clerk : ByteArray := prog_1_method_7_code
def yX11_clerk : MethodName := ⟨RX11, "clerk", "(II)I"⟩
abbrev cX11_job : ByteArray := prog_1_method_8_code
def yX11_job : MethodName := ⟨RX11, "job", "(II)I"⟩
abbrev cX11_drawer : ByteArray := prog_1_method_9_code
def yX11_drawer : MethodName := ⟨RX11, "drawer", "(II)I"⟩
abbrev cX11_at : ByteArray := prog_1_method_10_code
def yX11_at : MethodName := ⟨RX11, "at", "(IIZ)I"⟩
abbrev cX11_nth : ByteArray := prog_1_method_11_code
def yX11_nth : MethodName := ⟨RX11, "nth", "(I)I"⟩
abbrev cX11_rank : ByteArray := prog_1_method_12_code
def yX11_rank : MethodName := ⟨RX11, "rank", "(I)I"⟩
abbrev cX11_there : ByteArray := prog_1_method_13_code
def yX11_there : MethodName := ⟨RX11, "there", "(III)I"⟩
abbrev cX11_line : ByteArray := prog_1_method_14_code
def yX11_line : MethodName := ⟨RX11, "line", "(I)I"⟩
abbrev cX11_order : ByteArray := prog_1_method_15_code
def yX11_order : MethodName := ⟨RX11, "order", "(II)I"⟩
abbrev cX11_shape : ByteArray := prog_1_method_16_code
def yX11_shape : MethodName := ⟨RX11, "shape", "()I"⟩
abbrev cX11_found : ByteArray := prog_1_method_17_code
def yX11_found : MethodName := ⟨RX11, "found", "(II)I"⟩
abbrev cX11_fall : ByteArray := prog_1_method_18_code
def yX11_fall : MethodName := ⟨RX11, "fall", "()I"⟩
abbrev cX11_night : ByteArray := prog_1_method_19_code
def yX11_night : MethodName := ⟨RX11, "night", "(I)I"⟩
abbrev cX11_count : ByteArray := prog_1_method_20_code
def yX11_count : MethodName := ⟨RX11, "count", "(I)I"⟩
abbrev cX11_isIdleClerk : ByteArray := prog_1_method_21_code
def yX11_isIdleClerk : MethodName := ⟨RX11, "isIdleClerk", "(I)Z"⟩
abbrev cX11_isClerk : ByteArray := prog_1_method_22_code
def yX11_isClerk : MethodName := ⟨RX11, "isClerk", "(I)Z"⟩
abbrev cX11_isHeading : ByteArray := prog_1_method_23_code
def yX11_isHeading : MethodName := ⟨RX11, "isHeading", "(I)Z"⟩
def RX12 : String := "DrawerRoomModel"
def TX12 : u_T := fun k => match k with
  | 0 => ("DrawerRoomModel", "b", "I", true)
  | 1 => ("DrawerRoomModel", "parts", "I", false)
  | 2 => ("DrawerRoomModel", "partDigit", "[I", true)
  | 3 => ("DrawerRoomModel", "isLess", "[Z", true)
  | 4 => ("DrawerRoomModel", "time", "I", false)
  | 5 => ("DrawerRoomModel", "top", "I", false)
  | 6 => ("DrawerRoomModel", "isUsed", "[Z", true)
  | 7 => ("DrawerRoomModel", "level", "[I", true)
  | 8 => ("DrawerRoomModel", "many", "[I", true)
  | 9 => ("DrawerRoomModel", "heading", "[I", true)
  | 10 => ("DrawerRoomModel", "child", "[I", true)
  | 11 => ("DrawerRoomModel", "high", "[I", true)
  | 12 => ("DrawerRoomModel", "thread", "[I", true)
  | 13 => ("DrawerRoomModel", "latch", "[I", true)
  | 14 => ("DrawerRoomModel", "fault", "[I", true)
  | 15 => ("DrawerRoomModel", "at", "[I", true)
  | 16 => ("DrawerRoomModel", "place", "[I", true)
  | 17 => ("DrawerRoomModel", "jobOf", "[I", true)
  | 18 => ("DrawerRoomModel", "rises", "[I", true)
  | 19 => ("DrawerRoomModel", "riseChild", "[I", true)
  | 20 => ("DrawerRoomModel", "path", "[I", true)
  | 21 => ("DrawerRoomModel", "copyMany", "[I", true)
  | 22 => ("DrawerRoomModel", "copyHeading", "[I", true)
  | 23 => ("DrawerRoomModel", "copyChild", "[I", true)
  | 24 => ("DrawerRoomModel", "copyHigh", "[I", true)
  | 25 => ("DrawerRoomModel", "copyThread", "[I", true)
  | 26 => ("DrawerRoomModel", "jobs", "I", false)
  | 27 => ("DrawerRoomModel", "kind", "[I", true)
  | 28 => ("DrawerRoomModel", "wanted", "[I", true)
  | 29 => ("DrawerRoomModel", "answer", "[I", true)
  | 30 => ("DrawerRoomModel", "began", "[I", true)
  | 31 => ("DrawerRoomModel", "ended", "[I", true)
  | 32 => ("DrawerRoomModel", "steps", "[I", true)
  | 33 => ("DrawerRoomModel", "isLost", "[Z", true)
  | 34 => ("DrawerRoomModel", "changes", "I", false)
  | 35 => ("DrawerRoomModel", "changeAt", "[I", true)
  | 36 => ("DrawerRoomModel", "changeOf", "[I", true)
  | 37 => ("DrawerRoomModel", "isFiled", "[Z", true)
  | 38 => ("DrawerRoomModel", "readDigit", "[I", true)
  | 39 => ("DrawerRoomModel", "readLess", "[Z", true)
  | 40 => ("DrawerRoomModel", "readMany", "I", false)
  | 41 => ("DrawerRoomModel", "card", "[I", true)
  | 42 => ("DrawerRoomModel", "cards", "I", false)
  | 43 => ("DrawerRoomModel", "asked", "[I", true)
  | 44 => ("DrawerRoomModel", "askedMany", "I", false)
  | 45 => ("DrawerRoomModel", "leadsOn", "[Z", true)
  | 46 => ("DrawerRoomModel", "wasUsed", "[Z", true)
  | 47 => ("DrawerRoomModel", "wasDrawer", "[I", true)
  | 48 => ("DrawerRoomModel", "wasHeading", "[I", true)
  | 49 => ("DrawerRoomModel", "wasChild", "[I", true)
  | 50 => ("DrawerRoomModel", "wasClerk", "[I", true)
  | 51 => ("DrawerRoomModel", "wasPath", "[I", true)
  | 52 => ("DrawerRoomModel", "wasCopyHeading", "[I", true)
  | 53 => ("DrawerRoomModel", "wasCopyChild", "[I", true)
  | 54 => ("DrawerRoomModel", "wasJob", "[I", true)
  | 55 => ("DrawerRoomModel", "wasTime", "I", false)
  | 56 => ("DrawerRoomModel", "wasTop", "I", false)
  | 57 => ("DrawerRoomModel", "wasChanges", "I", false)
  | _ => ("DrawerRoomModel", "row", "[I", true)
def tyX12 : Nat → FieldType := fun k => match k with
  | 0 => .int
  | 1 => .int
  | 2 => .array .int
  | 3 => .array .boolean
  | 4 => .int
  | 5 => .int
  | 6 => .array .boolean
  | 7 => .array .int
  | 8 => .array .int
  | 9 => .array .int
  | 10 => .array .int
  | 11 => .array .int
  | 12 => .array .int
  | 13 => .array .int
  | 14 => .array .int
  | 15 => .array .int
  | 16 => .array .int
  | 17 => .array .int
  | 18 => .array .int
  | 19 => .array .int
  | 20 => .array .int
  | 21 => .array .int
  | 22 => .array .int
  | 23 => .array .int
  | 24 => .array .int
  | 25 => .array .int
  | 26 => .int
  | 27 => .array .int
  | 28 => .array .int
  | 29 => .array .int
  | 30 => .array .int
  | 31 => .array .int
  | 32 => .array .int
  | 33 => .array .boolean
  | 34 => .int
  | 35 => .array .int
  | 36 => .array .int
  | 37 => .array .boolean
  | 38 => .array .int
  | 39 => .array .boolean
  | 40 => .int
  | 41 => .array .int
  | 42 => .int
  | 43 => .array .int
  | 44 => .int
  | 45 => .array .boolean
  | 46 => .array .boolean
  | 47 => .array .int
  | 48 => .array .int
  | 49 => .array .int
  | 50 => .array .int
  | 51 => .array .int
  | 52 => .array .int
  | 53 => .array .int
  | 54 => .array .int
  | 55 => .int
  | 56 => .int
  | 57 => .int
  | _ => .array .int
abbrev wsX120 : List Cond := u_ws RX12 TX12 59
theorem nmX12 : ∀ a, a < 59 → ∀ b, b < 59 → a ≠ b → (TX12 a).2.1 ≠ (TX12 b).2.1 := by decide +kernel
theorem tyX12_ok : ∀ k, k < 59 → parseFieldDescriptor (TX12 k).2.2.1 = some (tyX12 k) := by decide +kernel
abbrev cX12_init : ByteArray := prog_14_method_1_code
def yX12_init : MethodName := ⟨RX12, "<init>", "(I)V"⟩
abbrev cX12_in : ByteArray := prog_14_method_2_code
def yX12_in : MethodName := ⟨RX12, "in", "(III)Z"⟩
abbrev cX12_isHeading : ByteArray := prog_14_method_3_code
def yX12_isHeading : MethodName := ⟨RX12, "isHeading", "(I)Z"⟩
abbrev cX12_clears : ByteArray := prog_14_method_4_code
def yX12_clears : MethodName := ⟨RX12, "clears", "(I)V"⟩
abbrev cX12_byteOf : ByteArray := prog_14_method_5_code
def yX12_byteOf : MethodName := ⟨RX12, "byteOf", "(IIIIII)I"⟩
abbrev cX12_isRead : ByteArray := prog_14_method_6_code
def yX12_isRead : MethodName := ⟨RX12, "isRead", "(I)Z"⟩
abbrev cX12_rule : ByteArray := prog_14_method_7_code
def yX12_rule : MethodName := ⟨RX12, "rule", "(IIIIII)I"⟩
abbrev cX12_digit : ByteArray := prog_14_method_8_code
def yX12_digit : MethodName := ⟨RX12, "digit", "(II)I"⟩
abbrev cX12_isAhead : ByteArray := prog_14_method_9_code
def yX12_isAhead : MethodName := ⟨RX12, "isAhead", "(II)Z"⟩
abbrev cX12_ahead : ByteArray := prog_14_method_10_code
def yX12_ahead : MethodName := ⟨RX12, "ahead", "(II)I"⟩
abbrev cX12_covers : ByteArray := prog_14_method_11_code
def yX12_covers : MethodName := ⟨RX12, "covers", "(II)Z"⟩
abbrev cX12_way : ByteArray := prog_14_method_12_code
def yX12_way : MethodName := ⟨RX12, "way", "(II)I"⟩
abbrev cX12_spare : ByteArray := prog_14_method_13_code
def yX12_spare : MethodName := ⟨RX12, "spare", "()I"⟩
abbrev cX12_used : ByteArray := prog_14_method_14_code
def yX12_used : MethodName := ⟨RX12, "used", "()I"⟩
abbrev cX12_parted : ByteArray := prog_14_method_15_code
def yX12_parted : MethodName := ⟨RX12, "parted", "(I)I"⟩
abbrev cX12_fault : ByteArray := prog_14_method_16_code
def yX12_fault : MethodName := ⟨RX12, "fault", "(II)Z"⟩
abbrev cX12_begin : ByteArray := prog_14_method_17_code
def yX12_begin : MethodName := ⟨RX12, "begin", "(III)I"⟩
abbrev cX12_isOthers : ByteArray := prog_14_method_18_code
def yX12_isOthers : MethodName := ⟨RX12, "isOthers", "(II)Z"⟩
abbrev cX12_latches : ByteArray := prog_14_method_19_code
def yX12_latches : MethodName := ⟨RX12, "latches", "(II)V"⟩
abbrev cX12_letsGo : ByteArray := prog_14_method_20_code
def yX12_letsGo : MethodName := ⟨RX12, "letsGo", "(II)V"⟩
abbrev cX12_ends : ByteArray := prog_14_method_21_code
def yX12_ends : MethodName := ⟨RX12, "ends", "(II)V"⟩
abbrev cX12_looksFor : ByteArray := prog_14_method_22_code
def yX12_looksFor : MethodName := ⟨RX12, "looksFor", "(I)I"⟩
abbrev cX12_covered : ByteArray := prog_14_method_23_code
def yX12_covered : MethodName := ⟨RX12, "covered", "(III)Z"⟩
abbrev cX12_hasCard : ByteArray := prog_14_method_24_code
def yX12_hasCard : MethodName := ⟨RX12, "hasCard", "(II)Z"⟩
abbrev cX12_reads : ByteArray := prog_14_method_25_code
def yX12_reads : MethodName := ⟨RX12, "reads", "(I)V"⟩
abbrev cX12_holds : ByteArray := prog_14_method_26_code
def yX12_holds : MethodName := ⟨RX12, "holds", "(I)V"⟩
abbrev cX12_placeIn : ByteArray := prog_14_method_27_code
def yX12_placeIn : MethodName := ⟨RX12, "placeIn", "(II)I"⟩
abbrev cX12_hasCopy : ByteArray := prog_14_method_28_code
def yX12_hasCopy : MethodName := ⟨RX12, "hasCopy", "(II)Z"⟩
abbrev cX12_becomes : ByteArray := prog_14_method_29_code
def yX12_becomes : MethodName := ⟨RX12, "becomes", "(I)V"⟩
abbrev cX12_comes : ByteArray := prog_14_method_30_code
def yX12_comes : MethodName := ⟨RX12, "comes", "(III)V"⟩
abbrev cX12_writes : ByteArray := prog_14_method_31_code
def yX12_writes : MethodName := ⟨RX12, "writes", "(I)V"⟩
abbrev cX12_firstOf : ByteArray := prog_14_method_32_code
def yX12_firstOf : MethodName := ⟨RX12, "firstOf", "(I)I"⟩
abbrev cX12_goesUp : ByteArray := prog_14_method_33_code
def yX12_goesUp : MethodName := ⟨RX12, "goesUp", "(I)V"⟩
abbrev cX12_one : ByteArray := prog_14_method_34_code
def yX12_one : MethodName := ⟨RX12, "one", "(I)V"⟩
abbrev cX12_step : ByteArray := prog_14_method_35_code
def yX12_step : MethodName := ⟨RX12, "step", "(II)I"⟩
abbrev cX12_clerk : ByteArray := prog_14_method_36_code
def yX12_clerk : MethodName := ⟨RX12, "clerk", "(II)I"⟩
abbrev cX12_job : ByteArray := prog_14_method_37_code
def yX12_job : MethodName := ⟨RX12, "job", "(II)I"⟩
abbrev cX12_drawer : ByteArray := prog_14_method_38_code
def yX12_drawer : MethodName := ⟨RX12, "drawer", "(II)I"⟩
abbrev cX12_at : ByteArray := prog_14_method_39_code
def yX12_at : MethodName := ⟨RX12, "at", "(IIZ)I"⟩
abbrev cX12_lists : ByteArray := prog_14_method_40_code
def yX12_lists : MethodName := ⟨RX12, "lists", "()V"⟩
abbrev cX12_nth : ByteArray := prog_14_method_41_code
def yX12_nth : MethodName := ⟨RX12, "nth", "(I)I"⟩
abbrev cX12_rank : ByteArray := prog_14_method_42_code
def yX12_rank : MethodName := ⟨RX12, "rank", "(I)I"⟩
abbrev cX12_there : ByteArray := prog_14_method_43_code
def yX12_there : MethodName := ⟨RX12, "there", "(III)I"⟩
abbrev cX12_canBeAsked : ByteArray := prog_14_method_44_code
def yX12_canBeAsked : MethodName := ⟨RX12, "canBeAsked", "(I)Z"⟩
abbrev cX12_isThere : ByteArray := prog_14_method_45_code
def yX12_isThere : MethodName := ⟨RX12, "isThere", "(I)Z"⟩
abbrev cX12_mayCome : ByteArray := prog_14_method_46_code
def yX12_mayCome : MethodName := ⟨RX12, "mayCome", "(II)Z"⟩
abbrev cX12_isSound : ByteArray := prog_14_method_47_code
def yX12_isSound : MethodName := ⟨RX12, "isSound", "(I)Z"⟩
abbrev cX12_line : ByteArray := prog_14_method_48_code
def yX12_line : MethodName := ⟨RX12, "line", "(I)I"⟩
abbrev cX12_order : ByteArray := prog_14_method_49_code
def yX12_order : MethodName := ⟨RX12, "order", "(II)I"⟩
abbrev cX12_isBad : ByteArray := prog_14_method_50_code
def yX12_isBad : MethodName := ⟨RX12, "isBad", "(I)Z"⟩
abbrev cX12_shape : ByteArray := prog_14_method_51_code
def yX12_shape : MethodName := ⟨RX12, "shape", "()I"⟩
abbrev cX12_saves : ByteArray := prog_14_method_52_code
def yX12_saves : MethodName := ⟨RX12, "saves", "()V"⟩
abbrev cX12_putsBack : ByteArray := prog_14_method_53_code
def yX12_putsBack : MethodName := ⟨RX12, "putsBack", "()V"⟩
abbrev cX12_atJobs : ByteArray := prog_14_method_54_code
def yX12_atJobs : MethodName := ⟨RX12, "atJobs", "()I"⟩
abbrev cX12_isBroken : ByteArray := prog_14_method_55_code
def yX12_isBroken : MethodName := ⟨RX12, "isBroken", "(I)Z"⟩
abbrev cX12_goesBy : ByteArray := prog_14_method_56_code
def yX12_goesBy : MethodName := ⟨RX12, "goesBy", "(IIII)Z"⟩
abbrev cX12_found : ByteArray := prog_14_method_57_code
def yX12_found : MethodName := ⟨RX12, "found", "(II)I"⟩
abbrev cX12_fall : ByteArray := prog_14_method_58_code
def yX12_fall : MethodName := ⟨RX12, "fall", "()I"⟩
abbrev cX12_night : ByteArray := prog_14_method_59_code
def yX12_night : MethodName := ⟨RX12, "night", "(I)I"⟩
abbrev cX12_binds : ByteArray := prog_14_method_60_code
def yX12_binds : MethodName := ⟨RX12, "binds", "(II)V"⟩
abbrev cX12_sorts : ByteArray := prog_14_method_61_code
def yX12_sorts : MethodName := ⟨RX12, "sorts", "()V"⟩
abbrev cX12_count : ByteArray := prog_14_method_62_code
def yX12_count : MethodName := ⟨RX12, "count", "(I)I"⟩
def RJ9 : String := "java/lang/Math"
def TJ9 : u_T := fun k => match k with
  | _ => ("", "", "", false)
def tyJ9 : Nat → FieldType := fun k => match k with
  | _ => .int
abbrev wsJ90 : List Cond := u_ws RJ9 TJ9 0
theorem nmJ9 : ∀ a, a < 0 → ∀ b, b < 0 → a ≠ b → (TJ9 a).2.1 ≠ (TJ9 b).2.1 := by decide +kernel
theorem tyJ9_ok : ∀ k, k < 0 → parseFieldDescriptor (TJ9 k).2.2.1 = some (tyJ9 k) := by decide +kernel
abbrev cJ9_abs_0f7a4 : ByteArray := prog_15_method_59_code
def yJ9_abs_0f7a4 : MethodName := ⟨RJ9, "abs", "(I)I"⟩
abbrev cJ9_max_7cf53 : ByteArray := prog_15_method_65_code
def yJ9_max_7cf53 : MethodName := ⟨RJ9, "max", "(II)I"⟩
abbrev cJ9_min_7cf53 : ByteArray := prog_15_method_69_code
def yJ9_min_7cf53 : MethodName := ⟨RJ9, "min", "(II)I"⟩
def RJ10 : String := "java/lang/System"
def TJ10 : u_T := fun k => match k with
  | _ => ("", "", "", false)
def tyJ10 : Nat → FieldType := fun k => match k with
  | _ => .int
abbrev wsJ100 : List Cond := u_ws RJ10 TJ10 0
theorem nmJ10 : ∀ a, a < 0 → ∀ b, b < 0 → a ≠ b → (TJ10 a).2.1 ≠ (TJ10 b).2.1 := by decide +kernel
theorem tyJ10_ok : ∀ k, k < 0 → parseFieldDescriptor (TJ10 k).2.2.1 = some (tyJ10 k) := by decide +kernel
def RJ7 : String := "java/util/Arrays"
def TJ7 : u_T := fun k => match k with
  | _ => ("", "", "", false)
def tyJ7 : Nat → FieldType := fun k => match k with
  | _ => .int
abbrev wsJ70 : List Cond := u_ws RJ7 TJ7 0
theorem nmJ7 : ∀ a, a < 0 → ∀ b, b < 0 → a ≠ b → (TJ7 a).2.1 ≠ (TJ7 b).2.1 := by decide +kernel
theorem tyJ7_ok : ∀ k, k < 0 → parseFieldDescriptor (TJ7 k).2.2.1 = some (tyJ7 k) := by decide +kernel
abbrev cJ7_fill_53178 : ByteArray := prog_17_method_103_code
def yJ7_fill_53178 : MethodName := ⟨RJ7, "fill", "([II)V"⟩
def RL : String := "DrawerRoomLaw"
abbrev cL_cell : ByteArray := method_2_code
def yL_cell : MethodName := ⟨RL, "cell", "([II)I"⟩
abbrev cL_law : ByteArray := code
def yL_law : MethodName := ⟨RL, "law", "([I)Z"⟩
abbrev vwCl : List vw_C := [(RX0, TX0, 2), (RX1, TX1, 4), (RX2, TX2, 5), (RX3, TX3, 2), (RX4, TX4, 7), (RX5, TX5, 5), (RX6, TX6, 4), (RX7, TX7, 9), (RX8, TX8, 9), (RX9, TX9, 2), (RX10, TX10, 3), (RX11, TX11, 10), (RX12, TX12, 59)]
end
section
/-- the words that stay, out of the tables -/
def dr_tbl : List Cond := lw_tbl.filter goodWord
theorem dr_in {w : Cond} {i : Nat} (h : lw_tbl[i]? = some w) (hg : goodWord w = true) : w ∈ dr_tbl := List.mem_filter.mpr ⟨List.mem_of_getElem? h, hg⟩
/-! the state as pure data: int arrays by id, int fields by id -/
abbrev dr_S : Type := (Nat → Nat → Int32) × (Nat → Int32)
def dr_put (s : dr_S) (id i : Nat) (x : Int32) : dr_S := (fun a => if a = id then upd (s.1 id) i x else s.1 a, s.2)
def dr_pf (s : dr_S) (f : Nat) (x : Int32) : dr_S := (s.1, fun g => if g = f then x else s.2 g)
def dr_set (s : dr_S) (id : Nat) (g : Nat → Int32) : dr_S := (fun a => if a = id then g else s.1 a, s.2)
def dr_rd (ln : Nat → Nat) (s : dr_S) (id : Nat) (i : Int32) : Option Int32 := if i < 0 ∨ ln id ≤ i.toNatClampNeg then none else some (s.1 id i.toNatClampNeg)
def dr_wr (ln : Nat → Nat) (s : dr_S) (id : Nat) (i x : Int32) : Option dr_S := if i < 0 ∨ ln id ≤ i.toNatClampNeg then none else some (dr_put s id i.toNatClampNeg x)
def dr_wz (ln : Nat → Nat) (s : dr_S) (id : Nat) (i x : Int32) : Option dr_S := if i < 0 ∨ ln id ≤ i.toNatClampNeg then none else some (dr_put s id i.toNatClampNeg (vp_nar .boolean x))
def dr_let (x : Int32) (K : Int32 → Option (Int32 × dr_S)) : Option (Int32 × dr_S) := K x
def dr_letS (s : dr_S) (K : dr_S → Option (Int32 × dr_S)) : Option (Int32 × dr_S) := K s
def dr_nz (y : Int32) (F : Option (Int32 × dr_S)) : Option (Int32 × dr_S) := if y = 0 then none else F
def dr_rz (v : Int32) (s : dr_S) : Option (Int32 × dr_S) := if v = 0 ∨ v = 1 then some (v, s) else none
def dr_cp (ln : Nat → Nat) (s : dr_S) (a0 a1 : Nat) (sp dp n : Int32) : Option dr_S := if sp < 0 ∨ dp < 0 ∨ n < 0 ∨ ln a0 < sp.toNatClampNeg + n.toNatClampNeg ∨ ln a1 < dp.toNatClampNeg + n.toNatClampNeg then none else some (dr_set s a1 (va_cpy (s.1 a0) (s.1 a1) sp.toNatClampNeg dp.toNatClampNeg n.toNatClampNeg))
def dr_sw (x : Int32) (lo hi : Int) (Fs : List (Option (Int32 × dr_S))) (Fd : Option (Int32 × dr_S)) : Option (Int32 × dr_S) := if x.toInt < lo ∨ hi < x.toInt then Fd else Fs.getD (x.toInt - lo).toNat none
def dr_rm (d : Nat) : Room := { frames := d, cells := 0, slots := 0, locals := 64 * d }
/-! the world -/
/-- the fields of the object of class c -/
def dr_fs (ad : Nat → Nat) (s : dr_S) : Nat → List Value := fun c => match c with
  | 0 => [.ref (ad 4), .ref (ad 1)]
  | 1 => [.ref (ad 4), .ref (ad 5), .ref (ad 13), .int (s.2 103)]
  | 2 => [.ref (ad 14), .ref (ad 15), .ref (ad 16), .int (s.2 203), .int (s.2 204)]
  | 3 => [.ref (ad 2), .int (s.2 301)]
  | 4 => [.ref (ad 2), .ref (ad 5), .int (s.2 402), .int (s.2 403), .int (s.2 404), .int (s.2 405), .int (s.2 406)]
  | 5 => [.ref (ad 17), .ref (ad 18), .ref (ad 19), .int (s.2 503), .int (s.2 504)]
  | 6 => [.ref (ad 2), .int (s.2 601), .int (s.2 602), .int (s.2 603)]
  | 7 => [.ref (ad 6), .ref (ad 20), .ref (ad 21), .ref (ad 22), .ref (ad 23), .ref (ad 24), .ref (ad 25), .ref (ad 26), .int (s.2 708)]
  | 8 => [.ref (ad 2), .ref (ad 3), .ref (ad 6), .ref (ad 10), .ref (ad 7), .ref (ad 9), .ref (ad 27), .int (s.2 807), .int (s.2 808)]
  | 9 => [.ref (ad 4), .ref (ad 5)]
  | 10 => [.ref (ad 4), .ref (ad 3), .ref (ad 6)]
  | 11 => [.ref (ad 5), .ref (ad 4), .ref (ad 3), .ref (ad 6), .ref (ad 10), .ref (ad 1), .ref (ad 7), .ref (ad 9), .ref (ad 8), .ref (ad 0)]
  | 12 => [.int (s.2 1200), .int (s.2 1201), .ref (ad 28), .ref (ad 29), .int (s.2 1204), .int (s.2 1205), .ref (ad 30), .ref (ad 31), .ref (ad 32), .ref (ad 33), .ref (ad 34), .ref (ad 35), .ref (ad 36), .ref (ad 37), .ref (ad 38), .ref (ad 39), .ref (ad 40), .ref (ad 41), .ref (ad 42), .ref (ad 43), .ref (ad 44), .ref (ad 45), .ref (ad 46), .ref (ad 47), .ref (ad 48), .ref (ad 49), .int (s.2 1226), .ref (ad 50), .ref (ad 51), .ref (ad 52), .ref (ad 53), .ref (ad 54), .ref (ad 55), .ref (ad 56), .int (s.2 1234), .ref (ad 57), .ref (ad 58), .ref (ad 59), .ref (ad 60), .ref (ad 61), .int (s.2 1240), .ref (ad 62), .int (s.2 1242), .ref (ad 63), .int (s.2 1244), .ref (ad 64), .ref (ad 65), .ref (ad 66), .ref (ad 67), .ref (ad 68), .ref (ad 69), .ref (ad 70), .ref (ad 71), .ref (ad 72), .ref (ad 73), .int (s.2 1255), .int (s.2 1256), .int (s.2 1257), .ref (ad 74)]
  | _ => []
def dr_z (id : Nat) : Bool := ([29, 30, 56, 59, 61, 64, 65] : List Nat).contains id
def dr_e (cI cZ : ClassId) (ad ln : Nat → Nat) (s : dr_S) (id : Nat) : va_E := if id < 13 then .inr (id, dr_fs ad s id) else .inl (if dr_z id = true then cZ else cI, ln id, .inl (s.1 id))
def dr_w (cI cZ : ClassId) (ad ln : Nat → Nat) (L : List Nat) (s : dr_S) : va_W := L.map (fun id => (ad id, dr_e cI cZ ad ln s id))
def dr_ap (ad : Nat → Nat) (L : List Nat) : Prop := L.Nodup ∧ ∀ i ∈ L, ∀ j ∈ L, ad i = ad j → i = j
def dr_A (ad : Nat → Nat) (L : List Nat) (sz : Nat) : Nat → Prop := fun q => (∃ id, id ∈ L ∧ q = ad id) ∨ sz ≤ q
abbrev dr_tys (cI cZ : ClassId) : List (ClassId × FieldType) := [(cI, .int), (cZ, .boolean)]
theorem dr_eI {cI cZ : ClassId} {ad ln : Nat → Nat} {s : dr_S} {id : Nat} (h : 13 ≤ id) (hz : dr_z id = false) : dr_e cI cZ ad ln s id = .inl (cI, ln id, .inl (s.1 id)) := by
  unfold dr_e
  rw [if_neg (by omega), hz]
  rfl
theorem dr_eZ {cI cZ : ClassId} {ad ln : Nat → Nat} {s : dr_S} {id : Nat} (h : 13 ≤ id) (hz : dr_z id = true) : dr_e cI cZ ad ln s id = .inl (cZ, ln id, .inl (s.1 id)) := by
  unfold dr_e
  rw [if_neg (by omega), hz]
  rfl
theorem dr_eO {cI cZ : ClassId} {ad ln : Nat → Nat} {s : dr_S} {id : Nat} (h : id < 13) : dr_e cI cZ ad ln s id = .inr (id, dr_fs ad s id) := by
  unfold dr_e
  rw [if_pos h]
theorem dr_wget {cI cZ : ClassId} {ad ln : Nat → Nat} {L : List Nat} {s : dr_S} {q id : Nat} (h : L[q]? = some id) : (dr_w cI cZ ad ln L s)[q]? = some (ad id, dr_e cI cZ ad ln s id) := by
  unfold dr_w
  rw [List.getElem?_map, h]
  rfl
theorem dr_wset {cI cZ : ClassId} {ad ln : Nat → Nat} {L : List Nat} {s s' : dr_S} {q id : Nat} (hn : L.Nodup) (h : L[q]? = some id) (hs : ∀ j, j ∈ L → j ≠ id → dr_e cI cZ ad ln s j = dr_e cI cZ ad ln s' j) : (dr_w cI cZ ad ln L s).set q (ad id, dr_e cI cZ ad ln s' id) = dr_w cI cZ ad ln L s' := by
  apply List.ext_getElem?
  intro k
  have hq : q < L.length := (List.getElem?_eq_some_iff.mp h).1
  rw [List.getElem?_set]
  by_cases hk : q = k
  · subst hk
    rw [if_pos rfl, if_pos (by unfold dr_w; rw [List.length_map]; exact hq), dr_wget h]
  · rw [if_neg hk]
    unfold dr_w
    rw [List.getElem?_map, List.getElem?_map]
    cases hL : L[k]? with
    | none => rfl
    | some j =>
      have hne : j ≠ id := by
        intro e
        subst e
        have hk2 : k < L.length := (List.getElem?_eq_some_iff.mp hL).1
        have e1 := (List.getElem?_eq_some_iff.mp hL).2
        have e2 := (List.getElem?_eq_some_iff.mp h).2
        exact hk ((List.getElem_inj hn).mp (e2.trans e1.symm))
      show some (ad j, dr_e cI cZ ad ln s j) = some (ad j, dr_e cI cZ ad ln s' j)
      rw [hs j (List.mem_of_getElem? hL) hne]
theorem dr_wD {cI cZ : ClassId} {ad ln : Nat → Nat} {L : List Nat} {A : Nat → Prop} (s : dr_S) (h : dr_ap ad L) (hA : ∀ id, id ∈ L → A (ad id)) : va_D A (dr_w cI cZ ad ln L s) := by
  refine ⟨fun i j p q hp hq e => ?_, fun k q hk => ?_⟩
  · unfold dr_w at hp hq
    rw [List.getElem?_map] at hp hq
    cases hi : L[i]? with
    | none => rw [hi] at hp; cases hp
    | some x =>
      cases hj : L[j]? with
      | none => rw [hj] at hq; cases hq
      | some y =>
        rw [hi] at hp
        rw [hj] at hq
        cases hp
        cases hq
        have hxy := h.2 x (List.mem_of_getElem? hi) y (List.mem_of_getElem? hj) e
        subst hxy
        have e1 := (List.getElem?_eq_some_iff.mp hi).2
        have e2 := (List.getElem?_eq_some_iff.mp hj).2
        exact (List.getElem_inj h.1).mp (e1.trans e2.symm)
  · unfold dr_w at hk
    rw [List.getElem?_map] at hk
    cases hi : L[k]? with
    | none => rw [hi] at hk; cases hk
    | some x =>
      rw [hi] at hk
      cases hk
      exact hA x (List.mem_of_getElem? hi)
theorem dr_put_e {cI cZ : ClassId} {ad ln : Nat → Nat} {s : dr_S} {id i : Nat} {x : Int32} : ∀ j, j ≠ id → dr_e cI cZ ad ln s j = dr_e cI cZ ad ln (dr_put s id i x) j := by
  intro j hj
  unfold dr_e
  by_cases h : j < 13
  · rw [if_pos h, if_pos h]
    rfl
  · rw [if_neg h, if_neg h]
    simp only [dr_put, if_neg hj]
theorem dr_set_e {cI cZ : ClassId} {ad ln : Nat → Nat} {s : dr_S} {id : Nat} {g : Nat → Int32} : ∀ j, j ≠ id → dr_e cI cZ ad ln s j = dr_e cI cZ ad ln (dr_set s id g) j := by
  intro j hj
  unfold dr_e
  by_cases h : j < 13
  · rw [if_pos h, if_pos h]
    rfl
  · rw [if_neg h, if_neg h]
    simp only [dr_set, if_neg hj]
/-! the environment of an activation, and the judgement -/
def dr_E (p : Program) (R : Room) (s0 : State) (m : MethodId) (args : Array Value) (meth : Method) (c : Code) (cells slots : Nat) (A : Nat → Prop) (H0 : Heap) (D : va_G) (cI cZ : ClassId) (ad : Nat → Nat) (L : List Nat) (cc : ByteArray) (nL : Nat) (own : String) (ret : Option FieldType) : Prop :=
  p.tables.exec = Jvm.exec ∧ c.code = cc ∧ c.maxLocals = nL ∧ meth.sig.returnType = ret ∧ meth.locks = false ∧ s0.vm.findClass own = some m.cls ∧ (∀ w ∈ dr_tbl, w.before args s0 = true) ∧ va_K D vwCl (dr_tys cI cZ) s0 ∧ dr_ap ad L ∧ (∀ id, id ∈ L → A (ad id)) ∧ (∀ q, H0.size ≤ q → A q) ∧ cells ≤ R.cells ∧ slots ≤ R.slots
def dr_G (p : Program) (l : Launch) (e : Env) (R : Room) (s0 : State) (m : MethodId) (args : Array Value) (below : List Frame) (meth : Method) (c : Code) (cells slots : Nat) (A : Nat → Prop) (H0 : Heap) (D : va_G) (cI cZ : ClassId) (ad ln : Nat → Nat) (L : List Nat) (nL : Nat) (Z : Int32 → dr_S → State → Prop) (pc : Nat) (lv : List (Nat × Value)) (st : List Value) (s : dr_S) (F : Option (Int32 × dr_S)) : Prop :=
  ∀ (r : Int32) (s' : dr_S), F = some (r, s') → ∀ (H : Heap) (locs : List Loc) (ls : Array Slot), va_P D vwCl (dr_w cI cZ ad ln L s) H → va_S A H0 H locs → lv_has ls nL lv → W p l e R s0 m args below meth c H locs cells slots (Z r s') (F0 m pc ls st)
def dr_Zi (D : va_G) (cI cZ : ClassId) (ad ln : Nat → Nat) (L : List Nat) (A : Nat → Prop) (below : List Frame) (args : Array Value) (s0 : State) (cells slots : Nat) (r : Int32) (s' : dr_S) : State → Prop := MQ below (va_Qi (fun (r2 : Int32) (u : dr_S) => r2 = r ∧ u = s') (fun u t => va_P D vwCl (dr_w cI cZ ad ln L u) t.heap) A) args s0 cells slots A
def dr_Zv (D : va_G) (cI cZ : ClassId) (ad ln : Nat → Nat) (L : List Nat) (A : Nat → Prop) (below : List Frame) (args : Array Value) (s0 : State) (cells slots : Nat) (_ : Int32) (s' : dr_S) : State → Prop := MQ below (va_Qv (fun (u : dr_S) => u = s') (fun u t => va_P D vwCl (dr_w cI cZ ad ln L u) t.heap) A) args s0 cells slots A
/-- a method's contract: it answers as the function F does; dr_Mi of an int or a boolean, dr_Mv of none -/
def dr_Pc (D : va_G) (cI cZ : ClassId) (ad ln : Nat → Nat) (L : List Nat) (av : List Value) (s : dr_S) (sz : Nat) : Array Value → State → Prop := va_Pc av (fun U => U.heap.size = sz ∧ va_P D vwCl (dr_w cI cZ ad ln L s) U.heap ∧ va_K D vwCl (dr_tys cI cZ) U)
def dr_Mi (l : Launch) (D : va_G) (cI cZ : ClassId) (ad ln : Nat → Nat) (L : List Nat) (y : MethodName) (cc : ByteArray) (nL : Nat) (ret : Option FieldType) (d : Nat) (av : List Value) (s : dr_S) (F : Option (Int32 × dr_S)) : Prop :=
  ∀ (r : Int32) (s' : dr_S), F = some (r, s') → ∀ sz : Nat, Met l y (.code y cc nL ret :: dr_tbl) (dr_rm d) (dr_Pc D cI cZ ad ln L av s sz) (va_Qi (fun (r2 : Int32) (u : dr_S) => r2 = r ∧ u = s') (fun u t => va_P D vwCl (dr_w cI cZ ad ln L u) t.heap) (dr_A ad L sz)) 0 0 (dr_A ad L sz)
def dr_Mv (l : Launch) (D : va_G) (cI cZ : ClassId) (ad ln : Nat → Nat) (L : List Nat) (y : MethodName) (cc : ByteArray) (nL : Nat) (d : Nat) (av : List Value) (s : dr_S) (F : Option (Int32 × dr_S)) : Prop :=
  ∀ (r : Int32) (s' : dr_S), F = some (r, s') → ∀ sz : Nat, Met l y (.code y cc nL none :: dr_tbl) (dr_rm d) (dr_Pc D cI cZ ad ln L av s sz) (va_Qv (fun (u : dr_S) => u = s') (fun u t => va_P D vwCl (dr_w cI cZ ad ln L u) t.heap) (dr_A ad L sz)) 0 0 (dr_A ad L sz)
end
section
section DR
variable {p : Program} {l : Launch} {e : Env} {R : Room} {s0 : State} {m : MethodId} {args : Array Value} {below : List Frame} {meth : Method} {c : Code} {cells slots : Nat} {A : Nat → Prop} {H0 : Heap} {D : va_G} {cI cZ : ClassId} {ad ln : Nat → Nat} {L : List Nat} {cc : ByteArray} {nL : Nat} {own : String} {ret : Option FieldType} {Z : Int32 → dr_S → State → Prop}
variable {pc : Nat} {lv : List (Nat × Value)} {st : List Value} {s : dr_S} {F F1 F2 : Option (Int32 × dr_S)}

theorem g_iconst (E : dr_E p R s0 m args meth c cells slots A H0 D cI cZ ad L cc nL own ret) {n : Int} {v : Int32} (hdg : decode cc pc = .ok (.iconst n, 1)) (hv : Int32.ofInt n = v) (kk : dr_G p l e R s0 m args below meth c cells slots A H0 D cI cZ ad ln L nL Z (pc + 1) lv (.int v :: st) s F) : dr_G p l e R s0 m args below meth c cells slots A H0 D cI cZ ad ln L nL Z pc lv st s F := fun r s' hF H locs ls hP hS hl => lv_iconst E.1 E.2.1 hdg hv (kk r s' hF H locs ls hP hS hl)
theorem g_bipush (E : dr_E p R s0 m args meth c cells slots A H0 D cI cZ ad L cc nL own ret) {n : Int} {v : Int32} (hdg : decode cc pc = .ok (.bipush n, 2)) (hv : (Int8.ofInt n).toInt32 = v) (kk : dr_G p l e R s0 m args below meth c cells slots A H0 D cI cZ ad ln L nL Z (pc + 2) lv (.int v :: st) s F) : dr_G p l e R s0 m args below meth c cells slots A H0 D cI cZ ad ln L nL Z pc lv st s F := fun r s' hF H locs ls hP hS hl => lv_bipush E.1 E.2.1 hdg hv (kk r s' hF H locs ls hP hS hl)
theorem g_sipush (E : dr_E p R s0 m args meth c cells slots A H0 D cI cZ ad L cc nL own ret) {n : Int} {v : Int32} (hdg : decode cc pc = .ok (.sipush n, 3)) (hv : (Int16.ofInt n).toInt32 = v) (kk : dr_G p l e R s0 m args below meth c cells slots A H0 D cI cZ ad ln L nL Z (pc + 3) lv (.int v :: st) s F) : dr_G p l e R s0 m args below meth c cells slots A H0 D cI cZ ad ln L nL Z pc lv st s F := fun r s' hF H locs ls hP hS hl => lv_sipush E.1 E.2.1 hdg hv (kk r s' hF H locs ls hP hS hl)
theorem g_iload_n (E : dr_E p R s0 m args meth c cells slots A H0 D cI cZ ad L cc nL own ret) {k : Fin 4} {x : Int32} (hdg : decode cc pc = .ok (.iload_n k, 1)) (q : Nat) (hq : lv[q]? = some ((k : Nat), .int x)) (kk : dr_G p l e R s0 m args below meth c cells slots A H0 D cI cZ ad ln L nL Z (pc + 1) lv (.int x :: st) s F) : dr_G p l e R s0 m args below meth c cells slots A H0 D cI cZ ad ln L nL Z pc lv st s F := fun r s' hF H locs ls hP hS hl => lv_iload_n E.1 E.2.1 hdg rfl (lv_at hl q hq) (kk r s' hF H locs ls hP hS hl)
theorem g_iload (E : dr_E p R s0 m args meth c cells slots A H0 D cI cZ ad L cc nL own ret) {i : Nat} {x : Int32} (hdg : decode cc pc = .ok (.iload i, 2)) (q : Nat) (hq : lv[q]? = some (i, .int x)) (kk : dr_G p l e R s0 m args below meth c cells slots A H0 D cI cZ ad ln L nL Z (pc + 2) lv (.int x :: st) s F) : dr_G p l e R s0 m args below meth c cells slots A H0 D cI cZ ad ln L nL Z pc lv st s F := fun r s' hF H locs ls hP hS hl => lv_iload E.1 E.2.1 hdg (lv_at hl q hq) (kk r s' hF H locs ls hP hS hl)
theorem g_aload_n (E : dr_E p R s0 m args meth c cells slots A H0 D cI cZ ad L cc nL own ret) {k : Fin 4} {x : Nat} (hdg : decode cc pc = .ok (.aload_n k, 1)) (q : Nat) (hq : lv[q]? = some ((k : Nat), .ref x)) (kk : dr_G p l e R s0 m args below meth c cells slots A H0 D cI cZ ad ln L nL Z (pc + 1) lv (.ref x :: st) s F) : dr_G p l e R s0 m args below meth c cells slots A H0 D cI cZ ad ln L nL Z pc lv st s F := fun r s' hF H locs ls hP hS hl => lv_aload_n E.1 E.2.1 hdg rfl (lv_at hl q hq) (kk r s' hF H locs ls hP hS hl)
theorem g_istore_n (E : dr_E p R s0 m args meth c cells slots A H0 D cI cZ ad L cc nL own ret) {k : Fin 4} {x : Int32} {lv' : List (Nat × Value)} (hdg : decode cc pc = .ok (.istore_n k, 1)) (hn : (k : Nat) < nL) (hl' : ((k : Nat), Value.int x) :: lv.filter (fun q => !(q.1 == (k : Nat)) && !(q.1 + 1 == (k : Nat) && q.2.category == 2)) = lv') (kk : dr_G p l e R s0 m args below meth c cells slots A H0 D cI cZ ad ln L nL Z (pc + 1) lv' st s F) : dr_G p l e R s0 m args below meth c cells slots A H0 D cI cZ ad ln L nL Z pc lv (.int x :: st) s F := fun r s' hF H locs ls hP hS hl => lv_istore_n E.1 E.2.1 hdg rfl hl hn hl' (fun ls' h' => kk r s' hF H locs ls' hP hS h')
theorem g_istore (E : dr_E p R s0 m args meth c cells slots A H0 D cI cZ ad L cc nL own ret) {i : Nat} {x : Int32} {lv' : List (Nat × Value)} (hdg : decode cc pc = .ok (.istore i, 2)) (hn : i < nL) (hl' : (i, Value.int x) :: lv.filter (fun q => !(q.1 == i) && !(q.1 + 1 == i && q.2.category == 2)) = lv') (kk : dr_G p l e R s0 m args below meth c cells slots A H0 D cI cZ ad ln L nL Z (pc + 2) lv' st s F) : dr_G p l e R s0 m args below meth c cells slots A H0 D cI cZ ad ln L nL Z pc lv (.int x :: st) s F := fun r s' hF H locs ls hP hS hl => lv_istore E.1 E.2.1 hdg hl hn hl' (fun ls' h' => kk r s' hF H locs ls' hP hS h')
theorem g_iinc {lv'' : Int32 → List (Nat × Value)} (E : dr_E p R s0 m args meth c cells slots A H0 D cI cZ ad L cc nL own ret) {i : Nat} {n : Int} {x v : Int32} {lv' : List (Nat × Value)} (hdg : decode cc pc = .ok (.iinc i n, 3)) (k : Nat) (hk : lv[k]? = some (i, .int x)) (hv : Int32.ofInt n = v) (hn : i < nL) {Kx : Int32 → Option (Int32 × dr_S)} (hl' : ∀ y : Int32, (i, Value.int y) :: lv.filter (fun q => !(q.1 == i) && !(q.1 + 1 == i && q.2.category == 2)) = lv'' y) (kk : ∀ y : Int32, dr_G p l e R s0 m args below meth c cells slots A H0 D cI cZ ad ln L nL Z (pc + 3) (lv'' y) st s (Kx y)) : dr_G p l e R s0 m args below meth c cells slots A H0 D cI cZ ad ln L nL Z pc lv st s (dr_let (x + v) Kx) := fun r s' hF H locs ls hP hS hl => lv_iinc E.1 E.2.1 hdg hl hk rfl hn (hl' (x + Int32.ofInt n)) (fun ls' h' => kk _ r s' (by rw [hv]; exact hF) H locs ls' hP hS h')
theorem g_iadd (E : dr_E p R s0 m args meth c cells slots A H0 D cI cZ ad L cc nL own ret) {x y : Int32} (hdg : decode cc pc = .ok (.iadd, 1)) (kk : dr_G p l e R s0 m args below meth c cells slots A H0 D cI cZ ad ln L nL Z (pc + 1) lv (.int (x + y) :: st) s F) : dr_G p l e R s0 m args below meth c cells slots A H0 D cI cZ ad ln L nL Z pc lv (.int y :: .int x :: st) s F := fun r s' hF H locs ls hP hS hl => lv_iadd E.1 E.2.1 hdg (kk r s' hF H locs ls hP hS hl)
theorem g_isub (E : dr_E p R s0 m args meth c cells slots A H0 D cI cZ ad L cc nL own ret) {x y : Int32} (hdg : decode cc pc = .ok (.isub, 1)) (kk : dr_G p l e R s0 m args below meth c cells slots A H0 D cI cZ ad ln L nL Z (pc + 1) lv (.int (x - y) :: st) s F) : dr_G p l e R s0 m args below meth c cells slots A H0 D cI cZ ad ln L nL Z pc lv (.int y :: .int x :: st) s F := fun r s' hF H locs ls hP hS hl => lv_isub E.1 E.2.1 hdg (kk r s' hF H locs ls hP hS hl)
theorem g_imul (E : dr_E p R s0 m args meth c cells slots A H0 D cI cZ ad L cc nL own ret) {x y : Int32} (hdg : decode cc pc = .ok (.imul, 1)) (kk : dr_G p l e R s0 m args below meth c cells slots A H0 D cI cZ ad ln L nL Z (pc + 1) lv (.int (x * y) :: st) s F) : dr_G p l e R s0 m args below meth c cells slots A H0 D cI cZ ad ln L nL Z pc lv (.int y :: .int x :: st) s F := fun r s' hF H locs ls hP hS hl => lv_imul E.1 E.2.1 hdg (kk r s' hF H locs ls hP hS hl)
theorem g_iand (E : dr_E p R s0 m args meth c cells slots A H0 D cI cZ ad L cc nL own ret) {x y : Int32} (hdg : decode cc pc = .ok (.iand, 1)) (kk : dr_G p l e R s0 m args below meth c cells slots A H0 D cI cZ ad ln L nL Z (pc + 1) lv (.int (x &&& y) :: st) s F) : dr_G p l e R s0 m args below meth c cells slots A H0 D cI cZ ad ln L nL Z pc lv (.int y :: .int x :: st) s F := fun r s' hF H locs ls hP hS hl => lv_iand E.1 E.2.1 hdg (kk r s' hF H locs ls hP hS hl)
theorem g_ior (E : dr_E p R s0 m args meth c cells slots A H0 D cI cZ ad L cc nL own ret) {x y : Int32} (hdg : decode cc pc = .ok (.ior, 1)) (kk : dr_G p l e R s0 m args below meth c cells slots A H0 D cI cZ ad ln L nL Z (pc + 1) lv (.int (x ||| y) :: st) s F) : dr_G p l e R s0 m args below meth c cells slots A H0 D cI cZ ad ln L nL Z pc lv (.int y :: .int x :: st) s F := fun r s' hF H locs ls hP hS hl => lv_ior E.1 E.2.1 hdg (kk r s' hF H locs ls hP hS hl)
theorem g_ishl (E : dr_E p R s0 m args meth c cells slots A H0 D cI cZ ad L cc nL own ret) {x y : Int32} (hdg : decode cc pc = .ok (.ishl, 1)) (kk : dr_G p l e R s0 m args below meth c cells slots A H0 D cI cZ ad ln L nL Z (pc + 1) lv (.int (x <<< (y &&& 31)) :: st) s F) : dr_G p l e R s0 m args below meth c cells slots A H0 D cI cZ ad ln L nL Z pc lv (.int y :: .int x :: st) s F := fun r s' hF H locs ls hP hS hl => lv_ishl E.1 E.2.1 hdg (kk r s' hF H locs ls hP hS hl)
theorem g_ishr (E : dr_E p R s0 m args meth c cells slots A H0 D cI cZ ad L cc nL own ret) {x y : Int32} (hdg : decode cc pc = .ok (.ishr, 1)) (kk : dr_G p l e R s0 m args below meth c cells slots A H0 D cI cZ ad ln L nL Z (pc + 1) lv (.int (x >>> (y &&& 31)) :: st) s F) : dr_G p l e R s0 m args below meth c cells slots A H0 D cI cZ ad ln L nL Z pc lv (.int y :: .int x :: st) s F := fun r s' hF H locs ls hP hS hl => lv_ishr E.1 E.2.1 hdg (kk r s' hF H locs ls hP hS hl)
theorem g_iushr (E : dr_E p R s0 m args meth c cells slots A H0 D cI cZ ad L cc nL own ret) {x y : Int32} (hdg : decode cc pc = .ok (.iushr, 1)) (kk : dr_G p l e R s0 m args below meth c cells slots A H0 D cI cZ ad ln L nL Z (pc + 1) lv (.int ((x.toUInt32 >>> (y.toUInt32 &&& Int32.toUInt32 31)).toInt32) :: st) s F) : dr_G p l e R s0 m args below meth c cells slots A H0 D cI cZ ad ln L nL Z pc lv (.int y :: .int x :: st) s F := fun r s' hF H locs ls hP hS hl => lv_iushr E.1 E.2.1 hdg rfl (kk r s' hF H locs ls hP hS hl)
theorem g_ineg (E : dr_E p R s0 m args meth c cells slots A H0 D cI cZ ad L cc nL own ret) {x : Int32} (hdg : decode cc pc = .ok (.ineg, 1)) (kk : dr_G p l e R s0 m args below meth c cells slots A H0 D cI cZ ad ln L nL Z (pc + 1) lv (.int (-x) :: st) s F) : dr_G p l e R s0 m args below meth c cells slots A H0 D cI cZ ad ln L nL Z pc lv (.int x :: st) s F := fun r s' hF H locs ls hP hS hl => lv_ineg E.1 E.2.1 hdg (kk r s' hF H locs ls hP hS hl)
theorem g_idiv (E : dr_E p R s0 m args meth c cells slots A H0 D cI cZ ad L cc nL own ret) {x y : Int32} (hdg : decode cc pc = .ok (.idiv, 1)) (hne : ¬ y = 0) (kk : dr_G p l e R s0 m args below meth c cells slots A H0 D cI cZ ad ln L nL Z (pc + 1) lv (.int (x / y) :: st) s F) : dr_G p l e R s0 m args below meth c cells slots A H0 D cI cZ ad ln L nL Z pc lv (.int y :: .int x :: st) s F := fun r s' hF H locs ls hP hS hl => lv_idiv E.1 E.2.1 hdg hne (kk r s' hF H locs ls hP hS hl)
theorem g_idivN (E : dr_E p R s0 m args meth c cells slots A H0 D cI cZ ad L cc nL own ret) {x y : Int32} (hdg : decode cc pc = .ok (.idiv, 1)) (kk : dr_G p l e R s0 m args below meth c cells slots A H0 D cI cZ ad ln L nL Z (pc + 1) lv (.int (x / y) :: st) s F) : dr_G p l e R s0 m args below meth c cells slots A H0 D cI cZ ad ln L nL Z pc lv (.int y :: .int x :: st) s (dr_nz y F) := by
  intro r s' hF H locs ls hP hS hl
  unfold dr_nz at hF
  split at hF
  · cases hF
  · next h => exact lv_idiv E.1 E.2.1 hdg h (kk r s' hF H locs ls hP hS hl)
theorem g_irem (E : dr_E p R s0 m args meth c cells slots A H0 D cI cZ ad L cc nL own ret) {x y : Int32} (hdg : decode cc pc = .ok (.irem, 1)) (hne : ¬ y = 0) (kk : dr_G p l e R s0 m args below meth c cells slots A H0 D cI cZ ad ln L nL Z (pc + 1) lv (.int (x - x / y * y) :: st) s F) : dr_G p l e R s0 m args below meth c cells slots A H0 D cI cZ ad ln L nL Z pc lv (.int y :: .int x :: st) s F := fun r s' hF H locs ls hP hS hl => lv_irem E.1 E.2.1 hdg hne (kk r s' hF H locs ls hP hS hl)
theorem g_iremN (E : dr_E p R s0 m args meth c cells slots A H0 D cI cZ ad L cc nL own ret) {x y : Int32} (hdg : decode cc pc = .ok (.irem, 1)) (kk : dr_G p l e R s0 m args below meth c cells slots A H0 D cI cZ ad ln L nL Z (pc + 1) lv (.int (x - x / y * y) :: st) s F) : dr_G p l e R s0 m args below meth c cells slots A H0 D cI cZ ad ln L nL Z pc lv (.int y :: .int x :: st) s (dr_nz y F) := by
  intro r s' hF H locs ls hP hS hl
  unfold dr_nz at hF
  split at hF
  · cases hF
  · next h => exact lv_irem E.1 E.2.1 hdg h (kk r s' hF H locs ls hP hS hl)
theorem g_dup (E : dr_E p R s0 m args meth c cells slots A H0 D cI cZ ad L cc nL own ret) {va : Value} (hdg : decode cc pc = .ok (.dup, 1)) (hva : va.category = 1) (kk : dr_G p l e R s0 m args below meth c cells slots A H0 D cI cZ ad ln L nL Z (pc + 1) lv (va :: va :: st) s F) : dr_G p l e R s0 m args below meth c cells slots A H0 D cI cZ ad ln L nL Z pc lv (va :: st) s F := fun r s' hF H locs ls hP hS hl => lv_dup E.1 E.2.1 hdg hva (kk r s' hF H locs ls hP hS hl)
theorem g_dup2 (E : dr_E p R s0 m args meth c cells slots A H0 D cI cZ ad L cc nL own ret) {va vb : Value} (hdg : decode cc pc = .ok (.dup2, 1)) (hva : va.category = 1) (hvb : vb.category = 1) (kk : dr_G p l e R s0 m args below meth c cells slots A H0 D cI cZ ad ln L nL Z (pc + 1) lv (va :: vb :: va :: vb :: st) s F) : dr_G p l e R s0 m args below meth c cells slots A H0 D cI cZ ad ln L nL Z pc lv (va :: vb :: st) s F := fun r s' hF H locs ls hP hS hl => lv_dup2_11 E.1 E.2.1 hdg hva hvb (kk r s' hF H locs ls hP hS hl)
theorem g_goto (E : dr_E p R s0 m args meth c cells slots A H0 D cI cZ ad L cc nL own ret) {off : Int} (tgt : Nat) (hdg : decode cc pc = .ok (.goto off, 3)) (ht : (pc : Int) + off = (tgt : Int)) (kk : dr_G p l e R s0 m args below meth c cells slots A H0 D cI cZ ad ln L nL Z tgt lv st s F) : dr_G p l e R s0 m args below meth c cells slots A H0 D cI cZ ad ln L nL Z pc lv st s F := fun r s' hF H locs ls hP hS hl => lv_goto E.1 E.2.1 hdg ht (kk r s' hF H locs ls hP hS hl)
theorem g_icmp_eq (E : dr_E p R s0 m args meth c cells slots A H0 D cI cZ ad L cc nL own ret) {x y : Int32} {off : Int} (tgt : Nat) (hdg : decode cc pc = .ok (.if_icmp .eq off, 3)) (ht : (pc : Int) + off = (tgt : Int)) (kt : dr_G p l e R s0 m args below meth c cells slots A H0 D cI cZ ad ln L nL Z tgt lv st s F1) (kf : dr_G p l e R s0 m args below meth c cells slots A H0 D cI cZ ad ln L nL Z (pc + 3) lv st s F2) : dr_G p l e R s0 m args below meth c cells slots A H0 D cI cZ ad ln L nL Z pc lv (.int y :: .int x :: st) s (if x = y then F1 else F2) := fun r s' hF H locs ls hP hS hl => lv_icmp_eq E.1 E.2.1 hdg ht (fun h => kt r s' (by rw [if_pos h] at hF; exact hF) H locs ls hP hS hl) (fun h => kf r s' (by rw [if_neg h] at hF; exact hF) H locs ls hP hS hl)
theorem g_if_eq (E : dr_E p R s0 m args meth c cells slots A H0 D cI cZ ad L cc nL own ret) {x : Int32} {off : Int} (tgt : Nat) (hdg : decode cc pc = .ok (.ifCond .eq off, 3)) (ht : (pc : Int) + off = (tgt : Int)) (kt : dr_G p l e R s0 m args below meth c cells slots A H0 D cI cZ ad ln L nL Z tgt lv st s F1) (kf : dr_G p l e R s0 m args below meth c cells slots A H0 D cI cZ ad ln L nL Z (pc + 3) lv st s F2) : dr_G p l e R s0 m args below meth c cells slots A H0 D cI cZ ad ln L nL Z pc lv (.int x :: st) s (if x = 0 then F1 else F2) := fun r s' hF H locs ls hP hS hl => lv_if_eq E.1 E.2.1 hdg ht (fun h => kt r s' (by rw [if_pos h] at hF; exact hF) H locs ls hP hS hl) (fun h => kf r s' (by rw [if_neg h] at hF; exact hF) H locs ls hP hS hl)
theorem g_icmp_lt (E : dr_E p R s0 m args meth c cells slots A H0 D cI cZ ad L cc nL own ret) {x y : Int32} {off : Int} (tgt : Nat) (hdg : decode cc pc = .ok (.if_icmp .lt off, 3)) (ht : (pc : Int) + off = (tgt : Int)) (kt : dr_G p l e R s0 m args below meth c cells slots A H0 D cI cZ ad ln L nL Z tgt lv st s F1) (kf : dr_G p l e R s0 m args below meth c cells slots A H0 D cI cZ ad ln L nL Z (pc + 3) lv st s F2) : dr_G p l e R s0 m args below meth c cells slots A H0 D cI cZ ad ln L nL Z pc lv (.int y :: .int x :: st) s (if x < y then F1 else F2) := fun r s' hF H locs ls hP hS hl => lv_icmp_lt E.1 E.2.1 hdg ht (fun h => kt r s' (by rw [if_pos h] at hF; exact hF) H locs ls hP hS hl) (fun h => kf r s' (by rw [if_neg h] at hF; exact hF) H locs ls hP hS hl)
theorem g_if_lt (E : dr_E p R s0 m args meth c cells slots A H0 D cI cZ ad L cc nL own ret) {x : Int32} {off : Int} (tgt : Nat) (hdg : decode cc pc = .ok (.ifCond .lt off, 3)) (ht : (pc : Int) + off = (tgt : Int)) (kt : dr_G p l e R s0 m args below meth c cells slots A H0 D cI cZ ad ln L nL Z tgt lv st s F1) (kf : dr_G p l e R s0 m args below meth c cells slots A H0 D cI cZ ad ln L nL Z (pc + 3) lv st s F2) : dr_G p l e R s0 m args below meth c cells slots A H0 D cI cZ ad ln L nL Z pc lv (.int x :: st) s (if x < 0 then F1 else F2) := fun r s' hF H locs ls hP hS hl => lv_if_lt E.1 E.2.1 hdg ht (fun h => kt r s' (by rw [if_pos h] at hF; exact hF) H locs ls hP hS hl) (fun h => kf r s' (by rw [if_neg h] at hF; exact hF) H locs ls hP hS hl)
theorem g_icmp_ge (E : dr_E p R s0 m args meth c cells slots A H0 D cI cZ ad L cc nL own ret) {x y : Int32} {off : Int} (tgt : Nat) (hdg : decode cc pc = .ok (.if_icmp .ge off, 3)) (ht : (pc : Int) + off = (tgt : Int)) (kt : dr_G p l e R s0 m args below meth c cells slots A H0 D cI cZ ad ln L nL Z tgt lv st s F1) (kf : dr_G p l e R s0 m args below meth c cells slots A H0 D cI cZ ad ln L nL Z (pc + 3) lv st s F2) : dr_G p l e R s0 m args below meth c cells slots A H0 D cI cZ ad ln L nL Z pc lv (.int y :: .int x :: st) s (if y ≤ x then F1 else F2) := fun r s' hF H locs ls hP hS hl => lv_icmp_ge E.1 E.2.1 hdg ht (fun h => kt r s' (by rw [if_pos h] at hF; exact hF) H locs ls hP hS hl) (fun h => kf r s' (by rw [if_neg h] at hF; exact hF) H locs ls hP hS hl)
theorem g_if_ge (E : dr_E p R s0 m args meth c cells slots A H0 D cI cZ ad L cc nL own ret) {x : Int32} {off : Int} (tgt : Nat) (hdg : decode cc pc = .ok (.ifCond .ge off, 3)) (ht : (pc : Int) + off = (tgt : Int)) (kt : dr_G p l e R s0 m args below meth c cells slots A H0 D cI cZ ad ln L nL Z tgt lv st s F1) (kf : dr_G p l e R s0 m args below meth c cells slots A H0 D cI cZ ad ln L nL Z (pc + 3) lv st s F2) : dr_G p l e R s0 m args below meth c cells slots A H0 D cI cZ ad ln L nL Z pc lv (.int x :: st) s (if 0 ≤ x then F1 else F2) := fun r s' hF H locs ls hP hS hl => lv_if_ge E.1 E.2.1 hdg ht (fun h => kt r s' (by rw [if_pos h] at hF; exact hF) H locs ls hP hS hl) (fun h => kf r s' (by rw [if_neg h] at hF; exact hF) H locs ls hP hS hl)
theorem g_icmp_gt (E : dr_E p R s0 m args meth c cells slots A H0 D cI cZ ad L cc nL own ret) {x y : Int32} {off : Int} (tgt : Nat) (hdg : decode cc pc = .ok (.if_icmp .gt off, 3)) (ht : (pc : Int) + off = (tgt : Int)) (kt : dr_G p l e R s0 m args below meth c cells slots A H0 D cI cZ ad ln L nL Z tgt lv st s F1) (kf : dr_G p l e R s0 m args below meth c cells slots A H0 D cI cZ ad ln L nL Z (pc + 3) lv st s F2) : dr_G p l e R s0 m args below meth c cells slots A H0 D cI cZ ad ln L nL Z pc lv (.int y :: .int x :: st) s (if y < x then F1 else F2) := fun r s' hF H locs ls hP hS hl => lv_icmp_gt E.1 E.2.1 hdg ht (fun h => kt r s' (by rw [if_pos h] at hF; exact hF) H locs ls hP hS hl) (fun h => kf r s' (by rw [if_neg h] at hF; exact hF) H locs ls hP hS hl)
theorem g_if_gt (E : dr_E p R s0 m args meth c cells slots A H0 D cI cZ ad L cc nL own ret) {x : Int32} {off : Int} (tgt : Nat) (hdg : decode cc pc = .ok (.ifCond .gt off, 3)) (ht : (pc : Int) + off = (tgt : Int)) (kt : dr_G p l e R s0 m args below meth c cells slots A H0 D cI cZ ad ln L nL Z tgt lv st s F1) (kf : dr_G p l e R s0 m args below meth c cells slots A H0 D cI cZ ad ln L nL Z (pc + 3) lv st s F2) : dr_G p l e R s0 m args below meth c cells slots A H0 D cI cZ ad ln L nL Z pc lv (.int x :: st) s (if 0 < x then F1 else F2) := fun r s' hF H locs ls hP hS hl => lv_if_gt E.1 E.2.1 hdg ht (fun h => kt r s' (by rw [if_pos h] at hF; exact hF) H locs ls hP hS hl) (fun h => kf r s' (by rw [if_neg h] at hF; exact hF) H locs ls hP hS hl)
theorem g_icmp_le (E : dr_E p R s0 m args meth c cells slots A H0 D cI cZ ad L cc nL own ret) {x y : Int32} {off : Int} (tgt : Nat) (hdg : decode cc pc = .ok (.if_icmp .le off, 3)) (ht : (pc : Int) + off = (tgt : Int)) (kt : dr_G p l e R s0 m args below meth c cells slots A H0 D cI cZ ad ln L nL Z tgt lv st s F1) (kf : dr_G p l e R s0 m args below meth c cells slots A H0 D cI cZ ad ln L nL Z (pc + 3) lv st s F2) : dr_G p l e R s0 m args below meth c cells slots A H0 D cI cZ ad ln L nL Z pc lv (.int y :: .int x :: st) s (if x ≤ y then F1 else F2) := fun r s' hF H locs ls hP hS hl => lv_icmp_le E.1 E.2.1 hdg ht (fun h => kt r s' (by rw [if_pos h] at hF; exact hF) H locs ls hP hS hl) (fun h => kf r s' (by rw [if_neg h] at hF; exact hF) H locs ls hP hS hl)
theorem g_if_le (E : dr_E p R s0 m args meth c cells slots A H0 D cI cZ ad L cc nL own ret) {x : Int32} {off : Int} (tgt : Nat) (hdg : decode cc pc = .ok (.ifCond .le off, 3)) (ht : (pc : Int) + off = (tgt : Int)) (kt : dr_G p l e R s0 m args below meth c cells slots A H0 D cI cZ ad ln L nL Z tgt lv st s F1) (kf : dr_G p l e R s0 m args below meth c cells slots A H0 D cI cZ ad ln L nL Z (pc + 3) lv st s F2) : dr_G p l e R s0 m args below meth c cells slots A H0 D cI cZ ad ln L nL Z pc lv (.int x :: st) s (if x ≤ 0 then F1 else F2) := fun r s' hF H locs ls hP hS hl => lv_if_le E.1 E.2.1 hdg ht (fun h => kt r s' (by rw [if_pos h] at hF; exact hF) H locs ls hP hS hl) (fun h => kf r s' (by rw [if_neg h] at hF; exact hF) H locs ls hP hS hl)
theorem g_icmp_ne (E : dr_E p R s0 m args meth c cells slots A H0 D cI cZ ad L cc nL own ret) {x y : Int32} {off : Int} (tgt : Nat) (hdg : decode cc pc = .ok (.if_icmp .ne off, 3)) (ht : (pc : Int) + off = (tgt : Int)) (kt : dr_G p l e R s0 m args below meth c cells slots A H0 D cI cZ ad ln L nL Z tgt lv st s F1) (kf : dr_G p l e R s0 m args below meth c cells slots A H0 D cI cZ ad ln L nL Z (pc + 3) lv st s F2) : dr_G p l e R s0 m args below meth c cells slots A H0 D cI cZ ad ln L nL Z pc lv (.int y :: .int x :: st) s (if x = y then F2 else F1) := fun r s' hF H locs ls hP hS hl => lv_icmp_ne E.1 E.2.1 hdg ht (fun h => kt r s' (by rw [if_neg h] at hF; exact hF) H locs ls hP hS hl) (fun h => kf r s' (by rw [if_pos h] at hF; exact hF) H locs ls hP hS hl)
theorem g_if_ne (E : dr_E p R s0 m args meth c cells slots A H0 D cI cZ ad L cc nL own ret) {x : Int32} {off : Int} (tgt : Nat) (hdg : decode cc pc = .ok (.ifCond .ne off, 3)) (ht : (pc : Int) + off = (tgt : Int)) (kt : dr_G p l e R s0 m args below meth c cells slots A H0 D cI cZ ad ln L nL Z tgt lv st s F1) (kf : dr_G p l e R s0 m args below meth c cells slots A H0 D cI cZ ad ln L nL Z (pc + 3) lv st s F2) : dr_G p l e R s0 m args below meth c cells slots A H0 D cI cZ ad ln L nL Z pc lv (.int x :: st) s (if x = 0 then F2 else F1) := fun r s' hF H locs ls hP hS hl => lv_if_ne E.1 E.2.1 hdg ht (fun h => kt r s' (by rw [if_neg h] at hF; exact hF) H locs ls hP hS hl) (fun h => kf r s' (by rw [if_pos h] at hF; exact hF) H locs ls hP hS hl)
theorem g_let {x : Int32} {Kx : Int32 → Option (Int32 × dr_S)} (kk : ∀ y : Int32, dr_G p l e R s0 m args below meth c cells slots A H0 D cI cZ ad ln L nL Z pc lv (.int y :: st) s (Kx y)) : dr_G p l e R s0 m args below meth c cells slots A H0 D cI cZ ad ln L nL Z pc lv (.int x :: st) s (dr_let x Kx) := kk x
theorem g_sub {lv' : List (Nat × Value)} (ks : List Nat) (hs : lv_pick lv ks = lv') (kk : dr_G p l e R s0 m args below meth c cells slots A H0 D cI cZ ad ln L nL Z pc lv' st s F) : dr_G p l e R s0 m args below meth c cells slots A H0 D cI cZ ad ln L nL Z pc lv st s F := fun r s' hF H locs ls hP hS hl => kk r s' hF H locs ls hP hS (lv_sub hl ks hs)
theorem g_eqF (h : F = F1) (kk : dr_G p l e R s0 m args below meth c cells slots A H0 D cI cZ ad ln L nL Z pc lv st s F1) : dr_G p l e R s0 m args below meth c cells slots A H0 D cI cZ ad ln L nL Z pc lv st s F := h ▸ kk
theorem g_iaload (E : dr_E p R s0 m args meth c cells slots A H0 D cI cZ ad L cc nL own ret) {id : Nat} {i : Int32} (hid : id ∈ L) (h13 : 13 ≤ id) (hz : dr_z id = false) (hdg : decode cc pc = .ok (.iaload, 1)) {Kx : Int32 → Option (Int32 × dr_S)} (kk : ∀ v : Int32, dr_G p l e R s0 m args below meth c cells slots A H0 D cI cZ ad ln L nL Z (pc + 1) lv (.int v :: st) s (Kx v)) : dr_G p l e R s0 m args below meth c cells slots A H0 D cI cZ ad ln L nL Z pc lv (.int i :: .ref (ad id) :: st) s ((dr_rd ln s id i).bind Kx) := by
  intro r s' hF H locs ls hP hS hl
  obtain ⟨v, hv, hK⟩ := Option.bind_eq_some_iff.mp hF
  unfold dr_rd at hv
  split at hv
  · cases hv
  · next hin =>
    cases hv
    obtain ⟨q, hq⟩ := List.getElem?_of_mem hid
    exact va_iald E.1 E.2.1 E.2.2.2.2.2.2.2.1 hP q 0 ((dr_wget hq).trans (by rw [dr_eI h13 hz])) rfl hin hdg (kk _ r s' hK H locs ls hP hS hl)
theorem g_baload (E : dr_E p R s0 m args meth c cells slots A H0 D cI cZ ad L cc nL own ret) {id : Nat} {i : Int32} (hid : id ∈ L) (h13 : 13 ≤ id) (hz : dr_z id = true) (hdg : decode cc pc = .ok (.baload, 1)) {Kx : Int32 → Option (Int32 × dr_S)} (kk : ∀ v : Int32, dr_G p l e R s0 m args below meth c cells slots A H0 D cI cZ ad ln L nL Z (pc + 1) lv (.int v :: st) s (Kx v)) : dr_G p l e R s0 m args below meth c cells slots A H0 D cI cZ ad ln L nL Z pc lv (.int i :: .ref (ad id) :: st) s ((dr_rd ln s id i).bind Kx) := by
  intro r s' hF H locs ls hP hS hl
  obtain ⟨v, hv, hK⟩ := Option.bind_eq_some_iff.mp hF
  unfold dr_rd at hv
  split at hv
  · cases hv
  · next hin =>
    cases hv
    obtain ⟨q, hq⟩ := List.getElem?_of_mem hid
    exact va_zald E.1 E.2.1 E.2.2.2.2.2.2.2.1 hP q 1 ((dr_wget hq).trans (by rw [dr_eZ h13 hz])) rfl hin hdg (kk _ r s' hK H locs ls hP hS hl)
theorem g_iastore (E : dr_E p R s0 m args meth c cells slots A H0 D cI cZ ad L cc nL own ret) {id : Nat} {i x : Int32} (hid : id ∈ L) (h13 : 13 ≤ id) (hz : dr_z id = false) (hdg : decode cc pc = .ok (.iastore, 1)) {Kx : dr_S → Option (Int32 × dr_S)} (kk : ∀ s1 : dr_S, dr_G p l e R s0 m args below meth c cells slots A H0 D cI cZ ad ln L nL Z (pc + 1) lv st s1 (Kx s1)) : dr_G p l e R s0 m args below meth c cells slots A H0 D cI cZ ad ln L nL Z pc lv (.int x :: .int i :: .ref (ad id) :: st) s ((dr_wr ln s id i x).bind Kx) := by
  intro r s' hF H locs ls hP hS hl
  obtain ⟨s1, hv, hK⟩ := Option.bind_eq_some_iff.mp hF
  unfold dr_wr at hv
  split at hv
  · cases hv
  · next hin =>
    cases hv
    obtain ⟨q, hq⟩ := List.getElem?_of_mem hid
    have hD := dr_wD (cI := cI) (cZ := cZ) (ln := ln) s E.2.2.2.2.2.2.2.2.1 E.2.2.2.2.2.2.2.2.2.1
    refine va_iast E.1 E.2.1 E.2.2.2.2.2.2.2.1 hP hD hS q 0 ((dr_wget hq).trans (by rw [dr_eI h13 hz])) rfl hin hdg (fun H1 locs1 hP1 hD1 hS1 => ?_)
    refine kk _ r s' hK H1 locs1 ls ?_ hS1 hl
    have e := dr_wset (cI := cI) (cZ := cZ) (ad := ad) (ln := ln) (s := s) (s' := dr_put s id i.toNatClampNeg x) E.2.2.2.2.2.2.2.2.1.1 hq (fun j _ hj => dr_put_e j hj)
    rw [← e, dr_eI h13 hz]
    simp only [dr_put, if_true]
    exact hP1
theorem g_bastore (E : dr_E p R s0 m args meth c cells slots A H0 D cI cZ ad L cc nL own ret) {id : Nat} {i x : Int32} (hid : id ∈ L) (h13 : 13 ≤ id) (hz : dr_z id = true) (hdg : decode cc pc = .ok (.bastore, 1)) {Kx : dr_S → Option (Int32 × dr_S)} (kk : ∀ s1 : dr_S, dr_G p l e R s0 m args below meth c cells slots A H0 D cI cZ ad ln L nL Z (pc + 1) lv st s1 (Kx s1)) : dr_G p l e R s0 m args below meth c cells slots A H0 D cI cZ ad ln L nL Z pc lv (.int x :: .int i :: .ref (ad id) :: st) s ((dr_wz ln s id i x).bind Kx) := by
  intro r s' hF H locs ls hP hS hl
  obtain ⟨s1, hv, hK⟩ := Option.bind_eq_some_iff.mp hF
  unfold dr_wz at hv
  split at hv
  · cases hv
  · next hin =>
    cases hv
    obtain ⟨q, hq⟩ := List.getElem?_of_mem hid
    have hD := dr_wD (cI := cI) (cZ := cZ) (ln := ln) s E.2.2.2.2.2.2.2.2.1 E.2.2.2.2.2.2.2.2.2.1
    refine va_zast E.1 E.2.1 E.2.2.2.2.2.2.2.1 hP hD hS q 1 ((dr_wget hq).trans (by rw [dr_eZ h13 hz])) rfl hin hdg (fun H1 locs1 hP1 hD1 hS1 => ?_)
    refine kk _ r s' hK H1 locs1 ls ?_ hS1 hl
    have e := dr_wset (cI := cI) (cZ := cZ) (ad := ad) (ln := ln) (s := s) (s' := dr_put s id i.toNatClampNeg (vp_nar .boolean x)) E.2.2.2.2.2.2.2.2.1.1 hq (fun j _ hj => dr_put_e j hj)
    rw [← e, dr_eZ h13 hz]
    simp only [dr_put, if_true]
    exact hP1
theorem g_alen (E : dr_E p R s0 m args meth c cells slots A H0 D cI cZ ad L cc nL own ret) {id : Nat} (hid : id ∈ L) (h13 : 13 ≤ id) (hz : dr_z id = false) (hdg : decode cc pc = .ok (.arraylength, 1)) (kk : dr_G p l e R s0 m args below meth c cells slots A H0 D cI cZ ad ln L nL Z (pc + 1) lv (.int (Int32.ofNat (ln id)) :: st) s F) : dr_G p l e R s0 m args below meth c cells slots A H0 D cI cZ ad ln L nL Z pc lv (.ref (ad id) :: st) s F := by
  intro r s' hF H locs ls hP hS hl
  obtain ⟨q, hq⟩ := List.getElem?_of_mem hid
  exact va_alen E.1 E.2.1 E.2.2.2.2.2.2.2.1 hP q 0 ((dr_wget hq).trans (by rw [dr_eI h13 hz])) rfl rfl hdg (kk r s' hF H locs ls hP hS hl)
theorem g_get (E : dr_E p R s0 m args meth c cells slots A H0 D cI cZ ad L cc nL own ret) {C : String} {T : u_T} {N ci index k : Nat} {v : Value} (hid : ci ∈ L) (hci : ci < 13) (hc : vwCl[ci]? = some (C, T, N)) (hin : ∀ w ∈ u_ws C T N, w ∈ dr_tbl) (hk : k < N) (hlink : Cond.fieldLink own index (T k).1 (T k).2.1 (T k).2.2.1 ∈ dr_tbl) (hv : (dr_fs ad s ci)[k]? = some v) (hdg : decode cc pc = .ok (.getfield index, 3)) (kk : dr_G p l e R s0 m args below meth c cells slots A H0 D cI cZ ad ln L nL Z (pc + 3) lv (v :: st) s F) : dr_G p l e R s0 m args below meth c cells slots A H0 D cI cZ ad ln L nL Z pc lv (.ref (ad ci) :: st) s F := by
  intro r s' hF H locs ls hP hS hl
  obtain ⟨q, hq⟩ := List.getElem?_of_mem hid
  exact va_get E.1 E.2.1 E.2.2.2.2.2.2.1 hin E.2.2.2.2.2.1 E.2.2.2.2.2.2.2.1 hP q ((dr_wget hq).trans (by rw [dr_eO hci])) hc k hk (E.2.2.2.2.2.2.1 _ hlink) (fun _ h => h) hv hdg (kk r s' hF H locs ls hP hS hl)
theorem g_put (E : dr_E p R s0 m args meth c cells slots A H0 D cI cZ ad L cc nL own ret) {C : String} {T : u_T} {N ci index k : Nat} {v : Int32} {s1 : dr_S} (hid : ci ∈ L) (hci : ci < 13) (hc : vwCl[ci]? = some (C, T, N)) (hin : ∀ w ∈ u_ws C T N, w ∈ dr_tbl) (ty0 : Nat → FieldType) (hty : ∀ k, k < N → parseFieldDescriptor (T k).2.2.1 = some (ty0 k)) (hnm : ∀ a, a < N → ∀ b, b < N → a ≠ b → (T a).2.1 ≠ (T b).2.1) (hk : k < N) (hlink : Cond.fieldLink own index (T k).1 (T k).2.1 (T k).2.2.1 ∈ dr_tbl) (hfin : (T k).2.2.2 = false) {ty : FieldType} (hd : parseFieldDescriptor (T k).2.2.1 = some ty) (hn : narrow ty (.int v) = .int v) (hfit : fits ty (.int v) = true) (hlen : k < (dr_fs ad s ci).length) (hset : (dr_fs ad s ci).set k (.int v) = dr_fs ad s1 ci) (hoth : ∀ j, j ≠ ci → dr_e cI cZ ad ln s j = dr_e cI cZ ad ln s1 j) (hdg : decode cc pc = .ok (.putfield index, 3)) {Kx : dr_S → Option (Int32 × dr_S)} (kk : ∀ s2 : dr_S, dr_G p l e R s0 m args below meth c cells slots A H0 D cI cZ ad ln L nL Z (pc + 3) lv st s2 (Kx s2)) : dr_G p l e R s0 m args below meth c cells slots A H0 D cI cZ ad ln L nL Z pc lv (.int v :: .ref (ad ci) :: st) s (dr_letS s1 Kx) := by
  intro r s' hF H locs ls hP hS hl
  obtain ⟨q, hq⟩ := List.getElem?_of_mem hid
  have hD := dr_wD (cI := cI) (cZ := cZ) (ln := ln) s E.2.2.2.2.2.2.2.2.1 E.2.2.2.2.2.2.2.2.2.1
  refine va_put E.1 E.2.1 E.2.2.2.2.2.2.1 hin ty0 hty hnm E.2.2.2.2.2.1 E.2.2.2.2.2.2.2.1 hP hD hS q ((dr_wget hq).trans (by rw [dr_eO hci])) hc k hk (E.2.2.2.2.2.2.1 _ hlink) (fun _ h => h) hfin hd hn hfit hlen hdg (fun H1 locs1 hP1 hD1 hS1 => ?_)
  refine kk _ r s' hF H1 locs1 ls ?_ hS1 hl
  have e := dr_wset (cI := cI) (cZ := cZ) (ad := ad) (ln := ln) (s := s) (s' := s1) E.2.2.2.2.2.2.2.2.1.1 hq (fun j _ hj => hoth j hj)
  rw [← e, dr_eO hci, ← hset]
  exact hP1
theorem g_iret (E : dr_E p R s0 m args meth c cells slots A s0.heap D cI cZ ad L cc nL own (some .int)) {v : Int32} (hdg : decode cc pc = .ok (.ireturn, 1)) : dr_G p l e R s0 m args below meth c cells slots A s0.heap D cI cZ ad ln L nL (dr_Zi D cI cZ ad ln L A below args s0 cells slots) pc lv [.int v] s (some (v, s)) := by
  intro r s' hF H locs ls hP hS hl
  cases hF
  exact W.iret (v := v) E.1 E.2.1 E.2.2.2.1 (fun t ht hW => ⟨⟨v, s, rfl, ⟨rfl, rfl⟩, (show va_P D vwCl (dr_w cI cZ ad ln L s) t.heap from by rw [ht]; exact hP)⟩, hS.F ht⟩) hS.2.2 hdg E.2.2.2.2.1
theorem g_zret (E : dr_E p R s0 m args meth c cells slots A s0.heap D cI cZ ad L cc nL own (some .boolean)) {v : Int32} (hdg : decode cc pc = .ok (.ireturn, 1)) (hv : v = 0 ∨ v = 1) : dr_G p l e R s0 m args below meth c cells slots A s0.heap D cI cZ ad ln L nL (dr_Zi D cI cZ ad ln L A below args s0 cells slots) pc lv [.int v] s (some (v, s)) := by
  intro r s' hF H locs ls hP hS hl
  cases hF
  exact W.zret (v := v) (ty := .boolean) E.1 E.2.1 E.2.2.2.1 (by rcases hv with rfl | rfl <;> rfl) (fun t ht hW => ⟨⟨v, s, rfl, ⟨rfl, rfl⟩, (show va_P D vwCl (dr_w cI cZ ad ln L s) t.heap from by rw [ht]; exact hP)⟩, hS.F ht⟩) hS.2.2 hdg E.2.2.2.2.1
theorem g_zretV (E : dr_E p R s0 m args meth c cells slots A s0.heap D cI cZ ad L cc nL own (some .boolean)) {v : Int32} (hdg : decode cc pc = .ok (.ireturn, 1)) : dr_G p l e R s0 m args below meth c cells slots A s0.heap D cI cZ ad ln L nL (dr_Zi D cI cZ ad ln L A below args s0 cells slots) pc lv [.int v] s (dr_rz v s) := by
  intro r s' hF H locs ls hP hS hl
  unfold dr_rz at hF
  split at hF
  · next h => exact g_zret E hdg h r s' hF H locs ls hP hS hl
  · cases hF
theorem g_vret (E : dr_E p R s0 m args meth c cells slots A s0.heap D cI cZ ad L cc nL own none) (hdg : decode cc pc = .ok (.return_, 1)) : dr_G p l e R s0 m args below meth c cells slots A s0.heap D cI cZ ad ln L nL (dr_Zv D cI cZ ad ln L A below args s0 cells slots) pc lv [] s (some (0, s)) := by
  intro r s' hF H locs ls hP hS hl
  cases hF
  exact W.vret E.1 E.2.1 E.2.2.2.1 (fun t ht hW => ⟨⟨s, rfl, rfl, (show va_P D vwCl (dr_w cI cZ ad ln L s) t.heap from by rw [ht]; exact hP)⟩, hS.F ht⟩) hS.2.2 hdg E.2.2.2.2.1
theorem dr_good : ∀ w ∈ dr_tbl, goodWord w = true := fun _ h => (List.mem_filter.mp h).2
theorem dr_goodC {y : MethodName} {bytes : ByteArray} {maxL : Nat} {ret2 : Option FieldType} (h : Cond.code y bytes maxL ret2 ∈ dr_tbl) : GoodIn dr_tbl (.code y bytes maxL ret2 :: dr_tbl) := by
  intro w hw
  rcases List.mem_cons.mp hw with rfl | hw
  · exact ⟨h, good_of_word (dr_good _ h)⟩
  · exact ⟨hw, good_of_word (dr_good _ hw)⟩
def dr_mw (y : MethodName) (bytes : ByteArray) (maxL : Nat) (ret2 : Option FieldType) (n : Nat) : Prop := Cond.code y bytes maxL ret2 ∈ dr_tbl ∧ Cond.initialized y.cls ∈ dr_tbl ∧ (y.cls ≠ "java/lang/invoke/MethodHandle" ∧ y.cls ≠ "java/lang/invoke/VarHandle" ∧ (parseMethodDescriptor y.desc).map (fun d => d.parameters.length) = some n)
theorem dr_frb {av : List Value} {sz : Nat} : FrameBlind (dr_Pc D cI cZ ad ln L av s sz) := fun a U g mk q => ⟨q.1, q.2.1, q.2.2.1, va_K.moved (u := U) (U := U.calling g mk a) (Vm.Alike.refl U.vm) q.2.2.2⟩
theorem dr_AA (E : dr_E p R s0 m args meth c cells slots A H0 D cI cZ ad L cc nL own ret) {H : Heap} {locs : List Loc} (hS : va_S A H0 H locs) : ∀ q, dr_A ad L H.size q → A q := by
  intro q h
  rcases h with ⟨id, h1, rfl⟩ | h
  · exact E.2.2.2.2.2.2.2.2.2.1 id h1
  · exact E.2.2.2.2.2.2.2.2.2.2.1 q (Nat.le_trans hS.1 h)
theorem g_callVi (E : dr_E p R s0 m args meth c cells slots A H0 D cI cZ ad L cc nL own ret) {stk : List Value} {C : String} {T : u_T} {N ci index n : Nat} {y : MethodName} {bytes : ByteArray} {maxL d : Nat} {ret2 : Option FieldType} (As : List Value) {Kx : Int32 → dr_S → Option (Int32 × dr_S)} (hst : stk = As.reverse ++ .ref (ad ci) :: st) (hM : dr_Mi l D cI cZ ad ln L y bytes maxL ret2 d (.ref (ad ci) :: As) s F1) (hid : ci ∈ L) (hci : ci < 13) (hc : vwCl[ci]? = some (C, T, N)) (hcy : y.cls = C) (hins : Cond.instanceMethod y ∈ dr_tbl) (hsel : Cond.selects y.cls y y ∈ dr_tbl) (hmw : dr_mw y bytes maxL ret2 n) (hn : As.length = n) (hlink : Cond.methodLink own index y ∈ dr_tbl) (hR : d + 1 ≤ R.frames ∧ 8 + (maxL + 11) + 64 * d ≤ R.locals) (hroom : (st.map fun v => v.category).sum ≤ 8) (hdg : decode cc pc = .ok (.invokevirtual index, 3)) (kk : ∀ (r1 : Int32) (s1 : dr_S), dr_G p l e R s0 m args below meth c cells slots A H0 D cI cZ ad ln L nL Z (pc + 3) lv (.int r1 :: st) s1 (Kx r1 s1)) : dr_G p l e R s0 m args below meth c cells slots A H0 D cI cZ ad ln L nL Z pc lv stk s (F1.bind (fun q => Kx q.1 q.2)) := by
  intro r s' hF H locs ls hP hS hl
  obtain ⟨⟨r1, s1⟩, h1, hK⟩ := Option.bind_eq_some_iff.mp hF
  subst hst
  obtain ⟨q, hq⟩ := List.getElem?_of_mem hid
  have cb := callB_of (own := own) (index := index) (R := R) (rm := dr_rm d) (mc := 0) (ms := 0) n E.2.2.2.2.2.2.1 (dr_goodC hmw.1) rfl rfl rfl (E.2.2.2.2.2.2.1 _ hmw.2.1) (E.2.2.2.2.2.2.1 _ hlink) hmw.2.2 hR
  refine va_calli (va_runV (As := As) (rest := st) ⟨E.1, E.2.1, E.2.2.1, E.2.2.2.2.2.1, E.2.2.2.2.2.2.1⟩ (hM r1 s1 h1 H.size) ⟨cb, E.2.2.2.2.2.2.1 _ hins, E.2.2.2.2.2.2.1 _ hsel⟩ ⟨dr_frb, hcy ▸ va_recv E.2.2.2.2.2.2.2.1 hP hc ((dr_wget hq).trans (by rw [dr_eO hci])), fun U hU hW => ⟨rfl, by rw [hU], by rw [hU]; exact hP, va_K.moved hW.alike E.2.2.2.2.2.2.2.1⟩⟩ rfl hn hl.1 rfl (lv_room hroom) hdg ⟨E.2.2.2.2.2.2.2.2.2.2.2.1, E.2.2.2.2.2.2.2.2.2.2.2.2⟩) hS (fun q _ h => dr_AA E hS q h) (dr_AA E hS) (fun r2 u t H1 locs1 ht hvm hw2 hB hz1 hk1 hS1 => ?_)
  obtain ⟨rfl, rfl⟩ := hw2
  exact kk r2 u r s' hK H1 locs1 ls (by rw [← ht]; exact hB) hS1 hl
theorem g_callSi (E : dr_E p R s0 m args meth c cells slots A H0 D cI cZ ad L cc nL own ret) {stk : List Value} {C : String} {T : u_T} {N ci index n : Nat} {y : MethodName} {bytes : ByteArray} {maxL d : Nat} {ret2 : Option FieldType} (As : List Value) {Kx : Int32 → dr_S → Option (Int32 × dr_S)} (hst : stk = As.reverse ++ st) (hM : dr_Mi l D cI cZ ad ln L y bytes maxL ret2 d As s F1) (hst2 : Cond.static y ∈ dr_tbl) (hmw : dr_mw y bytes maxL ret2 n) (hn : As.length = n) (hlink : Cond.methodLink own index y ∈ dr_tbl) (hR : d + 1 ≤ R.frames ∧ 8 + (maxL + 11) + 64 * d ≤ R.locals) (hroom : (st.map fun v => v.category).sum ≤ 8) (hdg : decode cc pc = .ok (.invokestatic index, 3)) (kk : ∀ (r1 : Int32) (s1 : dr_S), dr_G p l e R s0 m args below meth c cells slots A H0 D cI cZ ad ln L nL Z (pc + 3) lv (.int r1 :: st) s1 (Kx r1 s1)) : dr_G p l e R s0 m args below meth c cells slots A H0 D cI cZ ad ln L nL Z pc lv stk s (F1.bind (fun q => Kx q.1 q.2)) := by
  intro r s' hF H locs ls hP hS hl
  obtain ⟨⟨r1, s1⟩, h1, hK⟩ := Option.bind_eq_some_iff.mp hF
  subst hst
  have cb := callB_of (own := own) (index := index) (R := R) (rm := dr_rm d) (mc := 0) (ms := 0) n E.2.2.2.2.2.2.1 (dr_goodC hmw.1) rfl rfl rfl (E.2.2.2.2.2.2.1 _ hmw.2.1) (E.2.2.2.2.2.2.1 _ hlink) hmw.2.2 hR
  refine va_calli (va_runS (As := As) (rest := st) ⟨E.1, E.2.1, E.2.2.1, E.2.2.2.2.2.1, E.2.2.2.2.2.2.1⟩ (hM r1 s1 h1 H.size) ⟨cb, E.2.2.2.2.2.2.1 _ hst2⟩ ⟨dr_frb, fun U hU hW => ⟨rfl, by rw [hU], by rw [hU]; exact hP, va_K.moved hW.alike E.2.2.2.2.2.2.2.1⟩⟩ rfl hn hl.1 rfl (lv_room hroom) hdg ⟨E.2.2.2.2.2.2.2.2.2.2.2.1, E.2.2.2.2.2.2.2.2.2.2.2.2⟩) hS (fun q _ h => dr_AA E hS q h) (dr_AA E hS) (fun r2 u t H1 locs1 ht hvm hw2 hB hz1 hk1 hS1 => ?_)
  obtain ⟨rfl, rfl⟩ := hw2
  exact kk r2 u r s' hK H1 locs1 ls (by rw [← ht]; exact hB) hS1 hl
theorem g_callVv (E : dr_E p R s0 m args meth c cells slots A H0 D cI cZ ad L cc nL own ret) {stk : List Value} {C : String} {T : u_T} {N ci index n : Nat} {y : MethodName} {bytes : ByteArray} {maxL d : Nat} {ret2 : Option FieldType} (As : List Value) {Kx : dr_S → Option (Int32 × dr_S)} (hst : stk = As.reverse ++ .ref (ad ci) :: st) (hM : dr_Mv l D cI cZ ad ln L y bytes maxL d (.ref (ad ci) :: As) s F1) (hid : ci ∈ L) (hci : ci < 13) (hc : vwCl[ci]? = some (C, T, N)) (hcy : y.cls = C) (hins : Cond.instanceMethod y ∈ dr_tbl) (hsel : Cond.selects y.cls y y ∈ dr_tbl) (hmw : dr_mw y bytes maxL none n) (hn : As.length = n) (hlink : Cond.methodLink own index y ∈ dr_tbl) (hR : d + 1 ≤ R.frames ∧ 8 + (maxL + 11) + 64 * d ≤ R.locals) (hroom : (st.map fun v => v.category).sum ≤ 8) (hdg : decode cc pc = .ok (.invokevirtual index, 3)) (kk : ∀ (s1 : dr_S), dr_G p l e R s0 m args below meth c cells slots A H0 D cI cZ ad ln L nL Z (pc + 3) lv st s1 (Kx s1)) : dr_G p l e R s0 m args below meth c cells slots A H0 D cI cZ ad ln L nL Z pc lv stk s (F1.bind (fun q => Kx q.2)) := by
  intro r s' hF H locs ls hP hS hl
  obtain ⟨⟨r1, s1⟩, h1, hK⟩ := Option.bind_eq_some_iff.mp hF
  subst hst
  obtain ⟨q, hq⟩ := List.getElem?_of_mem hid
  have cb := callB_of (own := own) (index := index) (R := R) (rm := dr_rm d) (mc := 0) (ms := 0) n E.2.2.2.2.2.2.1 (dr_goodC hmw.1) rfl rfl rfl (E.2.2.2.2.2.2.1 _ hmw.2.1) (E.2.2.2.2.2.2.1 _ hlink) hmw.2.2 hR
  refine va_callv (va_runV (As := As) (rest := st) ⟨E.1, E.2.1, E.2.2.1, E.2.2.2.2.2.1, E.2.2.2.2.2.2.1⟩ (hM r1 s1 h1 H.size) ⟨cb, E.2.2.2.2.2.2.1 _ hins, E.2.2.2.2.2.2.1 _ hsel⟩ ⟨dr_frb, hcy ▸ va_recv E.2.2.2.2.2.2.2.1 hP hc ((dr_wget hq).trans (by rw [dr_eO hci])), fun U hU hW => ⟨rfl, by rw [hU], by rw [hU]; exact hP, va_K.moved hW.alike E.2.2.2.2.2.2.2.1⟩⟩ rfl hn hl.1 rfl (lv_room hroom) hdg ⟨E.2.2.2.2.2.2.2.2.2.2.2.1, E.2.2.2.2.2.2.2.2.2.2.2.2⟩) hS (fun q _ h => dr_AA E hS q h) (dr_AA E hS) (fun u t H1 locs1 ht hvm hw2 hB hz1 hk1 hS1 => ?_)
  subst hw2
  exact kk u r s' hK H1 locs1 ls (by rw [← ht]; exact hB) hS1 hl
theorem g_callSv (E : dr_E p R s0 m args meth c cells slots A H0 D cI cZ ad L cc nL own ret) {stk : List Value} {C : String} {T : u_T} {N ci index n : Nat} {y : MethodName} {bytes : ByteArray} {maxL d : Nat} {ret2 : Option FieldType} (As : List Value) {Kx : dr_S → Option (Int32 × dr_S)} (hst : stk = As.reverse ++ st) (hM : dr_Mv l D cI cZ ad ln L y bytes maxL d As s F1) (hst2 : Cond.static y ∈ dr_tbl) (hmw : dr_mw y bytes maxL none n) (hn : As.length = n) (hlink : Cond.methodLink own index y ∈ dr_tbl) (hR : d + 1 ≤ R.frames ∧ 8 + (maxL + 11) + 64 * d ≤ R.locals) (hroom : (st.map fun v => v.category).sum ≤ 8) (hdg : decode cc pc = .ok (.invokestatic index, 3)) (kk : ∀ (s1 : dr_S), dr_G p l e R s0 m args below meth c cells slots A H0 D cI cZ ad ln L nL Z (pc + 3) lv st s1 (Kx s1)) : dr_G p l e R s0 m args below meth c cells slots A H0 D cI cZ ad ln L nL Z pc lv stk s (F1.bind (fun q => Kx q.2)) := by
  intro r s' hF H locs ls hP hS hl
  obtain ⟨⟨r1, s1⟩, h1, hK⟩ := Option.bind_eq_some_iff.mp hF
  subst hst
  have cb := callB_of (own := own) (index := index) (R := R) (rm := dr_rm d) (mc := 0) (ms := 0) n E.2.2.2.2.2.2.1 (dr_goodC hmw.1) rfl rfl rfl (E.2.2.2.2.2.2.1 _ hmw.2.1) (E.2.2.2.2.2.2.1 _ hlink) hmw.2.2 hR
  refine va_callv (va_runS (As := As) (rest := st) ⟨E.1, E.2.1, E.2.2.1, E.2.2.2.2.2.1, E.2.2.2.2.2.2.1⟩ (hM r1 s1 h1 H.size) ⟨cb, E.2.2.2.2.2.2.1 _ hst2⟩ ⟨dr_frb, fun U hU hW => ⟨rfl, by rw [hU], by rw [hU]; exact hP, va_K.moved hW.alike E.2.2.2.2.2.2.2.1⟩⟩ rfl hn hl.1 rfl (lv_room hroom) hdg ⟨E.2.2.2.2.2.2.2.2.2.2.2.1, E.2.2.2.2.2.2.2.2.2.2.2.2⟩) hS (fun q _ h => dr_AA E hS q h) (dr_AA E hS) (fun u t H1 locs1 ht hvm hw2 hB hz1 hk1 hS1 => ?_)
  subst hw2
  exact kk u r s' hK H1 locs1 ls (by rw [← ht]; exact hB) hS1 hl
theorem dr_meti {y : MethodName} {d : Nat} {av : List Value} (hy : plainName y.cls = true) (hown : y.cls = own) (hlen : (lg_sl av).length ≤ nL) (hap : dr_ap ad L) (body : ∀ (p : Program) (e : Env) (s0 : State) (m : MethodId) (args : Array Value) (below : List Frame) (meth : Method) (c : Code) (A : Nat → Prop), dr_E p (dr_rm d) s0 m args meth c 0 0 A s0.heap D cI cZ ad L cc nL own ret → dr_G p l e (dr_rm d) s0 m args below meth c 0 0 A s0.heap D cI cZ ad ln L nL (dr_Zi D cI cZ ad ln L A below args s0 0 0) 0 (lv_args 0 av) [] s F) : dr_Mi l D cI cZ ad ln L y cc nL ret d av s F := by
  intro r s' hF sz
  refine Met.ofW (cc := cc) (maxL := nL) (ret := ret) hy rfl ?_
  intro p e s0 m args below meth c s₁ B hml hv
  obtain ⟨rfl, hsz, hP, hK⟩ := hv
  have hts := atoms_spec (ws := .code y cc nL ret :: dr_tbl) B.pre
  have hown' : s0.vm.findClass own = some m.cls := hown ▸ findClass_of_methodNamed B.named
  subst hsz
  have hE : dr_E p (dr_rm d) s0 m av.toArray meth c 0 0 (dr_A ad L s0.heap.size) s0.heap D cI cZ ad L cc nL own ret := ⟨B.exec, B.bytes, hml, B.returns, B.notSynchronized, hown', fun w hw => hts w (List.mem_cons_of_mem _ hw), hK, hap, fun id h => Or.inl ⟨id, h, rfl⟩, fun q h => Or.inr h, Nat.le_refl _, Nat.le_refl _⟩
  rw [lg_entry_eq]
  exact body p e s0 m _ below meth c (dr_A ad L s0.heap.size) hE r s' hF s0.heap [] _ hP va_S.rf (lv_entry av hlen)
theorem dr_metv {y : MethodName} {d : Nat} {av : List Value} (hy : plainName y.cls = true) (hown : y.cls = own) (hlen : (lg_sl av).length ≤ nL) (hap : dr_ap ad L) (body : ∀ (p : Program) (e : Env) (s0 : State) (m : MethodId) (args : Array Value) (below : List Frame) (meth : Method) (c : Code) (A : Nat → Prop), dr_E p (dr_rm d) s0 m args meth c 0 0 A s0.heap D cI cZ ad L cc nL own none → dr_G p l e (dr_rm d) s0 m args below meth c 0 0 A s0.heap D cI cZ ad ln L nL (dr_Zv D cI cZ ad ln L A below args s0 0 0) 0 (lv_args 0 av) [] s F) : dr_Mv l D cI cZ ad ln L y cc nL d av s F := by
  intro r s' hF sz
  refine Met.ofW (cc := cc) (maxL := nL) (ret := none) hy rfl ?_
  intro p e s0 m args below meth c s₁ B hml hv
  obtain ⟨rfl, hsz, hP, hK⟩ := hv
  have hts := atoms_spec (ws := .code y cc nL none :: dr_tbl) B.pre
  have hown' : s0.vm.findClass own = some m.cls := hown ▸ findClass_of_methodNamed B.named
  subst hsz
  have hE : dr_E p (dr_rm d) s0 m av.toArray meth c 0 0 (dr_A ad L s0.heap.size) s0.heap D cI cZ ad L cc nL own none := ⟨B.exec, B.bytes, hml, B.returns, B.notSynchronized, hown', fun w hw => hts w (List.mem_cons_of_mem _ hw), hK, hap, fun id h => Or.inl ⟨id, h, rfl⟩, fun q h => Or.inr h, Nat.le_refl _, Nat.le_refl _⟩
  rw [lg_entry_eq]
  exact body p e s0 m _ below meth c (dr_A ad L s0.heap.size) hE r s' hF s0.heap [] _ hP va_S.rf (lv_entry av hlen)
end DR
end

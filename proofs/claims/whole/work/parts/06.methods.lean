theorem mw_X11_init : dr_mw yX11_init cX11_init 6 none 1 := ⟨dr_in (i := 87) (by decide +kernel) (by decide +kernel), dr_in (i := 67) (by decide +kernel) (by decide +kernel), by decide +kernel⟩
theorem mi_X11_init : Cond.instanceMethod yX11_init ∈ dr_tbl := dr_in (i := 86) (by decide +kernel) (by decide +kernel)
theorem mw_J9_min_7cf53 : dr_mw yJ9_min_7cf53 cJ9_min_7cf53 2 (some .int) 2 := ⟨dr_in (i := 93) (by decide +kernel) (by decide +kernel), dr_in (i := 68) (by decide +kernel) (by decide +kernel), by decide +kernel⟩
theorem ms_J9_min_7cf53 : Cond.static yJ9_min_7cf53 ∈ dr_tbl := dr_in (i := 92) (by decide +kernel) (by decide +kernel)
theorem mw_J9_max_7cf53 : dr_mw yJ9_max_7cf53 cJ9_max_7cf53 2 (some .int) 2 := ⟨dr_in (i := 96) (by decide +kernel) (by decide +kernel), dr_in (i := 68) (by decide +kernel) (by decide +kernel), by decide +kernel⟩
theorem ms_J9_max_7cf53 : Cond.static yJ9_max_7cf53 ∈ dr_tbl := dr_in (i := 95) (by decide +kernel) (by decide +kernel)
theorem mw_X4_cellsFor : dr_mw yX4_cellsFor cX4_cellsFor 1 (some .int) 1 := ⟨dr_in (i := 99) (by decide +kernel) (by decide +kernel), dr_in (i := 69) (by decide +kernel) (by decide +kernel), by decide +kernel⟩
theorem ms_X4_cellsFor : Cond.static yX4_cellsFor ∈ dr_tbl := dr_in (i := 98) (by decide +kernel) (by decide +kernel)
theorem mw_X4_widthFor : dr_mw yX4_widthFor cX4_widthFor 1 (some .int) 1 := ⟨dr_in (i := 102) (by decide +kernel) (by decide +kernel), dr_in (i := 69) (by decide +kernel) (by decide +kernel), by decide +kernel⟩
theorem ms_X4_widthFor : Cond.static yX4_widthFor ∈ dr_tbl := dr_in (i := 101) (by decide +kernel) (by decide +kernel)
theorem mw_X2_init : dr_mw yX2_init cX2_init 2 none 1 := ⟨dr_in (i := 107) (by decide +kernel) (by decide +kernel), dr_in (i := 70) (by decide +kernel) (by decide +kernel), by decide +kernel⟩
theorem mi_X2_init : Cond.instanceMethod yX2_init ∈ dr_tbl := dr_in (i := 106) (by decide +kernel) (by decide +kernel)
theorem mw_X5_init : dr_mw yX5_init cX5_init 1 none 0 := ⟨dr_in (i := 131) (by decide +kernel) (by decide +kernel), dr_in (i := 71) (by decide +kernel) (by decide +kernel), by decide +kernel⟩
theorem mi_X5_init : Cond.instanceMethod yX5_init ∈ dr_tbl := dr_in (i := 130) (by decide +kernel) (by decide +kernel)
theorem mw_X4_init : dr_mw yX4_init cX4_init 4 none 3 := ⟨dr_in (i := 153) (by decide +kernel) (by decide +kernel), dr_in (i := 69) (by decide +kernel) (by decide +kernel), by decide +kernel⟩
theorem mi_X4_init : Cond.instanceMethod yX4_init ∈ dr_tbl := dr_in (i := 152) (by decide +kernel) (by decide +kernel)
theorem mw_X4_clear : dr_mw yX4_clear cX4_clear 1 none 0 := ⟨dr_in (i := 158) (by decide +kernel) (by decide +kernel), dr_in (i := 69) (by decide +kernel) (by decide +kernel), by decide +kernel⟩
theorem mi_X4_clear : Cond.instanceMethod yX4_clear ∈ dr_tbl := dr_in (i := 156) (by decide +kernel) (by decide +kernel)
theorem msl_X4_clear : Cond.selects yX4_clear.cls yX4_clear yX4_clear ∈ dr_tbl := dr_in (i := 157) (by decide +kernel) (by decide +kernel)
theorem mw_X2_put : dr_mw yX2_put cX2_put 3 none 2 := ⟨dr_in (i := 162) (by decide +kernel) (by decide +kernel), dr_in (i := 70) (by decide +kernel) (by decide +kernel), by decide +kernel⟩
theorem mi_X2_put : Cond.instanceMethod yX2_put ∈ dr_tbl := dr_in (i := 160) (by decide +kernel) (by decide +kernel)
theorem msl_X2_put : Cond.selects yX2_put.cls yX2_put yX2_put ∈ dr_tbl := dr_in (i := 161) (by decide +kernel) (by decide +kernel)
theorem mw_X4_open : dr_mw yX4_open cX4_open 3 (some .int) 1 := ⟨dr_in (i := 166) (by decide +kernel) (by decide +kernel), dr_in (i := 69) (by decide +kernel) (by decide +kernel), by decide +kernel⟩
theorem mi_X4_open : Cond.instanceMethod yX4_open ∈ dr_tbl := dr_in (i := 164) (by decide +kernel) (by decide +kernel)
theorem msl_X4_open : Cond.selects yX4_open.cls yX4_open yX4_open ∈ dr_tbl := dr_in (i := 165) (by decide +kernel) (by decide +kernel)
theorem mw_X4_inUse : dr_mw yX4_inUse cX4_inUse 1 (some .int) 0 := ⟨dr_in (i := 170) (by decide +kernel) (by decide +kernel), dr_in (i := 69) (by decide +kernel) (by decide +kernel), by decide +kernel⟩
theorem mi_X4_inUse : Cond.instanceMethod yX4_inUse ∈ dr_tbl := dr_in (i := 168) (by decide +kernel) (by decide +kernel)
theorem msl_X4_inUse : Cond.selects yX4_inUse.cls yX4_inUse yX4_inUse ∈ dr_tbl := dr_in (i := 169) (by decide +kernel) (by decide +kernel)
theorem mw_X2_get : dr_mw yX2_get cX2_get 2 (some .int) 1 := ⟨dr_in (i := 174) (by decide +kernel) (by decide +kernel), dr_in (i := 70) (by decide +kernel) (by decide +kernel), by decide +kernel⟩
theorem mi_X2_get : Cond.instanceMethod yX2_get ∈ dr_tbl := dr_in (i := 172) (by decide +kernel) (by decide +kernel)
theorem msl_X2_get : Cond.selects yX2_get.cls yX2_get yX2_get ∈ dr_tbl := dr_in (i := 173) (by decide +kernel) (by decide +kernel)
theorem mw_X4_set : dr_mw yX4_set cX4_set 4 none 3 := ⟨dr_in (i := 178) (by decide +kernel) (by decide +kernel), dr_in (i := 69) (by decide +kernel) (by decide +kernel), by decide +kernel⟩
theorem mi_X4_set : Cond.instanceMethod yX4_set ∈ dr_tbl := dr_in (i := 176) (by decide +kernel) (by decide +kernel)
theorem msl_X4_set : Cond.selects yX4_set.cls yX4_set yX4_set ∈ dr_tbl := dr_in (i := 177) (by decide +kernel) (by decide +kernel)
theorem mw_X4_setTop : dr_mw yX4_setTop cX4_setTop 2 none 1 := ⟨dr_in (i := 182) (by decide +kernel) (by decide +kernel), dr_in (i := 69) (by decide +kernel) (by decide +kernel), by decide +kernel⟩
theorem mi_X4_setTop : Cond.instanceMethod yX4_setTop ∈ dr_tbl := dr_in (i := 180) (by decide +kernel) (by decide +kernel)
theorem msl_X4_setTop : Cond.selects yX4_setTop.cls yX4_setTop yX4_setTop ∈ dr_tbl := dr_in (i := 181) (by decide +kernel) (by decide +kernel)
theorem mw_X3_init : dr_mw yX3_init cX3_init 4 none 2 := ⟨dr_in (i := 209) (by decide +kernel) (by decide +kernel), dr_in (i := 72) (by decide +kernel) (by decide +kernel), by decide +kernel⟩
theorem mi_X3_init : Cond.instanceMethod yX3_init ∈ dr_tbl := dr_in (i := 208) (by decide +kernel) (by decide +kernel)
theorem mw_X3_set : dr_mw yX3_set cX3_set 4 none 3 := ⟨dr_in (i := 214) (by decide +kernel) (by decide +kernel), dr_in (i := 72) (by decide +kernel) (by decide +kernel), by decide +kernel⟩
theorem mi_X3_set : Cond.instanceMethod yX3_set ∈ dr_tbl := dr_in (i := 212) (by decide +kernel) (by decide +kernel)
theorem msl_X3_set : Cond.selects yX3_set.cls yX3_set yX3_set ∈ dr_tbl := dr_in (i := 213) (by decide +kernel) (by decide +kernel)
theorem mw_X3_rest : dr_mw yX3_rest cX3_rest 2 none 1 := ⟨dr_in (i := 219) (by decide +kernel) (by decide +kernel), dr_in (i := 72) (by decide +kernel) (by decide +kernel), by decide +kernel⟩
theorem mi_X3_rest : Cond.instanceMethod yX3_rest ∈ dr_tbl := dr_in (i := 217) (by decide +kernel) (by decide +kernel)
theorem msl_X3_rest : Cond.selects yX3_rest.cls yX3_rest yX3_rest ∈ dr_tbl := dr_in (i := 218) (by decide +kernel) (by decide +kernel)
theorem mw_X6_init : dr_mw yX6_init cX6_init 3 none 2 := ⟨dr_in (i := 231) (by decide +kernel) (by decide +kernel), dr_in (i := 73) (by decide +kernel) (by decide +kernel), by decide +kernel⟩
theorem mi_X6_init : Cond.instanceMethod yX6_init ∈ dr_tbl := dr_in (i := 230) (by decide +kernel) (by decide +kernel)
theorem mw_X10_init : dr_mw yX10_init cX10_init 4 none 3 := ⟨dr_in (i := 250) (by decide +kernel) (by decide +kernel), dr_in (i := 74) (by decide +kernel) (by decide +kernel), by decide +kernel⟩
theorem mi_X10_init : Cond.instanceMethod yX10_init ∈ dr_tbl := dr_in (i := 249) (by decide +kernel) (by decide +kernel)
theorem mw_X1_init : dr_mw yX1_init cX1_init 3 none 2 := ⟨dr_in (i := 266) (by decide +kernel) (by decide +kernel), dr_in (i := 75) (by decide +kernel) (by decide +kernel), by decide +kernel⟩
theorem mi_X1_init : Cond.instanceMethod yX1_init ∈ dr_tbl := dr_in (i := 265) (by decide +kernel) (by decide +kernel)
theorem mw_X7_init : dr_mw yX7_init cX7_init 2 none 1 := ⟨dr_in (i := 285) (by decide +kernel) (by decide +kernel), dr_in (i := 76) (by decide +kernel) (by decide +kernel), by decide +kernel⟩
theorem mi_X7_init : Cond.instanceMethod yX7_init ∈ dr_tbl := dr_in (i := 284) (by decide +kernel) (by decide +kernel)
theorem mw_X9_init : dr_mw yX9_init cX9_init 3 none 2 := ⟨dr_in (i := 319) (by decide +kernel) (by decide +kernel), dr_in (i := 77) (by decide +kernel) (by decide +kernel), by decide +kernel⟩
theorem mi_X9_init : Cond.instanceMethod yX9_init ∈ dr_tbl := dr_in (i := 318) (by decide +kernel) (by decide +kernel)
theorem mw_X8_init : dr_mw yX8_init cX8_init 7 none 6 := ⟨dr_in (i := 332) (by decide +kernel) (by decide +kernel), dr_in (i := 78) (by decide +kernel) (by decide +kernel), by decide +kernel⟩
theorem mi_X8_init : Cond.instanceMethod yX8_init ∈ dr_tbl := dr_in (i := 331) (by decide +kernel) (by decide +kernel)
theorem mw_X0_init : dr_mw yX0_init cX0_init 3 none 2 := ⟨dr_in (i := 366) (by decide +kernel) (by decide +kernel), dr_in (i := 79) (by decide +kernel) (by decide +kernel), by decide +kernel⟩
theorem mi_X0_init : Cond.instanceMethod yX0_init ∈ dr_tbl := dr_in (i := 365) (by decide +kernel) (by decide +kernel)
theorem mw_X11_rule : dr_mw yX11_rule cX11_rule 8 (some .int) 6 := ⟨dr_in (i := 409) (by decide +kernel) (by decide +kernel), dr_in (i := 67) (by decide +kernel) (by decide +kernel), by decide +kernel⟩
theorem mi_X11_rule : Cond.instanceMethod yX11_rule ∈ dr_tbl := dr_in (i := 407) (by decide +kernel) (by decide +kernel)
theorem msl_X11_rule : Cond.selects yX11_rule.cls yX11_rule yX11_rule ∈ dr_tbl := dr_in (i := 408) (by decide +kernel) (by decide +kernel)
theorem mw_X5_hear : dr_mw yX5_hear cX5_hear 6 none 5 := ⟨dr_in (i := 413) (by decide +kernel) (by decide +kernel), dr_in (i := 71) (by decide +kernel) (by decide +kernel), by decide +kernel⟩
theorem mi_X5_hear : Cond.instanceMethod yX5_hear ∈ dr_tbl := dr_in (i := 411) (by decide +kernel) (by decide +kernel)
theorem msl_X5_hear : Cond.selects yX5_hear.cls yX5_hear yX5_hear ∈ dr_tbl := dr_in (i := 412) (by decide +kernel) (by decide +kernel)
theorem mw_X5_faultOf : dr_mw yX5_faultOf cX5_faultOf 5 (some .int) 1 := ⟨dr_in (i := 417) (by decide +kernel) (by decide +kernel), dr_in (i := 71) (by decide +kernel) (by decide +kernel), by decide +kernel⟩
theorem mi_X5_faultOf : Cond.instanceMethod yX5_faultOf ∈ dr_tbl := dr_in (i := 415) (by decide +kernel) (by decide +kernel)
theorem msl_X5_faultOf : Cond.selects yX5_faultOf.cls yX5_faultOf yX5_faultOf ∈ dr_tbl := dr_in (i := 416) (by decide +kernel) (by decide +kernel)
theorem mw_X5_byteAt : dr_mw yX5_byteAt cX5_byteAt 3 (some .int) 1 := ⟨dr_in (i := 421) (by decide +kernel) (by decide +kernel), dr_in (i := 71) (by decide +kernel) (by decide +kernel), by decide +kernel⟩
theorem mi_X5_byteAt : Cond.instanceMethod yX5_byteAt ∈ dr_tbl := dr_in (i := 420) (by decide +kernel) (by decide +kernel)
theorem msl_X5_byteAt : Cond.selects yX5_byteAt.cls yX5_byteAt yX5_byteAt ∈ dr_tbl := dr_in (i := 0) (by decide +kernel) (by decide +kernel)
theorem mw_X5_takesLetter : dr_mw yX5_takesLetter cX5_takesLetter 4 (some .boolean) 1 := ⟨dr_in (i := 425) (by decide +kernel) (by decide +kernel), dr_in (i := 71) (by decide +kernel) (by decide +kernel), by decide +kernel⟩
theorem mi_X5_takesLetter : Cond.instanceMethod yX5_takesLetter ∈ dr_tbl := dr_in (i := 424) (by decide +kernel) (by decide +kernel)
theorem msl_X5_takesLetter : Cond.selects yX5_takesLetter.cls yX5_takesLetter yX5_takesLetter ∈ dr_tbl := dr_in (i := 1) (by decide +kernel) (by decide +kernel)
theorem mw_X5_worthOf : dr_mw yX5_worthOf cX5_worthOf 1 (some .int) 1 := ⟨dr_in (i := 428) (by decide +kernel) (by decide +kernel), dr_in (i := 71) (by decide +kernel) (by decide +kernel), by decide +kernel⟩
theorem ms_X5_worthOf : Cond.static yX5_worthOf ∈ dr_tbl := dr_in (i := 427) (by decide +kernel) (by decide +kernel)
theorem mw_J9_abs_0f7a4 : dr_mw yJ9_abs_0f7a4 cJ9_abs_0f7a4 1 (some .int) 1 := ⟨dr_in (i := 431) (by decide +kernel) (by decide +kernel), dr_in (i := 68) (by decide +kernel) (by decide +kernel), by decide +kernel⟩
theorem ms_J9_abs_0f7a4 : Cond.static yJ9_abs_0f7a4 ∈ dr_tbl := dr_in (i := 430) (by decide +kernel) (by decide +kernel)
theorem mw_X5_takesDirection : dr_mw yX5_takesDirection cX5_takesDirection 2 (some .boolean) 1 := ⟨dr_in (i := 435) (by decide +kernel) (by decide +kernel), dr_in (i := 71) (by decide +kernel) (by decide +kernel), by decide +kernel⟩
theorem mi_X5_takesDirection : Cond.instanceMethod yX5_takesDirection ∈ dr_tbl := dr_in (i := 434) (by decide +kernel) (by decide +kernel)
theorem msl_X5_takesDirection : Cond.selects yX5_takesDirection.cls yX5_takesDirection yX5_takesDirection ∈ dr_tbl := dr_in (i := 2) (by decide +kernel) (by decide +kernel)
theorem mw_X6_begun : dr_mw yX6_begun cX6_begun 1 (some .int) 0 := ⟨dr_in (i := 439) (by decide +kernel) (by decide +kernel), dr_in (i := 73) (by decide +kernel) (by decide +kernel), by decide +kernel⟩
theorem mi_X6_begun : Cond.instanceMethod yX6_begun ∈ dr_tbl := dr_in (i := 437) (by decide +kernel) (by decide +kernel)
theorem msl_X6_begun : Cond.selects yX6_begun.cls yX6_begun yX6_begun ∈ dr_tbl := dr_in (i := 438) (by decide +kernel) (by decide +kernel)
theorem mw_X5_keepWhatWasRead : dr_mw yX5_keepWhatWasRead cX5_keepWhatWasRead 1 none 0 := ⟨dr_in (i := 444) (by decide +kernel) (by decide +kernel), dr_in (i := 71) (by decide +kernel) (by decide +kernel), by decide +kernel⟩
theorem mi_X5_keepWhatWasRead : Cond.instanceMethod yX5_keepWhatWasRead ∈ dr_tbl := dr_in (i := 442) (by decide +kernel) (by decide +kernel)
theorem msl_X5_keepWhatWasRead : Cond.selects yX5_keepWhatWasRead.cls yX5_keepWhatWasRead yX5_keepWhatWasRead ∈ dr_tbl := dr_in (i := 443) (by decide +kernel) (by decide +kernel)
theorem mw_X11_ahead : dr_mw yX11_ahead cX11_ahead 3 (some .int) 2 := ⟨dr_in (i := 451) (by decide +kernel) (by decide +kernel), dr_in (i := 67) (by decide +kernel) (by decide +kernel), by decide +kernel⟩
theorem mi_X11_ahead : Cond.instanceMethod yX11_ahead ∈ dr_tbl := dr_in (i := 449) (by decide +kernel) (by decide +kernel)
theorem msl_X11_ahead : Cond.selects yX11_ahead.cls yX11_ahead yX11_ahead ∈ dr_tbl := dr_in (i := 450) (by decide +kernel) (by decide +kernel)
theorem mw_X11_isHeading : dr_mw yX11_isHeading cX11_isHeading 1 (some .boolean) 1 := ⟨dr_in (i := 454) (by decide +kernel) (by decide +kernel), dr_in (i := 67) (by decide +kernel) (by decide +kernel), by decide +kernel⟩
theorem ms_X11_isHeading : Cond.static yX11_isHeading ∈ dr_tbl := dr_in (i := 453) (by decide +kernel) (by decide +kernel)
theorem mw_X5_isAhead : dr_mw yX5_isAhead cX5_isAhead 8 (some .boolean) 2 := ⟨dr_in (i := 458) (by decide +kernel) (by decide +kernel), dr_in (i := 71) (by decide +kernel) (by decide +kernel), by decide +kernel⟩
theorem mi_X5_isAhead : Cond.instanceMethod yX5_isAhead ∈ dr_tbl := dr_in (i := 456) (by decide +kernel) (by decide +kernel)
theorem msl_X5_isAhead : Cond.selects yX5_isAhead.cls yX5_isAhead yX5_isAhead ∈ dr_tbl := dr_in (i := 457) (by decide +kernel) (by decide +kernel)
theorem mw_X11_fault : dr_mw yX11_fault cX11_fault 3 (some .boolean) 2 := ⟨dr_in (i := 462) (by decide +kernel) (by decide +kernel), dr_in (i := 67) (by decide +kernel) (by decide +kernel), by decide +kernel⟩
theorem mi_X11_fault : Cond.instanceMethod yX11_fault ∈ dr_tbl := dr_in (i := 460) (by decide +kernel) (by decide +kernel)
theorem msl_X11_fault : Cond.selects yX11_fault.cls yX11_fault yX11_fault ∈ dr_tbl := dr_in (i := 461) (by decide +kernel) (by decide +kernel)
theorem mw_X11_isIdleClerk : dr_mw yX11_isIdleClerk cX11_isIdleClerk 2 (some .boolean) 1 := ⟨dr_in (i := 466) (by decide +kernel) (by decide +kernel), dr_in (i := 67) (by decide +kernel) (by decide +kernel), by decide +kernel⟩
theorem mi_X11_isIdleClerk : Cond.instanceMethod yX11_isIdleClerk ∈ dr_tbl := dr_in (i := 465) (by decide +kernel) (by decide +kernel)
theorem msl_X11_isIdleClerk : Cond.selects yX11_isIdleClerk.cls yX11_isIdleClerk yX11_isIdleClerk ∈ dr_tbl := dr_in (i := 3) (by decide +kernel) (by decide +kernel)
theorem mw_X11_isClerk : dr_mw yX11_isClerk cX11_isClerk 1 (some .boolean) 1 := ⟨dr_in (i := 469) (by decide +kernel) (by decide +kernel), dr_in (i := 67) (by decide +kernel) (by decide +kernel), by decide +kernel⟩
theorem ms_X11_isClerk : Cond.static yX11_isClerk ∈ dr_tbl := dr_in (i := 468) (by decide +kernel) (by decide +kernel)
theorem mw_X3_isIdle : dr_mw yX3_isIdle cX3_isIdle 2 (some .boolean) 1 := ⟨dr_in (i := 473) (by decide +kernel) (by decide +kernel), dr_in (i := 72) (by decide +kernel) (by decide +kernel), by decide +kernel⟩
theorem mi_X3_isIdle : Cond.instanceMethod yX3_isIdle ∈ dr_tbl := dr_in (i := 471) (by decide +kernel) (by decide +kernel)
theorem msl_X3_isIdle : Cond.selects yX3_isIdle.cls yX3_isIdle yX3_isIdle ∈ dr_tbl := dr_in (i := 472) (by decide +kernel) (by decide +kernel)
theorem mw_X3_get : dr_mw yX3_get cX3_get 3 (some .int) 2 := ⟨dr_in (i := 477) (by decide +kernel) (by decide +kernel), dr_in (i := 72) (by decide +kernel) (by decide +kernel), by decide +kernel⟩
theorem mi_X3_get : Cond.instanceMethod yX3_get ∈ dr_tbl := dr_in (i := 475) (by decide +kernel) (by decide +kernel)
theorem msl_X3_get : Cond.selects yX3_get.cls yX3_get yX3_get ∈ dr_tbl := dr_in (i := 476) (by decide +kernel) (by decide +kernel)
theorem mw_X11_begin : dr_mw yX11_begin cX11_begin 5 (some .int) 3 := ⟨dr_in (i := 483) (by decide +kernel) (by decide +kernel), dr_in (i := 67) (by decide +kernel) (by decide +kernel), by decide +kernel⟩
theorem mi_X11_begin : Cond.instanceMethod yX11_begin ∈ dr_tbl := dr_in (i := 481) (by decide +kernel) (by decide +kernel)
theorem msl_X11_begin : Cond.selects yX11_begin.cls yX11_begin yX11_begin ∈ dr_tbl := dr_in (i := 482) (by decide +kernel) (by decide +kernel)
theorem mw_X6_open : dr_mw yX6_open cX6_open 4 (some .int) 2 := ⟨dr_in (i := 488) (by decide +kernel) (by decide +kernel), dr_in (i := 73) (by decide +kernel) (by decide +kernel), by decide +kernel⟩
theorem mi_X6_open : Cond.instanceMethod yX6_open ∈ dr_tbl := dr_in (i := 486) (by decide +kernel) (by decide +kernel)
theorem msl_X6_open : Cond.selects yX6_open.cls yX6_open yX6_open ∈ dr_tbl := dr_in (i := 487) (by decide +kernel) (by decide +kernel)
theorem mw_X6_set : dr_mw yX6_set cX6_set 4 none 3 := ⟨dr_in (i := 494) (by decide +kernel) (by decide +kernel), dr_in (i := 73) (by decide +kernel) (by decide +kernel), by decide +kernel⟩
theorem mi_X6_set : Cond.instanceMethod yX6_set ∈ dr_tbl := dr_in (i := 492) (by decide +kernel) (by decide +kernel)
theorem msl_X6_set : Cond.selects yX6_set.cls yX6_set yX6_set ∈ dr_tbl := dr_in (i := 493) (by decide +kernel) (by decide +kernel)
theorem mw_X6_time : dr_mw yX6_time cX6_time 1 (some .int) 0 := ⟨dr_in (i := 498) (by decide +kernel) (by decide +kernel), dr_in (i := 73) (by decide +kernel) (by decide +kernel), by decide +kernel⟩
theorem mi_X6_time : Cond.instanceMethod yX6_time ∈ dr_tbl := dr_in (i := 496) (by decide +kernel) (by decide +kernel)
theorem msl_X6_time : Cond.selects yX6_time.cls yX6_time yX6_time ∈ dr_tbl := dr_in (i := 497) (by decide +kernel) (by decide +kernel)
theorem mw_X4_top : dr_mw yX4_top cX4_top 1 (some .int) 0 := ⟨dr_in (i := 502) (by decide +kernel) (by decide +kernel), dr_in (i := 69) (by decide +kernel) (by decide +kernel), by decide +kernel⟩
theorem mi_X4_top : Cond.instanceMethod yX4_top ∈ dr_tbl := dr_in (i := 500) (by decide +kernel) (by decide +kernel)
theorem msl_X4_top : Cond.selects yX4_top.cls yX4_top yX4_top ∈ dr_tbl := dr_in (i := 501) (by decide +kernel) (by decide +kernel)
theorem mw_X3_startReading : dr_mw yX3_startReading cX3_startReading 3 none 2 := ⟨dr_in (i := 506) (by decide +kernel) (by decide +kernel), dr_in (i := 72) (by decide +kernel) (by decide +kernel), by decide +kernel⟩
theorem mi_X3_startReading : Cond.instanceMethod yX3_startReading ∈ dr_tbl := dr_in (i := 504) (by decide +kernel) (by decide +kernel)
theorem msl_X3_startReading : Cond.selects yX3_startReading.cls yX3_startReading yX3_startReading ∈ dr_tbl := dr_in (i := 505) (by decide +kernel) (by decide +kernel)
theorem mw_X2_fill : dr_mw yX2_fill cX2_fill 5 none 3 := ⟨dr_in (i := 510) (by decide +kernel) (by decide +kernel), dr_in (i := 70) (by decide +kernel) (by decide +kernel), by decide +kernel⟩
theorem mi_X2_fill : Cond.instanceMethod yX2_fill ∈ dr_tbl := dr_in (i := 508) (by decide +kernel) (by decide +kernel)
theorem msl_X2_fill : Cond.selects yX2_fill.cls yX2_fill yX2_fill ∈ dr_tbl := dr_in (i := 509) (by decide +kernel) (by decide +kernel)
theorem mw_X11_step : dr_mw yX11_step cX11_step 4 (some .int) 2 := ⟨dr_in (i := 515) (by decide +kernel) (by decide +kernel), dr_in (i := 67) (by decide +kernel) (by decide +kernel), by decide +kernel⟩
theorem mi_X11_step : Cond.instanceMethod yX11_step ∈ dr_tbl := dr_in (i := 513) (by decide +kernel) (by decide +kernel)
theorem msl_X11_step : Cond.selects yX11_step.cls yX11_step yX11_step ∈ dr_tbl := dr_in (i := 514) (by decide +kernel) (by decide +kernel)
theorem mw_X10_go : dr_mw yX10_go cX10_go 2 none 1 := ⟨dr_in (i := 519) (by decide +kernel) (by decide +kernel), dr_in (i := 74) (by decide +kernel) (by decide +kernel), by decide +kernel⟩
theorem mi_X10_go : Cond.instanceMethod yX10_go ∈ dr_tbl := dr_in (i := 517) (by decide +kernel) (by decide +kernel)
theorem msl_X10_go : Cond.selects yX10_go.cls yX10_go yX10_go ∈ dr_tbl := dr_in (i := 518) (by decide +kernel) (by decide +kernel)
theorem mw_X6_passStep : dr_mw yX6_passStep cX6_passStep 2 none 1 := ⟨dr_in (i := 524) (by decide +kernel) (by decide +kernel), dr_in (i := 73) (by decide +kernel) (by decide +kernel), by decide +kernel⟩
theorem mi_X6_passStep : Cond.instanceMethod yX6_passStep ∈ dr_tbl := dr_in (i := 522) (by decide +kernel) (by decide +kernel)
theorem msl_X6_passStep : Cond.selects yX6_passStep.cls yX6_passStep yX6_passStep ∈ dr_tbl := dr_in (i := 523) (by decide +kernel) (by decide +kernel)
theorem mw_X6_get : dr_mw yX6_get cX6_get 3 (some .int) 2 := ⟨dr_in (i := 528) (by decide +kernel) (by decide +kernel), dr_in (i := 73) (by decide +kernel) (by decide +kernel), by decide +kernel⟩
theorem mi_X6_get : Cond.instanceMethod yX6_get ∈ dr_tbl := dr_in (i := 526) (by decide +kernel) (by decide +kernel)
theorem msl_X6_get : Cond.selects yX6_get.cls yX6_get yX6_get ∈ dr_tbl := dr_in (i := 527) (by decide +kernel) (by decide +kernel)
theorem mw_X10_read : dr_mw yX10_read cX10_read 5 none 1 := ⟨dr_in (i := 532) (by decide +kernel) (by decide +kernel), dr_in (i := 74) (by decide +kernel) (by decide +kernel), by decide +kernel⟩
theorem mi_X10_read : Cond.instanceMethod yX10_read ∈ dr_tbl := dr_in (i := 531) (by decide +kernel) (by decide +kernel)
theorem msl_X10_read : Cond.selects yX10_read.cls yX10_read yX10_read ∈ dr_tbl := dr_in (i := 4) (by decide +kernel) (by decide +kernel)
theorem mw_X4_get : dr_mw yX4_get cX4_get 3 (some .int) 2 := ⟨dr_in (i := 536) (by decide +kernel) (by decide +kernel), dr_in (i := 69) (by decide +kernel) (by decide +kernel), by decide +kernel⟩
theorem mi_X4_get : Cond.instanceMethod yX4_get ∈ dr_tbl := dr_in (i := 534) (by decide +kernel) (by decide +kernel)
theorem msl_X4_get : Cond.selects yX4_get.cls yX4_get yX4_get ∈ dr_tbl := dr_in (i := 535) (by decide +kernel) (by decide +kernel)
theorem mw_X10_mustGoOn : dr_mw yX10_mustGoOn cX10_mustGoOn 4 (some .boolean) 3 := ⟨dr_in (i := 540) (by decide +kernel) (by decide +kernel), dr_in (i := 74) (by decide +kernel) (by decide +kernel), by decide +kernel⟩
theorem mi_X10_mustGoOn : Cond.instanceMethod yX10_mustGoOn ∈ dr_tbl := dr_in (i := 539) (by decide +kernel) (by decide +kernel)
theorem msl_X10_mustGoOn : Cond.selects yX10_mustGoOn.cls yX10_mustGoOn yX10_mustGoOn ∈ dr_tbl := dr_in (i := 5) (by decide +kernel) (by decide +kernel)
theorem mw_X4_covers : dr_mw yX4_covers cX4_covers 4 (some .boolean) 2 := ⟨dr_in (i := 544) (by decide +kernel) (by decide +kernel), dr_in (i := 69) (by decide +kernel) (by decide +kernel), by decide +kernel⟩
theorem mi_X4_covers : Cond.instanceMethod yX4_covers ∈ dr_tbl := dr_in (i := 542) (by decide +kernel) (by decide +kernel)
theorem msl_X4_covers : Cond.selects yX4_covers.cls yX4_covers yX4_covers ∈ dr_tbl := dr_in (i := 543) (by decide +kernel) (by decide +kernel)
theorem mw_X3_keepPath : dr_mw yX3_keepPath cX3_keepPath 4 none 3 := ⟨dr_in (i := 551) (by decide +kernel) (by decide +kernel), dr_in (i := 72) (by decide +kernel) (by decide +kernel), by decide +kernel⟩
theorem mi_X3_keepPath : Cond.instanceMethod yX3_keepPath ∈ dr_tbl := dr_in (i := 549) (by decide +kernel) (by decide +kernel)
theorem msl_X3_keepPath : Cond.selects yX3_keepPath.cls yX3_keepPath yX3_keepPath ∈ dr_tbl := dr_in (i := 550) (by decide +kernel) (by decide +kernel)
theorem mw_X4_wayOf : dr_mw yX4_wayOf cX4_wayOf 6 (some .int) 2 := ⟨dr_in (i := 555) (by decide +kernel) (by decide +kernel), dr_in (i := 69) (by decide +kernel) (by decide +kernel), by decide +kernel⟩
theorem mi_X4_wayOf : Cond.instanceMethod yX4_wayOf ∈ dr_tbl := dr_in (i := 553) (by decide +kernel) (by decide +kernel)
theorem msl_X4_wayOf : Cond.selects yX4_wayOf.cls yX4_wayOf yX4_wayOf ∈ dr_tbl := dr_in (i := 554) (by decide +kernel) (by decide +kernel)
theorem mw_X4_child : dr_mw yX4_child cX4_child 4 (some .int) 2 := ⟨dr_in (i := 559) (by decide +kernel) (by decide +kernel), dr_in (i := 69) (by decide +kernel) (by decide +kernel), by decide +kernel⟩
theorem mi_X4_child : Cond.instanceMethod yX4_child ∈ dr_tbl := dr_in (i := 557) (by decide +kernel) (by decide +kernel)
theorem msl_X4_child : Cond.selects yX4_child.cls yX4_child yX4_child ∈ dr_tbl := dr_in (i := 558) (by decide +kernel) (by decide +kernel)
theorem mw_X10_kindOf : dr_mw yX10_kindOf cX10_kindOf 2 (some .int) 1 := ⟨dr_in (i := 563) (by decide +kernel) (by decide +kernel), dr_in (i := 74) (by decide +kernel) (by decide +kernel), by decide +kernel⟩
theorem mi_X10_kindOf : Cond.instanceMethod yX10_kindOf ∈ dr_tbl := dr_in (i := 562) (by decide +kernel) (by decide +kernel)
theorem msl_X10_kindOf : Cond.selects yX10_kindOf.cls yX10_kindOf yX10_kindOf ∈ dr_tbl := dr_in (i := 6) (by decide +kernel) (by decide +kernel)
theorem mw_X4_placeOf : dr_mw yX4_placeOf cX4_placeOf 6 (some .int) 2 := ⟨dr_in (i := 568) (by decide +kernel) (by decide +kernel), dr_in (i := 69) (by decide +kernel) (by decide +kernel), by decide +kernel⟩
theorem mi_X4_placeOf : Cond.instanceMethod yX4_placeOf ∈ dr_tbl := dr_in (i := 566) (by decide +kernel) (by decide +kernel)
theorem msl_X4_placeOf : Cond.selects yX4_placeOf.cls yX4_placeOf yX4_placeOf ∈ dr_tbl := dr_in (i := 567) (by decide +kernel) (by decide +kernel)
theorem mw_X10_end : dr_mw yX10_end cX10_end 3 none 2 := ⟨dr_in (i := 572) (by decide +kernel) (by decide +kernel), dr_in (i := 74) (by decide +kernel) (by decide +kernel), by decide +kernel⟩
theorem mi_X10_end : Cond.instanceMethod yX10_end ∈ dr_tbl := dr_in (i := 571) (by decide +kernel) (by decide +kernel)
theorem msl_X10_end : Cond.selects yX10_end.cls yX10_end yX10_end ∈ dr_tbl := dr_in (i := 7) (by decide +kernel) (by decide +kernel)
theorem mw_X6_end : dr_mw yX6_end cX6_end 3 none 2 := ⟨dr_in (i := 576) (by decide +kernel) (by decide +kernel), dr_in (i := 73) (by decide +kernel) (by decide +kernel), by decide +kernel⟩
theorem mi_X6_end : Cond.instanceMethod yX6_end ∈ dr_tbl := dr_in (i := 574) (by decide +kernel) (by decide +kernel)
theorem msl_X6_end : Cond.selects yX6_end.cls yX6_end yX6_end ∈ dr_tbl := dr_in (i := 575) (by decide +kernel) (by decide +kernel)
theorem mw_X10_isFree : dr_mw yX10_isFree cX10_isFree 4 (some .boolean) 2 := ⟨dr_in (i := 581) (by decide +kernel) (by decide +kernel), dr_in (i := 74) (by decide +kernel) (by decide +kernel), by decide +kernel⟩
theorem mi_X10_isFree : Cond.instanceMethod yX10_isFree ∈ dr_tbl := dr_in (i := 580) (by decide +kernel) (by decide +kernel)
theorem msl_X10_isFree : Cond.selects yX10_isFree.cls yX10_isFree yX10_isFree ∈ dr_tbl := dr_in (i := 8) (by decide +kernel) (by decide +kernel)
theorem mw_X10_latch : dr_mw yX10_latch cX10_latch 3 none 2 := ⟨dr_in (i := 585) (by decide +kernel) (by decide +kernel), dr_in (i := 74) (by decide +kernel) (by decide +kernel), by decide +kernel⟩
theorem mi_X10_latch : Cond.instanceMethod yX10_latch ∈ dr_tbl := dr_in (i := 584) (by decide +kernel) (by decide +kernel)
theorem msl_X10_latch : Cond.selects yX10_latch.cls yX10_latch yX10_latch ∈ dr_tbl := dr_in (i := 9) (by decide +kernel) (by decide +kernel)
theorem mw_X10_hold : dr_mw yX10_hold cX10_hold 3 none 1 := ⟨dr_in (i := 590) (by decide +kernel) (by decide +kernel), dr_in (i := 74) (by decide +kernel) (by decide +kernel), by decide +kernel⟩
theorem mi_X10_hold : Cond.instanceMethod yX10_hold ∈ dr_tbl := dr_in (i := 589) (by decide +kernel) (by decide +kernel)
theorem msl_X10_hold : Cond.selects yX10_hold.cls yX10_hold yX10_hold ∈ dr_tbl := dr_in (i := 10) (by decide +kernel) (by decide +kernel)
theorem mw_X4_copyOf : dr_mw yX4_copyOf cX4_copyOf 1 (some .int) 1 := ⟨dr_in (i := 593) (by decide +kernel) (by decide +kernel), dr_in (i := 69) (by decide +kernel) (by decide +kernel), by decide +kernel⟩
theorem ms_X4_copyOf : Cond.static yX4_copyOf ∈ dr_tbl := dr_in (i := 592) (by decide +kernel) (by decide +kernel)
theorem mw_X4_bring : dr_mw yX4_bring cX4_bring 6 none 2 := ⟨dr_in (i := 597) (by decide +kernel) (by decide +kernel), dr_in (i := 69) (by decide +kernel) (by decide +kernel), by decide +kernel⟩
theorem mi_X4_bring : Cond.instanceMethod yX4_bring ∈ dr_tbl := dr_in (i := 595) (by decide +kernel) (by decide +kernel)
theorem msl_X4_bring : Cond.selects yX4_bring.cls yX4_bring yX4_bring ∈ dr_tbl := dr_in (i := 596) (by decide +kernel) (by decide +kernel)
theorem mw_X2_copy : dr_mw yX2_copy cX2_copy 5 none 3 := ⟨dr_in (i := 601) (by decide +kernel) (by decide +kernel), dr_in (i := 70) (by decide +kernel) (by decide +kernel), by decide +kernel⟩
theorem mi_X2_copy : Cond.instanceMethod yX2_copy ∈ dr_tbl := dr_in (i := 599) (by decide +kernel) (by decide +kernel)
theorem msl_X2_copy : Cond.selects yX2_copy.cls yX2_copy yX2_copy ∈ dr_tbl := dr_in (i := 600) (by decide +kernel) (by decide +kernel)
theorem mw_X10_moveTo : dr_mw yX10_moveTo cX10_moveTo 3 none 2 := ⟨dr_in (i := 606) (by decide +kernel) (by decide +kernel), dr_in (i := 74) (by decide +kernel) (by decide +kernel), by decide +kernel⟩
theorem mi_X10_moveTo : Cond.instanceMethod yX10_moveTo ∈ dr_tbl := dr_in (i := 605) (by decide +kernel) (by decide +kernel)
theorem msl_X10_moveTo : Cond.selects yX10_moveTo.cls yX10_moveTo yX10_moveTo ∈ dr_tbl := dr_in (i := 11) (by decide +kernel) (by decide +kernel)
theorem mw_X10_letGo : dr_mw yX10_letGo cX10_letGo 3 none 2 := ⟨dr_in (i := 610) (by decide +kernel) (by decide +kernel), dr_in (i := 74) (by decide +kernel) (by decide +kernel), by decide +kernel⟩
theorem mi_X10_letGo : Cond.instanceMethod yX10_letGo ∈ dr_tbl := dr_in (i := 609) (by decide +kernel) (by decide +kernel)
theorem msl_X10_letGo : Cond.selects yX10_letGo.cls yX10_letGo yX10_letGo ∈ dr_tbl := dr_in (i := 12) (by decide +kernel) (by decide +kernel)
theorem mw_X10_write : dr_mw yX10_write cX10_write 4 none 1 := ⟨dr_in (i := 614) (by decide +kernel) (by decide +kernel), dr_in (i := 74) (by decide +kernel) (by decide +kernel), by decide +kernel⟩
theorem mi_X10_write : Cond.instanceMethod yX10_write ∈ dr_tbl := dr_in (i := 613) (by decide +kernel) (by decide +kernel)
theorem msl_X10_write : Cond.selects yX10_write.cls yX10_write yX10_write ∈ dr_tbl := dr_in (i := 13) (by decide +kernel) (by decide +kernel)
theorem mw_X10_writeGuide : dr_mw yX10_writeGuide cX10_writeGuide 6 none 2 := ⟨dr_in (i := 618) (by decide +kernel) (by decide +kernel), dr_in (i := 74) (by decide +kernel) (by decide +kernel), by decide +kernel⟩
theorem mi_X10_writeGuide : Cond.instanceMethod yX10_writeGuide ∈ dr_tbl := dr_in (i := 617) (by decide +kernel) (by decide +kernel)
theorem msl_X10_writeGuide : Cond.selects yX10_writeGuide.cls yX10_writeGuide yX10_writeGuide ∈ dr_tbl := dr_in (i := 14) (by decide +kernel) (by decide +kernel)
theorem mw_X4_insert : dr_mw yX4_insert cX4_insert 9 none 4 := ⟨dr_in (i := 622) (by decide +kernel) (by decide +kernel), dr_in (i := 69) (by decide +kernel) (by decide +kernel), by decide +kernel⟩
theorem mi_X4_insert : Cond.instanceMethod yX4_insert ∈ dr_tbl := dr_in (i := 620) (by decide +kernel) (by decide +kernel)
theorem msl_X4_insert : Cond.selects yX4_insert.cls yX4_insert yX4_insert ∈ dr_tbl := dr_in (i := 621) (by decide +kernel) (by decide +kernel)
theorem mw_X4_setChild : dr_mw yX4_setChild cX4_setChild 4 none 3 := ⟨dr_in (i := 626) (by decide +kernel) (by decide +kernel), dr_in (i := 69) (by decide +kernel) (by decide +kernel), by decide +kernel⟩
theorem mi_X4_setChild : Cond.instanceMethod yX4_setChild ∈ dr_tbl := dr_in (i := 624) (by decide +kernel) (by decide +kernel)
theorem msl_X4_setChild : Cond.selects yX4_setChild.cls yX4_setChild yX4_setChild ∈ dr_tbl := dr_in (i := 625) (by decide +kernel) (by decide +kernel)
theorem mw_X10_writeCard : dr_mw yX10_writeCard cX10_writeCard 6 (some .boolean) 2 := ⟨dr_in (i := 630) (by decide +kernel) (by decide +kernel), dr_in (i := 74) (by decide +kernel) (by decide +kernel), by decide +kernel⟩
theorem mi_X10_writeCard : Cond.instanceMethod yX10_writeCard ∈ dr_tbl := dr_in (i := 629) (by decide +kernel) (by decide +kernel)
theorem msl_X10_writeCard : Cond.selects yX10_writeCard.cls yX10_writeCard yX10_writeCard ∈ dr_tbl := dr_in (i := 15) (by decide +kernel) (by decide +kernel)
theorem mw_X4_remove : dr_mw yX4_remove cX4_remove 5 none 2 := ⟨dr_in (i := 634) (by decide +kernel) (by decide +kernel), dr_in (i := 69) (by decide +kernel) (by decide +kernel), by decide +kernel⟩
theorem mi_X4_remove : Cond.instanceMethod yX4_remove ∈ dr_tbl := dr_in (i := 632) (by decide +kernel) (by decide +kernel)
theorem msl_X4_remove : Cond.selects yX4_remove.cls yX4_remove yX4_remove ∈ dr_tbl := dr_in (i := 633) (by decide +kernel) (by decide +kernel)
theorem mw_X6_changeCards : dr_mw yX6_changeCards cX6_changeCards 2 none 1 := ⟨dr_in (i := 638) (by decide +kernel) (by decide +kernel), dr_in (i := 73) (by decide +kernel) (by decide +kernel), by decide +kernel⟩
theorem mi_X6_changeCards : Cond.instanceMethod yX6_changeCards ∈ dr_tbl := dr_in (i := 636) (by decide +kernel) (by decide +kernel)
theorem msl_X6_changeCards : Cond.selects yX6_changeCards.cls yX6_changeCards yX6_changeCards ∈ dr_tbl := dr_in (i := 637) (by decide +kernel) (by decide +kernel)
theorem mw_X4_half : dr_mw yX4_half cX4_half 1 (some .int) 0 := ⟨dr_in (i := 642) (by decide +kernel) (by decide +kernel), dr_in (i := 69) (by decide +kernel) (by decide +kernel), by decide +kernel⟩
theorem mi_X4_half : Cond.instanceMethod yX4_half ∈ dr_tbl := dr_in (i := 640) (by decide +kernel) (by decide +kernel)
theorem msl_X4_half : Cond.selects yX4_half.cls yX4_half yX4_half ∈ dr_tbl := dr_in (i := 641) (by decide +kernel) (by decide +kernel)
theorem mw_X4_part : dr_mw yX4_part cX4_part 8 (some .int) 1 := ⟨dr_in (i := 646) (by decide +kernel) (by decide +kernel), dr_in (i := 69) (by decide +kernel) (by decide +kernel), by decide +kernel⟩
theorem mi_X4_part : Cond.instanceMethod yX4_part ∈ dr_tbl := dr_in (i := 644) (by decide +kernel) (by decide +kernel)
theorem msl_X4_part : Cond.selects yX4_part.cls yX4_part yX4_part ∈ dr_tbl := dr_in (i := 645) (by decide +kernel) (by decide +kernel)
theorem mw_X10_climb : dr_mw yX10_climb cX10_climb 5 none 1 := ⟨dr_in (i := 650) (by decide +kernel) (by decide +kernel), dr_in (i := 74) (by decide +kernel) (by decide +kernel), by decide +kernel⟩
theorem mi_X10_climb : Cond.instanceMethod yX10_climb ∈ dr_tbl := dr_in (i := 649) (by decide +kernel) (by decide +kernel)
theorem msl_X10_climb : Cond.selects yX10_climb.cls yX10_climb yX10_climb ∈ dr_tbl := dr_in (i := 16) (by decide +kernel) (by decide +kernel)
theorem mw_X4_raise : dr_mw yX4_raise cX4_raise 5 none 3 := ⟨dr_in (i := 655) (by decide +kernel) (by decide +kernel), dr_in (i := 69) (by decide +kernel) (by decide +kernel), by decide +kernel⟩
theorem mi_X4_raise : Cond.instanceMethod yX4_raise ∈ dr_tbl := dr_in (i := 653) (by decide +kernel) (by decide +kernel)
theorem msl_X4_raise : Cond.selects yX4_raise.cls yX4_raise yX4_raise ∈ dr_tbl := dr_in (i := 654) (by decide +kernel) (by decide +kernel)
theorem mw_X4_addHeading : dr_mw yX4_addHeading cX4_addHeading 4 none 2 := ⟨dr_in (i := 659) (by decide +kernel) (by decide +kernel), dr_in (i := 69) (by decide +kernel) (by decide +kernel), by decide +kernel⟩
theorem mi_X4_addHeading : Cond.instanceMethod yX4_addHeading ∈ dr_tbl := dr_in (i := 657) (by decide +kernel) (by decide +kernel)
theorem msl_X4_addHeading : Cond.selects yX4_addHeading.cls yX4_addHeading yX4_addHeading ∈ dr_tbl := dr_in (i := 658) (by decide +kernel) (by decide +kernel)
theorem mw_X3_path : dr_mw yX3_path cX3_path 3 (some .int) 2 := ⟨dr_in (i := 664) (by decide +kernel) (by decide +kernel), dr_in (i := 72) (by decide +kernel) (by decide +kernel), by decide +kernel⟩
theorem mi_X3_path : Cond.instanceMethod yX3_path ∈ dr_tbl := dr_in (i := 662) (by decide +kernel) (by decide +kernel)
theorem msl_X3_path : Cond.selects yX3_path.cls yX3_path yX3_path ∈ dr_tbl := dr_in (i := 663) (by decide +kernel) (by decide +kernel)
theorem mw_X4_firstOf : dr_mw yX4_firstOf cX4_firstOf 4 (some .int) 1 := ⟨dr_in (i := 668) (by decide +kernel) (by decide +kernel), dr_in (i := 69) (by decide +kernel) (by decide +kernel), by decide +kernel⟩
theorem mi_X4_firstOf : Cond.instanceMethod yX4_firstOf ∈ dr_tbl := dr_in (i := 666) (by decide +kernel) (by decide +kernel)
theorem msl_X4_firstOf : Cond.selects yX4_firstOf.cls yX4_firstOf yX4_firstOf ∈ dr_tbl := dr_in (i := 667) (by decide +kernel) (by decide +kernel)
theorem mw_X11_clerk : dr_mw yX11_clerk cX11_clerk 3 (some .int) 2 := ⟨dr_in (i := 674) (by decide +kernel) (by decide +kernel), dr_in (i := 67) (by decide +kernel) (by decide +kernel), by decide +kernel⟩
theorem mi_X11_clerk : Cond.instanceMethod yX11_clerk ∈ dr_tbl := dr_in (i := 672) (by decide +kernel) (by decide +kernel)
theorem msl_X11_clerk : Cond.selects yX11_clerk.cls yX11_clerk yX11_clerk ∈ dr_tbl := dr_in (i := 673) (by decide +kernel) (by decide +kernel)
theorem mw_X11_job : dr_mw yX11_job cX11_job 3 (some .int) 2 := ⟨dr_in (i := 679) (by decide +kernel) (by decide +kernel), dr_in (i := 67) (by decide +kernel) (by decide +kernel), by decide +kernel⟩
theorem mi_X11_job : Cond.instanceMethod yX11_job ∈ dr_tbl := dr_in (i := 677) (by decide +kernel) (by decide +kernel)
theorem msl_X11_job : Cond.selects yX11_job.cls yX11_job yX11_job ∈ dr_tbl := dr_in (i := 678) (by decide +kernel) (by decide +kernel)
theorem mw_X11_drawer : dr_mw yX11_drawer cX11_drawer 4 (some .int) 2 := ⟨dr_in (i := 684) (by decide +kernel) (by decide +kernel), dr_in (i := 67) (by decide +kernel) (by decide +kernel), by decide +kernel⟩
theorem mi_X11_drawer : Cond.instanceMethod yX11_drawer ∈ dr_tbl := dr_in (i := 682) (by decide +kernel) (by decide +kernel)
theorem msl_X11_drawer : Cond.selects yX11_drawer.cls yX11_drawer yX11_drawer ∈ dr_tbl := dr_in (i := 683) (by decide +kernel) (by decide +kernel)
theorem mw_X11_at : dr_mw yX11_at cX11_at 4 (some .int) 3 := ⟨dr_in (i := 689) (by decide +kernel) (by decide +kernel), dr_in (i := 67) (by decide +kernel) (by decide +kernel), by decide +kernel⟩
theorem mi_X11_at : Cond.instanceMethod yX11_at ∈ dr_tbl := dr_in (i := 687) (by decide +kernel) (by decide +kernel)
theorem msl_X11_at : Cond.selects yX11_at.cls yX11_at yX11_at ∈ dr_tbl := dr_in (i := 688) (by decide +kernel) (by decide +kernel)
theorem mw_X4_heading : dr_mw yX4_heading cX4_heading 3 (some .int) 2 := ⟨dr_in (i := 694) (by decide +kernel) (by decide +kernel), dr_in (i := 69) (by decide +kernel) (by decide +kernel), by decide +kernel⟩
theorem mi_X4_heading : Cond.instanceMethod yX4_heading ∈ dr_tbl := dr_in (i := 692) (by decide +kernel) (by decide +kernel)
theorem msl_X4_heading : Cond.selects yX4_heading.cls yX4_heading yX4_heading ∈ dr_tbl := dr_in (i := 693) (by decide +kernel) (by decide +kernel)
theorem mw_X11_nth : dr_mw yX11_nth cX11_nth 2 (some .int) 1 := ⟨dr_in (i := 698) (by decide +kernel) (by decide +kernel), dr_in (i := 67) (by decide +kernel) (by decide +kernel), by decide +kernel⟩
theorem mi_X11_nth : Cond.instanceMethod yX11_nth ∈ dr_tbl := dr_in (i := 696) (by decide +kernel) (by decide +kernel)
theorem msl_X11_nth : Cond.selects yX11_nth.cls yX11_nth yX11_nth ∈ dr_tbl := dr_in (i := 697) (by decide +kernel) (by decide +kernel)
theorem mw_X1_kth : dr_mw yX1_kth cX1_kth 6 (some .int) 1 := ⟨dr_in (i := 702) (by decide +kernel) (by decide +kernel), dr_in (i := 75) (by decide +kernel) (by decide +kernel), by decide +kernel⟩
theorem mi_X1_kth : Cond.instanceMethod yX1_kth ∈ dr_tbl := dr_in (i := 700) (by decide +kernel) (by decide +kernel)
theorem msl_X1_kth : Cond.selects yX1_kth.cls yX1_kth yX1_kth ∈ dr_tbl := dr_in (i := 701) (by decide +kernel) (by decide +kernel)
theorem mw_X11_rank : dr_mw yX11_rank cX11_rank 2 (some .int) 1 := ⟨dr_in (i := 709) (by decide +kernel) (by decide +kernel), dr_in (i := 67) (by decide +kernel) (by decide +kernel), by decide +kernel⟩
theorem mi_X11_rank : Cond.instanceMethod yX11_rank ∈ dr_tbl := dr_in (i := 707) (by decide +kernel) (by decide +kernel)
theorem msl_X11_rank : Cond.selects yX11_rank.cls yX11_rank yX11_rank ∈ dr_tbl := dr_in (i := 708) (by decide +kernel) (by decide +kernel)
theorem mw_X1_aheadOf : dr_mw yX1_aheadOf cX1_aheadOf 7 (some .int) 1 := ⟨dr_in (i := 713) (by decide +kernel) (by decide +kernel), dr_in (i := 75) (by decide +kernel) (by decide +kernel), by decide +kernel⟩
theorem mi_X1_aheadOf : Cond.instanceMethod yX1_aheadOf ∈ dr_tbl := dr_in (i := 711) (by decide +kernel) (by decide +kernel)
theorem msl_X1_aheadOf : Cond.selects yX1_aheadOf.cls yX1_aheadOf yX1_aheadOf ∈ dr_tbl := dr_in (i := 712) (by decide +kernel) (by decide +kernel)
theorem mw_X11_there : dr_mw yX11_there cX11_there 8 (some .int) 3 := ⟨dr_in (i := 718) (by decide +kernel) (by decide +kernel), dr_in (i := 67) (by decide +kernel) (by decide +kernel), by decide +kernel⟩
theorem mi_X11_there : Cond.instanceMethod yX11_there ∈ dr_tbl := dr_in (i := 716) (by decide +kernel) (by decide +kernel)
theorem msl_X11_there : Cond.selects yX11_there.cls yX11_there yX11_there ∈ dr_tbl := dr_in (i := 717) (by decide +kernel) (by decide +kernel)
theorem mw_X6_isLastChange : dr_mw yX6_isLastChange cX6_isLastChange 6 (some .boolean) 2 := ⟨dr_in (i := 723) (by decide +kernel) (by decide +kernel), dr_in (i := 73) (by decide +kernel) (by decide +kernel), by decide +kernel⟩
theorem mi_X6_isLastChange : Cond.instanceMethod yX6_isLastChange ∈ dr_tbl := dr_in (i := 721) (by decide +kernel) (by decide +kernel)
theorem msl_X6_isLastChange : Cond.selects yX6_isLastChange.cls yX6_isLastChange yX6_isLastChange ∈ dr_tbl := dr_in (i := 722) (by decide +kernel) (by decide +kernel)
theorem mw_X11_line : dr_mw yX11_line cX11_line 2 (some .int) 1 := ⟨dr_in (i := 727) (by decide +kernel) (by decide +kernel), dr_in (i := 67) (by decide +kernel) (by decide +kernel), by decide +kernel⟩
theorem mi_X11_line : Cond.instanceMethod yX11_line ∈ dr_tbl := dr_in (i := 725) (by decide +kernel) (by decide +kernel)
theorem msl_X11_line : Cond.selects yX11_line.cls yX11_line yX11_line ∈ dr_tbl := dr_in (i := 726) (by decide +kernel) (by decide +kernel)
theorem mw_X7_judge : dr_mw yX7_judge cX7_judge 2 (some .int) 1 := ⟨dr_in (i := 731) (by decide +kernel) (by decide +kernel), dr_in (i := 76) (by decide +kernel) (by decide +kernel), by decide +kernel⟩
theorem mi_X7_judge : Cond.instanceMethod yX7_judge ∈ dr_tbl := dr_in (i := 729) (by decide +kernel) (by decide +kernel)
theorem msl_X7_judge : Cond.selects yX7_judge.cls yX7_judge yX7_judge ∈ dr_tbl := dr_in (i := 730) (by decide +kernel) (by decide +kernel)
theorem mw_X7_canBeAsked : dr_mw yX7_canBeAsked cX7_canBeAsked 3 (some .boolean) 1 := ⟨dr_in (i := 735) (by decide +kernel) (by decide +kernel), dr_in (i := 76) (by decide +kernel) (by decide +kernel), by decide +kernel⟩
theorem mi_X7_canBeAsked : Cond.instanceMethod yX7_canBeAsked ∈ dr_tbl := dr_in (i := 734) (by decide +kernel) (by decide +kernel)
theorem msl_X7_canBeAsked : Cond.selects yX7_canBeAsked.cls yX7_canBeAsked yX7_canBeAsked ∈ dr_tbl := dr_in (i := 17) (by decide +kernel) (by decide +kernel)
theorem mw_J7_fill_53178 : dr_mw yJ7_fill_53178 cJ7_fill_53178 4 none 2 := ⟨dr_in (i := 740) (by decide +kernel) (by decide +kernel), dr_in (i := 82) (by decide +kernel) (by decide +kernel), by decide +kernel⟩
theorem ms_J7_fill_53178 : Cond.static yJ7_fill_53178 ∈ dr_tbl := dr_in (i := 739) (by decide +kernel) (by decide +kernel)
theorem mw_X7_goesOn : dr_mw yX7_goesOn cX7_goesOn 7 (some .boolean) 3 := ⟨dr_in (i := 744) (by decide +kernel) (by decide +kernel), dr_in (i := 76) (by decide +kernel) (by decide +kernel), by decide +kernel⟩
theorem mi_X7_goesOn : Cond.instanceMethod yX7_goesOn ∈ dr_tbl := dr_in (i := 743) (by decide +kernel) (by decide +kernel)
theorem msl_X7_goesOn : Cond.selects yX7_goesOn.cls yX7_goesOn yX7_goesOn ∈ dr_tbl := dr_in (i := 18) (by decide +kernel) (by decide +kernel)
theorem mw_X7_nothingComesFirst : dr_mw yX7_nothingComesFirst cX7_nothingComesFirst 4 (some .boolean) 2 := ⟨dr_in (i := 748) (by decide +kernel) (by decide +kernel), dr_in (i := 76) (by decide +kernel) (by decide +kernel), by decide +kernel⟩
theorem mi_X7_nothingComesFirst : Cond.instanceMethod yX7_nothingComesFirst ∈ dr_tbl := dr_in (i := 747) (by decide +kernel) (by decide +kernel)
theorem msl_X7_nothingComesFirst : Cond.selects yX7_nothingComesFirst.cls yX7_nothingComesFirst yX7_nothingComesFirst ∈ dr_tbl := dr_in (i := 19) (by decide +kernel) (by decide +kernel)
theorem mw_X7_isRight : dr_mw yX7_isRight cX7_isRight 4 (some .boolean) 2 := ⟨dr_in (i := 752) (by decide +kernel) (by decide +kernel), dr_in (i := 76) (by decide +kernel) (by decide +kernel), by decide +kernel⟩
theorem mi_X7_isRight : Cond.instanceMethod yX7_isRight ∈ dr_tbl := dr_in (i := 751) (by decide +kernel) (by decide +kernel)
theorem msl_X7_isRight : Cond.selects yX7_isRight.cls yX7_isRight yX7_isRight ∈ dr_tbl := dr_in (i := 20) (by decide +kernel) (by decide +kernel)
theorem mw_X11_order : dr_mw yX11_order cX11_order 3 (some .int) 2 := ⟨dr_in (i := 756) (by decide +kernel) (by decide +kernel), dr_in (i := 67) (by decide +kernel) (by decide +kernel), by decide +kernel⟩
theorem mi_X11_order : Cond.instanceMethod yX11_order ∈ dr_tbl := dr_in (i := 754) (by decide +kernel) (by decide +kernel)
theorem msl_X11_order : Cond.selects yX11_order.cls yX11_order yX11_order ∈ dr_tbl := dr_in (i := 755) (by decide +kernel) (by decide +kernel)
theorem mw_X7_kthOfRow : dr_mw yX7_kthOfRow cX7_kthOfRow 2 (some .int) 1 := ⟨dr_in (i := 760) (by decide +kernel) (by decide +kernel), dr_in (i := 76) (by decide +kernel) (by decide +kernel), by decide +kernel⟩
theorem mi_X7_kthOfRow : Cond.instanceMethod yX7_kthOfRow ∈ dr_tbl := dr_in (i := 758) (by decide +kernel) (by decide +kernel)
theorem msl_X7_kthOfRow : Cond.selects yX7_kthOfRow.cls yX7_kthOfRow yX7_kthOfRow ∈ dr_tbl := dr_in (i := 759) (by decide +kernel) (by decide +kernel)
theorem mw_X11_shape : dr_mw yX11_shape cX11_shape 1 (some .int) 0 := ⟨dr_in (i := 764) (by decide +kernel) (by decide +kernel), dr_in (i := 67) (by decide +kernel) (by decide +kernel), by decide +kernel⟩
theorem mi_X11_shape : Cond.instanceMethod yX11_shape ∈ dr_tbl := dr_in (i := 762) (by decide +kernel) (by decide +kernel)
theorem msl_X11_shape : Cond.selects yX11_shape.cls yX11_shape yX11_shape ∈ dr_tbl := dr_in (i := 763) (by decide +kernel) (by decide +kernel)
theorem mw_X9_leastBad : dr_mw yX9_leastBad cX9_leastBad 3 (some .int) 0 := ⟨dr_in (i := 768) (by decide +kernel) (by decide +kernel), dr_in (i := 77) (by decide +kernel) (by decide +kernel), by decide +kernel⟩
theorem mi_X9_leastBad : Cond.instanceMethod yX9_leastBad ∈ dr_tbl := dr_in (i := 766) (by decide +kernel) (by decide +kernel)
theorem msl_X9_leastBad : Cond.selects yX9_leastBad.cls yX9_leastBad yX9_leastBad ∈ dr_tbl := dr_in (i := 767) (by decide +kernel) (by decide +kernel)
theorem mw_X9_hasBadHeadings : dr_mw yX9_hasBadHeadings cX9_hasBadHeadings 6 (some .boolean) 1 := ⟨dr_in (i := 774) (by decide +kernel) (by decide +kernel), dr_in (i := 77) (by decide +kernel) (by decide +kernel), by decide +kernel⟩
theorem mi_X9_hasBadHeadings : Cond.instanceMethod yX9_hasBadHeadings ∈ dr_tbl := dr_in (i := 773) (by decide +kernel) (by decide +kernel)
theorem msl_X9_hasBadHeadings : Cond.selects yX9_hasBadHeadings.cls yX9_hasBadHeadings yX9_hasBadHeadings ∈ dr_tbl := dr_in (i := 21) (by decide +kernel) (by decide +kernel)
theorem mw_X9_hasBadChildren : dr_mw yX9_hasBadChildren cX9_hasBadChildren 8 (some .boolean) 1 := ⟨dr_in (i := 782) (by decide +kernel) (by decide +kernel), dr_in (i := 77) (by decide +kernel) (by decide +kernel), by decide +kernel⟩
theorem mi_X9_hasBadChildren : Cond.instanceMethod yX9_hasBadChildren ∈ dr_tbl := dr_in (i := 781) (by decide +kernel) (by decide +kernel)
theorem msl_X9_hasBadChildren : Cond.selects yX9_hasBadChildren.cls yX9_hasBadChildren yX9_hasBadChildren ∈ dr_tbl := dr_in (i := 22) (by decide +kernel) (by decide +kernel)
theorem mw_X11_found : dr_mw yX11_found cX11_found 3 (some .int) 2 := ⟨dr_in (i := 787) (by decide +kernel) (by decide +kernel), dr_in (i := 67) (by decide +kernel) (by decide +kernel), by decide +kernel⟩
theorem mi_X11_found : Cond.instanceMethod yX11_found ∈ dr_tbl := dr_in (i := 785) (by decide +kernel) (by decide +kernel)
theorem msl_X11_found : Cond.selects yX11_found.cls yX11_found yX11_found ∈ dr_tbl := dr_in (i := 786) (by decide +kernel) (by decide +kernel)
theorem mw_X3_atJobs : dr_mw yX3_atJobs cX3_atJobs 3 (some .int) 0 := ⟨dr_in (i := 791) (by decide +kernel) (by decide +kernel), dr_in (i := 72) (by decide +kernel) (by decide +kernel), by decide +kernel⟩
theorem mi_X3_atJobs : Cond.instanceMethod yX3_atJobs ∈ dr_tbl := dr_in (i := 789) (by decide +kernel) (by decide +kernel)
theorem msl_X3_atJobs : Cond.selects yX3_atJobs.cls yX3_atJobs yX3_atJobs ∈ dr_tbl := dr_in (i := 790) (by decide +kernel) (by decide +kernel)
theorem mw_X8_takeTheTwo : dr_mw yX8_takeTheTwo cX8_takeTheTwo 2 none 0 := ⟨dr_in (i := 796) (by decide +kernel) (by decide +kernel), dr_in (i := 78) (by decide +kernel) (by decide +kernel), by decide +kernel⟩
theorem mi_X8_takeTheTwo : Cond.instanceMethod yX8_takeTheTwo ∈ dr_tbl := dr_in (i := 794) (by decide +kernel) (by decide +kernel)
theorem msl_X8_takeTheTwo : Cond.selects yX8_takeTheTwo.cls yX8_takeTheTwo yX8_takeTheTwo ∈ dr_tbl := dr_in (i := 795) (by decide +kernel) (by decide +kernel)
theorem mw_X8_goesWrong : dr_mw yX8_goesWrong cX8_goesWrong 7 (some .boolean) 2 := ⟨dr_in (i := 801) (by decide +kernel) (by decide +kernel), dr_in (i := 78) (by decide +kernel) (by decide +kernel), by decide +kernel⟩
theorem mi_X8_goesWrong : Cond.instanceMethod yX8_goesWrong ∈ dr_tbl := dr_in (i := 800) (by decide +kernel) (by decide +kernel)
theorem msl_X8_goesWrong : Cond.selects yX8_goesWrong.cls yX8_goesWrong yX8_goesWrong ∈ dr_tbl := dr_in (i := 23) (by decide +kernel) (by decide +kernel)
theorem mw_X8_isWrongNow : dr_mw yX8_isWrongNow cX8_isWrongNow 3 (some .boolean) 0 := ⟨dr_in (i := 805) (by decide +kernel) (by decide +kernel), dr_in (i := 78) (by decide +kernel) (by decide +kernel), by decide +kernel⟩
theorem mi_X8_isWrongNow : Cond.instanceMethod yX8_isWrongNow ∈ dr_tbl := dr_in (i := 804) (by decide +kernel) (by decide +kernel)
theorem msl_X8_isWrongNow : Cond.selects yX8_isWrongNow.cls yX8_isWrongNow yX8_isWrongNow ∈ dr_tbl := dr_in (i := 24) (by decide +kernel) (by decide +kernel)
theorem mw_X2_startTrying : dr_mw yX2_startTrying cX2_startTrying 1 (some .int) 0 := ⟨dr_in (i := 814) (by decide +kernel) (by decide +kernel), dr_in (i := 70) (by decide +kernel) (by decide +kernel), by decide +kernel⟩
theorem mi_X2_startTrying : Cond.instanceMethod yX2_startTrying ∈ dr_tbl := dr_in (i := 812) (by decide +kernel) (by decide +kernel)
theorem msl_X2_startTrying : Cond.selects yX2_startTrying.cls yX2_startTrying yX2_startTrying ∈ dr_tbl := dr_in (i := 813) (by decide +kernel) (by decide +kernel)
theorem mw_X2_takeBack : dr_mw yX2_takeBack cX2_takeBack 4 none 1 := ⟨dr_in (i := 819) (by decide +kernel) (by decide +kernel), dr_in (i := 70) (by decide +kernel) (by decide +kernel), by decide +kernel⟩
theorem mi_X2_takeBack : Cond.instanceMethod yX2_takeBack ∈ dr_tbl := dr_in (i := 817) (by decide +kernel) (by decide +kernel)
theorem msl_X2_takeBack : Cond.selects yX2_takeBack.cls yX2_takeBack yX2_takeBack ∈ dr_tbl := dr_in (i := 818) (by decide +kernel) (by decide +kernel)
theorem mw_X8_kthClerk : dr_mw yX8_kthClerk cX8_kthClerk 2 (some .int) 1 := ⟨dr_in (i := 824) (by decide +kernel) (by decide +kernel), dr_in (i := 78) (by decide +kernel) (by decide +kernel), by decide +kernel⟩
theorem mi_X8_kthClerk : Cond.instanceMethod yX8_kthClerk ∈ dr_tbl := dr_in (i := 822) (by decide +kernel) (by decide +kernel)
theorem msl_X8_kthClerk : Cond.selects yX8_kthClerk.cls yX8_kthClerk yX8_kthClerk ∈ dr_tbl := dr_in (i := 823) (by decide +kernel) (by decide +kernel)
theorem mw_X11_fall : dr_mw yX11_fall cX11_fall 3 (some .int) 0 := ⟨dr_in (i := 828) (by decide +kernel) (by decide +kernel), dr_in (i := 67) (by decide +kernel) (by decide +kernel), by decide +kernel⟩
theorem mi_X11_fall : Cond.instanceMethod yX11_fall ∈ dr_tbl := dr_in (i := 826) (by decide +kernel) (by decide +kernel)
theorem msl_X11_fall : Cond.selects yX11_fall.cls yX11_fall yX11_fall ∈ dr_tbl := dr_in (i := 827) (by decide +kernel) (by decide +kernel)
theorem mw_X4_letAllGo : dr_mw yX4_letAllGo cX4_letAllGo 2 none 0 := ⟨dr_in (i := 834) (by decide +kernel) (by decide +kernel), dr_in (i := 69) (by decide +kernel) (by decide +kernel), by decide +kernel⟩
theorem mi_X4_letAllGo : Cond.instanceMethod yX4_letAllGo ∈ dr_tbl := dr_in (i := 832) (by decide +kernel) (by decide +kernel)
theorem msl_X4_letAllGo : Cond.selects yX4_letAllGo.cls yX4_letAllGo yX4_letAllGo ∈ dr_tbl := dr_in (i := 833) (by decide +kernel) (by decide +kernel)
theorem mw_X0_crownTheTop : dr_mw yX0_crownTheTop cX0_crownTheTop 6 none 0 := ⟨dr_in (i := 838) (by decide +kernel) (by decide +kernel), dr_in (i := 79) (by decide +kernel) (by decide +kernel), by decide +kernel⟩
theorem mi_X0_crownTheTop : Cond.instanceMethod yX0_crownTheTop ∈ dr_tbl := dr_in (i := 836) (by decide +kernel) (by decide +kernel)
theorem msl_X0_crownTheTop : Cond.selects yX0_crownTheTop.cls yX0_crownTheTop yX0_crownTheTop ∈ dr_tbl := dr_in (i := 837) (by decide +kernel) (by decide +kernel)
theorem mw_X11_night : dr_mw yX11_night cX11_night 2 (some .int) 1 := ⟨dr_in (i := 849) (by decide +kernel) (by decide +kernel), dr_in (i := 67) (by decide +kernel) (by decide +kernel), by decide +kernel⟩
theorem mi_X11_night : Cond.instanceMethod yX11_night ∈ dr_tbl := dr_in (i := 847) (by decide +kernel) (by decide +kernel)
theorem msl_X11_night : Cond.selects yX11_night.cls yX11_night yX11_night ∈ dr_tbl := dr_in (i := 848) (by decide +kernel) (by decide +kernel)
theorem mw_X0_buildAnew : dr_mw yX0_buildAnew cX0_buildAnew 7 none 1 := ⟨dr_in (i := 854) (by decide +kernel) (by decide +kernel), dr_in (i := 79) (by decide +kernel) (by decide +kernel), by decide +kernel⟩
theorem mi_X0_buildAnew : Cond.instanceMethod yX0_buildAnew ∈ dr_tbl := dr_in (i := 852) (by decide +kernel) (by decide +kernel)
theorem msl_X0_buildAnew : Cond.selects yX0_buildAnew.cls yX0_buildAnew yX0_buildAnew ∈ dr_tbl := dr_in (i := 853) (by decide +kernel) (by decide +kernel)
theorem mw_X1_sort : dr_mw yX1_sort cX1_sort 5 (some .int) 0 := ⟨dr_in (i := 858) (by decide +kernel) (by decide +kernel), dr_in (i := 75) (by decide +kernel) (by decide +kernel), by decide +kernel⟩
theorem mi_X1_sort : Cond.instanceMethod yX1_sort ∈ dr_tbl := dr_in (i := 856) (by decide +kernel) (by decide +kernel)
theorem msl_X1_sort : Cond.selects yX1_sort.cls yX1_sort yX1_sort ∈ dr_tbl := dr_in (i := 857) (by decide +kernel) (by decide +kernel)
theorem mw_X1_sortIn : dr_mw yX1_sortIn cX1_sortIn 4 none 1 := ⟨dr_in (i := 862) (by decide +kernel) (by decide +kernel), dr_in (i := 75) (by decide +kernel) (by decide +kernel), by decide +kernel⟩
theorem mi_X1_sortIn : Cond.instanceMethod yX1_sortIn ∈ dr_tbl := dr_in (i := 861) (by decide +kernel) (by decide +kernel)
theorem msl_X1_sortIn : Cond.selects yX1_sortIn.cls yX1_sortIn yX1_sortIn ∈ dr_tbl := dr_in (i := 25) (by decide +kernel) (by decide +kernel)
theorem mw_X0_buildLeaves : dr_mw yX0_buildLeaves cX0_buildLeaves 7 (some .int) 2 := ⟨dr_in (i := 867) (by decide +kernel) (by decide +kernel), dr_in (i := 79) (by decide +kernel) (by decide +kernel), by decide +kernel⟩
theorem mi_X0_buildLeaves : Cond.instanceMethod yX0_buildLeaves ∈ dr_tbl := dr_in (i := 866) (by decide +kernel) (by decide +kernel)
theorem msl_X0_buildLeaves : Cond.selects yX0_buildLeaves.cls yX0_buildLeaves yX0_buildLeaves ∈ dr_tbl := dr_in (i := 26) (by decide +kernel) (by decide +kernel)
theorem mw_X1_kthSorted : dr_mw yX1_kthSorted cX1_kthSorted 2 (some .int) 1 := ⟨dr_in (i := 871) (by decide +kernel) (by decide +kernel), dr_in (i := 75) (by decide +kernel) (by decide +kernel), by decide +kernel⟩
theorem mi_X1_kthSorted : Cond.instanceMethod yX1_kthSorted ∈ dr_tbl := dr_in (i := 869) (by decide +kernel) (by decide +kernel)
theorem msl_X1_kthSorted : Cond.selects yX1_kthSorted.cls yX1_kthSorted yX1_kthSorted ∈ dr_tbl := dr_in (i := 870) (by decide +kernel) (by decide +kernel)
theorem mw_X0_buildGuides : dr_mw yX0_buildGuides cX0_buildGuides 9 (some .int) 4 := ⟨dr_in (i := 877) (by decide +kernel) (by decide +kernel), dr_in (i := 79) (by decide +kernel) (by decide +kernel), by decide +kernel⟩
theorem mi_X0_buildGuides : Cond.instanceMethod yX0_buildGuides ∈ dr_tbl := dr_in (i := 876) (by decide +kernel) (by decide +kernel)
theorem msl_X0_buildGuides : Cond.selects yX0_buildGuides.cls yX0_buildGuides yX0_buildGuides ∈ dr_tbl := dr_in (i := 27) (by decide +kernel) (by decide +kernel)
theorem mw_X11_count : dr_mw yX11_count cX11_count 2 (some .int) 1 := ⟨dr_in (i := 881) (by decide +kernel) (by decide +kernel), dr_in (i := 67) (by decide +kernel) (by decide +kernel), by decide +kernel⟩
theorem mi_X11_count : Cond.instanceMethod yX11_count ∈ dr_tbl := dr_in (i := 879) (by decide +kernel) (by decide +kernel)
theorem msl_X11_count : Cond.selects yX11_count.cls yX11_count yX11_count ∈ dr_tbl := dr_in (i := 880) (by decide +kernel) (by decide +kernel)
theorem mw_X1_howMany : dr_mw yX1_howMany cX1_howMany 4 (some .int) 0 := ⟨dr_in (i := 885) (by decide +kernel) (by decide +kernel), dr_in (i := 75) (by decide +kernel) (by decide +kernel), by decide +kernel⟩
theorem mi_X1_howMany : Cond.instanceMethod yX1_howMany ∈ dr_tbl := dr_in (i := 883) (by decide +kernel) (by decide +kernel)
theorem msl_X1_howMany : Cond.selects yX1_howMany.cls yX1_howMany yX1_howMany ∈ dr_tbl := dr_in (i := 884) (by decide +kernel) (by decide +kernel)
theorem mw_X4_latched : dr_mw yX4_latched cX4_latched 3 (some .int) 0 := ⟨dr_in (i := 889) (by decide +kernel) (by decide +kernel), dr_in (i := 69) (by decide +kernel) (by decide +kernel), by decide +kernel⟩
theorem mi_X4_latched : Cond.instanceMethod yX4_latched ∈ dr_tbl := dr_in (i := 887) (by decide +kernel) (by decide +kernel)
theorem msl_X4_latched : Cond.selects yX4_latched.cls yX4_latched yX4_latched ∈ dr_tbl := dr_in (i := 888) (by decide +kernel) (by decide +kernel)
theorem mw_X5_parts : dr_mw yX5_parts cX5_parts 1 (some .int) 0 := ⟨dr_in (i := 893) (by decide +kernel) (by decide +kernel), dr_in (i := 71) (by decide +kernel) (by decide +kernel), by decide +kernel⟩
theorem mi_X5_parts : Cond.instanceMethod yX5_parts ∈ dr_tbl := dr_in (i := 891) (by decide +kernel) (by decide +kernel)
theorem msl_X5_parts : Cond.selects yX5_parts.cls yX5_parts yX5_parts ∈ dr_tbl := dr_in (i := 892) (by decide +kernel) (by decide +kernel)
theorem mw_L_cell : dr_mw yL_cell cL_cell 2 (some .int) 2 := ⟨dr_in (i := 896) (by decide +kernel) (by decide +kernel), dr_in (i := 66) (by decide +kernel) (by decide +kernel), by decide +kernel⟩
theorem ms_L_cell : Cond.static yL_cell ∈ dr_tbl := dr_in (i := 895) (by decide +kernel) (by decide +kernel)
theorem mw_X12_init : dr_mw yX12_init cX12_init 3 none 1 := ⟨dr_in (i := 901) (by decide +kernel) (by decide +kernel), dr_in (i := 80) (by decide +kernel) (by decide +kernel), by decide +kernel⟩
theorem mi_X12_init : Cond.instanceMethod yX12_init ∈ dr_tbl := dr_in (i := 900) (by decide +kernel) (by decide +kernel)
theorem mw_X12_clears : dr_mw yX12_clears cX12_clears 2 none 1 := ⟨dr_in (i := 906) (by decide +kernel) (by decide +kernel), dr_in (i := 80) (by decide +kernel) (by decide +kernel), by decide +kernel⟩
theorem mi_X12_clears : Cond.instanceMethod yX12_clears ∈ dr_tbl := dr_in (i := 905) (by decide +kernel) (by decide +kernel)
theorem msl_X12_clears : Cond.selects yX12_clears.cls yX12_clears yX12_clears ∈ dr_tbl := dr_in (i := 28) (by decide +kernel) (by decide +kernel)
theorem mw_X12_rule : dr_mw yX12_rule cX12_rule 11 (some .int) 6 := ⟨dr_in (i := 1089) (by decide +kernel) (by decide +kernel), dr_in (i := 80) (by decide +kernel) (by decide +kernel), by decide +kernel⟩
theorem mi_X12_rule : Cond.instanceMethod yX12_rule ∈ dr_tbl := dr_in (i := 1087) (by decide +kernel) (by decide +kernel)
theorem msl_X12_rule : Cond.selects yX12_rule.cls yX12_rule yX12_rule ∈ dr_tbl := dr_in (i := 1088) (by decide +kernel) (by decide +kernel)
theorem mw_X12_in : dr_mw yX12_in cX12_in 3 (some .boolean) 3 := ⟨dr_in (i := 1092) (by decide +kernel) (by decide +kernel), dr_in (i := 80) (by decide +kernel) (by decide +kernel), by decide +kernel⟩
theorem ms_X12_in : Cond.static yX12_in ∈ dr_tbl := dr_in (i := 1091) (by decide +kernel) (by decide +kernel)
theorem mw_X12_byteOf : dr_mw yX12_byteOf cX12_byteOf 7 (some .int) 6 := ⟨dr_in (i := 1095) (by decide +kernel) (by decide +kernel), dr_in (i := 80) (by decide +kernel) (by decide +kernel), by decide +kernel⟩
theorem ms_X12_byteOf : Cond.static yX12_byteOf ∈ dr_tbl := dr_in (i := 1094) (by decide +kernel) (by decide +kernel)
theorem mw_X12_isRead : dr_mw yX12_isRead cX12_isRead 3 (some .boolean) 1 := ⟨dr_in (i := 1099) (by decide +kernel) (by decide +kernel), dr_in (i := 80) (by decide +kernel) (by decide +kernel), by decide +kernel⟩
theorem mi_X12_isRead : Cond.instanceMethod yX12_isRead ∈ dr_tbl := dr_in (i := 1098) (by decide +kernel) (by decide +kernel)
theorem msl_X12_isRead : Cond.selects yX12_isRead.cls yX12_isRead yX12_isRead ∈ dr_tbl := dr_in (i := 29) (by decide +kernel) (by decide +kernel)
theorem mw_X12_ahead : dr_mw yX12_ahead cX12_ahead 3 (some .int) 2 := ⟨dr_in (i := 1103) (by decide +kernel) (by decide +kernel), dr_in (i := 80) (by decide +kernel) (by decide +kernel), by decide +kernel⟩
theorem mi_X12_ahead : Cond.instanceMethod yX12_ahead ∈ dr_tbl := dr_in (i := 1101) (by decide +kernel) (by decide +kernel)
theorem msl_X12_ahead : Cond.selects yX12_ahead.cls yX12_ahead yX12_ahead ∈ dr_tbl := dr_in (i := 1102) (by decide +kernel) (by decide +kernel)
theorem mw_X12_isHeading : dr_mw yX12_isHeading cX12_isHeading 1 (some .boolean) 1 := ⟨dr_in (i := 1106) (by decide +kernel) (by decide +kernel), dr_in (i := 80) (by decide +kernel) (by decide +kernel), by decide +kernel⟩
theorem ms_X12_isHeading : Cond.static yX12_isHeading ∈ dr_tbl := dr_in (i := 1105) (by decide +kernel) (by decide +kernel)
theorem mw_X12_isAhead : dr_mw yX12_isAhead cX12_isAhead 6 (some .boolean) 2 := ⟨dr_in (i := 1110) (by decide +kernel) (by decide +kernel), dr_in (i := 80) (by decide +kernel) (by decide +kernel), by decide +kernel⟩
theorem mi_X12_isAhead : Cond.instanceMethod yX12_isAhead ∈ dr_tbl := dr_in (i := 1109) (by decide +kernel) (by decide +kernel)
theorem msl_X12_isAhead : Cond.selects yX12_isAhead.cls yX12_isAhead yX12_isAhead ∈ dr_tbl := dr_in (i := 30) (by decide +kernel) (by decide +kernel)
theorem mw_X12_digit : dr_mw yX12_digit cX12_digit 2 (some .int) 2 := ⟨dr_in (i := 1113) (by decide +kernel) (by decide +kernel), dr_in (i := 80) (by decide +kernel) (by decide +kernel), by decide +kernel⟩
theorem ms_X12_digit : Cond.static yX12_digit ∈ dr_tbl := dr_in (i := 1112) (by decide +kernel) (by decide +kernel)
theorem mw_X12_fault : dr_mw yX12_fault cX12_fault 3 (some .boolean) 2 := ⟨dr_in (i := 1117) (by decide +kernel) (by decide +kernel), dr_in (i := 80) (by decide +kernel) (by decide +kernel), by decide +kernel⟩
theorem mi_X12_fault : Cond.instanceMethod yX12_fault ∈ dr_tbl := dr_in (i := 1115) (by decide +kernel) (by decide +kernel)
theorem msl_X12_fault : Cond.selects yX12_fault.cls yX12_fault yX12_fault ∈ dr_tbl := dr_in (i := 1116) (by decide +kernel) (by decide +kernel)
theorem mw_X12_begin : dr_mw yX12_begin cX12_begin 5 (some .int) 3 := ⟨dr_in (i := 1121) (by decide +kernel) (by decide +kernel), dr_in (i := 80) (by decide +kernel) (by decide +kernel), by decide +kernel⟩
theorem mi_X12_begin : Cond.instanceMethod yX12_begin ∈ dr_tbl := dr_in (i := 1119) (by decide +kernel) (by decide +kernel)
theorem msl_X12_begin : Cond.selects yX12_begin.cls yX12_begin yX12_begin ∈ dr_tbl := dr_in (i := 1120) (by decide +kernel) (by decide +kernel)
theorem mw_X12_used : dr_mw yX12_used cX12_used 3 (some .int) 0 := ⟨dr_in (i := 1125) (by decide +kernel) (by decide +kernel), dr_in (i := 80) (by decide +kernel) (by decide +kernel), by decide +kernel⟩
theorem mi_X12_used : Cond.instanceMethod yX12_used ∈ dr_tbl := dr_in (i := 1124) (by decide +kernel) (by decide +kernel)
theorem msl_X12_used : Cond.selects yX12_used.cls yX12_used yX12_used ∈ dr_tbl := dr_in (i := 31) (by decide +kernel) (by decide +kernel)
theorem mw_X12_step : dr_mw yX12_step cX12_step 4 (some .int) 2 := ⟨dr_in (i := 1129) (by decide +kernel) (by decide +kernel), dr_in (i := 80) (by decide +kernel) (by decide +kernel), by decide +kernel⟩
theorem mi_X12_step : Cond.instanceMethod yX12_step ∈ dr_tbl := dr_in (i := 1127) (by decide +kernel) (by decide +kernel)
theorem msl_X12_step : Cond.selects yX12_step.cls yX12_step yX12_step ∈ dr_tbl := dr_in (i := 1128) (by decide +kernel) (by decide +kernel)
theorem mw_X12_one : dr_mw yX12_one cX12_one 2 none 1 := ⟨dr_in (i := 1133) (by decide +kernel) (by decide +kernel), dr_in (i := 80) (by decide +kernel) (by decide +kernel), by decide +kernel⟩
theorem mi_X12_one : Cond.instanceMethod yX12_one ∈ dr_tbl := dr_in (i := 1132) (by decide +kernel) (by decide +kernel)
theorem msl_X12_one : Cond.selects yX12_one.cls yX12_one yX12_one ∈ dr_tbl := dr_in (i := 32) (by decide +kernel) (by decide +kernel)
theorem mw_X12_reads : dr_mw yX12_reads cX12_reads 4 none 1 := ⟨dr_in (i := 1137) (by decide +kernel) (by decide +kernel), dr_in (i := 80) (by decide +kernel) (by decide +kernel), by decide +kernel⟩
theorem mi_X12_reads : Cond.instanceMethod yX12_reads ∈ dr_tbl := dr_in (i := 1136) (by decide +kernel) (by decide +kernel)
theorem msl_X12_reads : Cond.selects yX12_reads.cls yX12_reads yX12_reads ∈ dr_tbl := dr_in (i := 33) (by decide +kernel) (by decide +kernel)
theorem mw_X12_covered : dr_mw yX12_covered cX12_covered 4 (some .boolean) 3 := ⟨dr_in (i := 1141) (by decide +kernel) (by decide +kernel), dr_in (i := 80) (by decide +kernel) (by decide +kernel), by decide +kernel⟩
theorem mi_X12_covered : Cond.instanceMethod yX12_covered ∈ dr_tbl := dr_in (i := 1140) (by decide +kernel) (by decide +kernel)
theorem msl_X12_covered : Cond.selects yX12_covered.cls yX12_covered yX12_covered ∈ dr_tbl := dr_in (i := 34) (by decide +kernel) (by decide +kernel)
theorem mw_X12_covers : dr_mw yX12_covers cX12_covers 3 (some .boolean) 2 := ⟨dr_in (i := 1145) (by decide +kernel) (by decide +kernel), dr_in (i := 80) (by decide +kernel) (by decide +kernel), by decide +kernel⟩
theorem mi_X12_covers : Cond.instanceMethod yX12_covers ∈ dr_tbl := dr_in (i := 1144) (by decide +kernel) (by decide +kernel)
theorem msl_X12_covers : Cond.selects yX12_covers.cls yX12_covers yX12_covers ∈ dr_tbl := dr_in (i := 35) (by decide +kernel) (by decide +kernel)
theorem mw_X12_way : dr_mw yX12_way cX12_way 4 (some .int) 2 := ⟨dr_in (i := 1149) (by decide +kernel) (by decide +kernel), dr_in (i := 80) (by decide +kernel) (by decide +kernel), by decide +kernel⟩
theorem mi_X12_way : Cond.instanceMethod yX12_way ∈ dr_tbl := dr_in (i := 1148) (by decide +kernel) (by decide +kernel)
theorem msl_X12_way : Cond.selects yX12_way.cls yX12_way yX12_way ∈ dr_tbl := dr_in (i := 36) (by decide +kernel) (by decide +kernel)
theorem mw_X12_hasCard : dr_mw yX12_hasCard cX12_hasCard 4 (some .boolean) 2 := ⟨dr_in (i := 1153) (by decide +kernel) (by decide +kernel), dr_in (i := 80) (by decide +kernel) (by decide +kernel), by decide +kernel⟩
theorem mi_X12_hasCard : Cond.instanceMethod yX12_hasCard ∈ dr_tbl := dr_in (i := 1152) (by decide +kernel) (by decide +kernel)
theorem msl_X12_hasCard : Cond.selects yX12_hasCard.cls yX12_hasCard yX12_hasCard ∈ dr_tbl := dr_in (i := 37) (by decide +kernel) (by decide +kernel)
theorem mw_X12_ends : dr_mw yX12_ends cX12_ends 3 none 2 := ⟨dr_in (i := 1157) (by decide +kernel) (by decide +kernel), dr_in (i := 80) (by decide +kernel) (by decide +kernel), by decide +kernel⟩
theorem mi_X12_ends : Cond.instanceMethod yX12_ends ∈ dr_tbl := dr_in (i := 1156) (by decide +kernel) (by decide +kernel)
theorem msl_X12_ends : Cond.selects yX12_ends.cls yX12_ends yX12_ends ∈ dr_tbl := dr_in (i := 38) (by decide +kernel) (by decide +kernel)
theorem mw_X12_isOthers : dr_mw yX12_isOthers cX12_isOthers 3 (some .boolean) 2 := ⟨dr_in (i := 1161) (by decide +kernel) (by decide +kernel), dr_in (i := 80) (by decide +kernel) (by decide +kernel), by decide +kernel⟩
theorem mi_X12_isOthers : Cond.instanceMethod yX12_isOthers ∈ dr_tbl := dr_in (i := 1160) (by decide +kernel) (by decide +kernel)
theorem msl_X12_isOthers : Cond.selects yX12_isOthers.cls yX12_isOthers yX12_isOthers ∈ dr_tbl := dr_in (i := 39) (by decide +kernel) (by decide +kernel)
theorem mw_X12_latches : dr_mw yX12_latches cX12_latches 3 none 2 := ⟨dr_in (i := 1165) (by decide +kernel) (by decide +kernel), dr_in (i := 80) (by decide +kernel) (by decide +kernel), by decide +kernel⟩
theorem mi_X12_latches : Cond.instanceMethod yX12_latches ∈ dr_tbl := dr_in (i := 1164) (by decide +kernel) (by decide +kernel)
theorem msl_X12_latches : Cond.selects yX12_latches.cls yX12_latches yX12_latches ∈ dr_tbl := dr_in (i := 40) (by decide +kernel) (by decide +kernel)
theorem mw_X12_holds : dr_mw yX12_holds cX12_holds 4 none 1 := ⟨dr_in (i := 1169) (by decide +kernel) (by decide +kernel), dr_in (i := 80) (by decide +kernel) (by decide +kernel), by decide +kernel⟩
theorem mi_X12_holds : Cond.instanceMethod yX12_holds ∈ dr_tbl := dr_in (i := 1168) (by decide +kernel) (by decide +kernel)
theorem msl_X12_holds : Cond.selects yX12_holds.cls yX12_holds yX12_holds ∈ dr_tbl := dr_in (i := 41) (by decide +kernel) (by decide +kernel)
theorem mw_X12_looksFor : dr_mw yX12_looksFor cX12_looksFor 2 (some .int) 1 := ⟨dr_in (i := 1173) (by decide +kernel) (by decide +kernel), dr_in (i := 80) (by decide +kernel) (by decide +kernel), by decide +kernel⟩
theorem mi_X12_looksFor : Cond.instanceMethod yX12_looksFor ∈ dr_tbl := dr_in (i := 1172) (by decide +kernel) (by decide +kernel)
theorem msl_X12_looksFor : Cond.selects yX12_looksFor.cls yX12_looksFor yX12_looksFor ∈ dr_tbl := dr_in (i := 42) (by decide +kernel) (by decide +kernel)
theorem mw_X12_letsGo : dr_mw yX12_letsGo cX12_letsGo 3 none 2 := ⟨dr_in (i := 1177) (by decide +kernel) (by decide +kernel), dr_in (i := 80) (by decide +kernel) (by decide +kernel), by decide +kernel⟩
theorem mi_X12_letsGo : Cond.instanceMethod yX12_letsGo ∈ dr_tbl := dr_in (i := 1176) (by decide +kernel) (by decide +kernel)
theorem msl_X12_letsGo : Cond.selects yX12_letsGo.cls yX12_letsGo yX12_letsGo ∈ dr_tbl := dr_in (i := 43) (by decide +kernel) (by decide +kernel)
theorem mw_X12_writes : dr_mw yX12_writes cX12_writes 8 none 1 := ⟨dr_in (i := 1181) (by decide +kernel) (by decide +kernel), dr_in (i := 80) (by decide +kernel) (by decide +kernel), by decide +kernel⟩
theorem mi_X12_writes : Cond.instanceMethod yX12_writes ∈ dr_tbl := dr_in (i := 1180) (by decide +kernel) (by decide +kernel)
theorem msl_X12_writes : Cond.selects yX12_writes.cls yX12_writes yX12_writes ∈ dr_tbl := dr_in (i := 44) (by decide +kernel) (by decide +kernel)
theorem mw_X12_hasCopy : dr_mw yX12_hasCopy cX12_hasCopy 4 (some .boolean) 2 := ⟨dr_in (i := 1185) (by decide +kernel) (by decide +kernel), dr_in (i := 80) (by decide +kernel) (by decide +kernel), by decide +kernel⟩
theorem mi_X12_hasCopy : Cond.instanceMethod yX12_hasCopy ∈ dr_tbl := dr_in (i := 1184) (by decide +kernel) (by decide +kernel)
theorem msl_X12_hasCopy : Cond.selects yX12_hasCopy.cls yX12_hasCopy yX12_hasCopy ∈ dr_tbl := dr_in (i := 45) (by decide +kernel) (by decide +kernel)
theorem mw_X12_placeIn : dr_mw yX12_placeIn cX12_placeIn 4 (some .int) 2 := ⟨dr_in (i := 1189) (by decide +kernel) (by decide +kernel), dr_in (i := 80) (by decide +kernel) (by decide +kernel), by decide +kernel⟩
theorem mi_X12_placeIn : Cond.instanceMethod yX12_placeIn ∈ dr_tbl := dr_in (i := 1188) (by decide +kernel) (by decide +kernel)
theorem msl_X12_placeIn : Cond.selects yX12_placeIn.cls yX12_placeIn yX12_placeIn ∈ dr_tbl := dr_in (i := 46) (by decide +kernel) (by decide +kernel)
theorem mw_X12_becomes : dr_mw yX12_becomes cX12_becomes 4 none 1 := ⟨dr_in (i := 1193) (by decide +kernel) (by decide +kernel), dr_in (i := 80) (by decide +kernel) (by decide +kernel), by decide +kernel⟩
theorem mi_X12_becomes : Cond.instanceMethod yX12_becomes ∈ dr_tbl := dr_in (i := 1192) (by decide +kernel) (by decide +kernel)
theorem msl_X12_becomes : Cond.selects yX12_becomes.cls yX12_becomes yX12_becomes ∈ dr_tbl := dr_in (i := 47) (by decide +kernel) (by decide +kernel)
theorem mw_X12_comes : dr_mw yX12_comes cX12_comes 5 none 3 := ⟨dr_in (i := 1197) (by decide +kernel) (by decide +kernel), dr_in (i := 80) (by decide +kernel) (by decide +kernel), by decide +kernel⟩
theorem mi_X12_comes : Cond.instanceMethod yX12_comes ∈ dr_tbl := dr_in (i := 1196) (by decide +kernel) (by decide +kernel)
theorem msl_X12_comes : Cond.selects yX12_comes.cls yX12_comes yX12_comes ∈ dr_tbl := dr_in (i := 48) (by decide +kernel) (by decide +kernel)
theorem mw_X12_parted : dr_mw yX12_parted cX12_parted 5 (some .int) 1 := ⟨dr_in (i := 1201) (by decide +kernel) (by decide +kernel), dr_in (i := 80) (by decide +kernel) (by decide +kernel), by decide +kernel⟩
theorem mi_X12_parted : Cond.instanceMethod yX12_parted ∈ dr_tbl := dr_in (i := 1200) (by decide +kernel) (by decide +kernel)
theorem msl_X12_parted : Cond.selects yX12_parted.cls yX12_parted yX12_parted ∈ dr_tbl := dr_in (i := 49) (by decide +kernel) (by decide +kernel)
theorem mw_X12_spare : dr_mw yX12_spare cX12_spare 2 (some .int) 0 := ⟨dr_in (i := 1205) (by decide +kernel) (by decide +kernel), dr_in (i := 80) (by decide +kernel) (by decide +kernel), by decide +kernel⟩
theorem mi_X12_spare : Cond.instanceMethod yX12_spare ∈ dr_tbl := dr_in (i := 1204) (by decide +kernel) (by decide +kernel)
theorem msl_X12_spare : Cond.selects yX12_spare.cls yX12_spare yX12_spare ∈ dr_tbl := dr_in (i := 50) (by decide +kernel) (by decide +kernel)
theorem mw_X12_goesUp : dr_mw yX12_goesUp cX12_goesUp 4 none 1 := ⟨dr_in (i := 1209) (by decide +kernel) (by decide +kernel), dr_in (i := 80) (by decide +kernel) (by decide +kernel), by decide +kernel⟩
theorem mi_X12_goesUp : Cond.instanceMethod yX12_goesUp ∈ dr_tbl := dr_in (i := 1208) (by decide +kernel) (by decide +kernel)
theorem msl_X12_goesUp : Cond.selects yX12_goesUp.cls yX12_goesUp yX12_goesUp ∈ dr_tbl := dr_in (i := 51) (by decide +kernel) (by decide +kernel)
theorem mw_X12_firstOf : dr_mw yX12_firstOf cX12_firstOf 3 (some .int) 1 := ⟨dr_in (i := 1213) (by decide +kernel) (by decide +kernel), dr_in (i := 80) (by decide +kernel) (by decide +kernel), by decide +kernel⟩
theorem mi_X12_firstOf : Cond.instanceMethod yX12_firstOf ∈ dr_tbl := dr_in (i := 1212) (by decide +kernel) (by decide +kernel)
theorem msl_X12_firstOf : Cond.selects yX12_firstOf.cls yX12_firstOf yX12_firstOf ∈ dr_tbl := dr_in (i := 52) (by decide +kernel) (by decide +kernel)
theorem mw_X12_clerk : dr_mw yX12_clerk cX12_clerk 3 (some .int) 2 := ⟨dr_in (i := 1217) (by decide +kernel) (by decide +kernel), dr_in (i := 80) (by decide +kernel) (by decide +kernel), by decide +kernel⟩
theorem mi_X12_clerk : Cond.instanceMethod yX12_clerk ∈ dr_tbl := dr_in (i := 1215) (by decide +kernel) (by decide +kernel)
theorem msl_X12_clerk : Cond.selects yX12_clerk.cls yX12_clerk yX12_clerk ∈ dr_tbl := dr_in (i := 1216) (by decide +kernel) (by decide +kernel)
theorem mw_X12_job : dr_mw yX12_job cX12_job 3 (some .int) 2 := ⟨dr_in (i := 1221) (by decide +kernel) (by decide +kernel), dr_in (i := 80) (by decide +kernel) (by decide +kernel), by decide +kernel⟩
theorem mi_X12_job : Cond.instanceMethod yX12_job ∈ dr_tbl := dr_in (i := 1219) (by decide +kernel) (by decide +kernel)
theorem msl_X12_job : Cond.selects yX12_job.cls yX12_job yX12_job ∈ dr_tbl := dr_in (i := 1220) (by decide +kernel) (by decide +kernel)
theorem mw_X12_drawer : dr_mw yX12_drawer cX12_drawer 3 (some .int) 2 := ⟨dr_in (i := 1225) (by decide +kernel) (by decide +kernel), dr_in (i := 80) (by decide +kernel) (by decide +kernel), by decide +kernel⟩
theorem mi_X12_drawer : Cond.instanceMethod yX12_drawer ∈ dr_tbl := dr_in (i := 1223) (by decide +kernel) (by decide +kernel)
theorem msl_X12_drawer : Cond.selects yX12_drawer.cls yX12_drawer yX12_drawer ∈ dr_tbl := dr_in (i := 1224) (by decide +kernel) (by decide +kernel)
theorem mw_X12_at : dr_mw yX12_at cX12_at 4 (some .int) 3 := ⟨dr_in (i := 1229) (by decide +kernel) (by decide +kernel), dr_in (i := 80) (by decide +kernel) (by decide +kernel), by decide +kernel⟩
theorem mi_X12_at : Cond.instanceMethod yX12_at ∈ dr_tbl := dr_in (i := 1227) (by decide +kernel) (by decide +kernel)
theorem msl_X12_at : Cond.selects yX12_at.cls yX12_at yX12_at ∈ dr_tbl := dr_in (i := 1228) (by decide +kernel) (by decide +kernel)
theorem mw_X12_nth : dr_mw yX12_nth cX12_nth 2 (some .int) 1 := ⟨dr_in (i := 1233) (by decide +kernel) (by decide +kernel), dr_in (i := 80) (by decide +kernel) (by decide +kernel), by decide +kernel⟩
theorem mi_X12_nth : Cond.instanceMethod yX12_nth ∈ dr_tbl := dr_in (i := 1231) (by decide +kernel) (by decide +kernel)
theorem msl_X12_nth : Cond.selects yX12_nth.cls yX12_nth yX12_nth ∈ dr_tbl := dr_in (i := 1232) (by decide +kernel) (by decide +kernel)
theorem mw_X12_lists : dr_mw yX12_lists cX12_lists 4 none 0 := ⟨dr_in (i := 1237) (by decide +kernel) (by decide +kernel), dr_in (i := 80) (by decide +kernel) (by decide +kernel), by decide +kernel⟩
theorem mi_X12_lists : Cond.instanceMethod yX12_lists ∈ dr_tbl := dr_in (i := 1236) (by decide +kernel) (by decide +kernel)
theorem msl_X12_lists : Cond.selects yX12_lists.cls yX12_lists yX12_lists ∈ dr_tbl := dr_in (i := 53) (by decide +kernel) (by decide +kernel)
theorem mw_X12_rank : dr_mw yX12_rank cX12_rank 4 (some .int) 1 := ⟨dr_in (i := 1241) (by decide +kernel) (by decide +kernel), dr_in (i := 80) (by decide +kernel) (by decide +kernel), by decide +kernel⟩
theorem mi_X12_rank : Cond.instanceMethod yX12_rank ∈ dr_tbl := dr_in (i := 1239) (by decide +kernel) (by decide +kernel)
theorem msl_X12_rank : Cond.selects yX12_rank.cls yX12_rank yX12_rank ∈ dr_tbl := dr_in (i := 1240) (by decide +kernel) (by decide +kernel)
theorem mw_X12_there : dr_mw yX12_there cX12_there 9 (some .int) 3 := ⟨dr_in (i := 1245) (by decide +kernel) (by decide +kernel), dr_in (i := 80) (by decide +kernel) (by decide +kernel), by decide +kernel⟩
theorem mi_X12_there : Cond.instanceMethod yX12_there ∈ dr_tbl := dr_in (i := 1243) (by decide +kernel) (by decide +kernel)
theorem msl_X12_there : Cond.selects yX12_there.cls yX12_there yX12_there ∈ dr_tbl := dr_in (i := 1244) (by decide +kernel) (by decide +kernel)
theorem mw_X12_line : dr_mw yX12_line cX12_line 2 (some .int) 1 := ⟨dr_in (i := 1249) (by decide +kernel) (by decide +kernel), dr_in (i := 80) (by decide +kernel) (by decide +kernel), by decide +kernel⟩
theorem mi_X12_line : Cond.instanceMethod yX12_line ∈ dr_tbl := dr_in (i := 1247) (by decide +kernel) (by decide +kernel)
theorem msl_X12_line : Cond.selects yX12_line.cls yX12_line yX12_line ∈ dr_tbl := dr_in (i := 1248) (by decide +kernel) (by decide +kernel)
theorem mw_X12_canBeAsked : dr_mw yX12_canBeAsked cX12_canBeAsked 3 (some .boolean) 1 := ⟨dr_in (i := 1253) (by decide +kernel) (by decide +kernel), dr_in (i := 80) (by decide +kernel) (by decide +kernel), by decide +kernel⟩
theorem mi_X12_canBeAsked : Cond.instanceMethod yX12_canBeAsked ∈ dr_tbl := dr_in (i := 1252) (by decide +kernel) (by decide +kernel)
theorem msl_X12_canBeAsked : Cond.selects yX12_canBeAsked.cls yX12_canBeAsked yX12_canBeAsked ∈ dr_tbl := dr_in (i := 54) (by decide +kernel) (by decide +kernel)
theorem mw_X12_isSound : dr_mw yX12_isSound cX12_isSound 5 (some .boolean) 1 := ⟨dr_in (i := 1257) (by decide +kernel) (by decide +kernel), dr_in (i := 80) (by decide +kernel) (by decide +kernel), by decide +kernel⟩
theorem mi_X12_isSound : Cond.instanceMethod yX12_isSound ∈ dr_tbl := dr_in (i := 1256) (by decide +kernel) (by decide +kernel)
theorem msl_X12_isSound : Cond.selects yX12_isSound.cls yX12_isSound yX12_isSound ∈ dr_tbl := dr_in (i := 55) (by decide +kernel) (by decide +kernel)
theorem mw_X12_mayCome : dr_mw yX12_mayCome cX12_mayCome 5 (some .boolean) 2 := ⟨dr_in (i := 1261) (by decide +kernel) (by decide +kernel), dr_in (i := 80) (by decide +kernel) (by decide +kernel), by decide +kernel⟩
theorem mi_X12_mayCome : Cond.instanceMethod yX12_mayCome ∈ dr_tbl := dr_in (i := 1260) (by decide +kernel) (by decide +kernel)
theorem msl_X12_mayCome : Cond.selects yX12_mayCome.cls yX12_mayCome yX12_mayCome ∈ dr_tbl := dr_in (i := 56) (by decide +kernel) (by decide +kernel)
theorem mw_X12_isThere : dr_mw yX12_isThere cX12_isThere 4 (some .boolean) 1 := ⟨dr_in (i := 1265) (by decide +kernel) (by decide +kernel), dr_in (i := 80) (by decide +kernel) (by decide +kernel), by decide +kernel⟩
theorem mi_X12_isThere : Cond.instanceMethod yX12_isThere ∈ dr_tbl := dr_in (i := 1264) (by decide +kernel) (by decide +kernel)
theorem msl_X12_isThere : Cond.selects yX12_isThere.cls yX12_isThere yX12_isThere ∈ dr_tbl := dr_in (i := 57) (by decide +kernel) (by decide +kernel)
theorem mw_X12_order : dr_mw yX12_order cX12_order 7 (some .int) 2 := ⟨dr_in (i := 1269) (by decide +kernel) (by decide +kernel), dr_in (i := 80) (by decide +kernel) (by decide +kernel), by decide +kernel⟩
theorem mi_X12_order : Cond.instanceMethod yX12_order ∈ dr_tbl := dr_in (i := 1267) (by decide +kernel) (by decide +kernel)
theorem msl_X12_order : Cond.selects yX12_order.cls yX12_order yX12_order ∈ dr_tbl := dr_in (i := 1268) (by decide +kernel) (by decide +kernel)
theorem mw_X12_shape : dr_mw yX12_shape cX12_shape 2 (some .int) 0 := ⟨dr_in (i := 1274) (by decide +kernel) (by decide +kernel), dr_in (i := 80) (by decide +kernel) (by decide +kernel), by decide +kernel⟩
theorem mi_X12_shape : Cond.instanceMethod yX12_shape ∈ dr_tbl := dr_in (i := 1272) (by decide +kernel) (by decide +kernel)
theorem msl_X12_shape : Cond.selects yX12_shape.cls yX12_shape yX12_shape ∈ dr_tbl := dr_in (i := 1273) (by decide +kernel) (by decide +kernel)
theorem mw_X12_isBad : dr_mw yX12_isBad cX12_isBad 4 (some .boolean) 1 := ⟨dr_in (i := 1278) (by decide +kernel) (by decide +kernel), dr_in (i := 80) (by decide +kernel) (by decide +kernel), by decide +kernel⟩
theorem mi_X12_isBad : Cond.instanceMethod yX12_isBad ∈ dr_tbl := dr_in (i := 1277) (by decide +kernel) (by decide +kernel)
theorem msl_X12_isBad : Cond.selects yX12_isBad.cls yX12_isBad yX12_isBad ∈ dr_tbl := dr_in (i := 58) (by decide +kernel) (by decide +kernel)
theorem mw_X12_found : dr_mw yX12_found cX12_found 9 (some .int) 2 := ⟨dr_in (i := 1282) (by decide +kernel) (by decide +kernel), dr_in (i := 80) (by decide +kernel) (by decide +kernel), by decide +kernel⟩
theorem mi_X12_found : Cond.instanceMethod yX12_found ∈ dr_tbl := dr_in (i := 1280) (by decide +kernel) (by decide +kernel)
theorem msl_X12_found : Cond.selects yX12_found.cls yX12_found yX12_found ∈ dr_tbl := dr_in (i := 1281) (by decide +kernel) (by decide +kernel)
theorem mw_X12_atJobs : dr_mw yX12_atJobs cX12_atJobs 3 (some .int) 0 := ⟨dr_in (i := 1286) (by decide +kernel) (by decide +kernel), dr_in (i := 80) (by decide +kernel) (by decide +kernel), by decide +kernel⟩
theorem mi_X12_atJobs : Cond.instanceMethod yX12_atJobs ∈ dr_tbl := dr_in (i := 1285) (by decide +kernel) (by decide +kernel)
theorem msl_X12_atJobs : Cond.selects yX12_atJobs.cls yX12_atJobs yX12_atJobs ∈ dr_tbl := dr_in (i := 59) (by decide +kernel) (by decide +kernel)
theorem mw_X12_saves : dr_mw yX12_saves cX12_saves 2 none 0 := ⟨dr_in (i := 1290) (by decide +kernel) (by decide +kernel), dr_in (i := 80) (by decide +kernel) (by decide +kernel), by decide +kernel⟩
theorem mi_X12_saves : Cond.instanceMethod yX12_saves ∈ dr_tbl := dr_in (i := 1289) (by decide +kernel) (by decide +kernel)
theorem msl_X12_saves : Cond.selects yX12_saves.cls yX12_saves yX12_saves ∈ dr_tbl := dr_in (i := 60) (by decide +kernel) (by decide +kernel)
theorem mw_X12_goesBy : dr_mw yX12_goesBy cX12_goesBy 8 (some .boolean) 4 := ⟨dr_in (i := 1294) (by decide +kernel) (by decide +kernel), dr_in (i := 80) (by decide +kernel) (by decide +kernel), by decide +kernel⟩
theorem mi_X12_goesBy : Cond.instanceMethod yX12_goesBy ∈ dr_tbl := dr_in (i := 1293) (by decide +kernel) (by decide +kernel)
theorem msl_X12_goesBy : Cond.selects yX12_goesBy.cls yX12_goesBy yX12_goesBy ∈ dr_tbl := dr_in (i := 61) (by decide +kernel) (by decide +kernel)
theorem mw_X12_isBroken : dr_mw yX12_isBroken cX12_isBroken 2 (some .boolean) 1 := ⟨dr_in (i := 1299) (by decide +kernel) (by decide +kernel), dr_in (i := 80) (by decide +kernel) (by decide +kernel), by decide +kernel⟩
theorem mi_X12_isBroken : Cond.instanceMethod yX12_isBroken ∈ dr_tbl := dr_in (i := 1298) (by decide +kernel) (by decide +kernel)
theorem msl_X12_isBroken : Cond.selects yX12_isBroken.cls yX12_isBroken yX12_isBroken ∈ dr_tbl := dr_in (i := 62) (by decide +kernel) (by decide +kernel)
theorem mw_X12_putsBack : dr_mw yX12_putsBack cX12_putsBack 2 none 0 := ⟨dr_in (i := 1303) (by decide +kernel) (by decide +kernel), dr_in (i := 80) (by decide +kernel) (by decide +kernel), by decide +kernel⟩
theorem mi_X12_putsBack : Cond.instanceMethod yX12_putsBack ∈ dr_tbl := dr_in (i := 1302) (by decide +kernel) (by decide +kernel)
theorem msl_X12_putsBack : Cond.selects yX12_putsBack.cls yX12_putsBack yX12_putsBack ∈ dr_tbl := dr_in (i := 63) (by decide +kernel) (by decide +kernel)
theorem mw_X12_fall : dr_mw yX12_fall cX12_fall 5 (some .int) 0 := ⟨dr_in (i := 1307) (by decide +kernel) (by decide +kernel), dr_in (i := 80) (by decide +kernel) (by decide +kernel), by decide +kernel⟩
theorem mi_X12_fall : Cond.instanceMethod yX12_fall ∈ dr_tbl := dr_in (i := 1305) (by decide +kernel) (by decide +kernel)
theorem msl_X12_fall : Cond.selects yX12_fall.cls yX12_fall yX12_fall ∈ dr_tbl := dr_in (i := 1306) (by decide +kernel) (by decide +kernel)
theorem mw_X12_night : dr_mw yX12_night cX12_night 9 (some .int) 1 := ⟨dr_in (i := 1311) (by decide +kernel) (by decide +kernel), dr_in (i := 80) (by decide +kernel) (by decide +kernel), by decide +kernel⟩
theorem mi_X12_night : Cond.instanceMethod yX12_night ∈ dr_tbl := dr_in (i := 1309) (by decide +kernel) (by decide +kernel)
theorem msl_X12_night : Cond.selects yX12_night.cls yX12_night yX12_night ∈ dr_tbl := dr_in (i := 1310) (by decide +kernel) (by decide +kernel)
theorem mw_X12_sorts : dr_mw yX12_sorts cX12_sorts 6 none 0 := ⟨dr_in (i := 1315) (by decide +kernel) (by decide +kernel), dr_in (i := 80) (by decide +kernel) (by decide +kernel), by decide +kernel⟩
theorem mi_X12_sorts : Cond.instanceMethod yX12_sorts ∈ dr_tbl := dr_in (i := 1314) (by decide +kernel) (by decide +kernel)
theorem msl_X12_sorts : Cond.selects yX12_sorts.cls yX12_sorts yX12_sorts ∈ dr_tbl := dr_in (i := 64) (by decide +kernel) (by decide +kernel)
theorem mw_X12_binds : dr_mw yX12_binds cX12_binds 4 none 2 := ⟨dr_in (i := 1319) (by decide +kernel) (by decide +kernel), dr_in (i := 80) (by decide +kernel) (by decide +kernel), by decide +kernel⟩
theorem mi_X12_binds : Cond.instanceMethod yX12_binds ∈ dr_tbl := dr_in (i := 1318) (by decide +kernel) (by decide +kernel)
theorem msl_X12_binds : Cond.selects yX12_binds.cls yX12_binds yX12_binds ∈ dr_tbl := dr_in (i := 65) (by decide +kernel) (by decide +kernel)
theorem mw_X12_count : dr_mw yX12_count cX12_count 4 (some .int) 1 := ⟨dr_in (i := 1323) (by decide +kernel) (by decide +kernel), dr_in (i := 80) (by decide +kernel) (by decide +kernel), by decide +kernel⟩
theorem mi_X12_count : Cond.instanceMethod yX12_count ∈ dr_tbl := dr_in (i := 1321) (by decide +kernel) (by decide +kernel)
theorem msl_X12_count : Cond.selects yX12_count.cls yX12_count yX12_count ∈ dr_tbl := dr_in (i := 1322) (by decide +kernel) (by decide +kernel)

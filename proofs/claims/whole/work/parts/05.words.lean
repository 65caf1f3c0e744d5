theorem wu_0 : ∀ w ∈ u_ws RX0 TX0 2, w ∈ dr_tbl := by
  intro w hw
  obtain ⟨k, hk, rfl⟩ := List.mem_map.mp hw
  have hk := List.mem_range.mp hk
  have h1 : ∀ k, k < 2 → lw_tbl[([370, 372] : List Nat).getD k 0]? = some (u_lay RX0 TX0 k) := by decide +kernel
  have h2 : ∀ k, k < 2 → goodWord (u_lay RX0 TX0 k) = true := by decide +kernel
  exact dr_in (h1 k hk) (h2 k hk)
theorem wi_0 : Cond.initialized RX0 ∈ dr_tbl := dr_in (i := 79) (by decide +kernel) (by decide +kernel)
theorem wu_1 : ∀ w ∈ u_ws RX1 TX1 4, w ∈ dr_tbl := by
  intro w hw
  obtain ⟨k, hk, rfl⟩ := List.mem_map.mp hw
  have hk := List.mem_range.mp hk
  have h1 : ∀ k, k < 4 → lw_tbl[([272, 274, 276, 278] : List Nat).getD k 0]? = some (u_lay RX1 TX1 k) := by decide +kernel
  have h2 : ∀ k, k < 4 → goodWord (u_lay RX1 TX1 k) = true := by decide +kernel
  exact dr_in (h1 k hk) (h2 k hk)
theorem wi_1 : Cond.initialized RX1 ∈ dr_tbl := dr_in (i := 75) (by decide +kernel) (by decide +kernel)
theorem wu_2 : ∀ w ∈ u_ws RX2 TX2 5, w ∈ dr_tbl := by
  intro w hw
  obtain ⟨k, hk, rfl⟩ := List.mem_map.mp hw
  have hk := List.mem_range.mp hk
  have h1 : ∀ k, k < 5 → lw_tbl[([115, 117, 119, 121, 123] : List Nat).getD k 0]? = some (u_lay RX2 TX2 k) := by decide +kernel
  have h2 : ∀ k, k < 5 → goodWord (u_lay RX2 TX2 k) = true := by decide +kernel
  exact dr_in (h1 k hk) (h2 k hk)
theorem wi_2 : Cond.initialized RX2 ∈ dr_tbl := dr_in (i := 70) (by decide +kernel) (by decide +kernel)
theorem wu_3 : ∀ w ∈ u_ws RX3 TX3 2, w ∈ dr_tbl := by
  intro w hw
  obtain ⟨k, hk, rfl⟩ := List.mem_map.mp hw
  have hk := List.mem_range.mp hk
  have h1 : ∀ k, k < 2 → lw_tbl[([222, 224] : List Nat).getD k 0]? = some (u_lay RX3 TX3 k) := by decide +kernel
  have h2 : ∀ k, k < 2 → goodWord (u_lay RX3 TX3 k) = true := by decide +kernel
  exact dr_in (h1 k hk) (h2 k hk)
theorem wi_3 : Cond.initialized RX3 ∈ dr_tbl := dr_in (i := 72) (by decide +kernel) (by decide +kernel)
theorem wu_4 : ∀ w ∈ u_ws RX4 TX4 7, w ∈ dr_tbl := by
  intro w hw
  obtain ⟨k, hk, rfl⟩ := List.mem_map.mp hw
  have hk := List.mem_range.mp hk
  have h1 : ∀ k, k < 7 → lw_tbl[([190, 192, 194, 196, 198, 200, 202] : List Nat).getD k 0]? = some (u_lay RX4 TX4 k) := by decide +kernel
  have h2 : ∀ k, k < 7 → goodWord (u_lay RX4 TX4 k) = true := by decide +kernel
  exact dr_in (h1 k hk) (h2 k hk)
theorem wi_4 : Cond.initialized RX4 ∈ dr_tbl := dr_in (i := 69) (by decide +kernel) (by decide +kernel)
theorem wu_5 : ∀ w ∈ u_ws RX5 TX5 5, w ∈ dr_tbl := by
  intro w hw
  obtain ⟨k, hk, rfl⟩ := List.mem_map.mp hw
  have hk := List.mem_range.mp hk
  have h1 : ∀ k, k < 5 → lw_tbl[([138, 140, 142, 144, 146] : List Nat).getD k 0]? = some (u_lay RX5 TX5 k) := by decide +kernel
  have h2 : ∀ k, k < 5 → goodWord (u_lay RX5 TX5 k) = true := by decide +kernel
  exact dr_in (h1 k hk) (h2 k hk)
theorem wi_5 : Cond.initialized RX5 ∈ dr_tbl := dr_in (i := 71) (by decide +kernel) (by decide +kernel)
theorem wu_6 : ∀ w ∈ u_ws RX6 TX6 4, w ∈ dr_tbl := by
  intro w hw
  obtain ⟨k, hk, rfl⟩ := List.mem_map.mp hw
  have hk := List.mem_range.mp hk
  have h1 : ∀ k, k < 4 → lw_tbl[([237, 239, 241, 243] : List Nat).getD k 0]? = some (u_lay RX6 TX6 k) := by decide +kernel
  have h2 : ∀ k, k < 4 → goodWord (u_lay RX6 TX6 k) = true := by decide +kernel
  exact dr_in (h1 k hk) (h2 k hk)
theorem wi_6 : Cond.initialized RX6 ∈ dr_tbl := dr_in (i := 73) (by decide +kernel) (by decide +kernel)
theorem wu_7 : ∀ w ∈ u_ws RX7 TX7 9, w ∈ dr_tbl := by
  intro w hw
  obtain ⟨k, hk, rfl⟩ := List.mem_map.mp hw
  have hk := List.mem_range.mp hk
  have h1 : ∀ k, k < 9 → lw_tbl[([296, 298, 300, 302, 304, 306, 308, 310, 312] : List Nat).getD k 0]? = some (u_lay RX7 TX7 k) := by decide +kernel
  have h2 : ∀ k, k < 9 → goodWord (u_lay RX7 TX7 k) = true := by decide +kernel
  exact dr_in (h1 k hk) (h2 k hk)
theorem wi_7 : Cond.initialized RX7 ∈ dr_tbl := dr_in (i := 76) (by decide +kernel) (by decide +kernel)
theorem wu_8 : ∀ w ∈ u_ws RX8 TX8 9, w ∈ dr_tbl := by
  intro w hw
  obtain ⟨k, hk, rfl⟩ := List.mem_map.mp hw
  have hk := List.mem_range.mp hk
  have h1 : ∀ k, k < 9 → lw_tbl[([343, 345, 347, 349, 351, 353, 355, 357, 359] : List Nat).getD k 0]? = some (u_lay RX8 TX8 k) := by decide +kernel
  have h2 : ∀ k, k < 9 → goodWord (u_lay RX8 TX8 k) = true := by decide +kernel
  exact dr_in (h1 k hk) (h2 k hk)
theorem wi_8 : Cond.initialized RX8 ∈ dr_tbl := dr_in (i := 78) (by decide +kernel) (by decide +kernel)
theorem wu_9 : ∀ w ∈ u_ws RX9 TX9 2, w ∈ dr_tbl := by
  intro w hw
  obtain ⟨k, hk, rfl⟩ := List.mem_map.mp hw
  have hk := List.mem_range.mp hk
  have h1 : ∀ k, k < 2 → lw_tbl[([323, 325] : List Nat).getD k 0]? = some (u_lay RX9 TX9 k) := by decide +kernel
  have h2 : ∀ k, k < 2 → goodWord (u_lay RX9 TX9 k) = true := by decide +kernel
  exact dr_in (h1 k hk) (h2 k hk)
theorem wi_9 : Cond.initialized RX9 ∈ dr_tbl := dr_in (i := 77) (by decide +kernel) (by decide +kernel)
theorem wu_10 : ∀ w ∈ u_ws RX10 TX10 3, w ∈ dr_tbl := by
  intro w hw
  obtain ⟨k, hk, rfl⟩ := List.mem_map.mp hw
  have hk := List.mem_range.mp hk
  have h1 : ∀ k, k < 3 → lw_tbl[([255, 257, 259] : List Nat).getD k 0]? = some (u_lay RX10 TX10 k) := by decide +kernel
  have h2 : ∀ k, k < 3 → goodWord (u_lay RX10 TX10 k) = true := by decide +kernel
  exact dr_in (h1 k hk) (h2 k hk)
theorem wi_10 : Cond.initialized RX10 ∈ dr_tbl := dr_in (i := 74) (by decide +kernel) (by decide +kernel)
theorem wu_11 : ∀ w ∈ u_ws RX11 TX11 10, w ∈ dr_tbl := by
  intro w hw
  obtain ⟨k, hk, rfl⟩ := List.mem_map.mp hw
  have hk := List.mem_range.mp hk
  have h1 : ∀ k, k < 10 → lw_tbl[([385, 387, 389, 391, 393, 395, 397, 399, 401, 403] : List Nat).getD k 0]? = some (u_lay RX11 TX11 k) := by decide +kernel
  have h2 : ∀ k, k < 10 → goodWord (u_lay RX11 TX11 k) = true := by decide +kernel
  exact dr_in (h1 k hk) (h2 k hk)
theorem wi_11 : Cond.initialized RX11 ∈ dr_tbl := dr_in (i := 67) (by decide +kernel) (by decide +kernel)
theorem wu_12 : ∀ w ∈ u_ws RX12 TX12 59, w ∈ dr_tbl := by
  intro w hw
  obtain ⟨k, hk, rfl⟩ := List.mem_map.mp hw
  have hk := List.mem_range.mp hk
  have h1 : ∀ k, k < 59 → lw_tbl[([966, 968, 970, 972, 974, 976, 978, 980, 982, 984, 986, 988, 990, 992, 994, 996, 998, 1000, 1002, 1004, 1006, 1008, 1010, 1012, 1014, 1016, 1018, 1020, 1022, 1024, 1026, 1028, 1030, 1032, 1034, 1036, 1038, 1040, 1042, 1044, 1046, 1048, 1050, 1052, 1054, 1056, 1058, 1060, 1062, 1064, 1066, 1068, 1070, 1072, 1074, 1076, 1078, 1080, 1082] : List Nat).getD k 0]? = some (u_lay RX12 TX12 k) := by decide +kernel
  have h2 : ∀ k, k < 59 → goodWord (u_lay RX12 TX12 k) = true := by decide +kernel
  exact dr_in (h1 k hk) (h2 k hk)
theorem wi_12 : Cond.initialized RX12 ∈ dr_tbl := dr_in (i := 80) (by decide +kernel) (by decide +kernel)
theorem wf_2_32 : Cond.fieldLink RX2 32 (TX2 0).1 (TX2 0).2.1 (TX2 0).2.2.1 ∈ dr_tbl := dr_in (i := 110) (by decide +kernel) (by decide +kernel)
theorem wf_2_11 : Cond.fieldLink RX2 11 (TX2 1).1 (TX2 1).2.1 (TX2 1).2.2.1 ∈ dr_tbl := dr_in (i := 111) (by decide +kernel) (by decide +kernel)
theorem wf_2_15 : Cond.fieldLink RX2 15 (TX2 2).1 (TX2 2).2.1 (TX2 2).2.2.1 ∈ dr_tbl := dr_in (i := 112) (by decide +kernel) (by decide +kernel)
theorem wf_2_18 : Cond.fieldLink RX2 18 (TX2 3).1 (TX2 3).2.1 (TX2 3).2.2.1 ∈ dr_tbl := dr_in (i := 113) (by decide +kernel) (by decide +kernel)
theorem wf_2_22 : Cond.fieldLink RX2 22 (TX2 4).1 (TX2 4).2.1 (TX2 4).2.2.1 ∈ dr_tbl := dr_in (i := 114) (by decide +kernel) (by decide +kernel)
theorem wf_5_11 : Cond.fieldLink RX5 11 (TX5 0).1 (TX5 0).2.1 (TX5 0).2.2.1 ∈ dr_tbl := dr_in (i := 133) (by decide +kernel) (by decide +kernel)
theorem wf_5_15 : Cond.fieldLink RX5 15 (TX5 1).1 (TX5 1).2.1 (TX5 1).2.2.1 ∈ dr_tbl := dr_in (i := 134) (by decide +kernel) (by decide +kernel)
theorem wf_5_18 : Cond.fieldLink RX5 18 (TX5 2).1 (TX5 2).2.1 (TX5 2).2.2.1 ∈ dr_tbl := dr_in (i := 135) (by decide +kernel) (by decide +kernel)
theorem wf_5_21 : Cond.fieldLink RX5 21 (TX5 3).1 (TX5 3).2.1 (TX5 3).2.2.1 ∈ dr_tbl := dr_in (i := 136) (by decide +kernel) (by decide +kernel)
theorem wf_5_25 : Cond.fieldLink RX5 25 (TX5 4).1 (TX5 4).2.1 (TX5 4).2.2.1 ∈ dr_tbl := dr_in (i := 137) (by decide +kernel) (by decide +kernel)
theorem wf_4_9 : Cond.fieldLink RX4 9 (TX4 0).1 (TX4 0).2.1 (TX4 0).2.2.1 ∈ dr_tbl := dr_in (i := 183) (by decide +kernel) (by decide +kernel)
theorem wf_4_15 : Cond.fieldLink RX4 15 (TX4 1).1 (TX4 1).2.1 (TX4 1).2.2.1 ∈ dr_tbl := dr_in (i := 184) (by decide +kernel) (by decide +kernel)
theorem wf_4_19 : Cond.fieldLink RX4 19 (TX4 2).1 (TX4 2).2.1 (TX4 2).2.2.1 ∈ dr_tbl := dr_in (i := 185) (by decide +kernel) (by decide +kernel)
theorem wf_4_27 : Cond.fieldLink RX4 27 (TX4 3).1 (TX4 3).2.1 (TX4 3).2.2.1 ∈ dr_tbl := dr_in (i := 186) (by decide +kernel) (by decide +kernel)
theorem wf_4_30 : Cond.fieldLink RX4 30 (TX4 4).1 (TX4 4).2.1 (TX4 4).2.2.1 ∈ dr_tbl := dr_in (i := 187) (by decide +kernel) (by decide +kernel)
theorem wf_4_33 : Cond.fieldLink RX4 33 (TX4 5).1 (TX4 5).2.1 (TX4 5).2.2.1 ∈ dr_tbl := dr_in (i := 188) (by decide +kernel) (by decide +kernel)
theorem wf_4_36 : Cond.fieldLink RX4 36 (TX4 6).1 (TX4 6).2.1 (TX4 6).2.2.1 ∈ dr_tbl := dr_in (i := 189) (by decide +kernel) (by decide +kernel)
theorem wf_3_11 : Cond.fieldLink RX3 11 (TX3 0).1 (TX3 0).2.1 (TX3 0).2.2.1 ∈ dr_tbl := dr_in (i := 220) (by decide +kernel) (by decide +kernel)
theorem wf_3_15 : Cond.fieldLink RX3 15 (TX3 1).1 (TX3 1).2.1 (TX3 1).2.2.1 ∈ dr_tbl := dr_in (i := 221) (by decide +kernel) (by decide +kernel)
theorem wf_6_11 : Cond.fieldLink RX6 11 (TX6 0).1 (TX6 0).2.1 (TX6 0).2.2.1 ∈ dr_tbl := dr_in (i := 233) (by decide +kernel) (by decide +kernel)
theorem wf_6_15 : Cond.fieldLink RX6 15 (TX6 1).1 (TX6 1).2.1 (TX6 1).2.2.1 ∈ dr_tbl := dr_in (i := 234) (by decide +kernel) (by decide +kernel)
theorem wf_6_19 : Cond.fieldLink RX6 19 (TX6 2).1 (TX6 2).2.1 (TX6 2).2.2.1 ∈ dr_tbl := dr_in (i := 235) (by decide +kernel) (by decide +kernel)
theorem wf_6_22 : Cond.fieldLink RX6 22 (TX6 3).1 (TX6 3).2.1 (TX6 3).2.2.1 ∈ dr_tbl := dr_in (i := 236) (by decide +kernel) (by decide +kernel)
theorem wf_10_9 : Cond.fieldLink RX10 9 (TX10 0).1 (TX10 0).2.1 (TX10 0).2.2.1 ∈ dr_tbl := dr_in (i := 252) (by decide +kernel) (by decide +kernel)
theorem wf_10_15 : Cond.fieldLink RX10 15 (TX10 1).1 (TX10 1).2.1 (TX10 1).2.2.1 ∈ dr_tbl := dr_in (i := 253) (by decide +kernel) (by decide +kernel)
theorem wf_10_19 : Cond.fieldLink RX10 19 (TX10 2).1 (TX10 2).2.1 (TX10 2).2.2.1 ∈ dr_tbl := dr_in (i := 254) (by decide +kernel) (by decide +kernel)
theorem wf_1_19 : Cond.fieldLink RX1 19 (TX1 0).1 (TX1 0).2.1 (TX1 0).2.2.1 ∈ dr_tbl := dr_in (i := 268) (by decide +kernel) (by decide +kernel)
theorem wf_1_23 : Cond.fieldLink RX1 23 (TX1 1).1 (TX1 1).2.1 (TX1 1).2.2.1 ∈ dr_tbl := dr_in (i := 269) (by decide +kernel) (by decide +kernel)
theorem wf_1_9 : Cond.fieldLink RX1 9 (TX1 2).1 (TX1 2).2.1 (TX1 2).2.2.1 ∈ dr_tbl := dr_in (i := 270) (by decide +kernel) (by decide +kernel)
theorem wf_1_15 : Cond.fieldLink RX1 15 (TX1 3).1 (TX1 3).2.1 (TX1 3).2.2.1 ∈ dr_tbl := dr_in (i := 271) (by decide +kernel) (by decide +kernel)
theorem wf_7_37 : Cond.fieldLink RX7 37 (TX7 0).1 (TX7 0).2.1 (TX7 0).2.2.1 ∈ dr_tbl := dr_in (i := 287) (by decide +kernel) (by decide +kernel)
theorem wf_7_11 : Cond.fieldLink RX7 11 (TX7 1).1 (TX7 1).2.1 (TX7 1).2.2.1 ∈ dr_tbl := dr_in (i := 288) (by decide +kernel) (by decide +kernel)
theorem wf_7_15 : Cond.fieldLink RX7 15 (TX7 2).1 (TX7 2).2.1 (TX7 2).2.2.1 ∈ dr_tbl := dr_in (i := 289) (by decide +kernel) (by decide +kernel)
theorem wf_7_18 : Cond.fieldLink RX7 18 (TX7 3).1 (TX7 3).2.1 (TX7 3).2.2.1 ∈ dr_tbl := dr_in (i := 290) (by decide +kernel) (by decide +kernel)
theorem wf_7_21 : Cond.fieldLink RX7 21 (TX7 4).1 (TX7 4).2.1 (TX7 4).2.2.1 ∈ dr_tbl := dr_in (i := 291) (by decide +kernel) (by decide +kernel)
theorem wf_7_24 : Cond.fieldLink RX7 24 (TX7 5).1 (TX7 5).2.1 (TX7 5).2.2.1 ∈ dr_tbl := dr_in (i := 292) (by decide +kernel) (by decide +kernel)
theorem wf_7_27 : Cond.fieldLink RX7 27 (TX7 6).1 (TX7 6).2.1 (TX7 6).2.2.1 ∈ dr_tbl := dr_in (i := 293) (by decide +kernel) (by decide +kernel)
theorem wf_7_30 : Cond.fieldLink RX7 30 (TX7 7).1 (TX7 7).2.1 (TX7 7).2.2.1 ∈ dr_tbl := dr_in (i := 294) (by decide +kernel) (by decide +kernel)
theorem wf_7_33 : Cond.fieldLink RX7 33 (TX7 8).1 (TX7 8).2.1 (TX7 8).2.2.1 ∈ dr_tbl := dr_in (i := 295) (by decide +kernel) (by decide +kernel)
theorem wf_9_9 : Cond.fieldLink RX9 9 (TX9 0).1 (TX9 0).2.1 (TX9 0).2.2.1 ∈ dr_tbl := dr_in (i := 321) (by decide +kernel) (by decide +kernel)
theorem wf_9_15 : Cond.fieldLink RX9 15 (TX9 1).1 (TX9 1).2.1 (TX9 1).2.2.1 ∈ dr_tbl := dr_in (i := 322) (by decide +kernel) (by decide +kernel)
theorem wf_8_22 : Cond.fieldLink RX8 22 (TX8 0).1 (TX8 0).2.1 (TX8 0).2.2.1 ∈ dr_tbl := dr_in (i := 334) (by decide +kernel) (by decide +kernel)
theorem wf_8_26 : Cond.fieldLink RX8 26 (TX8 1).1 (TX8 1).2.1 (TX8 1).2.2.1 ∈ dr_tbl := dr_in (i := 335) (by decide +kernel) (by decide +kernel)
theorem wf_8_30 : Cond.fieldLink RX8 30 (TX8 2).1 (TX8 2).2.1 (TX8 2).2.2.1 ∈ dr_tbl := dr_in (i := 336) (by decide +kernel) (by decide +kernel)
theorem wf_8_34 : Cond.fieldLink RX8 34 (TX8 3).1 (TX8 3).2.1 (TX8 3).2.2.1 ∈ dr_tbl := dr_in (i := 337) (by decide +kernel) (by decide +kernel)
theorem wf_8_38 : Cond.fieldLink RX8 38 (TX8 4).1 (TX8 4).2.1 (TX8 4).2.2.1 ∈ dr_tbl := dr_in (i := 338) (by decide +kernel) (by decide +kernel)
theorem wf_8_42 : Cond.fieldLink RX8 42 (TX8 5).1 (TX8 5).2.1 (TX8 5).2.2.1 ∈ dr_tbl := dr_in (i := 339) (by decide +kernel) (by decide +kernel)
theorem wf_8_9 : Cond.fieldLink RX8 9 (TX8 6).1 (TX8 6).2.1 (TX8 6).2.2.1 ∈ dr_tbl := dr_in (i := 340) (by decide +kernel) (by decide +kernel)
theorem wf_8_15 : Cond.fieldLink RX8 15 (TX8 7).1 (TX8 7).2.1 (TX8 7).2.2.1 ∈ dr_tbl := dr_in (i := 341) (by decide +kernel) (by decide +kernel)
theorem wf_8_19 : Cond.fieldLink RX8 19 (TX8 8).1 (TX8 8).2.1 (TX8 8).2.2.1 ∈ dr_tbl := dr_in (i := 342) (by decide +kernel) (by decide +kernel)
theorem wf_0_9 : Cond.fieldLink RX0 9 (TX0 0).1 (TX0 0).2.1 (TX0 0).2.2.1 ∈ dr_tbl := dr_in (i := 368) (by decide +kernel) (by decide +kernel)
theorem wf_0_15 : Cond.fieldLink RX0 15 (TX0 1).1 (TX0 1).2.1 (TX0 1).2.2.1 ∈ dr_tbl := dr_in (i := 369) (by decide +kernel) (by decide +kernel)
theorem wf_11_34 : Cond.fieldLink RX11 34 (TX11 0).1 (TX11 0).2.1 (TX11 0).2.2.1 ∈ dr_tbl := dr_in (i := 375) (by decide +kernel) (by decide +kernel)
theorem wf_11_43 : Cond.fieldLink RX11 43 (TX11 1).1 (TX11 1).2.1 (TX11 1).2.2.1 ∈ dr_tbl := dr_in (i := 376) (by decide +kernel) (by decide +kernel)
theorem wf_11_50 : Cond.fieldLink RX11 50 (TX11 2).1 (TX11 2).2.1 (TX11 2).2.2.1 ∈ dr_tbl := dr_in (i := 377) (by decide +kernel) (by decide +kernel)
theorem wf_11_55 : Cond.fieldLink RX11 55 (TX11 3).1 (TX11 3).2.1 (TX11 3).2.2.1 ∈ dr_tbl := dr_in (i := 378) (by decide +kernel) (by decide +kernel)
theorem wf_11_64 : Cond.fieldLink RX11 64 (TX11 4).1 (TX11 4).2.1 (TX11 4).2.2.1 ∈ dr_tbl := dr_in (i := 379) (by decide +kernel) (by decide +kernel)
theorem wf_11_73 : Cond.fieldLink RX11 73 (TX11 5).1 (TX11 5).2.1 (TX11 5).2.2.1 ∈ dr_tbl := dr_in (i := 380) (by decide +kernel) (by decide +kernel)
theorem wf_11_82 : Cond.fieldLink RX11 82 (TX11 6).1 (TX11 6).2.1 (TX11 6).2.2.1 ∈ dr_tbl := dr_in (i := 381) (by decide +kernel) (by decide +kernel)
theorem wf_11_89 : Cond.fieldLink RX11 89 (TX11 7).1 (TX11 7).2.1 (TX11 7).2.2.1 ∈ dr_tbl := dr_in (i := 382) (by decide +kernel) (by decide +kernel)
theorem wf_11_98 : Cond.fieldLink RX11 98 (TX11 8).1 (TX11 8).2.1 (TX11 8).2.2.1 ∈ dr_tbl := dr_in (i := 383) (by decide +kernel) (by decide +kernel)
theorem wf_11_107 : Cond.fieldLink RX11 107 (TX11 9).1 (TX11 9).2.1 (TX11 9).2.2.1 ∈ dr_tbl := dr_in (i := 384) (by decide +kernel) (by decide +kernel)
theorem wf_12_152 : Cond.fieldLink RX12 152 (TX12 0).1 (TX12 0).2.1 (TX12 0).2.2.1 ∈ dr_tbl := dr_in (i := 907) (by decide +kernel) (by decide +kernel)
theorem wf_12_178 : Cond.fieldLink RX12 178 (TX12 1).1 (TX12 1).2.1 (TX12 1).2.2.1 ∈ dr_tbl := dr_in (i := 908) (by decide +kernel) (by decide +kernel)
theorem wf_12_7 : Cond.fieldLink RX12 7 (TX12 2).1 (TX12 2).2.1 (TX12 2).2.2.1 ∈ dr_tbl := dr_in (i := 909) (by decide +kernel) (by decide +kernel)
theorem wf_12_13 : Cond.fieldLink RX12 13 (TX12 3).1 (TX12 3).2.1 (TX12 3).2.2.1 ∈ dr_tbl := dr_in (i := 910) (by decide +kernel) (by decide +kernel)
theorem wf_12_199 : Cond.fieldLink RX12 199 (TX12 4).1 (TX12 4).2.1 (TX12 4).2.2.1 ∈ dr_tbl := dr_in (i := 911) (by decide +kernel) (by decide +kernel)
theorem wf_12_202 : Cond.fieldLink RX12 202 (TX12 5).1 (TX12 5).2.1 (TX12 5).2.2.1 ∈ dr_tbl := dr_in (i := 912) (by decide +kernel) (by decide +kernel)
theorem wf_12_17 : Cond.fieldLink RX12 17 (TX12 6).1 (TX12 6).2.1 (TX12 6).2.2.1 ∈ dr_tbl := dr_in (i := 913) (by decide +kernel) (by decide +kernel)
theorem wf_12_20 : Cond.fieldLink RX12 20 (TX12 7).1 (TX12 7).2.1 (TX12 7).2.2.1 ∈ dr_tbl := dr_in (i := 914) (by decide +kernel) (by decide +kernel)
theorem wf_12_23 : Cond.fieldLink RX12 23 (TX12 8).1 (TX12 8).2.1 (TX12 8).2.2.1 ∈ dr_tbl := dr_in (i := 915) (by decide +kernel) (by decide +kernel)
theorem wf_12_26 : Cond.fieldLink RX12 26 (TX12 9).1 (TX12 9).2.1 (TX12 9).2.2.1 ∈ dr_tbl := dr_in (i := 916) (by decide +kernel) (by decide +kernel)
theorem wf_12_29 : Cond.fieldLink RX12 29 (TX12 10).1 (TX12 10).2.1 (TX12 10).2.2.1 ∈ dr_tbl := dr_in (i := 917) (by decide +kernel) (by decide +kernel)
theorem wf_12_32 : Cond.fieldLink RX12 32 (TX12 11).1 (TX12 11).2.1 (TX12 11).2.2.1 ∈ dr_tbl := dr_in (i := 918) (by decide +kernel) (by decide +kernel)
theorem wf_12_35 : Cond.fieldLink RX12 35 (TX12 12).1 (TX12 12).2.1 (TX12 12).2.2.1 ∈ dr_tbl := dr_in (i := 919) (by decide +kernel) (by decide +kernel)
theorem wf_12_38 : Cond.fieldLink RX12 38 (TX12 13).1 (TX12 13).2.1 (TX12 13).2.2.1 ∈ dr_tbl := dr_in (i := 920) (by decide +kernel) (by decide +kernel)
theorem wf_12_41 : Cond.fieldLink RX12 41 (TX12 14).1 (TX12 14).2.1 (TX12 14).2.2.1 ∈ dr_tbl := dr_in (i := 921) (by decide +kernel) (by decide +kernel)
theorem wf_12_44 : Cond.fieldLink RX12 44 (TX12 15).1 (TX12 15).2.1 (TX12 15).2.2.1 ∈ dr_tbl := dr_in (i := 922) (by decide +kernel) (by decide +kernel)
theorem wf_12_47 : Cond.fieldLink RX12 47 (TX12 16).1 (TX12 16).2.1 (TX12 16).2.2.1 ∈ dr_tbl := dr_in (i := 923) (by decide +kernel) (by decide +kernel)
theorem wf_12_50 : Cond.fieldLink RX12 50 (TX12 17).1 (TX12 17).2.1 (TX12 17).2.2.1 ∈ dr_tbl := dr_in (i := 924) (by decide +kernel) (by decide +kernel)
theorem wf_12_53 : Cond.fieldLink RX12 53 (TX12 18).1 (TX12 18).2.1 (TX12 18).2.2.1 ∈ dr_tbl := dr_in (i := 925) (by decide +kernel) (by decide +kernel)
theorem wf_12_56 : Cond.fieldLink RX12 56 (TX12 19).1 (TX12 19).2.1 (TX12 19).2.2.1 ∈ dr_tbl := dr_in (i := 926) (by decide +kernel) (by decide +kernel)
theorem wf_12_59 : Cond.fieldLink RX12 59 (TX12 20).1 (TX12 20).2.1 (TX12 20).2.2.1 ∈ dr_tbl := dr_in (i := 927) (by decide +kernel) (by decide +kernel)
theorem wf_12_62 : Cond.fieldLink RX12 62 (TX12 21).1 (TX12 21).2.1 (TX12 21).2.2.1 ∈ dr_tbl := dr_in (i := 928) (by decide +kernel) (by decide +kernel)
theorem wf_12_65 : Cond.fieldLink RX12 65 (TX12 22).1 (TX12 22).2.1 (TX12 22).2.2.1 ∈ dr_tbl := dr_in (i := 929) (by decide +kernel) (by decide +kernel)
theorem wf_12_68 : Cond.fieldLink RX12 68 (TX12 23).1 (TX12 23).2.1 (TX12 23).2.2.1 ∈ dr_tbl := dr_in (i := 930) (by decide +kernel) (by decide +kernel)
theorem wf_12_71 : Cond.fieldLink RX12 71 (TX12 24).1 (TX12 24).2.1 (TX12 24).2.2.1 ∈ dr_tbl := dr_in (i := 931) (by decide +kernel) (by decide +kernel)
theorem wf_12_74 : Cond.fieldLink RX12 74 (TX12 25).1 (TX12 25).2.1 (TX12 25).2.2.1 ∈ dr_tbl := dr_in (i := 932) (by decide +kernel) (by decide +kernel)
theorem wf_12_175 : Cond.fieldLink RX12 175 (TX12 26).1 (TX12 26).2.1 (TX12 26).2.2.1 ∈ dr_tbl := dr_in (i := 933) (by decide +kernel) (by decide +kernel)
theorem wf_12_77 : Cond.fieldLink RX12 77 (TX12 27).1 (TX12 27).2.1 (TX12 27).2.2.1 ∈ dr_tbl := dr_in (i := 934) (by decide +kernel) (by decide +kernel)
theorem wf_12_80 : Cond.fieldLink RX12 80 (TX12 28).1 (TX12 28).2.1 (TX12 28).2.2.1 ∈ dr_tbl := dr_in (i := 935) (by decide +kernel) (by decide +kernel)
theorem wf_12_83 : Cond.fieldLink RX12 83 (TX12 29).1 (TX12 29).2.1 (TX12 29).2.2.1 ∈ dr_tbl := dr_in (i := 936) (by decide +kernel) (by decide +kernel)
theorem wf_12_86 : Cond.fieldLink RX12 86 (TX12 30).1 (TX12 30).2.1 (TX12 30).2.2.1 ∈ dr_tbl := dr_in (i := 937) (by decide +kernel) (by decide +kernel)
theorem wf_12_89 : Cond.fieldLink RX12 89 (TX12 31).1 (TX12 31).2.1 (TX12 31).2.2.1 ∈ dr_tbl := dr_in (i := 938) (by decide +kernel) (by decide +kernel)
theorem wf_12_92 : Cond.fieldLink RX12 92 (TX12 32).1 (TX12 32).2.1 (TX12 32).2.2.1 ∈ dr_tbl := dr_in (i := 939) (by decide +kernel) (by decide +kernel)
theorem wf_12_95 : Cond.fieldLink RX12 95 (TX12 33).1 (TX12 33).2.1 (TX12 33).2.2.1 ∈ dr_tbl := dr_in (i := 940) (by decide +kernel) (by decide +kernel)
theorem wf_12_247 : Cond.fieldLink RX12 247 (TX12 34).1 (TX12 34).2.1 (TX12 34).2.2.1 ∈ dr_tbl := dr_in (i := 941) (by decide +kernel) (by decide +kernel)
theorem wf_12_98 : Cond.fieldLink RX12 98 (TX12 35).1 (TX12 35).2.1 (TX12 35).2.2.1 ∈ dr_tbl := dr_in (i := 942) (by decide +kernel) (by decide +kernel)
theorem wf_12_101 : Cond.fieldLink RX12 101 (TX12 36).1 (TX12 36).2.1 (TX12 36).2.2.1 ∈ dr_tbl := dr_in (i := 943) (by decide +kernel) (by decide +kernel)
theorem wf_12_104 : Cond.fieldLink RX12 104 (TX12 37).1 (TX12 37).2.1 (TX12 37).2.2.1 ∈ dr_tbl := dr_in (i := 944) (by decide +kernel) (by decide +kernel)
theorem wf_12_107 : Cond.fieldLink RX12 107 (TX12 38).1 (TX12 38).2.1 (TX12 38).2.2.1 ∈ dr_tbl := dr_in (i := 945) (by decide +kernel) (by decide +kernel)
theorem wf_12_110 : Cond.fieldLink RX12 110 (TX12 39).1 (TX12 39).2.1 (TX12 39).2.2.1 ∈ dr_tbl := dr_in (i := 946) (by decide +kernel) (by decide +kernel)
theorem wf_12_164 : Cond.fieldLink RX12 164 (TX12 40).1 (TX12 40).2.1 (TX12 40).2.2.1 ∈ dr_tbl := dr_in (i := 947) (by decide +kernel) (by decide +kernel)
theorem wf_12_113 : Cond.fieldLink RX12 113 (TX12 41).1 (TX12 41).2.1 (TX12 41).2.2.1 ∈ dr_tbl := dr_in (i := 948) (by decide +kernel) (by decide +kernel)
theorem wf_12_271 : Cond.fieldLink RX12 271 (TX12 42).1 (TX12 42).2.1 (TX12 42).2.2.1 ∈ dr_tbl := dr_in (i := 949) (by decide +kernel) (by decide +kernel)
theorem wf_12_116 : Cond.fieldLink RX12 116 (TX12 43).1 (TX12 43).2.1 (TX12 43).2.2.1 ∈ dr_tbl := dr_in (i := 950) (by decide +kernel) (by decide +kernel)
theorem wf_12_277 : Cond.fieldLink RX12 277 (TX12 44).1 (TX12 44).2.1 (TX12 44).2.2.1 ∈ dr_tbl := dr_in (i := 951) (by decide +kernel) (by decide +kernel)
theorem wf_12_119 : Cond.fieldLink RX12 119 (TX12 45).1 (TX12 45).2.1 (TX12 45).2.2.1 ∈ dr_tbl := dr_in (i := 952) (by decide +kernel) (by decide +kernel)
theorem wf_12_122 : Cond.fieldLink RX12 122 (TX12 46).1 (TX12 46).2.1 (TX12 46).2.2.1 ∈ dr_tbl := dr_in (i := 953) (by decide +kernel) (by decide +kernel)
theorem wf_12_125 : Cond.fieldLink RX12 125 (TX12 47).1 (TX12 47).2.1 (TX12 47).2.2.1 ∈ dr_tbl := dr_in (i := 954) (by decide +kernel) (by decide +kernel)
theorem wf_12_128 : Cond.fieldLink RX12 128 (TX12 48).1 (TX12 48).2.1 (TX12 48).2.2.1 ∈ dr_tbl := dr_in (i := 955) (by decide +kernel) (by decide +kernel)
theorem wf_12_131 : Cond.fieldLink RX12 131 (TX12 49).1 (TX12 49).2.1 (TX12 49).2.2.1 ∈ dr_tbl := dr_in (i := 956) (by decide +kernel) (by decide +kernel)
theorem wf_12_134 : Cond.fieldLink RX12 134 (TX12 50).1 (TX12 50).2.1 (TX12 50).2.2.1 ∈ dr_tbl := dr_in (i := 957) (by decide +kernel) (by decide +kernel)
theorem wf_12_137 : Cond.fieldLink RX12 137 (TX12 51).1 (TX12 51).2.1 (TX12 51).2.2.1 ∈ dr_tbl := dr_in (i := 958) (by decide +kernel) (by decide +kernel)
theorem wf_12_140 : Cond.fieldLink RX12 140 (TX12 52).1 (TX12 52).2.1 (TX12 52).2.2.1 ∈ dr_tbl := dr_in (i := 959) (by decide +kernel) (by decide +kernel)
theorem wf_12_143 : Cond.fieldLink RX12 143 (TX12 53).1 (TX12 53).2.1 (TX12 53).2.2.1 ∈ dr_tbl := dr_in (i := 960) (by decide +kernel) (by decide +kernel)
theorem wf_12_146 : Cond.fieldLink RX12 146 (TX12 54).1 (TX12 54).2.1 (TX12 54).2.2.1 ∈ dr_tbl := dr_in (i := 961) (by decide +kernel) (by decide +kernel)
theorem wf_12_298 : Cond.fieldLink RX12 298 (TX12 55).1 (TX12 55).2.1 (TX12 55).2.2.1 ∈ dr_tbl := dr_in (i := 962) (by decide +kernel) (by decide +kernel)
theorem wf_12_301 : Cond.fieldLink RX12 301 (TX12 56).1 (TX12 56).2.1 (TX12 56).2.2.1 ∈ dr_tbl := dr_in (i := 963) (by decide +kernel) (by decide +kernel)
theorem wf_12_304 : Cond.fieldLink RX12 304 (TX12 57).1 (TX12 57).2.1 (TX12 57).2.2.1 ∈ dr_tbl := dr_in (i := 964) (by decide +kernel) (by decide +kernel)
theorem wf_12_149 : Cond.fieldLink RX12 149 (TX12 58).1 (TX12 58).2.1 (TX12 58).2.2.1 ∈ dr_tbl := dr_in (i := 965) (by decide +kernel) (by decide +kernel)

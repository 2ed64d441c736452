theorem wg (i : Nat) {w : Cond} (h : lw_tbl[i]? = some w) (g : goodWord w = true) : w ∈ GT := GT_in (List.mem_of_getElem? h) g
theorem wn (i : Nat) {w : Cond} (h : lw_tbl[i]? = some w) (g : isNw w = true) : w ∈ NW := List.mem_filter.mpr ⟨List.mem_of_getElem? h, g⟩
theorem ix_lt {i : Int32} {n : Nat} (h : ix i n = true) : i.toNatClampNeg < n := Nat.not_le.mp fun q => ix_in h (Or.inr q)
theorem inG0 : ∀ w ∈ u_ws RX0 TX0 11, w ∈ GT := by
  have h1 : u_ws RX0 TX0 11 = [169, 171, 173, 175, 177, 179, 181, 183, 185, 187, 189].filterMap (fun i => lw_tbl[i]?) := by decide +kernel
  have h2 : (u_ws RX0 TX0 11).all goodWord = true := by decide +kernel
  intro w hw
  have h3 := List.all_eq_true.mp h2 w hw
  rw [h1] at hw
  obtain ⟨i, -, hi⟩ := List.mem_filterMap.mp hw
  exact GT_in (List.mem_of_getElem? hi) h3
theorem inG1 : ∀ w ∈ u_ws RX1 TX1 4, w ∈ GT := by
  have h1 : u_ws RX1 TX1 4 = [201, 203, 205, 207].filterMap (fun i => lw_tbl[i]?) := by decide +kernel
  have h2 : (u_ws RX1 TX1 4).all goodWord = true := by decide +kernel
  intro w hw
  have h3 := List.all_eq_true.mp h2 w hw
  rw [h1] at hw
  obtain ⟨i, -, hi⟩ := List.mem_filterMap.mp hw
  exact GT_in (List.mem_of_getElem? hi) h3
theorem inG2 : ∀ w ∈ u_ws RX2 TX2 6, w ∈ GT := by
  have h1 : u_ws RX2 TX2 6 = [271, 273, 275, 277, 279, 281].filterMap (fun i => lw_tbl[i]?) := by decide +kernel
  have h2 : (u_ws RX2 TX2 6).all goodWord = true := by decide +kernel
  intro w hw
  have h3 := List.all_eq_true.mp h2 w hw
  rw [h1] at hw
  obtain ⟨i, -, hi⟩ := List.mem_filterMap.mp hw
  exact GT_in (List.mem_of_getElem? hi) h3
theorem inG3 : ∀ w ∈ u_ws RX3 TX3 8, w ∈ GT := by
  have h1 : u_ws RX3 TX3 8 = [122, 124, 126, 128, 130, 132, 134, 136].filterMap (fun i => lw_tbl[i]?) := by decide +kernel
  have h2 : (u_ws RX3 TX3 8).all goodWord = true := by decide +kernel
  intro w hw
  have h3 := List.all_eq_true.mp h2 w hw
  rw [h1] at hw
  obtain ⟨i, -, hi⟩ := List.mem_filterMap.mp hw
  exact GT_in (List.mem_of_getElem? hi) h3
theorem inG4 : ∀ w ∈ u_ws RX4 TX4 12, w ∈ GT := by
  have h1 : u_ws RX4 TX4 12 = [234, 236, 238, 240, 242, 244, 246, 248, 250, 252, 254, 256].filterMap (fun i => lw_tbl[i]?) := by decide +kernel
  have h2 : (u_ws RX4 TX4 12).all goodWord = true := by decide +kernel
  intro w hw
  have h3 := List.all_eq_true.mp h2 w hw
  rw [h1] at hw
  obtain ⟨i, -, hi⟩ := List.mem_filterMap.mp hw
  exact GT_in (List.mem_of_getElem? hi) h3
theorem inG5 : ∀ w ∈ u_ws RX5 TX5 2, w ∈ GT := by
  have h1 : u_ws RX5 TX5 2 = [308, 310].filterMap (fun i => lw_tbl[i]?) := by decide +kernel
  have h2 : (u_ws RX5 TX5 2).all goodWord = true := by decide +kernel
  intro w hw
  have h3 := List.all_eq_true.mp h2 w hw
  rw [h1] at hw
  obtain ⟨i, -, hi⟩ := List.mem_filterMap.mp hw
  exact GT_in (List.mem_of_getElem? hi) h3
theorem inG6 : ∀ w ∈ u_ws RX6 TX6 2, w ∈ GT := by
  have h1 : u_ws RX6 TX6 2 = [327, 329].filterMap (fun i => lw_tbl[i]?) := by decide +kernel
  have h2 : (u_ws RX6 TX6 2).all goodWord = true := by decide +kernel
  intro w hw
  have h3 := List.all_eq_true.mp h2 w hw
  rw [h1] at hw
  obtain ⟨i, -, hi⟩ := List.mem_filterMap.mp hw
  exact GT_in (List.mem_of_getElem? hi) h3
theorem inG7 : ∀ w ∈ u_ws RX7 TX7 2, w ∈ GT := by
  have h1 : u_ws RX7 TX7 2 = [293, 295].filterMap (fun i => lw_tbl[i]?) := by decide +kernel
  have h2 : (u_ws RX7 TX7 2).all goodWord = true := by decide +kernel
  intro w hw
  have h3 := List.all_eq_true.mp h2 w hw
  rw [h1] at hw
  obtain ⟨i, -, hi⟩ := List.mem_filterMap.mp hw
  exact GT_in (List.mem_of_getElem? hi) h3
theorem inG8 : ∀ w ∈ u_ws RX8 TX8 11, w ∈ GT := by
  have h1 : u_ws RX8 TX8 11 = [343, 345, 347, 349, 351, 353, 355, 357, 359, 361, 363].filterMap (fun i => lw_tbl[i]?) := by decide +kernel
  have h2 : (u_ws RX8 TX8 11).all goodWord = true := by decide +kernel
  intro w hw
  have h3 := List.all_eq_true.mp h2 w hw
  rw [h1] at hw
  obtain ⟨i, -, hi⟩ := List.mem_filterMap.mp hw
  exact GT_in (List.mem_of_getElem? hi) h3
theorem inG9 : ∀ w ∈ u_ws RX9 TX9 42, w ∈ GT := by
  have h1 : u_ws RX9 TX9 42 = [888, 890, 892, 894, 896, 898, 900, 902, 904, 906, 908, 910, 912, 914, 916, 918, 920, 922, 924, 926, 928, 930, 932, 934, 936, 938, 940, 942, 944, 946, 948, 950, 952, 954, 956, 958, 960, 962, 964, 966, 968, 970].filterMap (fun i => lw_tbl[i]?) := by decide +kernel
  have h2 : (u_ws RX9 TX9 42).all goodWord = true := by decide +kernel
  intro w hw
  have h3 := List.all_eq_true.mp h2 w hw
  rw [h1] at hw
  obtain ⟨i, -, hi⟩ := List.mem_filterMap.mp hw
  exact GT_in (List.mem_of_getElem? hi) h3
theorem w_c373 : Cond.constant RX8 74 (100000) ∈ GT := wg 373 (by decide +kernel) rfl
theorem fl269 : FL RX2 36 2 4 := ⟨_, rfl, by decide, inG2, wg 269 (by decide +kernel) rfl, rfl⟩
theorem fl98 : FL RX3 9 3 0 := ⟨_, rfl, by decide, inG3, wg 98 (by decide +kernel) rfl, rfl⟩
theorem fl332 : FL RX8 12 8 0 := ⟨_, rfl, by decide, inG8, wg 332 (by decide +kernel) rfl, rfl⟩
theorem fl337 : FL RX8 37 8 5 := ⟨_, rfl, by decide, inG8, wg 337 (by decide +kernel) rfl, rfl⟩
theorem fl99 : FL RX8 75 3 0 := ⟨_, rfl, by decide, inG3, wg 99 (by decide +kernel) rfl, rfl⟩
theorem fl104 : FL RX8 96 3 1 := ⟨_, rfl, by decide, inG3, wg 104 (by decide +kernel) rfl, rfl⟩
theorem fp2_4 : FP 2 4 .boolean := ⟨_, tyX2, rfl, tyX2_ok, nmX2, rfl, by decide +kernel⟩
theorem wc_X8_cellOf : Cond.code yX8_cellOf cX8_cellOf 2 (some .int) ∈ GT := wg 376 (by decide +kernel) rfl
theorem wi_RX8 : Cond.initialized RX8 ∈ GT := wg 69 (by decide +kernel) rfl
theorem ws_X8_cellOf : Cond.static yX8_cellOf ∈ GT := wg 375 (by decide +kernel) rfl
theorem s393 : SN RX3 43 yX8_cellOf cX8_cellOf 2 (some .int) 2 := ⟨⟨"SeatHouse", wn 393 (by decide +kernel) rfl⟩, ws_X8_cellOf, wi_RX8, wc_X8_cellOf, ⟨by decide +kernel, by decide +kernel, by decide +kernel⟩⟩
theorem wc_X8_within : Cond.code yX8_within cX8_within 2 (some .boolean) ∈ GT := wg 372 (by decide +kernel) rfl
theorem ws_X8_within : Cond.static yX8_within ∈ GT := wg 371 (by decide +kernel) rfl
theorem s370 : SS RX8 70 yX8_within cX8_within 2 (some .boolean) 2 := ⟨wg 370 (by decide +kernel) rfl, ws_X8_within, wi_RX8, wc_X8_within, ⟨by decide +kernel, by decide +kernel, by decide +kernel⟩⟩
theorem s374 : SS RX8 78 yX8_cellOf cX8_cellOf 2 (some .int) 2 := ⟨wg 374 (by decide +kernel) rfl, ws_X8_cellOf, wi_RX8, wc_X8_cellOf, ⟨by decide +kernel, by decide +kernel, by decide +kernel⟩⟩
theorem wc_X2_forget : Cond.code yX2_forget cX2_forget 1 (none) ∈ GT := wg 380 (by decide +kernel) rfl
theorem wi_RX2 : Cond.initialized RX2 ∈ GT := wg 73 (by decide +kernel) rfl
theorem wm_X2_forget : Cond.instanceMethod yX2_forget ∈ GT := wg 378 (by decide +kernel) rfl
theorem wl_X2_forget : Cond.selects RX2 yX2_forget yX2_forget ∈ GT := wg 379 (by decide +kernel) rfl
theorem s377 : SV RX8 82 2 yX2_forget cX2_forget 1 (none) 0 := ⟨⟨_, rfl, rfl⟩, wg 377 (by decide +kernel) rfl, wm_X2_forget, wl_X2_forget, wi_RX2, wc_X2_forget, ⟨by decide +kernel, by decide +kernel, by decide +kernel⟩⟩
theorem wc_X3_sumOfAll : Cond.code yX3_sumOfAll cX3_sumOfAll 3 (some .int) ∈ GT := wg 388 (by decide +kernel) rfl
theorem wi_RX3 : Cond.initialized RX3 ∈ GT := wg 70 (by decide +kernel) rfl
theorem wm_X3_sumOfAll : Cond.instanceMethod yX3_sumOfAll ∈ GT := wg 386 (by decide +kernel) rfl
theorem wl_X3_sumOfAll : Cond.selects RX3 yX3_sumOfAll yX3_sumOfAll ∈ GT := wg 387 (by decide +kernel) rfl
theorem s385 : SV RX8 85 3 yX3_sumOfAll cX3_sumOfAll 3 (some .int) 0 := ⟨⟨_, rfl, rfl⟩, wg 385 (by decide +kernel) rfl, wm_X3_sumOfAll, wl_X3_sumOfAll, wi_RX3, wc_X3_sumOfAll, ⟨by decide +kernel, by decide +kernel, by decide +kernel⟩⟩
theorem wc_X3_totalOf : Cond.code yX3_totalOf cX3_totalOf 4 (some .int) ∈ GT := wg 392 (by decide +kernel) rfl
theorem wm_X3_totalOf : Cond.instanceMethod yX3_totalOf ∈ GT := wg 390 (by decide +kernel) rfl
theorem wl_X3_totalOf : Cond.selects RX3 yX3_totalOf yX3_totalOf ∈ GT := wg 391 (by decide +kernel) rfl
theorem s389 : SV RX8 89 3 yX3_totalOf cX3_totalOf 4 (some .int) 1 := ⟨⟨_, rfl, rfl⟩, wg 389 (by decide +kernel) rfl, wm_X3_totalOf, wl_X3_totalOf, wi_RX3, wc_X3_totalOf, ⟨by decide +kernel, by decide +kernel, by decide +kernel⟩⟩
theorem wc_X3_sumOfWard : Cond.code yX3_sumOfWard cX3_sumOfWard 4 (some .int) ∈ GT := wg 397 (by decide +kernel) rfl
theorem wm_X3_sumOfWard : Cond.instanceMethod yX3_sumOfWard ∈ GT := wg 395 (by decide +kernel) rfl
theorem wl_X3_sumOfWard : Cond.selects RX3 yX3_sumOfWard yX3_sumOfWard ∈ GT := wg 396 (by decide +kernel) rfl
theorem s394 : SV RX8 93 3 yX3_sumOfWard cX3_sumOfWard 4 (some .int) 1 := ⟨⟨_, rfl, rfl⟩, wg 394 (by decide +kernel) rfl, wm_X3_sumOfWard, wl_X3_sumOfWard, wi_RX3, wc_X3_sumOfWard, ⟨by decide +kernel, by decide +kernel, by decide +kernel⟩⟩

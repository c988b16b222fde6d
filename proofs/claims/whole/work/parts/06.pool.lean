theorem sh_0 : xshapes[0]? = some (.inl (6, [some 1, some 2, some 3, some 4, some 5, some 6])) := rfl
theorem sh_1 : xshapes[1]? = some (.inl (4, [some 8, some 9, some 10, none])) := rfl
theorem sh_2 : xshapes[2]? = some (.inl (0, [some 11, some 12, some 13, some 14, none])) := rfl
theorem sh_3 : xshapes[3]? = some (.inl (3, [some 15, some 16, some 17, some 18, none, none, none])) := rfl
theorem sh_4 : xshapes[4]? = some (.inl (1, [some 19, some 20, some 21, none])) := rfl
theorem sh_5 : xshapes[5]? = some (.inl (2, [some 22, some 23, some 24, some 25, some 26, none])) := rfl
theorem sh_6 : xshapes[6]? = some (.inl (5, [some 27, none, none, none, none, none])) := rfl
theorem sh_7 : xshapes[7]? = some (.inl (7, [none, some 28, some 29, some 30, some 31, none, none, some 32, some 33, some 34, none, some 35, some 36, some 37, none, some 38, some 39, some 40, some 41, none, none, none, some 42, none, none, none, some 43, some 44, some 45, some 46, some 47, none])) := rfl
theorem sh_8 : xshapes[8]? = some (.inr (3, 4, 48)) := rfl
theorem sh_9 : xshapes[9]? = some (.inr (0, 4, 0)) := rfl
theorem sh_10 : xshapes[10]? = some (.inr (0, 4, 0)) := rfl
theorem sh_11 : xshapes[11]? = some (.inr (3, 6, 52)) := rfl
theorem sh_12 : xshapes[12]? = some (.inr (0, 6, 0)) := rfl
theorem sh_13 : xshapes[13]? = some (.inr (0, 6, 0)) := rfl
theorem sh_14 : xshapes[14]? = some (.inr (0, 6, 0)) := rfl
theorem sh_15 : xshapes[15]? = some (.inr (3, 8, 58)) := rfl
theorem sh_16 : xshapes[16]? = some (.inr (1, 8, 0)) := rfl
theorem sh_17 : xshapes[17]? = some (.inr (1, 3, 0)) := rfl
theorem sh_18 : xshapes[18]? = some (.inr (0, 3, 0)) := rfl
theorem sh_19 : xshapes[19]? = some (.inr (3, 8, 66)) := rfl
theorem sh_20 : xshapes[20]? = some (.inr (0, 8, 0)) := rfl
theorem sh_21 : xshapes[21]? = some (.inr (0, 8, 0)) := rfl
theorem sh_22 : xshapes[22]? = some (.inr (3, 8, 74)) := rfl
theorem sh_23 : xshapes[23]? = some (.inr (0, 8, 0)) := rfl
theorem sh_24 : xshapes[24]? = some (.inr (0, 8, 0)) := rfl
theorem sh_25 : xshapes[25]? = some (.inr (0, 31, 0)) := rfl
theorem sh_26 : xshapes[26]? = some (.inr (0, 31, 0)) := rfl
theorem sh_27 : xshapes[27]? = some (.inr (0, 60, 0)) := rfl
theorem sh_28 : xshapes[28]? = some (.inr (0, 126, 0)) := rfl
theorem sh_29 : xshapes[29]? = some (.inr (0, 6, 0)) := rfl
theorem sh_30 : xshapes[30]? = some (.inr (2, 6, 0)) := rfl
theorem sh_31 : xshapes[31]? = some (.inr (0, 6, 0)) := rfl
theorem sh_32 : xshapes[32]? = some (.inr (0, 48, 0)) := rfl
theorem sh_33 : xshapes[33]? = some (.inr (0, 3, 0)) := rfl
theorem sh_34 : xshapes[34]? = some (.inr (2, 256, 0)) := rfl
theorem sh_35 : xshapes[35]? = some (.inr (0, 8, 0)) := rfl
theorem sh_36 : xshapes[36]? = some (.inr (0, 64, 0)) := rfl
theorem sh_37 : xshapes[37]? = some (.inr (0, 8, 0)) := rfl
theorem sh_38 : xshapes[38]? = some (.inr (0, 8, 0)) := rfl
theorem sh_39 : xshapes[39]? = some (.inr (0, 8, 0)) := rfl
theorem sh_40 : xshapes[40]? = some (.inr (0, 240, 0)) := rfl
theorem sh_41 : xshapes[41]? = some (.inr (0, 961, 0)) := rfl
theorem sh_42 : xshapes[42]? = some (.inr (0, 60, 0)) := rfl
theorem sh_43 : xshapes[43]? = some (.inr (2, 4, 0)) := rfl
theorem sh_44 : xshapes[44]? = some (.inr (0, 4, 0)) := rfl
theorem sh_45 : xshapes[45]? = some (.inr (0, 4, 0)) := rfl
theorem sh_46 : xshapes[46]? = some (.inr (0, 240, 0)) := rfl
theorem sh_47 : xshapes[47]? = some (.inr (0, 60, 0)) := rfl
theorem sh_48 : xshapes[48]? = some (.inr (0, 60, 0)) := rfl
theorem sh_49 : xshapes[49]? = some (.inr (0, 60, 0)) := rfl
theorem sh_50 : xshapes[50]? = some (.inr (0, 60, 0)) := rfl
theorem sh_51 : xshapes[51]? = some (.inr (0, 60, 0)) := rfl
theorem sh_52 : xshapes[52]? = some (.inr (0, 41, 0)) := rfl
theorem sh_53 : xshapes[53]? = some (.inr (0, 41, 0)) := rfl
theorem sh_54 : xshapes[54]? = some (.inr (0, 41, 0)) := rfl
theorem sh_55 : xshapes[55]? = some (.inr (0, 41, 0)) := rfl
theorem sh_56 : xshapes[56]? = some (.inr (0, 41, 0)) := rfl
theorem sh_57 : xshapes[57]? = some (.inr (0, 41, 0)) := rfl
theorem sh_58 : xshapes[58]? = some (.inr (0, 6, 0)) := rfl
theorem sh_59 : xshapes[59]? = some (.inr (0, 6, 0)) := rfl
theorem sh_60 : xshapes[60]? = some (.inr (0, 6, 0)) := rfl
theorem sh_61 : xshapes[61]? = some (.inr (0, 6, 0)) := rfl
theorem sh_62 : xshapes[62]? = some (.inr (0, 6, 0)) := rfl
theorem sh_63 : xshapes[63]? = some (.inr (0, 6, 0)) := rfl
theorem sh_64 : xshapes[64]? = some (.inr (0, 6, 0)) := rfl
theorem sh_65 : xshapes[65]? = some (.inr (0, 6, 0)) := rfl
theorem sh_66 : xshapes[66]? = some (.inr (0, 8, 0)) := rfl
theorem sh_67 : xshapes[67]? = some (.inr (0, 8, 0)) := rfl
theorem sh_68 : xshapes[68]? = some (.inr (0, 8, 0)) := rfl
theorem sh_69 : xshapes[69]? = some (.inr (0, 8, 0)) := rfl
theorem sh_70 : xshapes[70]? = some (.inr (0, 8, 0)) := rfl
theorem sh_71 : xshapes[71]? = some (.inr (0, 8, 0)) := rfl
theorem sh_72 : xshapes[72]? = some (.inr (0, 8, 0)) := rfl
theorem sh_73 : xshapes[73]? = some (.inr (0, 8, 0)) := rfl
theorem sh_74 : xshapes[74]? = some (.inr (0, 30, 0)) := rfl
theorem sh_75 : xshapes[75]? = some (.inr (0, 30, 0)) := rfl
theorem sh_76 : xshapes[76]? = some (.inr (0, 30, 0)) := rfl
theorem sh_77 : xshapes[77]? = some (.inr (0, 30, 0)) := rfl
theorem sh_78 : xshapes[78]? = some (.inr (0, 30, 0)) := rfl
theorem sh_79 : xshapes[79]? = some (.inr (0, 30, 0)) := rfl
theorem sh_80 : xshapes[80]? = some (.inr (0, 30, 0)) := rfl
theorem sh_81 : xshapes[81]? = some (.inr (0, 30, 0)) := rfl
theorem vp_lt {i : Int32} {n : Nat} (h : vp_in i n) : i.toNatClampNeg < n := Nat.not_le.mp fun q => h (Or.inr q)
theorem shr_48 {i : Nat} (h : i < 4) : xshapes[48 + i]? = some (.inr (0, 60, 0)) := by
  have h9 : i = 0 ∨ i = 1 ∨ i = 2 ∨ i = 3 := by omega
  rcases h9 with rfl | rfl | rfl | rfl <;> rfl
theorem shr_52 {i : Nat} (h : i < 6) : xshapes[52 + i]? = some (.inr (0, 41, 0)) := by
  have h9 : i = 0 ∨ i = 1 ∨ i = 2 ∨ i = 3 ∨ i = 4 ∨ i = 5 := by omega
  rcases h9 with rfl | rfl | rfl | rfl | rfl | rfl <;> rfl
theorem shr_58 {i : Nat} (h : i < 8) : xshapes[58 + i]? = some (.inr (0, 6, 0)) := by
  have h9 : i = 0 ∨ i = 1 ∨ i = 2 ∨ i = 3 ∨ i = 4 ∨ i = 5 ∨ i = 6 ∨ i = 7 := by omega
  rcases h9 with rfl | rfl | rfl | rfl | rfl | rfl | rfl | rfl <;> rfl
theorem shr_66 {i : Nat} (h : i < 8) : xshapes[66 + i]? = some (.inr (0, 8, 0)) := by
  have h9 : i = 0 ∨ i = 1 ∨ i = 2 ∨ i = 3 ∨ i = 4 ∨ i = 5 ∨ i = 6 ∨ i = 7 := by omega
  rcases h9 with rfl | rfl | rfl | rfl | rfl | rfl | rfl | rfl <;> rfl
theorem shr_74 {i : Nat} (h : i < 8) : xshapes[74 + i]? = some (.inr (0, 30, 0)) := by
  have h9 : i = 0 ∨ i = 1 ∨ i = 2 ∨ i = 3 ∨ i = 4 ∨ i = 5 ∨ i = 6 ∨ i = 7 := by omega
  rcases h9 with rfl | rfl | rfl | rfl | rfl | rfl | rfl | rfl <;> rfl
abbrev M_X0_size : xM := (yX0_size, cX0_size, 1, (some .int))
theorem u_134 : Cond.fieldLink RX0 26 (TX0 4).1 (TX0 4).2.1 (TX0 4).2.2.1 ∈ lw_use := use_of (k := 134) (by decide +kernel) rfl
theorem uws_0 : ∀ w ∈ u_ws RX0 TX0 5, w ∈ lw_use := use_ws inX0 (by decide +kernel)
theorem fw_RX0_26 : xFW RX0 26 0 4 := ⟨RX0, TX0, 5, rfl, by decide, u_134, uws_0⟩
abbrev M_X0_isFull : xM := (yX0_isFull, cX0_isFull, 1, (some .boolean))
abbrev M_X0_has : xM := (yX0_has, cX0_has, 2, (some .boolean))
abbrev M_X0_learn : xM := (yX0_learn, cX0_learn, 9, (some .int))
theorem u_316 : Cond.methodLink RX0 30 yX0_isFull ∈ lw_use := use_of (k := 316) (by decide +kernel) rfl
theorem u_80 : Cond.initialized RX0 ∈ lw_use := use_of (k := 80) (by decide +kernel) rfl
theorem u_311 : Cond.code yX0_isFull cX0_isFull 1 (some .boolean) ∈ lw_use := use_of (k := 311) (by decide +kernel) rfl
theorem u_309 : Cond.instanceMethod yX0_isFull ∈ lw_use := use_of (k := 309) (by decide +kernel) rfl
theorem u_310 : Cond.selects RX0 yX0_isFull yX0_isFull ∈ lw_use := use_of (k := 310) (by decide +kernel) rfl
theorem pw_RX0_30 : xCV RX0 30 M_X0_isFull 0 := ⟨⟨u_316, u_80, u_311, ⟨by decide +kernel, by decide +kernel, by decide +kernel⟩, by decide⟩, u_309, u_310⟩
theorem u_317 : Cond.methodLinkNest RX0 34 yX6_within "ArmCounts" ∈ lw_use := use_of (k := 317) (by decide +kernel) rfl
abbrev M_X6_within : xM := (yX6_within, cX6_within, 3, (some .boolean))
theorem u_77 : Cond.initialized RX6 ∈ lw_use := use_of (k := 77) (by decide +kernel) rfl
theorem u_276 : Cond.code yX6_within cX6_within 3 (some .boolean) ∈ lw_use := use_of (k := 276) (by decide +kernel) rfl
theorem u_275 : Cond.static yX6_within ∈ lw_use := use_of (k := 275) (by decide +kernel) rfl
theorem pw_RX0_34 : xCN RX0 34 "ArmCounts" M_X6_within 3 := ⟨⟨u_317, u_77, u_276, ⟨by decide +kernel, by decide +kernel, by decide +kernel⟩, by decide⟩, u_275⟩
theorem u_131 : Cond.fieldLink RX0 16 (TX0 1).1 (TX0 1).2.1 (TX0 1).2.2.1 ∈ lw_use := use_of (k := 131) (by decide +kernel) rfl
theorem fw_RX0_16 : xFW RX0 16 0 1 := ⟨RX0, TX0, 5, rfl, by decide, u_131, uws_0⟩
theorem u_132 : Cond.fieldLink RX0 20 (TX0 2).1 (TX0 2).2.1 (TX0 2).2.2.1 ∈ lw_use := use_of (k := 132) (by decide +kernel) rfl
theorem fw_RX0_20 : xFW RX0 20 0 2 := ⟨RX0, TX0, 5, rfl, by decide, u_132, uws_0⟩
theorem fp_RX0_26 : xFI RX0 26 0 4 := ⟨RX0, TX0, 5, tyX0, rfl, by decide, u_134, uws_0, tyX0_ok, nmX0, rfl, by decide +kernel⟩
theorem u_130 : Cond.fieldLink RX0 13 (TX0 0).1 (TX0 0).2.1 (TX0 0).2.2.1 ∈ lw_use := use_of (k := 130) (by decide +kernel) rfl
theorem fw_RX0_13 : xFW RX0 13 0 0 := ⟨RX0, TX0, 5, rfl, by decide, u_130, uws_0⟩
theorem u_318 : Cond.methodLink RX0 38 yX4_wordAt ∈ lw_use := use_of (k := 318) (by decide +kernel) rfl
abbrev M_X4_wordAt : xM := (yX4_wordAt, cX4_wordAt, 4, (some .int))
theorem u_78 : Cond.initialized RX4 ∈ lw_use := use_of (k := 78) (by decide +kernel) rfl
theorem u_298 : Cond.code yX4_wordAt cX4_wordAt 4 (some .int) ∈ lw_use := use_of (k := 298) (by decide +kernel) rfl
theorem u_296 : Cond.instanceMethod yX4_wordAt ∈ lw_use := use_of (k := 296) (by decide +kernel) rfl
theorem u_297 : Cond.selects RX4 yX4_wordAt yX4_wordAt ∈ lw_use := use_of (k := 297) (by decide +kernel) rfl
theorem pw_RX0_38 : xCV RX0 38 M_X4_wordAt 2 := ⟨⟨u_318, u_78, u_298, ⟨by decide +kernel, by decide +kernel, by decide +kernel⟩, by decide⟩, u_296, u_297⟩
abbrev M_X0_beginOn : xM := (yX0_beginOn, cX0_beginOn, 4, (some .int))
theorem u_331 : Cond.methodLink RX0 44 yX0_has ∈ lw_use := use_of (k := 331) (by decide +kernel) rfl
theorem u_326 : Cond.code yX0_has cX0_has 2 (some .boolean) ∈ lw_use := use_of (k := 326) (by decide +kernel) rfl
theorem u_324 : Cond.instanceMethod yX0_has ∈ lw_use := use_of (k := 324) (by decide +kernel) rfl
theorem u_325 : Cond.selects RX0 yX0_has yX0_has ∈ lw_use := use_of (k := 325) (by decide +kernel) rfl
theorem pw_RX0_44 : xCV RX0 44 M_X0_has 1 := ⟨⟨u_331, u_80, u_326, ⟨by decide +kernel, by decide +kernel, by decide +kernel⟩, by decide⟩, u_324, u_325⟩
theorem u_133 : Cond.fieldLink RX0 23 (TX0 3).1 (TX0 3).2.1 (TX0 3).2.2.1 ∈ lw_use := use_of (k := 133) (by decide +kernel) rfl
theorem fw_RX0_23 : xFW RX0 23 0 3 := ⟨RX0, TX0, 5, rfl, by decide, u_133, uws_0⟩
abbrev M_X0_halfOf : xM := (yX0_halfOf, cX0_halfOf, 2, (some .int))
abbrev M_X0_noseOf : xM := (yX0_noseOf, cX0_noseOf, 2, (some .int))
abbrev M_X0_firstHand : xM := (yX0_firstHand, cX0_firstHand, 2, (some .int))
abbrev M_X0_places : xM := (yX0_places, cX0_places, 2, (some .int))
abbrev M_X0_sideAt : xM := (yX0_sideAt, cX0_sideAt, 3, (some .int))
abbrev M_X0_handAt : xM := (yX0_handAt, cX0_handAt, 3, (some .int))
theorem u_369 : Cond.methodLink RX0 48 yX0_sideAt ∈ lw_use := use_of (k := 369) (by decide +kernel) rfl
theorem u_364 : Cond.code yX0_sideAt cX0_sideAt 3 (some .int) ∈ lw_use := use_of (k := 364) (by decide +kernel) rfl
theorem u_362 : Cond.instanceMethod yX0_sideAt ∈ lw_use := use_of (k := 362) (by decide +kernel) rfl
theorem u_363 : Cond.selects RX0 yX0_sideAt yX0_sideAt ∈ lw_use := use_of (k := 363) (by decide +kernel) rfl
theorem pw_RX0_48 : xCV RX0 48 M_X0_sideAt 2 := ⟨⟨u_369, u_80, u_364, ⟨by decide +kernel, by decide +kernel, by decide +kernel⟩, by decide⟩, u_362, u_363⟩
theorem u_370 : Cond.methodLink RX0 51 yX0_firstHand ∈ lw_use := use_of (k := 370) (by decide +kernel) rfl
theorem u_351 : Cond.code yX0_firstHand cX0_firstHand 2 (some .int) ∈ lw_use := use_of (k := 351) (by decide +kernel) rfl
theorem u_349 : Cond.instanceMethod yX0_firstHand ∈ lw_use := use_of (k := 349) (by decide +kernel) rfl
theorem u_350 : Cond.selects RX0 yX0_firstHand yX0_firstHand ∈ lw_use := use_of (k := 350) (by decide +kernel) rfl
theorem pw_RX0_51 : xCV RX0 51 M_X0_firstHand 1 := ⟨⟨u_370, u_80, u_351, ⟨by decide +kernel, by decide +kernel, by decide +kernel⟩, by decide⟩, u_349, u_350⟩
abbrev M_X0_wordAt : xM := (yX0_wordAt, cX0_wordAt, 3, (some .int))
theorem u_360 : Cond.methodLink RX0 55 yX0_places ∈ lw_use := use_of (k := 360) (by decide +kernel) rfl
theorem u_339 : Cond.code yX0_places cX0_places 2 (some .int) ∈ lw_use := use_of (k := 339) (by decide +kernel) rfl
theorem u_337 : Cond.instanceMethod yX0_places ∈ lw_use := use_of (k := 337) (by decide +kernel) rfl
theorem u_338 : Cond.selects RX0 yX0_places yX0_places ∈ lw_use := use_of (k := 338) (by decide +kernel) rfl
theorem pw_RX0_55 : xCV RX0 55 M_X0_places 1 := ⟨⟨u_360, u_80, u_339, ⟨by decide +kernel, by decide +kernel, by decide +kernel⟩, by decide⟩, u_337, u_338⟩
abbrev M_X0_menOf : xM := (yX0_menOf, cX0_menOf, 4, (some .int))
abbrev M_X0_placeOf : xM := (yX0_placeOf, cX0_placeOf, 4, (some .int))
abbrev M_X0_wordOf : xM := (yX0_wordOf, cX0_wordOf, 3, (some .int))
theorem u_399 : Cond.methodLink RX0 58 yX0_placeOf ∈ lw_use := use_of (k := 399) (by decide +kernel) rfl
theorem u_378 : Cond.code yX0_placeOf cX0_placeOf 4 (some .int) ∈ lw_use := use_of (k := 378) (by decide +kernel) rfl
theorem u_376 : Cond.instanceMethod yX0_placeOf ∈ lw_use := use_of (k := 376) (by decide +kernel) rfl
theorem u_377 : Cond.selects RX0 yX0_placeOf yX0_placeOf ∈ lw_use := use_of (k := 377) (by decide +kernel) rfl
theorem pw_RX0_58 : xCV RX0 58 M_X0_placeOf 2 := ⟨⟨u_399, u_80, u_378, ⟨by decide +kernel, by decide +kernel, by decide +kernel⟩, by decide⟩, u_376, u_377⟩
theorem u_400 : Cond.methodLink RX0 61 yX0_wordAt ∈ lw_use := use_of (k := 400) (by decide +kernel) rfl
theorem u_359 : Cond.code yX0_wordAt cX0_wordAt 3 (some .int) ∈ lw_use := use_of (k := 359) (by decide +kernel) rfl
theorem u_357 : Cond.instanceMethod yX0_wordAt ∈ lw_use := use_of (k := 357) (by decide +kernel) rfl
theorem u_358 : Cond.selects RX0 yX0_wordAt yX0_wordAt ∈ lw_use := use_of (k := 358) (by decide +kernel) rfl
theorem pw_RX0_61 : xCV RX0 61 M_X0_wordAt 2 := ⟨⟨u_400, u_80, u_359, ⟨by decide +kernel, by decide +kernel, by decide +kernel⟩, by decide⟩, u_357, u_358⟩
abbrev M_X0_means : xM := (yX0_means, cX0_means, 7, (some .boolean))
theorem u_402 : Cond.methodLink RX0 65 yX0_menOf ∈ lw_use := use_of (k := 402) (by decide +kernel) rfl
theorem u_382 : Cond.code yX0_menOf cX0_menOf 4 (some .int) ∈ lw_use := use_of (k := 382) (by decide +kernel) rfl
theorem u_380 : Cond.instanceMethod yX0_menOf ∈ lw_use := use_of (k := 380) (by decide +kernel) rfl
theorem u_381 : Cond.selects RX0 yX0_menOf yX0_menOf ∈ lw_use := use_of (k := 381) (by decide +kernel) rfl
theorem pw_RX0_65 : xCV RX0 65 M_X0_menOf 2 := ⟨⟨u_402, u_80, u_382, ⟨by decide +kernel, by decide +kernel, by decide +kernel⟩, by decide⟩, u_380, u_381⟩
theorem u_401 : Cond.methodLink RX0 62 yX0_handAt ∈ lw_use := use_of (k := 401) (by decide +kernel) rfl
theorem u_368 : Cond.code yX0_handAt cX0_handAt 3 (some .int) ∈ lw_use := use_of (k := 368) (by decide +kernel) rfl
theorem u_366 : Cond.instanceMethod yX0_handAt ∈ lw_use := use_of (k := 366) (by decide +kernel) rfl
theorem u_367 : Cond.selects RX0 yX0_handAt yX0_handAt ∈ lw_use := use_of (k := 367) (by decide +kernel) rfl
theorem pw_RX0_62 : xCV RX0 62 M_X0_handAt 2 := ⟨⟨u_401, u_80, u_368, ⟨by decide +kernel, by decide +kernel, by decide +kernel⟩, by decide⟩, u_366, u_367⟩
abbrev M_X0_heardAs : xM := (yX0_heardAs, cX0_heardAs, 10, (some .int))
abbrev M_X1_size : xM := (yX1_size, cX1_size, 1, (some .int))
theorem u_186 : Cond.fieldLink RX1 23 (TX1 3).1 (TX1 3).2.1 (TX1 3).2.2.1 ∈ lw_use := use_of (k := 186) (by decide +kernel) rfl
theorem uws_1 : ∀ w ∈ u_ws RX1 TX1 4, w ∈ lw_use := use_ws inX1 (by decide +kernel)
theorem fw_RX1_23 : xFW RX1 23 1 3 := ⟨RX1, TX1, 4, rfl, by decide, u_186, uws_1⟩
abbrev M_X1_has : xM := (yX1_has, cX1_has, 2, (some .boolean))
abbrev M_X1_areTwo : xM := (yX1_areTwo, cX1_areTwo, 3, (some .boolean))
theorem u_590 : Cond.methodLink RX1 27 yX1_has ∈ lw_use := use_of (k := 590) (by decide +kernel) rfl
theorem u_82 : Cond.initialized RX1 ∈ lw_use := use_of (k := 82) (by decide +kernel) rfl
theorem u_593 : Cond.code yX1_has cX1_has 2 (some .boolean) ∈ lw_use := use_of (k := 593) (by decide +kernel) rfl
theorem u_591 : Cond.instanceMethod yX1_has ∈ lw_use := use_of (k := 591) (by decide +kernel) rfl
theorem u_592 : Cond.selects RX1 yX1_has yX1_has ∈ lw_use := use_of (k := 592) (by decide +kernel) rfl
theorem pw_RX1_27 : xCV RX1 27 M_X1_has 1 := ⟨⟨u_590, u_82, u_593, ⟨by decide +kernel, by decide +kernel, by decide +kernel⟩, by decide⟩, u_591, u_592⟩
abbrev M_X1_welcome : xM := (yX1_welcome, cX1_welcome, 2, (some .int))
theorem u_184 : Cond.fieldLink RX1 16 (TX1 1).1 (TX1 1).2.1 (TX1 1).2.2.1 ∈ lw_use := use_of (k := 184) (by decide +kernel) rfl
theorem fw_RX1_16 : xFW RX1 16 1 1 := ⟨RX1, TX1, 4, rfl, by decide, u_184, uws_1⟩
theorem fp_RX1_23 : xFI RX1 23 1 3 := ⟨RX1, TX1, 4, tyX1, rfl, by decide, u_186, uws_1, tyX1_ok, nmX1, rfl, by decide +kernel⟩
abbrev M_X1_countOf : xM := (yX1_countOf, cX1_countOf, 2, (some .int))
abbrev M_X1_left : xM := (yX1_left, cX1_left, 3, (some .int))
theorem u_183 : Cond.fieldLink RX1 13 (TX1 0).1 (TX1 0).2.1 (TX1 0).2.2.1 ∈ lw_use := use_of (k := 183) (by decide +kernel) rfl
theorem fw_RX1_13 : xFW RX1 13 1 0 := ⟨RX1, TX1, 4, rfl, by decide, u_183, uws_1⟩
abbrev M_X1_give : xM := (yX1_give, cX1_give, 5, (some .int))
theorem u_598 : Cond.methodLink RX1 31 yX1_areTwo ∈ lw_use := use_of (k := 598) (by decide +kernel) rfl
theorem u_589 : Cond.code yX1_areTwo cX1_areTwo 3 (some .boolean) ∈ lw_use := use_of (k := 589) (by decide +kernel) rfl
theorem u_587 : Cond.instanceMethod yX1_areTwo ∈ lw_use := use_of (k := 587) (by decide +kernel) rfl
theorem u_588 : Cond.selects RX1 yX1_areTwo yX1_areTwo ∈ lw_use := use_of (k := 588) (by decide +kernel) rfl
theorem pw_RX1_31 : xCV RX1 31 M_X1_areTwo 2 := ⟨⟨u_598, u_82, u_589, ⟨by decide +kernel, by decide +kernel, by decide +kernel⟩, by decide⟩, u_587, u_588⟩
theorem u_599 : Cond.methodLink RX1 35 yJ9_max_7cf53 ∈ lw_use := use_of (k := 599) (by decide +kernel) rfl
abbrev M_J9_max_7cf53 : xM := (yJ9_max_7cf53, cJ9_max_7cf53, 2, (some .int))
theorem u_88 : Cond.initialized RJ9 ∈ lw_use := use_of (k := 88) (by decide +kernel) rfl
theorem u_601 : Cond.code yJ9_max_7cf53 cJ9_max_7cf53 2 (some .int) ∈ lw_use := use_of (k := 601) (by decide +kernel) rfl
theorem u_600 : Cond.static yJ9_max_7cf53 ∈ lw_use := use_of (k := 600) (by decide +kernel) rfl
theorem pw_RX1_35 : xCS RX1 35 M_J9_max_7cf53 2 := ⟨⟨u_599, u_88, u_601, ⟨by decide +kernel, by decide +kernel, by decide +kernel⟩, by decide⟩, u_600⟩
abbrev M_X1_balance : xM := (yX1_balance, cX1_balance, 4, (some .int))
theorem u_634 : Cond.methodLink RX1 41 yX1_left ∈ lw_use := use_of (k := 634) (by decide +kernel) rfl
theorem u_609 : Cond.code yX1_left cX1_left 3 (some .int) ∈ lw_use := use_of (k := 609) (by decide +kernel) rfl
theorem u_607 : Cond.instanceMethod yX1_left ∈ lw_use := use_of (k := 607) (by decide +kernel) rfl
theorem u_608 : Cond.selects RX1 yX1_left yX1_left ∈ lw_use := use_of (k := 608) (by decide +kernel) rfl
theorem pw_RX1_41 : xCV RX1 41 M_X1_left 2 := ⟨⟨u_634, u_82, u_609, ⟨by decide +kernel, by decide +kernel, by decide +kernel⟩, by decide⟩, u_607, u_608⟩
abbrev M_X1_whole : xM := (yX1_whole, cX1_whole, 4, (some .int))
abbrev M_X1_closeAll : xM := (yX1_closeAll, cX1_closeAll, 3, (some .int))
theorem u_626 : Cond.methodLink RX1 44 yX1_findRow ∈ lw_use := use_of (k := 626) (by decide +kernel) rfl
abbrev M_X1_findRow : xM := (yX1_findRow, cX1_findRow, 3, (some .int))
theorem u_629 : Cond.code yX1_findRow cX1_findRow 3 (some .int) ∈ lw_use := use_of (k := 629) (by decide +kernel) rfl
theorem u_628 : Cond.instanceMethod yX1_findRow ∈ lw_use := use_of (k := 628) (by decide +kernel) rfl
theorem u_12 : Cond.selects RX1 yX1_findRow yX1_findRow ∈ lw_use := use_of (k := 12) (by decide +kernel) rfl
theorem pw_RX1_44 : xCV RX1 44 M_X1_findRow 0 := ⟨⟨u_626, u_82, u_629, ⟨by decide +kernel, by decide +kernel, by decide +kernel⟩, by decide⟩, u_628, u_12⟩
theorem u_643 : Cond.methodLink RX1 48 yX1_takeOff ∈ lw_use := use_of (k := 643) (by decide +kernel) rfl
abbrev M_X1_takeOff : xM := (yX1_takeOff, cX1_takeOff, 4, none)
theorem u_646 : Cond.code yX1_takeOff cX1_takeOff 4 none ∈ lw_use := use_of (k := 646) (by decide +kernel) rfl
theorem u_645 : Cond.instanceMethod yX1_takeOff ∈ lw_use := use_of (k := 645) (by decide +kernel) rfl
theorem u_16 : Cond.selects RX1 yX1_takeOff yX1_takeOff ∈ lw_use := use_of (k := 16) (by decide +kernel) rfl
theorem pw_RX1_48 : xCV RX1 48 M_X1_takeOff 1 := ⟨⟨u_643, u_82, u_646, ⟨by decide +kernel, by decide +kernel, by decide +kernel⟩, by decide⟩, u_645, u_16⟩
theorem u_185 : Cond.fieldLink RX1 20 (TX1 2).1 (TX1 2).2.1 (TX1 2).2.2.1 ∈ lw_use := use_of (k := 185) (by decide +kernel) rfl
theorem fw_RX1_20 : xFW RX1 20 1 2 := ⟨RX1, TX1, 4, rfl, by decide, u_185, uws_1⟩
theorem u_630 : Cond.methodLink RX1 52 yX1_goOn ∈ lw_use := use_of (k := 630) (by decide +kernel) rfl
abbrev M_X1_goOn : xM := (yX1_goOn, cX1_goOn, 5, (some .boolean))
theorem u_633 : Cond.code yX1_goOn cX1_goOn 5 (some .boolean) ∈ lw_use := use_of (k := 633) (by decide +kernel) rfl
theorem u_632 : Cond.instanceMethod yX1_goOn ∈ lw_use := use_of (k := 632) (by decide +kernel) rfl
theorem u_13 : Cond.selects RX1 yX1_goOn yX1_goOn ∈ lw_use := use_of (k := 13) (by decide +kernel) rfl
theorem pw_RX1_52 : xCV RX1 52 M_X1_goOn 2 := ⟨⟨u_630, u_82, u_633, ⟨by decide +kernel, by decide +kernel, by decide +kernel⟩, by decide⟩, u_632, u_13⟩
theorem u_635 : Cond.methodLink RX1 55 yX1_inRow ∈ lw_use := use_of (k := 635) (by decide +kernel) rfl
abbrev M_X1_inRow : xM := (yX1_inRow, cX1_inRow, 4, (some .boolean))
theorem u_638 : Cond.code yX1_inRow cX1_inRow 4 (some .boolean) ∈ lw_use := use_of (k := 638) (by decide +kernel) rfl
theorem u_637 : Cond.instanceMethod yX1_inRow ∈ lw_use := use_of (k := 637) (by decide +kernel) rfl
theorem u_14 : Cond.selects RX1 yX1_inRow yX1_inRow ∈ lw_use := use_of (k := 14) (by decide +kernel) rfl
theorem pw_RX1_55 : xCV RX1 55 M_X1_inRow 2 := ⟨⟨u_635, u_82, u_638, ⟨by decide +kernel, by decide +kernel, by decide +kernel⟩, by decide⟩, u_637, u_14⟩
theorem u_639 : Cond.methodLink RX1 58 yX1_goOnWith ∈ lw_use := use_of (k := 639) (by decide +kernel) rfl
abbrev M_X1_goOnWith : xM := (yX1_goOnWith, cX1_goOnWith, 4, (some .boolean))
theorem u_642 : Cond.code yX1_goOnWith cX1_goOnWith 4 (some .boolean) ∈ lw_use := use_of (k := 642) (by decide +kernel) rfl
theorem u_641 : Cond.instanceMethod yX1_goOnWith ∈ lw_use := use_of (k := 641) (by decide +kernel) rfl
theorem u_15 : Cond.selects RX1 yX1_goOnWith yX1_goOnWith ∈ lw_use := use_of (k := 15) (by decide +kernel) rfl
theorem pw_RX1_58 : xCV RX1 58 M_X1_goOnWith 3 := ⟨⟨u_639, u_82, u_642, ⟨by decide +kernel, by decide +kernel, by decide +kernel⟩, by decide⟩, u_641, u_15⟩
theorem u_647 : Cond.methodLink RX1 62 yX1_nextOf ∈ lw_use := use_of (k := 647) (by decide +kernel) rfl
abbrev M_X1_nextOf : xM := (yX1_nextOf, cX1_nextOf, 3, (some .int))
theorem u_650 : Cond.code yX1_nextOf cX1_nextOf 3 (some .int) ∈ lw_use := use_of (k := 650) (by decide +kernel) rfl
theorem u_649 : Cond.instanceMethod yX1_nextOf ∈ lw_use := use_of (k := 649) (by decide +kernel) rfl
theorem u_17 : Cond.selects RX1 yX1_nextOf yX1_nextOf ∈ lw_use := use_of (k := 17) (by decide +kernel) rfl
theorem pw_RX1_62 : xCV RX1 62 M_X1_nextOf 2 := ⟨⟨u_647, u_82, u_650, ⟨by decide +kernel, by decide +kernel, by decide +kernel⟩, by decide⟩, u_649, u_17⟩
theorem u_651 : Cond.methodLink RX1 65 yJ9_min_7cf53 ∈ lw_use := use_of (k := 651) (by decide +kernel) rfl
abbrev M_J9_min_7cf53 : xM := (yJ9_min_7cf53, cJ9_min_7cf53, 2, (some .int))
theorem u_653 : Cond.code yJ9_min_7cf53 cJ9_min_7cf53 2 (some .int) ∈ lw_use := use_of (k := 653) (by decide +kernel) rfl
theorem u_652 : Cond.static yJ9_min_7cf53 ∈ lw_use := use_of (k := 652) (by decide +kernel) rfl
theorem pw_RX1_65 : xCS RX1 65 M_J9_min_7cf53 2 := ⟨⟨u_651, u_88, u_653, ⟨by decide +kernel, by decide +kernel, by decide +kernel⟩, by decide⟩, u_652⟩
theorem u_654 : Cond.methodLink RX1 68 yX1_lessen ∈ lw_use := use_of (k := 654) (by decide +kernel) rfl
abbrev M_X1_lessen : xM := (yX1_lessen, cX1_lessen, 4, none)
theorem u_657 : Cond.code yX1_lessen cX1_lessen 4 none ∈ lw_use := use_of (k := 657) (by decide +kernel) rfl
theorem u_656 : Cond.instanceMethod yX1_lessen ∈ lw_use := use_of (k := 656) (by decide +kernel) rfl
theorem u_18 : Cond.selects RX1 yX1_lessen yX1_lessen ∈ lw_use := use_of (k := 18) (by decide +kernel) rfl
theorem pw_RX1_68 : xCV RX1 68 M_X1_lessen 3 := ⟨⟨u_654, u_82, u_657, ⟨by decide +kernel, by decide +kernel, by decide +kernel⟩, by decide⟩, u_656, u_18⟩
abbrev M_X2_size : xM := (yX2_size, cX2_size, 1, (some .int))
theorem u_208 : Cond.fieldLink RX2 29 (TX2 5).1 (TX2 5).2.1 (TX2 5).2.2.1 ∈ lw_use := use_of (k := 208) (by decide +kernel) rfl
theorem uws_2 : ∀ w ∈ u_ws RX2 TX2 6, w ∈ lw_use := use_ws inX2 (by decide +kernel)
theorem fw_RX2_29 : xFW RX2 29 2 5 := ⟨RX2, TX2, 6, rfl, by decide, u_208, uws_2⟩
abbrev M_X2_isFull : xM := (yX2_isFull, cX2_isFull, 1, (some .boolean))
abbrev M_X2_has : xM := (yX2_has, cX2_has, 2, (some .boolean))
abbrev M_X2_lengthOf : xM := (yX2_lengthOf, cX2_lengthOf, 2, (some .int))
theorem u_695 : Cond.methodLink RX2 33 yX2_has ∈ lw_use := use_of (k := 695) (by decide +kernel) rfl
theorem u_83 : Cond.initialized RX2 ∈ lw_use := use_of (k := 83) (by decide +kernel) rfl
theorem u_690 : Cond.code yX2_has cX2_has 2 (some .boolean) ∈ lw_use := use_of (k := 690) (by decide +kernel) rfl
theorem u_688 : Cond.instanceMethod yX2_has ∈ lw_use := use_of (k := 688) (by decide +kernel) rfl
theorem u_689 : Cond.selects RX2 yX2_has yX2_has ∈ lw_use := use_of (k := 689) (by decide +kernel) rfl
theorem pw_RX2_33 : xCV RX2 33 M_X2_has 1 := ⟨⟨u_695, u_83, u_690, ⟨by decide +kernel, by decide +kernel, by decide +kernel⟩, by decide⟩, u_688, u_689⟩
theorem u_204 : Cond.fieldLink RX2 16 (TX2 1).1 (TX2 1).2.1 (TX2 1).2.2.1 ∈ lw_use := use_of (k := 204) (by decide +kernel) rfl
theorem fw_RX2_16 : xFW RX2 16 2 1 := ⟨RX2, TX2, 6, rfl, by decide, u_204, uws_2⟩
abbrev M_X2_yearOf : xM := (yX2_yearOf, cX2_yearOf, 2, (some .int))
theorem u_205 : Cond.fieldLink RX2 20 (TX2 2).1 (TX2 2).2.1 (TX2 2).2.2.1 ∈ lw_use := use_of (k := 205) (by decide +kernel) rfl
theorem fw_RX2_20 : xFW RX2 20 2 2 := ⟨RX2, TX2, 6, rfl, by decide, u_205, uws_2⟩
abbrev M_X2_item : xM := (yX2_item, cX2_item, 3, (some .int))
theorem u_203 : Cond.fieldLink RX2 13 (TX2 0).1 (TX2 0).2.1 (TX2 0).2.2.1 ∈ lw_use := use_of (k := 203) (by decide +kernel) rfl
theorem fw_RX2_13 : xFW RX2 13 2 0 := ⟨RX2, TX2, 6, rfl, by decide, u_203, uws_2⟩
abbrev M_X2_keep : xM := (yX2_keep, cX2_keep, 6, (some .int))
theorem u_680 : Cond.methodLink RX2 37 yX2_isFull ∈ lw_use := use_of (k := 680) (by decide +kernel) rfl
theorem u_675 : Cond.code yX2_isFull cX2_isFull 1 (some .boolean) ∈ lw_use := use_of (k := 675) (by decide +kernel) rfl
theorem u_673 : Cond.instanceMethod yX2_isFull ∈ lw_use := use_of (k := 673) (by decide +kernel) rfl
theorem u_674 : Cond.selects RX2 yX2_isFull yX2_isFull ∈ lw_use := use_of (k := 674) (by decide +kernel) rfl
theorem pw_RX2_37 : xCV RX2 37 M_X2_isFull 0 := ⟨⟨u_680, u_83, u_675, ⟨by decide +kernel, by decide +kernel, by decide +kernel⟩, by decide⟩, u_673, u_674⟩
theorem u_681 : Cond.methodLinkNest RX2 41 yX6_within "ArmCounts" ∈ lw_use := use_of (k := 681) (by decide +kernel) rfl
theorem pw_RX2_41 : xCN RX2 41 "ArmCounts" M_X6_within 3 := ⟨⟨u_681, u_77, u_276, ⟨by decide +kernel, by decide +kernel, by decide +kernel⟩, by decide⟩, u_275⟩
theorem fp_RX2_29 : xFI RX2 29 2 5 := ⟨RX2, TX2, 6, tyX2, rfl, by decide, u_208, uws_2, tyX2_ok, nmX2, rfl, by decide +kernel⟩
theorem u_682 : Cond.methodLink RX2 45 yX4_wordAt ∈ lw_use := use_of (k := 682) (by decide +kernel) rfl
theorem pw_RX2_45 : xCV RX2 45 M_X4_wordAt 2 := ⟨⟨u_682, u_78, u_298, ⟨by decide +kernel, by decide +kernel, by decide +kernel⟩, by decide⟩, u_296, u_297⟩
abbrev M_X2_gaps : xM := (yX2_gaps, cX2_gaps, 4, (some .int))
theorem u_712 : Cond.methodLink RX2 51 yX2_lengthOf ∈ lw_use := use_of (k := 712) (by decide +kernel) rfl
theorem u_694 : Cond.code yX2_lengthOf cX2_lengthOf 2 (some .int) ∈ lw_use := use_of (k := 694) (by decide +kernel) rfl
theorem u_692 : Cond.instanceMethod yX2_lengthOf ∈ lw_use := use_of (k := 692) (by decide +kernel) rfl
theorem u_693 : Cond.selects RX2 yX2_lengthOf yX2_lengthOf ∈ lw_use := use_of (k := 693) (by decide +kernel) rfl
theorem pw_RX2_51 : xCV RX2 51 M_X2_lengthOf 1 := ⟨⟨u_712, u_83, u_694, ⟨by decide +kernel, by decide +kernel, by decide +kernel⟩, by decide⟩, u_692, u_693⟩
theorem u_713 : Cond.methodLink RX2 55 yX2_item ∈ lw_use := use_of (k := 713) (by decide +kernel) rfl
theorem u_699 : Cond.code yX2_item cX2_item 3 (some .int) ∈ lw_use := use_of (k := 699) (by decide +kernel) rfl
theorem u_697 : Cond.instanceMethod yX2_item ∈ lw_use := use_of (k := 697) (by decide +kernel) rfl
theorem u_698 : Cond.selects RX2 yX2_item yX2_item ∈ lw_use := use_of (k := 698) (by decide +kernel) rfl
theorem pw_RX2_55 : xCV RX2 55 M_X2_item 2 := ⟨⟨u_713, u_83, u_699, ⟨by decide +kernel, by decide +kernel, by decide +kernel⟩, by decide⟩, u_697, u_698⟩
abbrev M_X2_couldBeOfTens : xM := (yX2_couldBeOfTens, cX2_couldBeOfTens, 3, (some .boolean))
abbrev M_X2_ofTens : xM := (yX2_ofTens, cX2_ofTens, 4, (some .int))
theorem u_718 : Cond.methodLink RX2 58 yX2_couldBeOfTens ∈ lw_use := use_of (k := 718) (by decide +kernel) rfl
theorem u_721 : Cond.code yX2_couldBeOfTens cX2_couldBeOfTens 3 (some .boolean) ∈ lw_use := use_of (k := 721) (by decide +kernel) rfl
theorem u_720 : Cond.instanceMethod yX2_couldBeOfTens ∈ lw_use := use_of (k := 720) (by decide +kernel) rfl
theorem u_19 : Cond.selects RX2 yX2_couldBeOfTens yX2_couldBeOfTens ∈ lw_use := use_of (k := 19) (by decide +kernel) rfl
theorem pw_RX2_58 : xCV RX2 58 M_X2_couldBeOfTens 2 := ⟨⟨u_718, u_83, u_721, ⟨by decide +kernel, by decide +kernel, by decide +kernel⟩, by decide⟩, u_720, u_19⟩
abbrev M_X2_isShopped : xM := (yX2_isShopped, cX2_isShopped, 4, (some .boolean))
theorem u_726 : Cond.methodLink RX2 62 yX2_ofTens ∈ lw_use := use_of (k := 726) (by decide +kernel) rfl
theorem u_717 : Cond.code yX2_ofTens cX2_ofTens 4 (some .int) ∈ lw_use := use_of (k := 717) (by decide +kernel) rfl
theorem u_715 : Cond.instanceMethod yX2_ofTens ∈ lw_use := use_of (k := 715) (by decide +kernel) rfl
theorem u_716 : Cond.selects RX2 yX2_ofTens yX2_ofTens ∈ lw_use := use_of (k := 716) (by decide +kernel) rfl
theorem pw_RX2_62 : xCV RX2 62 M_X2_ofTens 1 := ⟨⟨u_726, u_83, u_717, ⟨by decide +kernel, by decide +kernel, by decide +kernel⟩, by decide⟩, u_715, u_716⟩
abbrev M_X2_distance : xM := (yX2_distance, cX2_distance, 7, (some .int))
theorem u_735 : Cond.methodLink RX2 65 yJ9_min_7cf53 ∈ lw_use := use_of (k := 735) (by decide +kernel) rfl
theorem pw_RX2_65 : xCS RX2 65 M_J9_min_7cf53 2 := ⟨⟨u_735, u_88, u_653, ⟨by decide +kernel, by decide +kernel, by decide +kernel⟩, by decide⟩, u_652⟩
theorem u_206 : Cond.fieldLink RX2 23 (TX2 3).1 (TX2 3).2.1 (TX2 3).2.2.1 ∈ lw_use := use_of (k := 206) (by decide +kernel) rfl
theorem fw_RX2_23 : xFW RX2 23 2 3 := ⟨RX2, TX2, 6, rfl, by decide, u_206, uws_2⟩
theorem u_207 : Cond.fieldLink RX2 26 (TX2 4).1 (TX2 4).2.1 (TX2 4).2.2.1 ∈ lw_use := use_of (k := 207) (by decide +kernel) rfl
theorem fw_RX2_26 : xFW RX2 26 2 4 := ⟨RX2, TX2, 6, rfl, by decide, u_207, uws_2⟩
theorem u_736 : Cond.methodLink RX2 70 yX2_unlike ∈ lw_use := use_of (k := 736) (by decide +kernel) rfl
abbrev M_X2_unlike : xM := (yX2_unlike, cX2_unlike, 2, (some .int))
theorem u_738 : Cond.code yX2_unlike cX2_unlike 2 (some .int) ∈ lw_use := use_of (k := 738) (by decide +kernel) rfl
theorem u_737 : Cond.static yX2_unlike ∈ lw_use := use_of (k := 737) (by decide +kernel) rfl
theorem pw_RX2_70 : xCS RX2 70 M_X2_unlike 2 := ⟨⟨u_736, u_83, u_738, ⟨by decide +kernel, by decide +kernel, by decide +kernel⟩, by decide⟩, u_737⟩
abbrev M_X2_motherOf : xM := (yX2_motherOf, cX2_motherOf, 6, (some .int))
theorem u_750 : Cond.methodLink RX2 79 yX2_yearOf ∈ lw_use := use_of (k := 750) (by decide +kernel) rfl
theorem u_707 : Cond.code yX2_yearOf cX2_yearOf 2 (some .int) ∈ lw_use := use_of (k := 707) (by decide +kernel) rfl
theorem u_705 : Cond.instanceMethod yX2_yearOf ∈ lw_use := use_of (k := 705) (by decide +kernel) rfl
theorem u_706 : Cond.selects RX2 yX2_yearOf yX2_yearOf ∈ lw_use := use_of (k := 706) (by decide +kernel) rfl
theorem pw_RX2_79 : xCV RX2 79 M_X2_yearOf 1 := ⟨⟨u_750, u_83, u_707, ⟨by decide +kernel, by decide +kernel, by decide +kernel⟩, by decide⟩, u_705, u_706⟩
theorem u_751 : Cond.methodLink RX2 82 yX2_distance ∈ lw_use := use_of (k := 751) (by decide +kernel) rfl
theorem u_734 : Cond.code yX2_distance cX2_distance 7 (some .int) ∈ lw_use := use_of (k := 734) (by decide +kernel) rfl
theorem u_732 : Cond.instanceMethod yX2_distance ∈ lw_use := use_of (k := 732) (by decide +kernel) rfl
theorem u_733 : Cond.selects RX2 yX2_distance yX2_distance ∈ lw_use := use_of (k := 733) (by decide +kernel) rfl
theorem pw_RX2_82 : xCV RX2 82 M_X2_distance 2 := ⟨⟨u_751, u_83, u_734, ⟨by decide +kernel, by decide +kernel, by decide +kernel⟩, by decide⟩, u_732, u_733⟩
abbrev M_X2_generations : xM := (yX2_generations, cX2_generations, 4, (some .int))
theorem u_781 : Cond.methodLink RX2 85 yX2_motherOf ∈ lw_use := use_of (k := 781) (by decide +kernel) rfl
theorem u_749 : Cond.code yX2_motherOf cX2_motherOf 6 (some .int) ∈ lw_use := use_of (k := 749) (by decide +kernel) rfl
theorem u_747 : Cond.instanceMethod yX2_motherOf ∈ lw_use := use_of (k := 747) (by decide +kernel) rfl
theorem u_748 : Cond.selects RX2 yX2_motherOf yX2_motherOf ∈ lw_use := use_of (k := 748) (by decide +kernel) rfl
theorem pw_RX2_85 : xCV RX2 85 M_X2_motherOf 1 := ⟨⟨u_781, u_83, u_749, ⟨by decide +kernel, by decide +kernel, by decide +kernel⟩, by decide⟩, u_747, u_748⟩
abbrev M_X2_couldBeOfTwo : xM := (yX2_couldBeOfTwo, cX2_couldBeOfTwo, 3, (some .boolean))
abbrev M_X2_twoMothers : xM := (yX2_twoMothers, cX2_twoMothers, 7, (some .int))
theorem u_760 : Cond.methodLink RX2 88 yX2_couldBeOfTwo ∈ lw_use := use_of (k := 760) (by decide +kernel) rfl
theorem u_763 : Cond.code yX2_couldBeOfTwo cX2_couldBeOfTwo 3 (some .boolean) ∈ lw_use := use_of (k := 763) (by decide +kernel) rfl
theorem u_762 : Cond.instanceMethod yX2_couldBeOfTwo ∈ lw_use := use_of (k := 762) (by decide +kernel) rfl
theorem u_20 : Cond.selects RX2 yX2_couldBeOfTwo yX2_couldBeOfTwo ∈ lw_use := use_of (k := 20) (by decide +kernel) rfl
theorem pw_RX2_88 : xCV RX2 88 M_X2_couldBeOfTwo 2 := ⟨⟨u_760, u_83, u_763, ⟨by decide +kernel, by decide +kernel, by decide +kernel⟩, by decide⟩, u_762, u_20⟩
theorem u_764 : Cond.methodLink RX2 91 yX2_unlikeBoth ∈ lw_use := use_of (k := 764) (by decide +kernel) rfl
abbrev M_X2_unlikeBoth : xM := (yX2_unlikeBoth, cX2_unlikeBoth, 7, (some .int))
theorem u_767 : Cond.code yX2_unlikeBoth cX2_unlikeBoth 7 (some .int) ∈ lw_use := use_of (k := 767) (by decide +kernel) rfl
theorem u_765 : Cond.instanceMethod yX2_unlikeBoth ∈ lw_use := use_of (k := 765) (by decide +kernel) rfl
theorem u_766 : Cond.selects RX2 yX2_unlikeBoth yX2_unlikeBoth ∈ lw_use := use_of (k := 766) (by decide +kernel) rfl
theorem pw_RX2_91 : xCV RX2 91 M_X2_unlikeBoth 3 := ⟨⟨u_764, u_83, u_767, ⟨by decide +kernel, by decide +kernel, by decide +kernel⟩, by decide⟩, u_765, u_766⟩
abbrev M_X2_sharedSlips : xM := (yX2_sharedSlips, cX2_sharedSlips, 7, (some .int))
theorem u_790 : Cond.methodLink RX2 95 yX2_wasSaid ∈ lw_use := use_of (k := 790) (by decide +kernel) rfl
abbrev M_X2_wasSaid : xM := (yX2_wasSaid, cX2_wasSaid, 5, (some .boolean))
theorem u_793 : Cond.code yX2_wasSaid cX2_wasSaid 5 (some .boolean) ∈ lw_use := use_of (k := 793) (by decide +kernel) rfl
theorem u_792 : Cond.instanceMethod yX2_wasSaid ∈ lw_use := use_of (k := 792) (by decide +kernel) rfl
theorem u_21 : Cond.selects RX2 yX2_wasSaid yX2_wasSaid ∈ lw_use := use_of (k := 21) (by decide +kernel) rfl
theorem pw_RX2_95 : xCV RX2 95 M_X2_wasSaid 3 := ⟨⟨u_790, u_83, u_793, ⟨by decide +kernel, by decide +kernel, by decide +kernel⟩, by decide⟩, u_792, u_21⟩
abbrev M_X3_asks : xM := (yX3_asks, cX3_asks, 1, (some .boolean))
abbrev M_X3_size : xM := (yX3_size, cX3_size, 1, (some .int))
theorem u_157 : Cond.fieldLink RX3 31 (TX3 4).1 (TX3 4).2.1 (TX3 4).2.2.1 ∈ lw_use := use_of (k := 157) (by decide +kernel) rfl
theorem uws_3 : ∀ w ∈ u_ws RX3 TX3 7, w ∈ lw_use := use_ws inX3 (by decide +kernel)
theorem fw_RX3_31 : xFW RX3 31 3 4 := ⟨RX3, TX3, 7, rfl, by decide, u_157, uws_3⟩
abbrev M_X3_matSize : xM := (yX3_matSize, cX3_matSize, 1, (some .int))
theorem u_158 : Cond.fieldLink RX3 27 (TX3 5).1 (TX3 5).2.1 (TX3 5).2.2.1 ∈ lw_use := use_of (k := 158) (by decide +kernel) rfl
theorem fw_RX3_27 : xFW RX3 27 3 5 := ⟨RX3, TX3, 7, rfl, by decide, u_158, uws_3⟩
abbrev M_X3_spread : xM := (yX3_spread, cX3_spread, 3, (some .int))
theorem fp_RX3_27 : xFI RX3 27 3 5 := ⟨RX3, TX3, 7, tyX3, rfl, by decide, u_158, uws_3, tyX3_ok, nmX3, rfl, by decide +kernel⟩
abbrev M_X3_empty : xM := (yX3_empty, cX3_empty, 2, (some .int))
theorem fp_RX3_31 : xFI RX3 31 3 4 := ⟨RX3, TX3, 7, tyX3, rfl, by decide, u_157, uws_3, tyX3_ok, nmX3, rfl, by decide +kernel⟩
abbrev M_X3_add : xM := (yX3_add, cX3_add, 5, (some .int))
theorem u_153 : Cond.fieldLink RX3 13 (TX3 0).1 (TX3 0).2.1 (TX3 0).2.2.1 ∈ lw_use := use_of (k := 153) (by decide +kernel) rfl
theorem fw_RX3_13 : xFW RX3 13 3 0 := ⟨RX3, TX3, 7, rfl, by decide, u_153, uws_3⟩
abbrev M_X3_addPoint : xM := (yX3_addPoint, cX3_addPoint, 6, (some .int))
theorem u_426 : Cond.methodLink RX3 34 yX3_add ∈ lw_use := use_of (k := 426) (by decide +kernel) rfl
theorem u_81 : Cond.initialized RX3 ∈ lw_use := use_of (k := 81) (by decide +kernel) rfl
theorem u_429 : Cond.code yX3_add cX3_add 5 (some .int) ∈ lw_use := use_of (k := 429) (by decide +kernel) rfl
theorem u_427 : Cond.instanceMethod yX3_add ∈ lw_use := use_of (k := 427) (by decide +kernel) rfl
theorem u_428 : Cond.selects RX3 yX3_add yX3_add ∈ lw_use := use_of (k := 428) (by decide +kernel) rfl
theorem pw_RX3_34 : xCV RX3 34 M_X3_add 4 := ⟨⟨u_426, u_81, u_429, ⟨by decide +kernel, by decide +kernel, by decide +kernel⟩, by decide⟩, u_427, u_428⟩
abbrev M_X3_howMany : xM := (yX3_howMany, cX3_howMany, 2, (some .int))
theorem u_459 : Cond.methodLink RX3 38 yX3_prepare ∈ lw_use := use_of (k := 459) (by decide +kernel) rfl
abbrev M_X3_prepare : xM := (yX3_prepare, cX3_prepare, 4, none)
theorem u_462 : Cond.code yX3_prepare cX3_prepare 4 none ∈ lw_use := use_of (k := 462) (by decide +kernel) rfl
theorem u_461 : Cond.instanceMethod yX3_prepare ∈ lw_use := use_of (k := 461) (by decide +kernel) rfl
theorem u_2 : Cond.selects RX3 yX3_prepare yX3_prepare ∈ lw_use := use_of (k := 2) (by decide +kernel) rfl
theorem pw_RX3_38 : xCV RX3 38 M_X3_prepare 1 := ⟨⟨u_459, u_81, u_462, ⟨by decide +kernel, by decide +kernel, by decide +kernel⟩, by decide⟩, u_461, u_2⟩
theorem u_468 : Cond.methodLink RX3 42 yX3_allClues ∈ lw_use := use_of (k := 468) (by decide +kernel) rfl
abbrev M_X3_allClues : xM := (yX3_allClues, cX3_allClues, 1, (some .int))
theorem u_471 : Cond.code yX3_allClues cX3_allClues 1 (some .int) ∈ lw_use := use_of (k := 471) (by decide +kernel) rfl
theorem u_470 : Cond.instanceMethod yX3_allClues ∈ lw_use := use_of (k := 470) (by decide +kernel) rfl
theorem u_3 : Cond.selects RX3 yX3_allClues yX3_allClues ∈ lw_use := use_of (k := 3) (by decide +kernel) rfl
theorem pw_RX3_42 : xCV RX3 42 M_X3_allClues 0 := ⟨⟨u_468, u_81, u_471, ⟨by decide +kernel, by decide +kernel, by decide +kernel⟩, by decide⟩, u_470, u_3⟩
theorem u_472 : Cond.methodLink RX3 46 yX3_search ∈ lw_use := use_of (k := 472) (by decide +kernel) rfl
abbrev M_X3_search : xM := (yX3_search, cX3_search, 11, none)
theorem u_475 : Cond.code yX3_search cX3_search 11 none ∈ lw_use := use_of (k := 475) (by decide +kernel) rfl
theorem u_474 : Cond.instanceMethod yX3_search ∈ lw_use := use_of (k := 474) (by decide +kernel) rfl
theorem u_4 : Cond.selects RX3 yX3_search yX3_search ∈ lw_use := use_of (k := 4) (by decide +kernel) rfl
theorem pw_RX3_46 : xCV RX3 46 M_X3_search 2 := ⟨⟨u_472, u_81, u_475, ⟨by decide +kernel, by decide +kernel, by decide +kernel⟩, by decide⟩, u_474, u_4⟩
theorem u_159 : Cond.fieldLink RX3 50 (TX3 6).1 (TX3 6).2.1 (TX3 6).2.2.1 ∈ lw_use := use_of (k := 159) (by decide +kernel) rfl
theorem fw_RX3_50 : xFW RX3 50 3 6 := ⟨RX3, TX3, 7, rfl, by decide, u_159, uws_3⟩
abbrev M_X3_pick : xM := (yX3_pick, cX3_pick, 4, (some .int))
theorem u_531 : Cond.methodLink RX3 53 yX3_asks ∈ lw_use := use_of (k := 531) (by decide +kernel) rfl
theorem u_421 : Cond.code yX3_asks cX3_asks 1 (some .boolean) ∈ lw_use := use_of (k := 421) (by decide +kernel) rfl
theorem u_420 : Cond.static yX3_asks ∈ lw_use := use_of (k := 420) (by decide +kernel) rfl
theorem pw_RX3_53 : xCS RX3 53 M_X3_asks 1 := ⟨⟨u_531, u_81, u_421, ⟨by decide +kernel, by decide +kernel, by decide +kernel⟩, by decide⟩, u_420⟩
theorem u_156 : Cond.fieldLink RX3 23 (TX3 3).1 (TX3 3).2.1 (TX3 3).2.2.1 ∈ lw_use := use_of (k := 156) (by decide +kernel) rfl
theorem fw_RX3_23 : xFW RX3 23 3 3 := ⟨RX3, TX3, 7, rfl, by decide, u_156, uws_3⟩
abbrev M_X3_certain : xM := (yX3_certain, cX3_certain, 3, (some .int))
theorem u_155 : Cond.fieldLink RX3 20 (TX3 2).1 (TX3 2).2.1 (TX3 2).2.2.1 ∈ lw_use := use_of (k := 155) (by decide +kernel) rfl
theorem fw_RX3_20 : xFW RX3 20 3 2 := ⟨RX3, TX3, 7, rfl, by decide, u_155, uws_3⟩
theorem u_514 : Cond.methodLink RX3 57 yJ13_bitCount_95d88 ∈ lw_use := use_of (k := 514) (by decide +kernel) rfl
abbrev M_J13_bitCount_95d88 : xM := (yJ13_bitCount_95d88, cJ13_bitCount_95d88, 2, (some .int))
theorem u_86 : Cond.initialized RJ13 ∈ lw_use := use_of (k := 86) (by decide +kernel) rfl
theorem u_516 : Cond.code yJ13_bitCount_95d88 cJ13_bitCount_95d88 2 (some .int) ∈ lw_use := use_of (k := 516) (by decide +kernel) rfl
theorem u_515 : Cond.static yJ13_bitCount_95d88 ∈ lw_use := use_of (k := 515) (by decide +kernel) rfl
theorem pw_RX3_57 : xCS RX3 57 M_J13_bitCount_95d88 1 := ⟨⟨u_514, u_86, u_516, ⟨by decide +kernel, by decide +kernel, by decide +kernel⟩, by decide⟩, u_515⟩
theorem u_520 : Cond.methodLink RX3 63 yX3_nth ∈ lw_use := use_of (k := 520) (by decide +kernel) rfl
abbrev M_X3_nth : xM := (yX3_nth, cX3_nth, 5, (some .int))
theorem u_522 : Cond.code yX3_nth cX3_nth 5 (some .int) ∈ lw_use := use_of (k := 522) (by decide +kernel) rfl
theorem u_521 : Cond.static yX3_nth ∈ lw_use := use_of (k := 521) (by decide +kernel) rfl
theorem pw_RX3_63 : xCS RX3 63 M_X3_nth 2 := ⟨⟨u_520, u_81, u_522, ⟨by decide +kernel, by decide +kernel, by decide +kernel⟩, by decide⟩, u_521⟩
abbrev M_X3_leastWithout : xM := (yX3_leastWithout, cX3_leastWithout, 5, (some .int))
theorem u_548 : Cond.methodLink RX3 67 yX3_hasSolution ∈ lw_use := use_of (k := 548) (by decide +kernel) rfl
abbrev M_X3_hasSolution : xM := (yX3_hasSolution, cX3_hasSolution, 2, (some .boolean))
theorem u_551 : Cond.code yX3_hasSolution cX3_hasSolution 2 (some .boolean) ∈ lw_use := use_of (k := 551) (by decide +kernel) rfl
theorem u_550 : Cond.instanceMethod yX3_hasSolution ∈ lw_use := use_of (k := 550) (by decide +kernel) rfl
theorem u_11 : Cond.selects RX3 yX3_hasSolution yX3_hasSolution ∈ lw_use := use_of (k := 11) (by decide +kernel) rfl
theorem pw_RX3_67 : xCV RX3 67 M_X3_hasSolution 1 := ⟨⟨u_548, u_81, u_551, ⟨by decide +kernel, by decide +kernel, by decide +kernel⟩, by decide⟩, u_550, u_11⟩
theorem u_552 : Cond.methodLink RX3 70 yJ6_bitCount_0f7a4 ∈ lw_use := use_of (k := 552) (by decide +kernel) rfl
abbrev M_J6_bitCount_0f7a4 : xM := (yJ6_bitCount_0f7a4, cJ6_bitCount_0f7a4, 1, (some .int))
theorem u_87 : Cond.initialized RJ6 ∈ lw_use := use_of (k := 87) (by decide +kernel) rfl
theorem u_554 : Cond.code yJ6_bitCount_0f7a4 cJ6_bitCount_0f7a4 1 (some .int) ∈ lw_use := use_of (k := 554) (by decide +kernel) rfl
theorem u_553 : Cond.static yJ6_bitCount_0f7a4 ∈ lw_use := use_of (k := 553) (by decide +kernel) rfl
theorem pw_RX3_70 : xCS RX3 70 M_J6_bitCount_0f7a4 1 := ⟨⟨u_552, u_87, u_554, ⟨by decide +kernel, by decide +kernel, by decide +kernel⟩, by decide⟩, u_553⟩
theorem u_154 : Cond.fieldLink RX3 16 (TX3 1).1 (TX3 1).2.1 (TX3 1).2.2.1 ∈ lw_use := use_of (k := 154) (by decide +kernel) rfl
theorem fw_RX3_16 : xFW RX3 16 3 1 := ⟨RX3, TX3, 7, rfl, by decide, u_154, uws_3⟩
theorem u_463 : Cond.methodLink RX3 75 yX3_allows ∈ lw_use := use_of (k := 463) (by decide +kernel) rfl
abbrev M_X3_allows : xM := (yX3_allows, cX3_allows, 3, (some .boolean))
theorem u_465 : Cond.code yX3_allows cX3_allows 3 (some .boolean) ∈ lw_use := use_of (k := 465) (by decide +kernel) rfl
theorem u_464 : Cond.static yX3_allows ∈ lw_use := use_of (k := 464) (by decide +kernel) rfl
theorem pw_RX3_75 : xCS RX3 75 M_X3_allows 3 := ⟨⟨u_463, u_81, u_465, ⟨by decide +kernel, by decide +kernel, by decide +kernel⟩, by decide⟩, u_464⟩
theorem u_467 : Cond.methodLinkNest RX3 85 yX6_within "ArmCounts" ∈ lw_use := use_of (k := 467) (by decide +kernel) rfl
theorem pw_RX3_85 : xCN RX3 85 "ArmCounts" M_X6_within 3 := ⟨⟨u_467, u_77, u_276, ⟨by decide +kernel, by decide +kernel, by decide +kernel⟩, by decide⟩, u_275⟩
theorem u_466 : Cond.methodLink RX3 79 yX0_means ∈ lw_use := use_of (k := 466) (by decide +kernel) rfl
theorem u_398 : Cond.code yX0_means cX0_means 7 (some .boolean) ∈ lw_use := use_of (k := 398) (by decide +kernel) rfl
theorem u_396 : Cond.instanceMethod yX0_means ∈ lw_use := use_of (k := 396) (by decide +kernel) rfl
theorem u_397 : Cond.selects RX0 yX0_means yX0_means ∈ lw_use := use_of (k := 397) (by decide +kernel) rfl
theorem pw_RX3_79 : xCV RX3 79 M_X0_means 5 := ⟨⟨u_466, u_80, u_398, ⟨by decide +kernel, by decide +kernel, by decide +kernel⟩, by decide⟩, u_396, u_397⟩
abbrev M_X3_inSet : xM := (yX3_inSet, cX3_inSet, 2, (some .boolean))
abbrev M_X3_isAmong : xM := (yX3_isAmong, cX3_isAmong, 3, (some .boolean))
abbrev M_X3_alone : xM := (yX3_alone, cX3_alone, 7, (some .long))
theorem u_480 : Cond.constantLong RX3 89 (2) ∈ lw_use := use_of (k := 480) (by decide +kernel) rfl
theorem u_481 : Cond.methodLink RX3 91 yX3_inSet ∈ lw_use := use_of (k := 481) (by decide +kernel) rfl
theorem u_483 : Cond.code yX3_inSet cX3_inSet 2 (some .boolean) ∈ lw_use := use_of (k := 483) (by decide +kernel) rfl
theorem u_482 : Cond.static yX3_inSet ∈ lw_use := use_of (k := 482) (by decide +kernel) rfl
theorem pw_RX3_91 : xCS RX3 91 M_X3_inSet 2 := ⟨⟨u_481, u_81, u_483, ⟨by decide +kernel, by decide +kernel, by decide +kernel⟩, by decide⟩, u_482⟩
theorem u_476 : Cond.methodLink RX3 95 yX3_alone ∈ lw_use := use_of (k := 476) (by decide +kernel) rfl
theorem u_479 : Cond.code yX3_alone cX3_alone 7 (some .long) ∈ lw_use := use_of (k := 479) (by decide +kernel) rfl
theorem u_478 : Cond.instanceMethod yX3_alone ∈ lw_use := use_of (k := 478) (by decide +kernel) rfl
theorem u_5 : Cond.selects RX3 yX3_alone yX3_alone ∈ lw_use := use_of (k := 5) (by decide +kernel) rfl
theorem pw_RX3_95 : xCV RX3 95 M_X3_alone 2 := ⟨⟨u_476, u_81, u_479, ⟨by decide +kernel, by decide +kernel, by decide +kernel⟩, by decide⟩, u_478, u_5⟩
theorem fp_RX3_50 : xFI RX3 50 3 6 := ⟨RX3, TX3, 7, tyX3, rfl, by decide, u_159, uws_3, tyX3_ok, nmX3, rfl, by decide +kernel⟩
theorem u_484 : Cond.methodLink RX3 99 yJ7_fill_d0a16 ∈ lw_use := use_of (k := 484) (by decide +kernel) rfl
abbrev M_J7_fill_d0a16 : xM := (yJ7_fill_d0a16, cJ7_fill_d0a16, 5, none)
theorem u_79 : Cond.initialized RJ7 ∈ lw_use := use_of (k := 79) (by decide +kernel) rfl
theorem u_486 : Cond.code yJ7_fill_d0a16 cJ7_fill_d0a16 5 none ∈ lw_use := use_of (k := 486) (by decide +kernel) rfl
theorem u_485 : Cond.static yJ7_fill_d0a16 ∈ lw_use := use_of (k := 485) (by decide +kernel) rfl
theorem pw_RX3_99 : xCS RX3 99 M_J7_fill_d0a16 2 := ⟨⟨u_484, u_79, u_486, ⟨by decide +kernel, by decide +kernel, by decide +kernel⟩, by decide⟩, u_485⟩
theorem u_487 : Cond.methodLink RX3 105 yX3_isAmong ∈ lw_use := use_of (k := 487) (by decide +kernel) rfl
theorem u_489 : Cond.code yX3_isAmong cX3_isAmong 3 (some .boolean) ∈ lw_use := use_of (k := 489) (by decide +kernel) rfl
theorem u_488 : Cond.static yX3_isAmong ∈ lw_use := use_of (k := 488) (by decide +kernel) rfl
theorem pw_RX3_105 : xCS RX3 105 M_X3_isAmong 2 := ⟨⟨u_487, u_81, u_489, ⟨by decide +kernel, by decide +kernel, by decide +kernel⟩, by decide⟩, u_488⟩
theorem u_490 : Cond.methodLink RX3 109 yX3_narrow ∈ lw_use := use_of (k := 490) (by decide +kernel) rfl
abbrev M_X3_narrow : xM := (yX3_narrow, cX3_narrow, 7, (some .long))
theorem u_493 : Cond.code yX3_narrow cX3_narrow 7 (some .long) ∈ lw_use := use_of (k := 493) (by decide +kernel) rfl
theorem u_492 : Cond.instanceMethod yX3_narrow ∈ lw_use := use_of (k := 492) (by decide +kernel) rfl
theorem u_6 : Cond.selects RX3 yX3_narrow yX3_narrow ∈ lw_use := use_of (k := 6) (by decide +kernel) rfl
theorem pw_RX3_109 : xCV RX3 109 M_X3_narrow 2 := ⟨⟨u_490, u_81, u_493, ⟨by decide +kernel, by decide +kernel, by decide +kernel⟩, by decide⟩, u_492, u_6⟩
theorem u_510 : Cond.methodLink RX3 113 yX3_meet ∈ lw_use := use_of (k := 510) (by decide +kernel) rfl
abbrev M_X3_meet : xM := (yX3_meet, cX3_meet, 5, (some .boolean))
theorem u_513 : Cond.code yX3_meet cX3_meet 5 (some .boolean) ∈ lw_use := use_of (k := 513) (by decide +kernel) rfl
theorem u_512 : Cond.instanceMethod yX3_meet ∈ lw_use := use_of (k := 512) (by decide +kernel) rfl
theorem u_10 : Cond.selects RX3 yX3_meet yX3_meet ∈ lw_use := use_of (k := 10) (by decide +kernel) rfl
theorem pw_RX3_113 : xCV RX3 113 M_X3_meet 2 := ⟨⟨u_510, u_81, u_513, ⟨by decide +kernel, by decide +kernel, by decide +kernel⟩, by decide⟩, u_512, u_10⟩
theorem u_506 : Cond.methodLink RX3 120 yX3_byLess ∈ lw_use := use_of (k := 506) (by decide +kernel) rfl
abbrev M_X3_byLess : xM := (yX3_byLess, cX3_byLess, 3, (some .long))
theorem u_509 : Cond.code yX3_byLess cX3_byLess 3 (some .long) ∈ lw_use := use_of (k := 509) (by decide +kernel) rfl
theorem u_508 : Cond.instanceMethod yX3_byLess ∈ lw_use := use_of (k := 508) (by decide +kernel) rfl
theorem u_9 : Cond.selects RX3 yX3_byLess yX3_byLess ∈ lw_use := use_of (k := 9) (by decide +kernel) rfl
theorem pw_RX3_120 : xCV RX3 120 M_X3_byLess 2 := ⟨⟨u_506, u_81, u_509, ⟨by decide +kernel, by decide +kernel, by decide +kernel⟩, by decide⟩, u_508, u_9⟩
theorem u_494 : Cond.methodLink RX3 116 yX3_bySum ∈ lw_use := use_of (k := 494) (by decide +kernel) rfl
abbrev M_X3_bySum : xM := (yX3_bySum, cX3_bySum, 7, (some .long))
theorem u_497 : Cond.code yX3_bySum cX3_bySum 7 (some .long) ∈ lw_use := use_of (k := 497) (by decide +kernel) rfl
theorem u_496 : Cond.instanceMethod yX3_bySum ∈ lw_use := use_of (k := 496) (by decide +kernel) rfl
theorem u_7 : Cond.selects RX3 yX3_bySum yX3_bySum ∈ lw_use := use_of (k := 7) (by decide +kernel) rfl
theorem pw_RX3_116 : xCV RX3 116 M_X3_bySum 3 := ⟨⟨u_494, u_81, u_497, ⟨by decide +kernel, by decide +kernel, by decide +kernel⟩, by decide⟩, u_496, u_7⟩
abbrev M_X3_known : xM := (yX3_known, cX3_known, 2, (some .int))
abbrev M_X3_isLast : xM := (yX3_isLast, cX3_isLast, 1, (some .int))
theorem u_498 : Cond.methodLink RX3 123 yX3_isLast ∈ lw_use := use_of (k := 498) (by decide +kernel) rfl
theorem u_500 : Cond.code yX3_isLast cX3_isLast 1 (some .int) ∈ lw_use := use_of (k := 500) (by decide +kernel) rfl
theorem u_499 : Cond.static yX3_isLast ∈ lw_use := use_of (k := 499) (by decide +kernel) rfl
theorem pw_RX3_123 : xCS RX3 123 M_X3_isLast 1 := ⟨⟨u_498, u_81, u_500, ⟨by decide +kernel, by decide +kernel, by decide +kernel⟩, by decide⟩, u_499⟩
theorem u_501 : Cond.methodLink RX3 126 yX3_known ∈ lw_use := use_of (k := 501) (by decide +kernel) rfl
theorem u_504 : Cond.code yX3_known cX3_known 2 (some .int) ∈ lw_use := use_of (k := 504) (by decide +kernel) rfl
theorem u_503 : Cond.instanceMethod yX3_known ∈ lw_use := use_of (k := 503) (by decide +kernel) rfl
theorem u_8 : Cond.selects RX3 yX3_known yX3_known ∈ lw_use := use_of (k := 8) (by decide +kernel) rfl
theorem pw_RX3_126 : xCV RX3 126 M_X3_known 1 := ⟨⟨u_501, u_81, u_504, ⟨by decide +kernel, by decide +kernel, by decide +kernel⟩, by decide⟩, u_503, u_8⟩
theorem u_505 : Cond.constantLong RX3 129 (-1) ∈ lw_use := use_of (k := 505) (by decide +kernel) rfl
abbrev M_X4_isForm : xM := (yX4_isForm, cX4_isForm, 1, (some .boolean))
theorem u_307 : Cond.methodLinkNest RX4 29 yX6_within "ArmCounts" ∈ lw_use := use_of (k := 307) (by decide +kernel) rfl
theorem pw_RX4_29 : xCN RX4 29 "ArmCounts" M_X6_within 3 := ⟨⟨u_307, u_77, u_276, ⟨by decide +kernel, by decide +kernel, by decide +kernel⟩, by decide⟩, u_275⟩
abbrev M_X4_named : xM := (yX4_named, cX4_named, 2, (some .boolean))
abbrev M_X4_lost : xM := (yX4_lost, cX4_lost, 2, (some .boolean))
theorem u_281 : Cond.methodLink RX4 33 yX4_named ∈ lw_use := use_of (k := 281) (by decide +kernel) rfl
theorem u_273 : Cond.code yX4_named cX4_named 2 (some .boolean) ∈ lw_use := use_of (k := 273) (by decide +kernel) rfl
theorem u_271 : Cond.instanceMethod yX4_named ∈ lw_use := use_of (k := 271) (by decide +kernel) rfl
theorem u_272 : Cond.selects RX4 yX4_named yX4_named ∈ lw_use := use_of (k := 272) (by decide +kernel) rfl
theorem pw_RX4_33 : xCV RX4 33 M_X4_named 1 := ⟨⟨u_281, u_78, u_273, ⟨by decide +kernel, by decide +kernel, by decide +kernel⟩, by decide⟩, u_271, u_272⟩
theorem u_111 : Cond.fieldLink RX4 20 (TX4 2).1 (TX4 2).2.1 (TX4 2).2.2.1 ∈ lw_use := use_of (k := 111) (by decide +kernel) rfl
theorem uws_4 : ∀ w ∈ u_ws RX4 TX4 4, w ∈ lw_use := use_ws inX4 (by decide +kernel)
theorem fw_RX4_20 : xFW RX4 20 4 2 := ⟨RX4, TX4, 4, rfl, by decide, u_111, uws_4⟩
abbrev M_X4_sizeOf : xM := (yX4_sizeOf, cX4_sizeOf, 2, (some .int))
theorem u_290 : Cond.methodLink RX4 37 yX4_lost ∈ lw_use := use_of (k := 290) (by decide +kernel) rfl
theorem u_280 : Cond.code yX4_lost cX4_lost 2 (some .boolean) ∈ lw_use := use_of (k := 280) (by decide +kernel) rfl
theorem u_278 : Cond.instanceMethod yX4_lost ∈ lw_use := use_of (k := 278) (by decide +kernel) rfl
theorem u_279 : Cond.selects RX4 yX4_lost yX4_lost ∈ lw_use := use_of (k := 279) (by decide +kernel) rfl
theorem pw_RX4_37 : xCV RX4 37 M_X4_lost 1 := ⟨⟨u_290, u_78, u_280, ⟨by decide +kernel, by decide +kernel, by decide +kernel⟩, by decide⟩, u_278, u_279⟩
abbrev M_X4_formOf : xM := (yX4_formOf, cX4_formOf, 2, (some .int))
theorem u_110 : Cond.fieldLink RX4 16 (TX4 1).1 (TX4 1).2.1 (TX4 1).2.2.1 ∈ lw_use := use_of (k := 110) (by decide +kernel) rfl
theorem fw_RX4_16 : xFW RX4 16 4 1 := ⟨RX4, TX4, 4, rfl, by decide, u_110, uws_4⟩
abbrev M_X4_hasItem : xM := (yX4_hasItem, cX4_hasItem, 3, (some .boolean))
abbrev M_X4_item : xM := (yX4_item, cX4_item, 3, (some .int))
theorem u_303 : Cond.methodLink RX4 40 yX4_hasItem ∈ lw_use := use_of (k := 303) (by decide +kernel) rfl
theorem u_306 : Cond.code yX4_hasItem cX4_hasItem 3 (some .boolean) ∈ lw_use := use_of (k := 306) (by decide +kernel) rfl
theorem u_305 : Cond.instanceMethod yX4_hasItem ∈ lw_use := use_of (k := 305) (by decide +kernel) rfl
theorem u_0 : Cond.selects RX4 yX4_hasItem yX4_hasItem ∈ lw_use := use_of (k := 0) (by decide +kernel) rfl
theorem pw_RX4_40 : xCV RX4 40 M_X4_hasItem 2 := ⟨⟨u_303, u_78, u_306, ⟨by decide +kernel, by decide +kernel, by decide +kernel⟩, by decide⟩, u_305, u_0⟩
theorem u_109 : Cond.fieldLink RX4 13 (TX4 0).1 (TX4 0).2.1 (TX4 0).2.2.1 ∈ lw_use := use_of (k := 109) (by decide +kernel) rfl
theorem fw_RX4_13 : xFW RX4 13 4 0 := ⟨RX4, TX4, 4, rfl, by decide, u_109, uws_4⟩
theorem u_299 : Cond.methodLink RX4 44 yX4_item ∈ lw_use := use_of (k := 299) (by decide +kernel) rfl
theorem u_302 : Cond.code yX4_item cX4_item 3 (some .int) ∈ lw_use := use_of (k := 302) (by decide +kernel) rfl
theorem u_300 : Cond.instanceMethod yX4_item ∈ lw_use := use_of (k := 300) (by decide +kernel) rfl
theorem u_301 : Cond.selects RX4 yX4_item yX4_item ∈ lw_use := use_of (k := 301) (by decide +kernel) rfl
theorem pw_RX4_44 : xCV RX4 44 M_X4_item 2 := ⟨⟨u_299, u_78, u_302, ⟨by decide +kernel, by decide +kernel, by decide +kernel⟩, by decide⟩, u_300, u_301⟩
abbrev M_X4_find : xM := (yX4_find, cX4_find, 2, (some .int))
theorem u_112 : Cond.fieldLink RX4 48 (TX4 3).1 (TX4 3).2.1 (TX4 3).2.2.1 ∈ lw_use := use_of (k := 112) (by decide +kernel) rfl
theorem fp_RX4_48 : xFI RX4 48 4 3 := ⟨RX4, TX4, 4, tyX4, rfl, by decide, u_112, uws_4, tyX4_ok, nmX4, rfl, by decide +kernel⟩
abbrev M_X4_latest : xM := (yX4_latest, cX4_latest, 1, (some .int))
theorem fw_RX4_48 : xFW RX4 48 4 3 := ⟨RX4, TX4, 4, rfl, by decide, u_112, uws_4⟩
abbrev M_X4_inUse : xM := (yX4_inUse, cX4_inUse, 3, (some .int))
abbrev M_X4_renew : xM := (yX4_renew, cX4_renew, 4, (some .int))
theorem u_106 : Cond.methodLink RX4 23 yJ7_fill_53178 ∈ lw_use := use_of (k := 106) (by decide +kernel) rfl
abbrev M_J7_fill_53178 : xM := (yJ7_fill_53178, cJ7_fill_53178, 4, none)
theorem u_108 : Cond.code yJ7_fill_53178 cJ7_fill_53178 4 none ∈ lw_use := use_of (k := 108) (by decide +kernel) rfl
theorem u_107 : Cond.static yJ7_fill_53178 ∈ lw_use := use_of (k := 107) (by decide +kernel) rfl
theorem pw_RX4_23 : xCS RX4 23 M_J7_fill_53178 2 := ⟨⟨u_106, u_79, u_108, ⟨by decide +kernel, by decide +kernel, by decide +kernel⟩, by decide⟩, u_107⟩
abbrev M_X4_drop : xM := (yX4_drop, cX4_drop, 3, (some .int))
abbrev M_X4_store : xM := (yX4_store, cX4_store, 4, none)
theorem u_942 : Cond.methodLink RX4 52 yX4_cut ∈ lw_use := use_of (k := 942) (by decide +kernel) rfl
abbrev M_X4_cut : xM := (yX4_cut, cX4_cut, 2, (some .int))
theorem u_944 : Cond.code yX4_cut cX4_cut 2 (some .int) ∈ lw_use := use_of (k := 944) (by decide +kernel) rfl
theorem u_943 : Cond.static yX4_cut ∈ lw_use := use_of (k := 943) (by decide +kernel) rfl
theorem pw_RX4_52 : xCS RX4 52 M_X4_cut 2 := ⟨⟨u_942, u_78, u_944, ⟨by decide +kernel, by decide +kernel, by decide +kernel⟩, by decide⟩, u_943⟩
abbrev M_X4_move : xM := (yX4_move, cX4_move, 6, (some .boolean))
theorem u_959 : Cond.methodLink RX4 55 yX4_sizeOf ∈ lw_use := use_of (k := 959) (by decide +kernel) rfl
theorem u_289 : Cond.code yX4_sizeOf cX4_sizeOf 2 (some .int) ∈ lw_use := use_of (k := 289) (by decide +kernel) rfl
theorem u_287 : Cond.instanceMethod yX4_sizeOf ∈ lw_use := use_of (k := 287) (by decide +kernel) rfl
theorem u_288 : Cond.selects RX4 yX4_sizeOf yX4_sizeOf ∈ lw_use := use_of (k := 288) (by decide +kernel) rfl
theorem pw_RX4_55 : xCV RX4 55 M_X4_sizeOf 1 := ⟨⟨u_959, u_78, u_289, ⟨by decide +kernel, by decide +kernel, by decide +kernel⟩, by decide⟩, u_287, u_288⟩
abbrev M_X4_unlikeWords : xM := (yX4_unlikeWords, cX4_unlikeWords, 6, (some .boolean))
theorem u_295 : Cond.methodLink RX4 65 yX4_wordAt ∈ lw_use := use_of (k := 295) (by decide +kernel) rfl
theorem pw_RX4_65 : xCV RX4 65 M_X4_wordAt 2 := ⟨⟨u_295, u_78, u_298, ⟨by decide +kernel, by decide +kernel, by decide +kernel⟩, by decide⟩, u_296, u_297⟩
abbrev M_X5_size : xM := (yX5_size, cX5_size, 1, (some .int))
theorem u_229 : Cond.fieldLink RX5 19 (TX5 1).1 (TX5 1).2.1 (TX5 1).2.2.1 ∈ lw_use := use_of (k := 229) (by decide +kernel) rfl
theorem uws_5 : ∀ w ∈ u_ws RX5 TX5 6, w ∈ lw_use := use_ws inX5 (by decide +kernel)
theorem fw_RX5_19 : xFW RX5 19 5 1 := ⟨RX5, TX5, 6, rfl, by decide, u_229, uws_5⟩
abbrev M_X5_append : xM := (yX5_append, cX5_append, 2, (some .int))
theorem u_228 : Cond.fieldLink RX5 11 (TX5 0).1 (TX5 0).2.1 (TX5 0).2.2.1 ∈ lw_use := use_of (k := 228) (by decide +kernel) rfl
theorem fw_RX5_11 : xFW RX5 11 5 0 := ⟨RX5, TX5, 6, rfl, by decide, u_228, uws_5⟩
theorem fp_RX5_19 : xFI RX5 19 5 1 := ⟨RX5, TX5, 6, tyX5, rfl, by decide, u_229, uws_5, tyX5_ok, nmX5, rfl, by decide +kernel⟩
abbrev M_X5_empty : xM := (yX5_empty, cX5_empty, 2, (some .int))
abbrev M_X5_stop : xM := (yX5_stop, cX5_stop, 1, (some .int))
theorem u_231 : Cond.fieldLink RX5 15 (TX5 3).1 (TX5 3).2.1 (TX5 3).2.2.1 ∈ lw_use := use_of (k := 231) (by decide +kernel) rfl
theorem fw_RX5_15 : xFW RX5 15 5 3 := ⟨RX5, TX5, 6, rfl, by decide, u_231, uws_5⟩
abbrev M_X5_isBeyond : xM := (yX5_isBeyond, cX5_isBeyond, 1, (some .boolean))
theorem u_233 : Cond.fieldLink RX5 22 (TX5 5).1 (TX5 5).2.1 (TX5 5).2.2.1 ∈ lw_use := use_of (k := 233) (by decide +kernel) rfl
theorem fw_RX5_22 : xFW RX5 22 5 5 := ⟨RX5, TX5, 6, rfl, by decide, u_233, uws_5⟩
abbrev M_X5_total : xM := (yX5_total, cX5_total, 1, (some .int))
theorem u_232 : Cond.fieldLink RX5 26 (TX5 4).1 (TX5 4).2.1 (TX5 4).2.2.1 ∈ lw_use := use_of (k := 232) (by decide +kernel) rfl
theorem fw_RX5_26 : xFW RX5 26 5 4 := ⟨RX5, TX5, 6, rfl, by decide, u_232, uws_5⟩
abbrev M_X5_read : xM := (yX5_read, cX5_read, 4, none)
theorem u_230 : Cond.fieldLink RX5 29 (TX5 2).1 (TX5 2).2.1 (TX5 2).2.2.1 ∈ lw_use := use_of (k := 230) (by decide +kernel) rfl
theorem fp_RX5_29 : xFI RX5 29 5 2 := ⟨RX5, TX5, 6, tyX5, rfl, by decide, u_230, uws_5, tyX5_ok, nmX5, rfl, by decide +kernel⟩
theorem fp_RX5_15 : xFI RX5 15 5 3 := ⟨RX5, TX5, 6, tyX5, rfl, by decide, u_231, uws_5, tyX5_ok, nmX5, rfl, by decide +kernel⟩
theorem fp_RX5_26 : xFI RX5 26 5 4 := ⟨RX5, TX5, 6, tyX5, rfl, by decide, u_232, uws_5, tyX5_ok, nmX5, rfl, by decide +kernel⟩
theorem fp_RX5_22 : xFZ RX5 22 5 5 := ⟨RX5, TX5, 6, tyX5, rfl, by decide, u_233, uws_5, tyX5_ok, nmX5, rfl, by decide +kernel⟩
theorem u_873 : Cond.methodLink RX5 32 yX5_readNumber ∈ lw_use := use_of (k := 873) (by decide +kernel) rfl
abbrev M_X5_readNumber : xM := (yX5_readNumber, cX5_readNumber, 6, (some .boolean))
theorem u_84 : Cond.initialized RX5 ∈ lw_use := use_of (k := 84) (by decide +kernel) rfl
theorem u_876 : Cond.code yX5_readNumber cX5_readNumber 6 (some .boolean) ∈ lw_use := use_of (k := 876) (by decide +kernel) rfl
theorem u_875 : Cond.instanceMethod yX5_readNumber ∈ lw_use := use_of (k := 875) (by decide +kernel) rfl
theorem u_28 : Cond.selects RX5 yX5_readNumber yX5_readNumber ∈ lw_use := use_of (k := 28) (by decide +kernel) rfl
theorem pw_RX5_32 : xCV RX5 32 M_X5_readNumber 2 := ⟨⟨u_873, u_84, u_876, ⟨by decide +kernel, by decide +kernel, by decide +kernel⟩, by decide⟩, u_875, u_28⟩
theorem fw_RX5_29 : xFW RX5 29 5 2 := ⟨RX5, TX5, 6, rfl, by decide, u_230, uws_5⟩
theorem u_877 : Cond.methodLink RX5 36 yX5_isNext ∈ lw_use := use_of (k := 877) (by decide +kernel) rfl
abbrev M_X5_isNext : xM := (yX5_isNext, cX5_isNext, 2, (some .boolean))
theorem u_880 : Cond.code yX5_isNext cX5_isNext 2 (some .boolean) ∈ lw_use := use_of (k := 880) (by decide +kernel) rfl
theorem u_879 : Cond.instanceMethod yX5_isNext ∈ lw_use := use_of (k := 879) (by decide +kernel) rfl
theorem u_29 : Cond.selects RX5 yX5_isNext yX5_isNext ∈ lw_use := use_of (k := 29) (by decide +kernel) rfl
theorem pw_RX5_36 : xCV RX5 36 M_X5_isNext 1 := ⟨⟨u_877, u_84, u_880, ⟨by decide +kernel, by decide +kernel, by decide +kernel⟩, by decide⟩, u_879, u_29⟩
theorem u_881 : Cond.methodLink RX5 40 yX5_readFigures ∈ lw_use := use_of (k := 881) (by decide +kernel) rfl
abbrev M_X5_readFigures : xM := (yX5_readFigures, cX5_readFigures, 3, (some .int))
theorem u_884 : Cond.code yX5_readFigures cX5_readFigures 3 (some .int) ∈ lw_use := use_of (k := 884) (by decide +kernel) rfl
theorem u_883 : Cond.instanceMethod yX5_readFigures ∈ lw_use := use_of (k := 883) (by decide +kernel) rfl
theorem u_30 : Cond.selects RX5 yX5_readFigures yX5_readFigures ∈ lw_use := use_of (k := 30) (by decide +kernel) rfl
theorem pw_RX5_40 : xCV RX5 40 M_X5_readFigures 0 := ⟨⟨u_881, u_84, u_884, ⟨by decide +kernel, by decide +kernel, by decide +kernel⟩, by decide⟩, u_883, u_30⟩
abbrev M_X5_figureHere : xM := (yX5_figureHere, cX5_figureHere, 1, (some .int))
theorem u_889 : Cond.methodLinkNest RX5 44 yX6_within "ArmCounts" ∈ lw_use := use_of (k := 889) (by decide +kernel) rfl
theorem pw_RX5_44 : xCN RX5 44 "ArmCounts" M_X6_within 3 := ⟨⟨u_889, u_77, u_276, ⟨by decide +kernel, by decide +kernel, by decide +kernel⟩, by decide⟩, u_275⟩
theorem u_885 : Cond.methodLink RX5 48 yX5_figureHere ∈ lw_use := use_of (k := 885) (by decide +kernel) rfl
theorem u_888 : Cond.code yX5_figureHere cX5_figureHere 1 (some .int) ∈ lw_use := use_of (k := 888) (by decide +kernel) rfl
theorem u_887 : Cond.instanceMethod yX5_figureHere ∈ lw_use := use_of (k := 887) (by decide +kernel) rfl
theorem u_31 : Cond.selects RX5 yX5_figureHere yX5_figureHere ∈ lw_use := use_of (k := 31) (by decide +kernel) rfl
theorem pw_RX5_48 : xCV RX5 48 M_X5_figureHere 0 := ⟨⟨u_885, u_84, u_888, ⟨by decide +kernel, by decide +kernel, by decide +kernel⟩, by decide⟩, u_887, u_31⟩
abbrev M_X6_countBy : xM := (yX6_countBy, cX6_countBy, 5, (some .int))
theorem u_247 : Cond.fieldLink RX6 10 (TX6 0).1 (TX6 0).2.1 (TX6 0).2.2.1 ∈ lw_use := use_of (k := 247) (by decide +kernel) rfl
theorem uws_6 : ∀ w ∈ u_ws RX6 TX6 6, w ∈ lw_use := use_ws inX6 (by decide +kernel)
theorem fw_RX6_10 : xFW RX6 10 6 0 := ⟨RX6, TX6, 6, rfl, by decide, u_247, uws_6⟩
theorem u_270 : Cond.methodLink RX6 51 yX4_named ∈ lw_use := use_of (k := 270) (by decide +kernel) rfl
theorem pw_RX6_51 : xCV RX6 51 M_X4_named 1 := ⟨⟨u_270, u_78, u_273, ⟨by decide +kernel, by decide +kernel, by decide +kernel⟩, by decide⟩, u_271, u_272⟩
theorem u_274 : Cond.methodLink RX6 55 yX6_within ∈ lw_use := use_of (k := 274) (by decide +kernel) rfl
theorem pw_RX6_55 : xCS RX6 55 M_X6_within 3 := ⟨⟨u_274, u_77, u_276, ⟨by decide +kernel, by decide +kernel, by decide +kernel⟩, by decide⟩, u_275⟩
theorem u_277 : Cond.methodLink RX6 59 yX4_lost ∈ lw_use := use_of (k := 277) (by decide +kernel) rfl
theorem pw_RX6_59 : xCV RX6 59 M_X4_lost 1 := ⟨⟨u_277, u_78, u_280, ⟨by decide +kernel, by decide +kernel, by decide +kernel⟩, by decide⟩, u_278, u_279⟩
theorem u_286 : Cond.methodLink RX6 66 yX4_sizeOf ∈ lw_use := use_of (k := 286) (by decide +kernel) rfl
theorem pw_RX6_66 : xCV RX6 66 M_X4_sizeOf 1 := ⟨⟨u_286, u_78, u_289, ⟨by decide +kernel, by decide +kernel, by decide +kernel⟩, by decide⟩, u_287, u_288⟩
theorem u_291 : Cond.methodLink RX6 69 yX4_unlikeWords ∈ lw_use := use_of (k := 291) (by decide +kernel) rfl
theorem u_294 : Cond.code yX4_unlikeWords cX4_unlikeWords 6 (some .boolean) ∈ lw_use := use_of (k := 294) (by decide +kernel) rfl
theorem u_292 : Cond.instanceMethod yX4_unlikeWords ∈ lw_use := use_of (k := 292) (by decide +kernel) rfl
theorem u_293 : Cond.selects RX4 yX4_unlikeWords yX4_unlikeWords ∈ lw_use := use_of (k := 293) (by decide +kernel) rfl
theorem pw_RX6_69 : xCV RX6 69 M_X4_unlikeWords 2 := ⟨⟨u_291, u_78, u_294, ⟨by decide +kernel, by decide +kernel, by decide +kernel⟩, by decide⟩, u_292, u_293⟩
theorem u_248 : Cond.fieldLink RX6 19 (TX6 1).1 (TX6 1).2.1 (TX6 1).2.2.1 ∈ lw_use := use_of (k := 248) (by decide +kernel) rfl
theorem fw_RX6_19 : xFW RX6 19 6 1 := ⟨RX6, TX6, 6, rfl, by decide, u_248, uws_6⟩
theorem u_308 : Cond.methodLink RX6 73 yX0_isFull ∈ lw_use := use_of (k := 308) (by decide +kernel) rfl
theorem pw_RX6_73 : xCV RX6 73 M_X0_isFull 0 := ⟨⟨u_308, u_80, u_311, ⟨by decide +kernel, by decide +kernel, by decide +kernel⟩, by decide⟩, u_309, u_310⟩
theorem u_312 : Cond.methodLink RX6 77 yX0_learn ∈ lw_use := use_of (k := 312) (by decide +kernel) rfl
theorem u_315 : Cond.code yX0_learn cX0_learn 9 (some .int) ∈ lw_use := use_of (k := 315) (by decide +kernel) rfl
theorem u_313 : Cond.instanceMethod yX0_learn ∈ lw_use := use_of (k := 313) (by decide +kernel) rfl
theorem u_314 : Cond.selects RX0 yX0_learn yX0_learn ∈ lw_use := use_of (k := 314) (by decide +kernel) rfl
theorem pw_RX6_77 : xCV RX6 77 M_X0_learn 4 := ⟨⟨u_312, u_80, u_315, ⟨by decide +kernel, by decide +kernel, by decide +kernel⟩, by decide⟩, u_313, u_314⟩
theorem u_282 : Cond.methodLink RX6 62 yX4_find ∈ lw_use := use_of (k := 282) (by decide +kernel) rfl
theorem u_285 : Cond.code yX4_find cX4_find 2 (some .int) ∈ lw_use := use_of (k := 285) (by decide +kernel) rfl
theorem u_283 : Cond.instanceMethod yX4_find ∈ lw_use := use_of (k := 283) (by decide +kernel) rfl
theorem u_284 : Cond.selects RX4 yX4_find yX4_find ∈ lw_use := use_of (k := 284) (by decide +kernel) rfl
theorem pw_RX6_62 : xCV RX6 62 M_X4_find 1 := ⟨⟨u_282, u_78, u_285, ⟨by decide +kernel, by decide +kernel, by decide +kernel⟩, by decide⟩, u_283, u_284⟩
abbrev M_X6_begins : xM := (yX6_begins, cX6_begins, 3, (some .int))
theorem u_323 : Cond.methodLink RX6 81 yX0_has ∈ lw_use := use_of (k := 323) (by decide +kernel) rfl
theorem pw_RX6_81 : xCV RX6 81 M_X0_has 1 := ⟨⟨u_323, u_80, u_326, ⟨by decide +kernel, by decide +kernel, by decide +kernel⟩, by decide⟩, u_324, u_325⟩
theorem u_327 : Cond.methodLink RX6 84 yX0_beginOn ∈ lw_use := use_of (k := 327) (by decide +kernel) rfl
theorem u_330 : Cond.code yX0_beginOn cX0_beginOn 4 (some .int) ∈ lw_use := use_of (k := 330) (by decide +kernel) rfl
theorem u_328 : Cond.instanceMethod yX0_beginOn ∈ lw_use := use_of (k := 328) (by decide +kernel) rfl
theorem u_329 : Cond.selects RX0 yX0_beginOn yX0_beginOn ∈ lw_use := use_of (k := 329) (by decide +kernel) rfl
theorem pw_RX6_84 : xCV RX6 84 M_X0_beginOn 2 := ⟨⟨u_327, u_80, u_330, ⟨by decide +kernel, by decide +kernel, by decide +kernel⟩, by decide⟩, u_328, u_329⟩
abbrev M_X6_about : xM := (yX6_about, cX6_about, 3, (some .int))
theorem u_336 : Cond.methodLink RX6 88 yX0_places ∈ lw_use := use_of (k := 336) (by decide +kernel) rfl
theorem pw_RX6_88 : xCV RX6 88 M_X0_places 1 := ⟨⟨u_336, u_80, u_339, ⟨by decide +kernel, by decide +kernel, by decide +kernel⟩, by decide⟩, u_337, u_338⟩
theorem u_340 : Cond.methodLink RX6 91 yX0_halfOf ∈ lw_use := use_of (k := 340) (by decide +kernel) rfl
theorem u_343 : Cond.code yX0_halfOf cX0_halfOf 2 (some .int) ∈ lw_use := use_of (k := 343) (by decide +kernel) rfl
theorem u_341 : Cond.instanceMethod yX0_halfOf ∈ lw_use := use_of (k := 341) (by decide +kernel) rfl
theorem u_342 : Cond.selects RX0 yX0_halfOf yX0_halfOf ∈ lw_use := use_of (k := 342) (by decide +kernel) rfl
theorem pw_RX6_91 : xCV RX6 91 M_X0_halfOf 1 := ⟨⟨u_340, u_80, u_343, ⟨by decide +kernel, by decide +kernel, by decide +kernel⟩, by decide⟩, u_341, u_342⟩
theorem u_344 : Cond.methodLink RX6 94 yX0_noseOf ∈ lw_use := use_of (k := 344) (by decide +kernel) rfl
theorem u_347 : Cond.code yX0_noseOf cX0_noseOf 2 (some .int) ∈ lw_use := use_of (k := 347) (by decide +kernel) rfl
theorem u_345 : Cond.instanceMethod yX0_noseOf ∈ lw_use := use_of (k := 345) (by decide +kernel) rfl
theorem u_346 : Cond.selects RX0 yX0_noseOf yX0_noseOf ∈ lw_use := use_of (k := 346) (by decide +kernel) rfl
theorem pw_RX6_94 : xCV RX6 94 M_X0_noseOf 1 := ⟨⟨u_344, u_80, u_347, ⟨by decide +kernel, by decide +kernel, by decide +kernel⟩, by decide⟩, u_345, u_346⟩
theorem u_348 : Cond.methodLink RX6 97 yX0_firstHand ∈ lw_use := use_of (k := 348) (by decide +kernel) rfl
theorem pw_RX6_97 : xCV RX6 97 M_X0_firstHand 1 := ⟨⟨u_348, u_80, u_351, ⟨by decide +kernel, by decide +kernel, by decide +kernel⟩, by decide⟩, u_349, u_350⟩
abbrev M_X6_place : xM := (yX6_place, cX6_place, 4, (some .int))
theorem u_356 : Cond.methodLink RX6 100 yX0_wordAt ∈ lw_use := use_of (k := 356) (by decide +kernel) rfl
theorem pw_RX6_100 : xCV RX6 100 M_X0_wordAt 2 := ⟨⟨u_356, u_80, u_359, ⟨by decide +kernel, by decide +kernel, by decide +kernel⟩, by decide⟩, u_357, u_358⟩
theorem u_361 : Cond.methodLink RX6 103 yX0_sideAt ∈ lw_use := use_of (k := 361) (by decide +kernel) rfl
theorem pw_RX6_103 : xCV RX6 103 M_X0_sideAt 2 := ⟨⟨u_361, u_80, u_364, ⟨by decide +kernel, by decide +kernel, by decide +kernel⟩, by decide⟩, u_362, u_363⟩
theorem u_365 : Cond.methodLink RX6 106 yX0_handAt ∈ lw_use := use_of (k := 365) (by decide +kernel) rfl
theorem pw_RX6_106 : xCV RX6 106 M_X0_handAt 2 := ⟨⟨u_365, u_80, u_368, ⟨by decide +kernel, by decide +kernel, by decide +kernel⟩, by decide⟩, u_366, u_367⟩
abbrev M_X6_number : xM := (yX6_number, cX6_number, 5, (some .int))
theorem u_375 : Cond.methodLink RX6 109 yX0_placeOf ∈ lw_use := use_of (k := 375) (by decide +kernel) rfl
theorem pw_RX6_109 : xCV RX6 109 M_X0_placeOf 2 := ⟨⟨u_375, u_80, u_378, ⟨by decide +kernel, by decide +kernel, by decide +kernel⟩, by decide⟩, u_376, u_377⟩
theorem u_379 : Cond.methodLink RX6 112 yX0_menOf ∈ lw_use := use_of (k := 379) (by decide +kernel) rfl
theorem pw_RX6_112 : xCV RX6 112 M_X0_menOf 2 := ⟨⟨u_379, u_80, u_382, ⟨by decide +kernel, by decide +kernel, by decide +kernel⟩, by decide⟩, u_380, u_381⟩
abbrev M_X6_value : xM := (yX6_value, cX6_value, 4, (some .int))
abbrev M_X6_isPoint : xM := (yX6_isPoint, cX6_isPoint, 5, (some .boolean))
abbrev M_X6_meanings : xM := (yX6_meanings, cX6_meanings, 8, (some .int))
theorem u_391 : Cond.methodLink RX6 115 yX6_isPoint ∈ lw_use := use_of (k := 391) (by decide +kernel) rfl
theorem u_394 : Cond.code yX6_isPoint cX6_isPoint 5 (some .boolean) ∈ lw_use := use_of (k := 394) (by decide +kernel) rfl
theorem u_393 : Cond.instanceMethod yX6_isPoint ∈ lw_use := use_of (k := 393) (by decide +kernel) rfl
theorem u_1 : Cond.selects RX6 yX6_isPoint yX6_isPoint ∈ lw_use := use_of (k := 1) (by decide +kernel) rfl
theorem pw_RX6_115 : xCV RX6 115 M_X6_isPoint 4 := ⟨⟨u_391, u_77, u_394, ⟨by decide +kernel, by decide +kernel, by decide +kernel⟩, by decide⟩, u_393, u_1⟩
theorem u_395 : Cond.methodLink RX6 119 yX0_means ∈ lw_use := use_of (k := 395) (by decide +kernel) rfl
theorem pw_RX6_119 : xCV RX6 119 M_X0_means 5 := ⟨⟨u_395, u_80, u_398, ⟨by decide +kernel, by decide +kernel, by decide +kernel⟩, by decide⟩, u_396, u_397⟩
abbrev M_X6_meaning : xM := (yX6_meaning, cX6_meaning, 8, (some .int))
abbrev M_X6_mat : xM := (yX6_mat, cX6_mat, 2, (some .int))
theorem u_249 : Cond.fieldLink RX6 26 (TX6 2).1 (TX6 2).2.1 (TX6 2).2.2.1 ∈ lw_use := use_of (k := 249) (by decide +kernel) rfl
theorem fw_RX6_26 : xFW RX6 26 6 2 := ⟨RX6, TX6, 6, rfl, by decide, u_249, uws_6⟩
theorem u_411 : Cond.methodLink RX6 123 yX3_spread ∈ lw_use := use_of (k := 411) (by decide +kernel) rfl
theorem u_414 : Cond.code yX3_spread cX3_spread 3 (some .int) ∈ lw_use := use_of (k := 414) (by decide +kernel) rfl
theorem u_412 : Cond.instanceMethod yX3_spread ∈ lw_use := use_of (k := 412) (by decide +kernel) rfl
theorem u_413 : Cond.selects RX3 yX3_spread yX3_spread ∈ lw_use := use_of (k := 413) (by decide +kernel) rfl
theorem pw_RX6_123 : xCV RX6 123 M_X3_spread 1 := ⟨⟨u_411, u_81, u_414, ⟨by decide +kernel, by decide +kernel, by decide +kernel⟩, by decide⟩, u_412, u_413⟩
abbrev M_X6_clue : xM := (yX6_clue, cX6_clue, 6, (some .int))
theorem u_419 : Cond.methodLink RX6 126 yX3_asks ∈ lw_use := use_of (k := 419) (by decide +kernel) rfl
theorem pw_RX6_126 : xCS RX6 126 M_X3_asks 1 := ⟨⟨u_419, u_81, u_421, ⟨by decide +kernel, by decide +kernel, by decide +kernel⟩, by decide⟩, u_420⟩
theorem u_422 : Cond.methodLink RX6 129 yX3_addPoint ∈ lw_use := use_of (k := 422) (by decide +kernel) rfl
theorem u_425 : Cond.code yX3_addPoint cX3_addPoint 6 (some .int) ∈ lw_use := use_of (k := 425) (by decide +kernel) rfl
theorem u_423 : Cond.instanceMethod yX3_addPoint ∈ lw_use := use_of (k := 423) (by decide +kernel) rfl
theorem u_424 : Cond.selects RX3 yX3_addPoint yX3_addPoint ∈ lw_use := use_of (k := 424) (by decide +kernel) rfl
theorem pw_RX6_129 : xCV RX6 129 M_X3_addPoint 5 := ⟨⟨u_422, u_81, u_425, ⟨by decide +kernel, by decide +kernel, by decide +kernel⟩, by decide⟩, u_423, u_424⟩
abbrev M_X6_sum : xM := (yX6_sum, cX6_sum, 4, (some .int))
theorem u_434 : Cond.methodLink RX6 133 yX3_add ∈ lw_use := use_of (k := 434) (by decide +kernel) rfl
theorem pw_RX6_133 : xCV RX6 133 M_X3_add 4 := ⟨⟨u_434, u_81, u_429, ⟨by decide +kernel, by decide +kernel, by decide +kernel⟩, by decide⟩, u_427, u_428⟩
abbrev M_X6_less : xM := (yX6_less, cX6_less, 3, (some .int))
abbrev M_X6_mats : xM := (yX6_mats, cX6_mats, 4, (some .int))
abbrev M_X6_forget : xM := (yX6_forget, cX6_forget, 1, (some .int))
theorem u_447 : Cond.methodLink RX6 137 yX3_empty ∈ lw_use := use_of (k := 447) (by decide +kernel) rfl
theorem u_450 : Cond.code yX3_empty cX3_empty 2 (some .int) ∈ lw_use := use_of (k := 450) (by decide +kernel) rfl
theorem u_448 : Cond.instanceMethod yX3_empty ∈ lw_use := use_of (k := 448) (by decide +kernel) rfl
theorem u_449 : Cond.selects RX3 yX3_empty yX3_empty ∈ lw_use := use_of (k := 449) (by decide +kernel) rfl
theorem pw_RX6_137 : xCV RX6 137 M_X3_empty 0 := ⟨⟨u_447, u_81, u_450, ⟨by decide +kernel, by decide +kernel, by decide +kernel⟩, by decide⟩, u_448, u_449⟩
abbrev M_X6_solutions : xM := (yX6_solutions, cX6_solutions, 1, (some .int))
theorem u_455 : Cond.methodLink RX6 141 yX3_howMany ∈ lw_use := use_of (k := 455) (by decide +kernel) rfl
theorem u_458 : Cond.code yX3_howMany cX3_howMany 2 (some .int) ∈ lw_use := use_of (k := 458) (by decide +kernel) rfl
theorem u_456 : Cond.instanceMethod yX3_howMany ∈ lw_use := use_of (k := 456) (by decide +kernel) rfl
theorem u_457 : Cond.selects RX3 yX3_howMany yX3_howMany ∈ lw_use := use_of (k := 457) (by decide +kernel) rfl
theorem pw_RX6_141 : xCV RX6 141 M_X3_howMany 1 := ⟨⟨u_455, u_81, u_458, ⟨by decide +kernel, by decide +kernel, by decide +kernel⟩, by decide⟩, u_456, u_457⟩
abbrev M_X6_solution : xM := (yX6_solution, cX6_solution, 3, (some .int))
theorem u_527 : Cond.methodLink RX6 145 yX3_pick ∈ lw_use := use_of (k := 527) (by decide +kernel) rfl
theorem u_530 : Cond.code yX3_pick cX3_pick 4 (some .int) ∈ lw_use := use_of (k := 530) (by decide +kernel) rfl
theorem u_528 : Cond.instanceMethod yX3_pick ∈ lw_use := use_of (k := 528) (by decide +kernel) rfl
theorem u_529 : Cond.selects RX3 yX3_pick yX3_pick ∈ lw_use := use_of (k := 529) (by decide +kernel) rfl
theorem pw_RX6_145 : xCV RX6 145 M_X3_pick 3 := ⟨⟨u_527, u_81, u_530, ⟨by decide +kernel, by decide +kernel, by decide +kernel⟩, by decide⟩, u_528, u_529⟩
abbrev M_X6_sure : xM := (yX6_sure, cX6_sure, 2, (some .int))
theorem u_536 : Cond.methodLink RX6 149 yX3_certain ∈ lw_use := use_of (k := 536) (by decide +kernel) rfl
theorem u_539 : Cond.code yX3_certain cX3_certain 3 (some .int) ∈ lw_use := use_of (k := 539) (by decide +kernel) rfl
theorem u_537 : Cond.instanceMethod yX3_certain ∈ lw_use := use_of (k := 537) (by decide +kernel) rfl
theorem u_538 : Cond.selects RX3 yX3_certain yX3_certain ∈ lw_use := use_of (k := 538) (by decide +kernel) rfl
theorem pw_RX6_149 : xCV RX6 149 M_X3_certain 2 := ⟨⟨u_536, u_81, u_539, ⟨by decide +kernel, by decide +kernel, by decide +kernel⟩, by decide⟩, u_537, u_538⟩
abbrev M_X6_quarrel : xM := (yX6_quarrel, cX6_quarrel, 1, (some .int))
theorem u_544 : Cond.methodLink RX6 153 yX3_leastWithout ∈ lw_use := use_of (k := 544) (by decide +kernel) rfl
theorem u_547 : Cond.code yX3_leastWithout cX3_leastWithout 5 (some .int) ∈ lw_use := use_of (k := 547) (by decide +kernel) rfl
theorem u_545 : Cond.instanceMethod yX3_leastWithout ∈ lw_use := use_of (k := 545) (by decide +kernel) rfl
theorem u_546 : Cond.selects RX3 yX3_leastWithout yX3_leastWithout ∈ lw_use := use_of (k := 546) (by decide +kernel) rfl
theorem pw_RX6_153 : xCV RX6 153 M_X3_leastWithout 1 := ⟨⟨u_544, u_81, u_547, ⟨by decide +kernel, by decide +kernel, by decide +kernel⟩, by decide⟩, u_545, u_546⟩
abbrev M_X6_heard : xM := (yX6_heard, cX6_heard, 4, (some .int))
theorem u_562 : Cond.methodLink RX6 156 yX0_heardAs ∈ lw_use := use_of (k := 562) (by decide +kernel) rfl
theorem u_565 : Cond.code yX0_heardAs cX0_heardAs 10 (some .int) ∈ lw_use := use_of (k := 565) (by decide +kernel) rfl
theorem u_563 : Cond.instanceMethod yX0_heardAs ∈ lw_use := use_of (k := 563) (by decide +kernel) rfl
theorem u_564 : Cond.selects RX0 yX0_heardAs yX0_heardAs ∈ lw_use := use_of (k := 564) (by decide +kernel) rfl
theorem pw_RX6_156 : xCV RX6 156 M_X0_heardAs 3 := ⟨⟨u_562, u_80, u_565, ⟨by decide +kernel, by decide +kernel, by decide +kernel⟩, by decide⟩, u_563, u_564⟩
abbrev M_X6_clear : xM := (yX6_clear, cX6_clear, 6, (some .int))
abbrev M_X6_trap : xM := (yX6_trap, cX6_trap, 5, (some .int))
abbrev M_X6_person : xM := (yX6_person, cX6_person, 2, (some .int))
theorem u_250 : Cond.fieldLink RX6 33 (TX6 3).1 (TX6 3).2.1 (TX6 3).2.2.1 ∈ lw_use := use_of (k := 250) (by decide +kernel) rfl
theorem fw_RX6_33 : xFW RX6 33 6 3 := ⟨RX6, TX6, 6, rfl, by decide, u_250, uws_6⟩
theorem u_578 : Cond.methodLink RX6 160 yX1_welcome ∈ lw_use := use_of (k := 578) (by decide +kernel) rfl
theorem u_581 : Cond.code yX1_welcome cX1_welcome 2 (some .int) ∈ lw_use := use_of (k := 581) (by decide +kernel) rfl
theorem u_579 : Cond.instanceMethod yX1_welcome ∈ lw_use := use_of (k := 579) (by decide +kernel) rfl
theorem u_580 : Cond.selects RX1 yX1_welcome yX1_welcome ∈ lw_use := use_of (k := 580) (by decide +kernel) rfl
theorem pw_RX6_160 : xCV RX6 160 M_X1_welcome 1 := ⟨⟨u_578, u_82, u_581, ⟨by decide +kernel, by decide +kernel, by decide +kernel⟩, by decide⟩, u_579, u_580⟩
abbrev M_X6_gift : xM := (yX6_gift, cX6_gift, 4, (some .int))
theorem u_586 : Cond.methodLink RX6 163 yX1_areTwo ∈ lw_use := use_of (k := 586) (by decide +kernel) rfl
theorem pw_RX6_163 : xCV RX6 163 M_X1_areTwo 2 := ⟨⟨u_586, u_82, u_589, ⟨by decide +kernel, by decide +kernel, by decide +kernel⟩, by decide⟩, u_587, u_588⟩
theorem u_594 : Cond.methodLink RX6 166 yX1_give ∈ lw_use := use_of (k := 594) (by decide +kernel) rfl
theorem u_597 : Cond.code yX1_give cX1_give 5 (some .int) ∈ lw_use := use_of (k := 597) (by decide +kernel) rfl
theorem u_595 : Cond.instanceMethod yX1_give ∈ lw_use := use_of (k := 595) (by decide +kernel) rfl
theorem u_596 : Cond.selects RX1 yX1_give yX1_give ∈ lw_use := use_of (k := 596) (by decide +kernel) rfl
theorem pw_RX6_166 : xCV RX6 166 M_X1_give 3 := ⟨⟨u_594, u_82, u_597, ⟨by decide +kernel, by decide +kernel, by decide +kernel⟩, by decide⟩, u_595, u_596⟩
abbrev M_X6_owed : xM := (yX6_owed, cX6_owed, 3, (some .int))
theorem u_606 : Cond.methodLink RX6 169 yX1_left ∈ lw_use := use_of (k := 606) (by decide +kernel) rfl
theorem pw_RX6_169 : xCV RX6 169 M_X1_left 2 := ⟨⟨u_606, u_82, u_609, ⟨by decide +kernel, by decide +kernel, by decide +kernel⟩, by decide⟩, u_607, u_608⟩
abbrev M_X6_told : xM := (yX6_told, cX6_told, 5, (some .int))
theorem u_614 : Cond.methodLink RX6 172 yX1_countOf ∈ lw_use := use_of (k := 614) (by decide +kernel) rfl
theorem u_617 : Cond.code yX1_countOf cX1_countOf 2 (some .int) ∈ lw_use := use_of (k := 617) (by decide +kernel) rfl
theorem u_615 : Cond.instanceMethod yX1_countOf ∈ lw_use := use_of (k := 615) (by decide +kernel) rfl
theorem u_616 : Cond.selects RX1 yX1_countOf yX1_countOf ∈ lw_use := use_of (k := 616) (by decide +kernel) rfl
theorem pw_RX6_172 : xCV RX6 172 M_X1_countOf 1 := ⟨⟨u_614, u_82, u_617, ⟨by decide +kernel, by decide +kernel, by decide +kernel⟩, by decide⟩, u_615, u_616⟩
abbrev M_X6_close : xM := (yX6_close, cX6_close, 1, (some .int))
theorem u_622 : Cond.methodLink RX6 175 yX1_closeAll ∈ lw_use := use_of (k := 622) (by decide +kernel) rfl
theorem u_625 : Cond.code yX1_closeAll cX1_closeAll 3 (some .int) ∈ lw_use := use_of (k := 625) (by decide +kernel) rfl
theorem u_623 : Cond.instanceMethod yX1_closeAll ∈ lw_use := use_of (k := 623) (by decide +kernel) rfl
theorem u_624 : Cond.selects RX1 yX1_closeAll yX1_closeAll ∈ lw_use := use_of (k := 624) (by decide +kernel) rfl
theorem pw_RX6_175 : xCV RX6 175 M_X1_closeAll 0 := ⟨⟨u_622, u_82, u_625, ⟨by decide +kernel, by decide +kernel, by decide +kernel⟩, by decide⟩, u_623, u_624⟩
abbrev M_X6_worth : xM := (yX6_worth, cX6_worth, 2, (some .int))
theorem u_662 : Cond.methodLink RX6 178 yX1_has ∈ lw_use := use_of (k := 662) (by decide +kernel) rfl
theorem pw_RX6_178 : xCV RX6 178 M_X1_has 1 := ⟨⟨u_662, u_82, u_593, ⟨by decide +kernel, by decide +kernel, by decide +kernel⟩, by decide⟩, u_591, u_592⟩
theorem u_667 : Cond.constant RX6 182 (-100000) ∈ lw_use := use_of (k := 667) (by decide +kernel) rfl
theorem u_663 : Cond.methodLink RX6 179 yX1_balance ∈ lw_use := use_of (k := 663) (by decide +kernel) rfl
theorem u_666 : Cond.code yX1_balance cX1_balance 4 (some .int) ∈ lw_use := use_of (k := 666) (by decide +kernel) rfl
theorem u_664 : Cond.instanceMethod yX1_balance ∈ lw_use := use_of (k := 664) (by decide +kernel) rfl
theorem u_665 : Cond.selects RX1 yX1_balance yX1_balance ∈ lw_use := use_of (k := 665) (by decide +kernel) rfl
theorem pw_RX6_179 : xCV RX6 179 M_X1_balance 1 := ⟨⟨u_663, u_82, u_666, ⟨by decide +kernel, by decide +kernel, by decide +kernel⟩, by decide⟩, u_664, u_665⟩
abbrev M_X6_list : xM := (yX6_list, cX6_list, 4, (some .int))
theorem u_251 : Cond.fieldLink RX6 40 (TX6 4).1 (TX6 4).2.1 (TX6 4).2.2.1 ∈ lw_use := use_of (k := 251) (by decide +kernel) rfl
theorem fw_RX6_40 : xFW RX6 40 6 4 := ⟨RX6, TX6, 6, rfl, by decide, u_251, uws_6⟩
theorem u_672 : Cond.methodLink RX6 183 yX2_isFull ∈ lw_use := use_of (k := 672) (by decide +kernel) rfl
theorem pw_RX6_183 : xCV RX6 183 M_X2_isFull 0 := ⟨⟨u_672, u_83, u_675, ⟨by decide +kernel, by decide +kernel, by decide +kernel⟩, by decide⟩, u_673, u_674⟩
theorem u_676 : Cond.methodLink RX6 184 yX2_keep ∈ lw_use := use_of (k := 676) (by decide +kernel) rfl
theorem u_679 : Cond.code yX2_keep cX2_keep 6 (some .int) ∈ lw_use := use_of (k := 679) (by decide +kernel) rfl
theorem u_677 : Cond.instanceMethod yX2_keep ∈ lw_use := use_of (k := 677) (by decide +kernel) rfl
theorem u_678 : Cond.selects RX2 yX2_keep yX2_keep ∈ lw_use := use_of (k := 678) (by decide +kernel) rfl
theorem pw_RX6_184 : xCV RX6 184 M_X2_keep 4 := ⟨⟨u_676, u_83, u_679, ⟨by decide +kernel, by decide +kernel, by decide +kernel⟩, by decide⟩, u_677, u_678⟩
abbrev M_X6_word : xM := (yX6_word, cX6_word, 3, (some .int))
theorem u_687 : Cond.methodLink RX6 188 yX2_has ∈ lw_use := use_of (k := 687) (by decide +kernel) rfl
theorem pw_RX6_188 : xCV RX6 188 M_X2_has 1 := ⟨⟨u_687, u_83, u_690, ⟨by decide +kernel, by decide +kernel, by decide +kernel⟩, by decide⟩, u_688, u_689⟩
theorem u_691 : Cond.methodLink RX6 189 yX2_lengthOf ∈ lw_use := use_of (k := 691) (by decide +kernel) rfl
theorem pw_RX6_189 : xCV RX6 189 M_X2_lengthOf 1 := ⟨⟨u_691, u_83, u_694, ⟨by decide +kernel, by decide +kernel, by decide +kernel⟩, by decide⟩, u_692, u_693⟩
theorem u_696 : Cond.methodLink RX6 192 yX2_item ∈ lw_use := use_of (k := 696) (by decide +kernel) rfl
theorem pw_RX6_192 : xCV RX6 192 M_X2_item 2 := ⟨⟨u_696, u_83, u_699, ⟨by decide +kernel, by decide +kernel, by decide +kernel⟩, by decide⟩, u_697, u_698⟩
abbrev M_X6_listIs : xM := (yX6_listIs, cX6_listIs, 3, (some .int))
theorem u_704 : Cond.methodLink RX6 195 yX2_yearOf ∈ lw_use := use_of (k := 704) (by decide +kernel) rfl
theorem pw_RX6_195 : xCV RX6 195 M_X2_yearOf 1 := ⟨⟨u_704, u_83, u_707, ⟨by decide +kernel, by decide +kernel, by decide +kernel⟩, by decide⟩, u_705, u_706⟩
theorem u_708 : Cond.methodLink RX6 198 yX2_gaps ∈ lw_use := use_of (k := 708) (by decide +kernel) rfl
theorem u_711 : Cond.code yX2_gaps cX2_gaps 4 (some .int) ∈ lw_use := use_of (k := 711) (by decide +kernel) rfl
theorem u_709 : Cond.instanceMethod yX2_gaps ∈ lw_use := use_of (k := 709) (by decide +kernel) rfl
theorem u_710 : Cond.selects RX2 yX2_gaps yX2_gaps ∈ lw_use := use_of (k := 710) (by decide +kernel) rfl
theorem pw_RX6_198 : xCV RX6 198 M_X2_gaps 1 := ⟨⟨u_708, u_83, u_711, ⟨by decide +kernel, by decide +kernel, by decide +kernel⟩, by decide⟩, u_709, u_710⟩
theorem u_714 : Cond.methodLink RX6 201 yX2_ofTens ∈ lw_use := use_of (k := 714) (by decide +kernel) rfl
theorem pw_RX6_201 : xCV RX6 201 M_X2_ofTens 1 := ⟨⟨u_714, u_83, u_717, ⟨by decide +kernel, by decide +kernel, by decide +kernel⟩, by decide⟩, u_715, u_716⟩
theorem u_722 : Cond.methodLink RX6 204 yX2_isShopped ∈ lw_use := use_of (k := 722) (by decide +kernel) rfl
theorem u_725 : Cond.code yX2_isShopped cX2_isShopped 4 (some .boolean) ∈ lw_use := use_of (k := 725) (by decide +kernel) rfl
theorem u_723 : Cond.instanceMethod yX2_isShopped ∈ lw_use := use_of (k := 723) (by decide +kernel) rfl
theorem u_724 : Cond.selects RX2 yX2_isShopped yX2_isShopped ∈ lw_use := use_of (k := 724) (by decide +kernel) rfl
theorem pw_RX6_204 : xCV RX6 204 M_X2_isShopped 1 := ⟨⟨u_722, u_83, u_725, ⟨by decide +kernel, by decide +kernel, by decide +kernel⟩, by decide⟩, u_723, u_724⟩
abbrev M_X6_changes : xM := (yX6_changes, cX6_changes, 3, (some .int))
theorem u_731 : Cond.methodLink RX6 207 yX2_distance ∈ lw_use := use_of (k := 731) (by decide +kernel) rfl
theorem pw_RX6_207 : xCV RX6 207 M_X2_distance 2 := ⟨⟨u_731, u_83, u_734, ⟨by decide +kernel, by decide +kernel, by decide +kernel⟩, by decide⟩, u_732, u_733⟩
abbrev M_X6_mother : xM := (yX6_mother, cX6_mother, 2, (some .int))
theorem u_746 : Cond.methodLink RX6 210 yX2_motherOf ∈ lw_use := use_of (k := 746) (by decide +kernel) rfl
theorem pw_RX6_210 : xCV RX6 210 M_X2_motherOf 1 := ⟨⟨u_746, u_83, u_749, ⟨by decide +kernel, by decide +kernel, by decide +kernel⟩, by decide⟩, u_747, u_748⟩
abbrev M_X6_mothers : xM := (yX6_mothers, cX6_mothers, 2, (some .int))
theorem u_756 : Cond.methodLink RX6 213 yX2_twoMothers ∈ lw_use := use_of (k := 756) (by decide +kernel) rfl
theorem u_759 : Cond.code yX2_twoMothers cX2_twoMothers 7 (some .int) ∈ lw_use := use_of (k := 759) (by decide +kernel) rfl
theorem u_757 : Cond.instanceMethod yX2_twoMothers ∈ lw_use := use_of (k := 757) (by decide +kernel) rfl
theorem u_758 : Cond.selects RX2 yX2_twoMothers yX2_twoMothers ∈ lw_use := use_of (k := 758) (by decide +kernel) rfl
theorem pw_RX6_213 : xCV RX6 213 M_X2_twoMothers 1 := ⟨⟨u_756, u_83, u_759, ⟨by decide +kernel, by decide +kernel, by decide +kernel⟩, by decide⟩, u_757, u_758⟩
abbrev M_X6_strange : xM := (yX6_strange, cX6_strange, 3, (some .int))
theorem u_772 : Cond.methodLink RX6 216 yX2_unlikeBoth ∈ lw_use := use_of (k := 772) (by decide +kernel) rfl
theorem pw_RX6_216 : xCV RX6 216 M_X2_unlikeBoth 3 := ⟨⟨u_772, u_83, u_767, ⟨by decide +kernel, by decide +kernel, by decide +kernel⟩, by decide⟩, u_765, u_766⟩
abbrev M_X6_age : xM := (yX6_age, cX6_age, 2, (some .int))
theorem u_777 : Cond.methodLink RX6 219 yX2_generations ∈ lw_use := use_of (k := 777) (by decide +kernel) rfl
theorem u_780 : Cond.code yX2_generations cX2_generations 4 (some .int) ∈ lw_use := use_of (k := 780) (by decide +kernel) rfl
theorem u_778 : Cond.instanceMethod yX2_generations ∈ lw_use := use_of (k := 778) (by decide +kernel) rfl
theorem u_779 : Cond.selects RX2 yX2_generations yX2_generations ∈ lw_use := use_of (k := 779) (by decide +kernel) rfl
theorem pw_RX6_219 : xCV RX6 219 M_X2_generations 1 := ⟨⟨u_777, u_83, u_780, ⟨by decide +kernel, by decide +kernel, by decide +kernel⟩, by decide⟩, u_778, u_779⟩
abbrev M_X6_slips : xM := (yX6_slips, cX6_slips, 3, (some .int))
theorem u_786 : Cond.methodLink RX6 222 yX2_sharedSlips ∈ lw_use := use_of (k := 786) (by decide +kernel) rfl
theorem u_789 : Cond.code yX2_sharedSlips cX2_sharedSlips 7 (some .int) ∈ lw_use := use_of (k := 789) (by decide +kernel) rfl
theorem u_787 : Cond.instanceMethod yX2_sharedSlips ∈ lw_use := use_of (k := 787) (by decide +kernel) rfl
theorem u_788 : Cond.selects RX2 yX2_sharedSlips yX2_sharedSlips ∈ lw_use := use_of (k := 788) (by decide +kernel) rfl
theorem pw_RX6_222 : xCV RX6 222 M_X2_sharedSlips 2 := ⟨⟨u_786, u_83, u_789, ⟨by decide +kernel, by decide +kernel, by decide +kernel⟩, by decide⟩, u_787, u_788⟩
abbrev M_X6_isTale : xM := (yX6_isTale, cX6_isTale, 3, (some .boolean))
abbrev M_X6_missing : xM := (yX6_missing, cX6_missing, 3, (some .int))
abbrev M_X6_tells : xM := (yX6_tells, cX6_tells, 8, (some .boolean))
theorem u_831 : Cond.methodLink RX6 225 yX4_wordAt ∈ lw_use := use_of (k := 831) (by decide +kernel) rfl
theorem pw_RX6_225 : xCV RX6 225 M_X4_wordAt 2 := ⟨⟨u_831, u_78, u_298, ⟨by decide +kernel, by decide +kernel, by decide +kernel⟩, by decide⟩, u_296, u_297⟩
theorem u_832 : Cond.methodLink RX6 226 yX0_wordOf ∈ lw_use := use_of (k := 832) (by decide +kernel) rfl
theorem u_835 : Cond.code yX0_wordOf cX0_wordOf 3 (some .int) ∈ lw_use := use_of (k := 835) (by decide +kernel) rfl
theorem u_833 : Cond.instanceMethod yX0_wordOf ∈ lw_use := use_of (k := 833) (by decide +kernel) rfl
theorem u_834 : Cond.selects RX0 yX0_wordOf yX0_wordOf ∈ lw_use := use_of (k := 834) (by decide +kernel) rfl
theorem pw_RX6_226 : xCV RX6 226 M_X0_wordOf 2 := ⟨⟨u_832, u_80, u_835, ⟨by decide +kernel, by decide +kernel, by decide +kernel⟩, by decide⟩, u_833, u_834⟩
abbrev M_X6_countOfWalk : xM := (yX6_countOfWalk, cX6_countOfWalk, 1, (some .int))
abbrev M_X6_startOfWalk : xM := (yX6_startOfWalk, cX6_startOfWalk, 1, (some .int))
abbrev M_X6_stepOfWalk : xM := (yX6_stepOfWalk, cX6_stepOfWalk, 1, (some .int))
abbrev M_X6_allWalks : xM := (yX6_allWalks, cX6_allWalks, 1, (some .int))
theorem u_810 : Cond.methodLink RX6 229 yX0_size ∈ lw_use := use_of (k := 810) (by decide +kernel) rfl
theorem u_813 : Cond.code yX0_size cX0_size 1 (some .int) ∈ lw_use := use_of (k := 813) (by decide +kernel) rfl
theorem u_811 : Cond.instanceMethod yX0_size ∈ lw_use := use_of (k := 811) (by decide +kernel) rfl
theorem u_812 : Cond.selects RX0 yX0_size yX0_size ∈ lw_use := use_of (k := 812) (by decide +kernel) rfl
theorem pw_RX6_229 : xCV RX6 229 M_X0_size 0 := ⟨⟨u_810, u_80, u_813, ⟨by decide +kernel, by decide +kernel, by decide +kernel⟩, by decide⟩, u_811, u_812⟩
abbrev M_X6_isReading : xM := (yX6_isReading, cX6_isReading, 4, (some .boolean))
theorem u_818 : Cond.methodLink RX6 232 yX6_countOfWalk ∈ lw_use := use_of (k := 818) (by decide +kernel) rfl
theorem u_820 : Cond.code yX6_countOfWalk cX6_countOfWalk 1 (some .int) ∈ lw_use := use_of (k := 820) (by decide +kernel) rfl
theorem u_819 : Cond.static yX6_countOfWalk ∈ lw_use := use_of (k := 819) (by decide +kernel) rfl
theorem pw_RX6_232 : xCS RX6 232 M_X6_countOfWalk 1 := ⟨⟨u_818, u_77, u_820, ⟨by decide +kernel, by decide +kernel, by decide +kernel⟩, by decide⟩, u_819⟩
theorem u_821 : Cond.methodLink RX6 235 yX6_startOfWalk ∈ lw_use := use_of (k := 821) (by decide +kernel) rfl
theorem u_823 : Cond.code yX6_startOfWalk cX6_startOfWalk 1 (some .int) ∈ lw_use := use_of (k := 823) (by decide +kernel) rfl
theorem u_822 : Cond.static yX6_startOfWalk ∈ lw_use := use_of (k := 822) (by decide +kernel) rfl
theorem pw_RX6_235 : xCS RX6 235 M_X6_startOfWalk 1 := ⟨⟨u_821, u_77, u_823, ⟨by decide +kernel, by decide +kernel, by decide +kernel⟩, by decide⟩, u_822⟩
theorem u_824 : Cond.methodLink RX6 238 yX6_stepOfWalk ∈ lw_use := use_of (k := 824) (by decide +kernel) rfl
theorem u_826 : Cond.code yX6_stepOfWalk cX6_stepOfWalk 1 (some .int) ∈ lw_use := use_of (k := 826) (by decide +kernel) rfl
theorem u_825 : Cond.static yX6_stepOfWalk ∈ lw_use := use_of (k := 825) (by decide +kernel) rfl
theorem pw_RX6_238 : xCS RX6 238 M_X6_stepOfWalk 1 := ⟨⟨u_824, u_77, u_826, ⟨by decide +kernel, by decide +kernel, by decide +kernel⟩, by decide⟩, u_825⟩
theorem u_827 : Cond.methodLink RX6 241 yX6_tells ∈ lw_use := use_of (k := 827) (by decide +kernel) rfl
theorem u_830 : Cond.code yX6_tells cX6_tells 8 (some .boolean) ∈ lw_use := use_of (k := 830) (by decide +kernel) rfl
theorem u_829 : Cond.instanceMethod yX6_tells ∈ lw_use := use_of (k := 829) (by decide +kernel) rfl
theorem u_26 : Cond.selects RX6 yX6_tells yX6_tells ∈ lw_use := use_of (k := 26) (by decide +kernel) rfl
theorem pw_RX6_241 : xCV RX6 241 M_X6_tells 5 := ⟨⟨u_827, u_77, u_830, ⟨by decide +kernel, by decide +kernel, by decide +kernel⟩, by decide⟩, u_829, u_26⟩
abbrev M_X6_readings : xM := (yX6_readings, cX6_readings, 7, (some .int))
theorem u_798 : Cond.methodLink RX6 244 yX6_isTale ∈ lw_use := use_of (k := 798) (by decide +kernel) rfl
theorem u_801 : Cond.code yX6_isTale cX6_isTale 3 (some .boolean) ∈ lw_use := use_of (k := 801) (by decide +kernel) rfl
theorem u_800 : Cond.instanceMethod yX6_isTale ∈ lw_use := use_of (k := 800) (by decide +kernel) rfl
theorem u_22 : Cond.selects RX6 yX6_isTale yX6_isTale ∈ lw_use := use_of (k := 22) (by decide +kernel) rfl
theorem pw_RX6_244 : xCV RX6 244 M_X6_isTale 2 := ⟨⟨u_798, u_77, u_801, ⟨by decide +kernel, by decide +kernel, by decide +kernel⟩, by decide⟩, u_800, u_22⟩
theorem u_802 : Cond.methodLink RX6 247 yX6_missing ∈ lw_use := use_of (k := 802) (by decide +kernel) rfl
theorem u_805 : Cond.code yX6_missing cX6_missing 3 (some .int) ∈ lw_use := use_of (k := 805) (by decide +kernel) rfl
theorem u_804 : Cond.instanceMethod yX6_missing ∈ lw_use := use_of (k := 804) (by decide +kernel) rfl
theorem u_23 : Cond.selects RX6 yX6_missing yX6_missing ∈ lw_use := use_of (k := 23) (by decide +kernel) rfl
theorem pw_RX6_247 : xCV RX6 247 M_X6_missing 2 := ⟨⟨u_802, u_77, u_805, ⟨by decide +kernel, by decide +kernel, by decide +kernel⟩, by decide⟩, u_804, u_23⟩
theorem u_806 : Cond.methodLink RX6 250 yX6_allWalks ∈ lw_use := use_of (k := 806) (by decide +kernel) rfl
theorem u_809 : Cond.code yX6_allWalks cX6_allWalks 1 (some .int) ∈ lw_use := use_of (k := 809) (by decide +kernel) rfl
theorem u_808 : Cond.instanceMethod yX6_allWalks ∈ lw_use := use_of (k := 808) (by decide +kernel) rfl
theorem u_24 : Cond.selects RX6 yX6_allWalks yX6_allWalks ∈ lw_use := use_of (k := 24) (by decide +kernel) rfl
theorem pw_RX6_250 : xCV RX6 250 M_X6_allWalks 0 := ⟨⟨u_806, u_77, u_809, ⟨by decide +kernel, by decide +kernel, by decide +kernel⟩, by decide⟩, u_808, u_24⟩
theorem u_814 : Cond.methodLink RX6 253 yX6_isReading ∈ lw_use := use_of (k := 814) (by decide +kernel) rfl
theorem u_817 : Cond.code yX6_isReading cX6_isReading 4 (some .boolean) ∈ lw_use := use_of (k := 817) (by decide +kernel) rfl
theorem u_816 : Cond.instanceMethod yX6_isReading ∈ lw_use := use_of (k := 816) (by decide +kernel) rfl
theorem u_25 : Cond.selects RX6 yX6_isReading yX6_isReading ∈ lw_use := use_of (k := 25) (by decide +kernel) rfl
theorem pw_RX6_253 : xCV RX6 253 M_X6_isReading 3 := ⟨⟨u_814, u_77, u_817, ⟨by decide +kernel, by decide +kernel, by decide +kernel⟩, by decide⟩, u_816, u_25⟩
abbrev M_X6_reading : xM := (yX6_reading, cX6_reading, 8, (some .int))
theorem u_840 : Cond.constant RX6 256 (100000) ∈ lw_use := use_of (k := 840) (by decide +kernel) rfl
abbrev M_X6_fits : xM := (yX6_fits, cX6_fits, 7, (some .int))
theorem u_845 : Cond.methodLink RX6 257 yX6_isWalk ∈ lw_use := use_of (k := 845) (by decide +kernel) rfl
abbrev M_X6_isWalk : xM := (yX6_isWalk, cX6_isWalk, 4, (some .boolean))
theorem u_848 : Cond.code yX6_isWalk cX6_isWalk 4 (some .boolean) ∈ lw_use := use_of (k := 848) (by decide +kernel) rfl
theorem u_847 : Cond.instanceMethod yX6_isWalk ∈ lw_use := use_of (k := 847) (by decide +kernel) rfl
theorem u_27 : Cond.selects RX6 yX6_isWalk yX6_isWalk ∈ lw_use := use_of (k := 27) (by decide +kernel) rfl
theorem pw_RX6_257 : xCV RX6 257 M_X6_isWalk 3 := ⟨⟨u_845, u_77, u_848, ⟨by decide +kernel, by decide +kernel, by decide +kernel⟩, by decide⟩, u_847, u_27⟩
abbrev M_X6_type : xM := (yX6_type, cX6_type, 2, (some .int))
theorem u_252 : Cond.fieldLink RX6 47 (TX6 5).1 (TX6 5).2.1 (TX6 5).2.2.1 ∈ lw_use := use_of (k := 252) (by decide +kernel) rfl
theorem fw_RX6_47 : xFW RX6 47 6 5 := ⟨RX6, TX6, 6, rfl, by decide, u_252, uws_6⟩
theorem u_853 : Cond.methodLink RX6 260 yX5_append ∈ lw_use := use_of (k := 853) (by decide +kernel) rfl
theorem u_856 : Cond.code yX5_append cX5_append 2 (some .int) ∈ lw_use := use_of (k := 856) (by decide +kernel) rfl
theorem u_854 : Cond.instanceMethod yX5_append ∈ lw_use := use_of (k := 854) (by decide +kernel) rfl
theorem u_855 : Cond.selects RX5 yX5_append yX5_append ∈ lw_use := use_of (k := 855) (by decide +kernel) rfl
theorem pw_RX6_260 : xCV RX6 260 M_X5_append 1 := ⟨⟨u_853, u_84, u_856, ⟨by decide +kernel, by decide +kernel, by decide +kernel⟩, by decide⟩, u_854, u_855⟩
abbrev M_X6_hush : xM := (yX6_hush, cX6_hush, 1, (some .int))
theorem u_861 : Cond.methodLink RX6 263 yX5_empty ∈ lw_use := use_of (k := 861) (by decide +kernel) rfl
theorem u_864 : Cond.code yX5_empty cX5_empty 2 (some .int) ∈ lw_use := use_of (k := 864) (by decide +kernel) rfl
theorem u_862 : Cond.instanceMethod yX5_empty ∈ lw_use := use_of (k := 862) (by decide +kernel) rfl
theorem u_863 : Cond.selects RX5 yX5_empty yX5_empty ∈ lw_use := use_of (k := 863) (by decide +kernel) rfl
theorem pw_RX6_263 : xCV RX6 263 M_X5_empty 0 := ⟨⟨u_861, u_84, u_864, ⟨by decide +kernel, by decide +kernel, by decide +kernel⟩, by decide⟩, u_862, u_863⟩
abbrev M_X6_fault : xM := (yX6_fault, cX6_fault, 1, (some .int))
theorem u_869 : Cond.methodLink RX6 264 yX5_read ∈ lw_use := use_of (k := 869) (by decide +kernel) rfl
theorem u_872 : Cond.code yX5_read cX5_read 4 none ∈ lw_use := use_of (k := 872) (by decide +kernel) rfl
theorem u_870 : Cond.instanceMethod yX5_read ∈ lw_use := use_of (k := 870) (by decide +kernel) rfl
theorem u_871 : Cond.selects RX5 yX5_read yX5_read ∈ lw_use := use_of (k := 871) (by decide +kernel) rfl
theorem pw_RX6_264 : xCV RX6 264 M_X5_read 1 := ⟨⟨u_869, u_84, u_872, ⟨by decide +kernel, by decide +kernel, by decide +kernel⟩, by decide⟩, u_870, u_871⟩
theorem u_890 : Cond.methodLink RX6 268 yX5_stop ∈ lw_use := use_of (k := 890) (by decide +kernel) rfl
theorem u_893 : Cond.code yX5_stop cX5_stop 1 (some .int) ∈ lw_use := use_of (k := 893) (by decide +kernel) rfl
theorem u_891 : Cond.instanceMethod yX5_stop ∈ lw_use := use_of (k := 891) (by decide +kernel) rfl
theorem u_892 : Cond.selects RX5 yX5_stop yX5_stop ∈ lw_use := use_of (k := 892) (by decide +kernel) rfl
theorem pw_RX6_268 : xCV RX6 268 M_X5_stop 0 := ⟨⟨u_890, u_84, u_893, ⟨by decide +kernel, by decide +kernel, by decide +kernel⟩, by decide⟩, u_891, u_892⟩
abbrev M_X6_speech : xM := (yX6_speech, cX6_speech, 2, (some .int))
theorem u_902 : Cond.constant RX6 274 (-100001) ∈ lw_use := use_of (k := 902) (by decide +kernel) rfl
theorem u_898 : Cond.methodLink RX6 271 yX5_isBeyond ∈ lw_use := use_of (k := 898) (by decide +kernel) rfl
theorem u_901 : Cond.code yX5_isBeyond cX5_isBeyond 1 (some .boolean) ∈ lw_use := use_of (k := 901) (by decide +kernel) rfl
theorem u_899 : Cond.instanceMethod yX5_isBeyond ∈ lw_use := use_of (k := 899) (by decide +kernel) rfl
theorem u_900 : Cond.selects RX5 yX5_isBeyond yX5_isBeyond ∈ lw_use := use_of (k := 900) (by decide +kernel) rfl
theorem pw_RX6_271 : xCV RX6 271 M_X5_isBeyond 0 := ⟨⟨u_898, u_84, u_901, ⟨by decide +kernel, by decide +kernel, by decide +kernel⟩, by decide⟩, u_899, u_900⟩
theorem u_903 : Cond.methodLink RX6 275 yX5_total ∈ lw_use := use_of (k := 903) (by decide +kernel) rfl
theorem u_906 : Cond.code yX5_total cX5_total 1 (some .int) ∈ lw_use := use_of (k := 906) (by decide +kernel) rfl
theorem u_904 : Cond.instanceMethod yX5_total ∈ lw_use := use_of (k := 904) (by decide +kernel) rfl
theorem u_905 : Cond.selects RX5 yX5_total yX5_total ∈ lw_use := use_of (k := 905) (by decide +kernel) rfl
theorem pw_RX6_275 : xCV RX6 275 M_X5_total 0 := ⟨⟨u_903, u_84, u_906, ⟨by decide +kernel, by decide +kernel, by decide +kernel⟩, by decide⟩, u_904, u_905⟩
abbrev M_X6_sheet : xM := (yX6_sheet, cX6_sheet, 4, (some .int))
theorem u_911 : Cond.methodLink RX6 278 yX4_isForm ∈ lw_use := use_of (k := 911) (by decide +kernel) rfl
theorem u_913 : Cond.code yX4_isForm cX4_isForm 1 (some .boolean) ∈ lw_use := use_of (k := 913) (by decide +kernel) rfl
theorem u_912 : Cond.static yX4_isForm ∈ lw_use := use_of (k := 912) (by decide +kernel) rfl
theorem pw_RX6_278 : xCS RX6 278 M_X4_isForm 1 := ⟨⟨u_911, u_78, u_913, ⟨by decide +kernel, by decide +kernel, by decide +kernel⟩, by decide⟩, u_912⟩
theorem u_914 : Cond.methodLink RX6 281 yX4_renew ∈ lw_use := use_of (k := 914) (by decide +kernel) rfl
theorem u_917 : Cond.code yX4_renew cX4_renew 4 (some .int) ∈ lw_use := use_of (k := 917) (by decide +kernel) rfl
theorem u_915 : Cond.instanceMethod yX4_renew ∈ lw_use := use_of (k := 915) (by decide +kernel) rfl
theorem u_916 : Cond.selects RX4 yX4_renew yX4_renew ∈ lw_use := use_of (k := 916) (by decide +kernel) rfl
theorem pw_RX6_281 : xCV RX6 281 M_X4_renew 3 := ⟨⟨u_914, u_78, u_917, ⟨by decide +kernel, by decide +kernel, by decide +kernel⟩, by decide⟩, u_915, u_916⟩
abbrev M_X6_lose : xM := (yX6_lose, cX6_lose, 2, (some .int))
theorem u_922 : Cond.methodLink RX6 284 yX4_drop ∈ lw_use := use_of (k := 922) (by decide +kernel) rfl
theorem u_925 : Cond.code yX4_drop cX4_drop 3 (some .int) ∈ lw_use := use_of (k := 925) (by decide +kernel) rfl
theorem u_923 : Cond.instanceMethod yX4_drop ∈ lw_use := use_of (k := 923) (by decide +kernel) rfl
theorem u_924 : Cond.selects RX4 yX4_drop yX4_drop ∈ lw_use := use_of (k := 924) (by decide +kernel) rfl
theorem pw_RX6_284 : xCV RX6 284 M_X4_drop 1 := ⟨⟨u_922, u_78, u_925, ⟨by decide +kernel, by decide +kernel, by decide +kernel⟩, by decide⟩, u_923, u_924⟩
abbrev M_X6_touch : xM := (yX6_touch, cX6_touch, 4, (some .int))
theorem u_934 : Cond.methodLink RX6 287 yX4_formOf ∈ lw_use := use_of (k := 934) (by decide +kernel) rfl
theorem u_937 : Cond.code yX4_formOf cX4_formOf 2 (some .int) ∈ lw_use := use_of (k := 937) (by decide +kernel) rfl
theorem u_935 : Cond.instanceMethod yX4_formOf ∈ lw_use := use_of (k := 935) (by decide +kernel) rfl
theorem u_936 : Cond.selects RX4 yX4_formOf yX4_formOf ∈ lw_use := use_of (k := 936) (by decide +kernel) rfl
theorem pw_RX6_287 : xCV RX6 287 M_X4_formOf 1 := ⟨⟨u_934, u_78, u_937, ⟨by decide +kernel, by decide +kernel, by decide +kernel⟩, by decide⟩, u_935, u_936⟩
abbrev M_X6_put : xM := (yX6_put, cX6_put, 6, (some .int))
theorem u_930 : Cond.methodLink RX6 290 yX6_touch ∈ lw_use := use_of (k := 930) (by decide +kernel) rfl
theorem u_933 : Cond.code yX6_touch cX6_touch 4 (some .int) ∈ lw_use := use_of (k := 933) (by decide +kernel) rfl
theorem u_932 : Cond.instanceMethod yX6_touch ∈ lw_use := use_of (k := 932) (by decide +kernel) rfl
theorem u_32 : Cond.selects RX6 yX6_touch yX6_touch ∈ lw_use := use_of (k := 32) (by decide +kernel) rfl
theorem pw_RX6_290 : xCV RX6 290 M_X6_touch 3 := ⟨⟨u_930, u_77, u_933, ⟨by decide +kernel, by decide +kernel, by decide +kernel⟩, by decide⟩, u_932, u_32⟩
theorem u_938 : Cond.methodLink RX6 293 yX4_store ∈ lw_use := use_of (k := 938) (by decide +kernel) rfl
theorem u_941 : Cond.code yX4_store cX4_store 4 none ∈ lw_use := use_of (k := 941) (by decide +kernel) rfl
theorem u_939 : Cond.instanceMethod yX4_store ∈ lw_use := use_of (k := 939) (by decide +kernel) rfl
theorem u_940 : Cond.selects RX4 yX4_store yX4_store ∈ lw_use := use_of (k := 940) (by decide +kernel) rfl
theorem pw_RX6_293 : xCV RX6 293 M_X4_store 3 := ⟨⟨u_938, u_78, u_941, ⟨by decide +kernel, by decide +kernel, by decide +kernel⟩, by decide⟩, u_939, u_940⟩
abbrev M_X6_get : xM := (yX6_get, cX6_get, 4, (some .int))
theorem u_949 : Cond.constant RX6 297 (-2147483648) ∈ lw_use := use_of (k := 949) (by decide +kernel) rfl
theorem u_950 : Cond.methodLink RX6 298 yX4_item ∈ lw_use := use_of (k := 950) (by decide +kernel) rfl
theorem pw_RX6_298 : xCV RX6 298 M_X4_item 2 := ⟨⟨u_950, u_78, u_302, ⟨by decide +kernel, by decide +kernel, by decide +kernel⟩, by decide⟩, u_300, u_301⟩
abbrev M_X6_copy : xM := (yX6_copy, cX6_copy, 6, (some .int))
theorem u_955 : Cond.methodLink RX6 299 yX4_move ∈ lw_use := use_of (k := 955) (by decide +kernel) rfl
theorem u_958 : Cond.code yX4_move cX4_move 6 (some .boolean) ∈ lw_use := use_of (k := 958) (by decide +kernel) rfl
theorem u_956 : Cond.instanceMethod yX4_move ∈ lw_use := use_of (k := 956) (by decide +kernel) rfl
theorem u_957 : Cond.selects RX4 yX4_move yX4_move ∈ lw_use := use_of (k := 957) (by decide +kernel) rfl
theorem pw_RX6_299 : xCV RX6 299 M_X4_move 5 := ⟨⟨u_955, u_78, u_958, ⟨by decide +kernel, by decide +kernel, by decide +kernel⟩, by decide⟩, u_956, u_957⟩
abbrev M_X6_write : xM := (yX6_write, cX6_write, 7, (some .int))
theorem u_965 : Cond.methodLink RX6 302 yJ9_min_7cf53 ∈ lw_use := use_of (k := 965) (by decide +kernel) rfl
theorem pw_RX6_302 : xCS RX6 302 M_J9_min_7cf53 2 := ⟨⟨u_965, u_88, u_653, ⟨by decide +kernel, by decide +kernel, by decide +kernel⟩, by decide⟩, u_652⟩
abbrev M_X6_count : xM := (yX6_count, cX6_count, 2, (some .int))
theorem u_970 : Cond.methodLink RX6 307 yX3_size ∈ lw_use := use_of (k := 970) (by decide +kernel) rfl
theorem u_973 : Cond.code yX3_size cX3_size 1 (some .int) ∈ lw_use := use_of (k := 973) (by decide +kernel) rfl
theorem u_971 : Cond.instanceMethod yX3_size ∈ lw_use := use_of (k := 971) (by decide +kernel) rfl
theorem u_972 : Cond.selects RX3 yX3_size yX3_size ∈ lw_use := use_of (k := 972) (by decide +kernel) rfl
theorem pw_RX6_307 : xCV RX6 307 M_X3_size 0 := ⟨⟨u_970, u_81, u_973, ⟨by decide +kernel, by decide +kernel, by decide +kernel⟩, by decide⟩, u_971, u_972⟩
theorem u_974 : Cond.methodLink RX6 308 yX3_matSize ∈ lw_use := use_of (k := 974) (by decide +kernel) rfl
theorem u_977 : Cond.code yX3_matSize cX3_matSize 1 (some .int) ∈ lw_use := use_of (k := 977) (by decide +kernel) rfl
theorem u_975 : Cond.instanceMethod yX3_matSize ∈ lw_use := use_of (k := 975) (by decide +kernel) rfl
theorem u_976 : Cond.selects RX3 yX3_matSize yX3_matSize ∈ lw_use := use_of (k := 976) (by decide +kernel) rfl
theorem pw_RX6_308 : xCV RX6 308 M_X3_matSize 0 := ⟨⟨u_974, u_81, u_977, ⟨by decide +kernel, by decide +kernel, by decide +kernel⟩, by decide⟩, u_975, u_976⟩
theorem u_978 : Cond.methodLink RX6 311 yX1_size ∈ lw_use := use_of (k := 978) (by decide +kernel) rfl
theorem u_981 : Cond.code yX1_size cX1_size 1 (some .int) ∈ lw_use := use_of (k := 981) (by decide +kernel) rfl
theorem u_979 : Cond.instanceMethod yX1_size ∈ lw_use := use_of (k := 979) (by decide +kernel) rfl
theorem u_980 : Cond.selects RX1 yX1_size yX1_size ∈ lw_use := use_of (k := 980) (by decide +kernel) rfl
theorem pw_RX6_311 : xCV RX6 311 M_X1_size 0 := ⟨⟨u_978, u_82, u_981, ⟨by decide +kernel, by decide +kernel, by decide +kernel⟩, by decide⟩, u_979, u_980⟩
theorem u_982 : Cond.methodLink RX6 312 yX2_size ∈ lw_use := use_of (k := 982) (by decide +kernel) rfl
theorem u_985 : Cond.code yX2_size cX2_size 1 (some .int) ∈ lw_use := use_of (k := 985) (by decide +kernel) rfl
theorem u_983 : Cond.instanceMethod yX2_size ∈ lw_use := use_of (k := 983) (by decide +kernel) rfl
theorem u_984 : Cond.selects RX2 yX2_size yX2_size ∈ lw_use := use_of (k := 984) (by decide +kernel) rfl
theorem pw_RX6_312 : xCV RX6 312 M_X2_size 0 := ⟨⟨u_982, u_83, u_985, ⟨by decide +kernel, by decide +kernel, by decide +kernel⟩, by decide⟩, u_983, u_984⟩
theorem u_986 : Cond.methodLink RX6 313 yX5_size ∈ lw_use := use_of (k := 986) (by decide +kernel) rfl
theorem u_989 : Cond.code yX5_size cX5_size 1 (some .int) ∈ lw_use := use_of (k := 989) (by decide +kernel) rfl
theorem u_987 : Cond.instanceMethod yX5_size ∈ lw_use := use_of (k := 987) (by decide +kernel) rfl
theorem u_988 : Cond.selects RX5 yX5_size yX5_size ∈ lw_use := use_of (k := 988) (by decide +kernel) rfl
theorem pw_RX6_313 : xCV RX6 313 M_X5_size 0 := ⟨⟨u_986, u_84, u_989, ⟨by decide +kernel, by decide +kernel, by decide +kernel⟩, by decide⟩, u_987, u_988⟩
theorem u_990 : Cond.methodLink RX6 314 yX1_whole ∈ lw_use := use_of (k := 990) (by decide +kernel) rfl
theorem u_993 : Cond.code yX1_whole cX1_whole 4 (some .int) ∈ lw_use := use_of (k := 993) (by decide +kernel) rfl
theorem u_991 : Cond.instanceMethod yX1_whole ∈ lw_use := use_of (k := 991) (by decide +kernel) rfl
theorem u_992 : Cond.selects RX1 yX1_whole yX1_whole ∈ lw_use := use_of (k := 992) (by decide +kernel) rfl
theorem pw_RX6_314 : xCV RX6 314 M_X1_whole 0 := ⟨⟨u_990, u_82, u_993, ⟨by decide +kernel, by decide +kernel, by decide +kernel⟩, by decide⟩, u_991, u_992⟩
theorem u_994 : Cond.methodLink RX6 317 yX4_inUse ∈ lw_use := use_of (k := 994) (by decide +kernel) rfl
theorem u_997 : Cond.code yX4_inUse cX4_inUse 3 (some .int) ∈ lw_use := use_of (k := 997) (by decide +kernel) rfl
theorem u_995 : Cond.instanceMethod yX4_inUse ∈ lw_use := use_of (k := 995) (by decide +kernel) rfl
theorem u_996 : Cond.selects RX4 yX4_inUse yX4_inUse ∈ lw_use := use_of (k := 996) (by decide +kernel) rfl
theorem pw_RX6_317 : xCV RX6 317 M_X4_inUse 0 := ⟨⟨u_994, u_78, u_997, ⟨by decide +kernel, by decide +kernel, by decide +kernel⟩, by decide⟩, u_995, u_996⟩
theorem u_998 : Cond.methodLink RX6 320 yX4_latest ∈ lw_use := use_of (k := 998) (by decide +kernel) rfl
theorem u_1001 : Cond.code yX4_latest cX4_latest 1 (some .int) ∈ lw_use := use_of (k := 1001) (by decide +kernel) rfl
theorem u_999 : Cond.instanceMethod yX4_latest ∈ lw_use := use_of (k := 999) (by decide +kernel) rfl
theorem u_1000 : Cond.selects RX4 yX4_latest yX4_latest ∈ lw_use := use_of (k := 1000) (by decide +kernel) rfl
theorem pw_RX6_320 : xCV RX6 320 M_X4_latest 0 := ⟨⟨u_998, u_78, u_1001, ⟨by decide +kernel, by decide +kernel, by decide +kernel⟩, by decide⟩, u_999, u_1000⟩
abbrev M_X6_digest : xM := (yX6_digest, cX6_digest, 4, (some .long))
theorem u_1006 : Cond.constantLong RX6 323 (17) ∈ lw_use := use_of (k := 1006) (by decide +kernel) rfl
theorem u_1007 : Cond.constantLong RX6 325 (31) ∈ lw_use := use_of (k := 1007) (by decide +kernel) rfl
theorem u_1009 : Cond.methodLink RX6 330 yX6_digestCounts ∈ lw_use := use_of (k := 1009) (by decide +kernel) rfl
abbrev M_X6_digestCounts : xM := (yX6_digestCounts, cX6_digestCounts, 7, (some .long))
theorem u_1012 : Cond.code yX6_digestCounts cX6_digestCounts 7 (some .long) ∈ lw_use := use_of (k := 1012) (by decide +kernel) rfl
theorem u_1011 : Cond.instanceMethod yX6_digestCounts ∈ lw_use := use_of (k := 1011) (by decide +kernel) rfl
theorem u_33 : Cond.selects RX6 yX6_digestCounts yX6_digestCounts ∈ lw_use := use_of (k := 33) (by decide +kernel) rfl
theorem pw_RX6_330 : xCV RX6 330 M_X6_digestCounts 1 := ⟨⟨u_1009, u_77, u_1012, ⟨by decide +kernel, by decide +kernel, by decide +kernel⟩, by decide⟩, u_1011, u_33⟩
theorem u_1014 : Cond.methodLink RX6 334 yX6_digestDebts ∈ lw_use := use_of (k := 1014) (by decide +kernel) rfl
abbrev M_X6_digestDebts : xM := (yX6_digestDebts, cX6_digestDebts, 7, (some .long))
theorem u_1017 : Cond.code yX6_digestDebts cX6_digestDebts 7 (some .long) ∈ lw_use := use_of (k := 1017) (by decide +kernel) rfl
theorem u_1016 : Cond.instanceMethod yX6_digestDebts ∈ lw_use := use_of (k := 1016) (by decide +kernel) rfl
theorem u_34 : Cond.selects RX6 yX6_digestDebts yX6_digestDebts ∈ lw_use := use_of (k := 34) (by decide +kernel) rfl
theorem pw_RX6_334 : xCV RX6 334 M_X6_digestDebts 1 := ⟨⟨u_1014, u_77, u_1017, ⟨by decide +kernel, by decide +kernel, by decide +kernel⟩, by decide⟩, u_1016, u_34⟩
theorem u_1018 : Cond.methodLink RX6 337 yX6_digestLists ∈ lw_use := use_of (k := 1018) (by decide +kernel) rfl
abbrev M_X6_digestLists : xM := (yX6_digestLists, cX6_digestLists, 7, (some .long))
theorem u_1021 : Cond.code yX6_digestLists cX6_digestLists 7 (some .long) ∈ lw_use := use_of (k := 1021) (by decide +kernel) rfl
theorem u_1020 : Cond.instanceMethod yX6_digestLists ∈ lw_use := use_of (k := 1020) (by decide +kernel) rfl
theorem u_35 : Cond.selects RX6 yX6_digestLists yX6_digestLists ∈ lw_use := use_of (k := 35) (by decide +kernel) rfl
theorem pw_RX6_337 : xCV RX6 337 M_X6_digestLists 1 := ⟨⟨u_1018, u_77, u_1021, ⟨by decide +kernel, by decide +kernel, by decide +kernel⟩, by decide⟩, u_1020, u_35⟩
theorem u_1008 : Cond.methodLink RX6 327 yX6_count ∈ lw_use := use_of (k := 1008) (by decide +kernel) rfl
theorem u_969 : Cond.code yX6_count cX6_count 2 (some .int) ∈ lw_use := use_of (k := 969) (by decide +kernel) rfl
theorem u_967 : Cond.instanceMethod yX6_count ∈ lw_use := use_of (k := 967) (by decide +kernel) rfl
theorem u_968 : Cond.selects RX6 yX6_count yX6_count ∈ lw_use := use_of (k := 968) (by decide +kernel) rfl
theorem pw_RX6_327 : xCV RX6 327 M_X6_count 1 := ⟨⟨u_1008, u_77, u_969, ⟨by decide +kernel, by decide +kernel, by decide +kernel⟩, by decide⟩, u_967, u_968⟩
theorem u_1013 : Cond.methodLink RX6 340 yX6_about ∈ lw_use := use_of (k := 1013) (by decide +kernel) rfl
theorem u_335 : Cond.code yX6_about cX6_about 3 (some .int) ∈ lw_use := use_of (k := 335) (by decide +kernel) rfl
theorem u_333 : Cond.instanceMethod yX6_about ∈ lw_use := use_of (k := 333) (by decide +kernel) rfl
theorem u_334 : Cond.selects RX6 yX6_about yX6_about ∈ lw_use := use_of (k := 334) (by decide +kernel) rfl
theorem pw_RX6_340 : xCV RX6 340 M_X6_about 2 := ⟨⟨u_1013, u_77, u_335, ⟨by decide +kernel, by decide +kernel, by decide +kernel⟩, by decide⟩, u_333, u_334⟩
theorem u_1022 : Cond.methodLink RX6 343 yX6_listIs ∈ lw_use := use_of (k := 1022) (by decide +kernel) rfl
theorem u_703 : Cond.code yX6_listIs cX6_listIs 3 (some .int) ∈ lw_use := use_of (k := 703) (by decide +kernel) rfl
theorem u_701 : Cond.instanceMethod yX6_listIs ∈ lw_use := use_of (k := 701) (by decide +kernel) rfl
theorem u_702 : Cond.selects RX6 yX6_listIs yX6_listIs ∈ lw_use := use_of (k := 702) (by decide +kernel) rfl
theorem pw_RX6_343 : xCV RX6 343 M_X6_listIs 2 := ⟨⟨u_1022, u_77, u_703, ⟨by decide +kernel, by decide +kernel, by decide +kernel⟩, by decide⟩, u_701, u_702⟩
abbrev M_X7_in : xM := (yX7_in, cX7_in, 3, (some .boolean))
abbrev M_X7_isWord : xM := (yX7_isWord, cX7_isWord, 1, (some .boolean))
theorem u_1134 : Cond.methodLink RX7 75 yX7_in ∈ lw_use := use_of (k := 1134) (by decide +kernel) rfl
theorem u_85 : Cond.initialized RX7 ∈ lw_use := use_of (k := 85) (by decide +kernel) rfl
theorem u_1136 : Cond.code yX7_in cX7_in 3 (some .boolean) ∈ lw_use := use_of (k := 1136) (by decide +kernel) rfl
theorem u_1135 : Cond.static yX7_in ∈ lw_use := use_of (k := 1135) (by decide +kernel) rfl
theorem pw_RX7_75 : xCS RX7 75 M_X7_in 3 := ⟨⟨u_1134, u_85, u_1136, ⟨by decide +kernel, by decide +kernel, by decide +kernel⟩, by decide⟩, u_1135⟩
abbrev M_X7_isCount : xM := (yX7_isCount, cX7_isCount, 2, (some .boolean))
theorem u_1029 : Cond.fieldLink RX7 79 (TX7 0).1 (TX7 0).2.1 (TX7 0).2.2.1 ∈ lw_use := use_of (k := 1029) (by decide +kernel) rfl
theorem uws_7 : ∀ w ∈ u_ws RX7 TX7 32, w ∈ lw_use := use_ws inX7 (by decide +kernel)
theorem fw_RX7_79 : xFW RX7 79 7 0 := ⟨RX7, TX7, 32, rfl, by decide, u_1029, uws_7⟩
abbrev M_X7_countBy : xM := (yX7_countBy, cX7_countBy, 9, (some .int))
theorem u_1131 : Cond.methodLink RX7 82 yX7_isSheet ∈ lw_use := use_of (k := 1131) (by decide +kernel) rfl
abbrev M_X7_isSheet : xM := (yX7_isSheet, cX7_isSheet, 1, (some .boolean))
theorem u_1133 : Cond.code yX7_isSheet cX7_isSheet 1 (some .boolean) ∈ lw_use := use_of (k := 1133) (by decide +kernel) rfl
theorem u_1132 : Cond.static yX7_isSheet ∈ lw_use := use_of (k := 1132) (by decide +kernel) rfl
theorem pw_RX7_82 : xCS RX7 82 M_X7_isSheet 1 := ⟨⟨u_1131, u_85, u_1133, ⟨by decide +kernel, by decide +kernel, by decide +kernel⟩, by decide⟩, u_1132⟩
theorem u_1055 : Cond.fieldLink RX7 60 (TX7 26).1 (TX7 26).2.1 (TX7 26).2.2.1 ∈ lw_use := use_of (k := 1055) (by decide +kernel) rfl
theorem fw_RX7_60 : xFW RX7 60 7 26 := ⟨RX7, TX7, 32, rfl, by decide, u_1055, uws_7⟩
theorem u_1057 : Cond.fieldLink RX7 66 (TX7 28).1 (TX7 28).2.1 (TX7 28).2.2.1 ∈ lw_use := use_of (k := 1057) (by decide +kernel) rfl
theorem fw_RX7_66 : xFW RX7 66 7 28 := ⟨RX7, TX7, 32, rfl, by decide, u_1057, uws_7⟩
theorem u_1137 : Cond.methodLink RX7 86 yX7_meets ∈ lw_use := use_of (k := 1137) (by decide +kernel) rfl
abbrev M_X7_meets : xM := (yX7_meets, cX7_meets, 2, (some .int))
theorem u_1140 : Cond.code yX7_meets cX7_meets 2 (some .int) ∈ lw_use := use_of (k := 1140) (by decide +kernel) rfl
theorem u_1139 : Cond.instanceMethod yX7_meets ∈ lw_use := use_of (k := 1139) (by decide +kernel) rfl
theorem u_36 : Cond.selects RX7 yX7_meets yX7_meets ∈ lw_use := use_of (k := 36) (by decide +kernel) rfl
theorem pw_RX7_86 : xCV RX7 86 M_X7_meets 1 := ⟨⟨u_1137, u_85, u_1140, ⟨by decide +kernel, by decide +kernel, by decide +kernel⟩, by decide⟩, u_1139, u_36⟩
theorem u_1058 : Cond.fieldLink RX7 69 (TX7 29).1 (TX7 29).2.1 (TX7 29).2.2.1 ∈ lw_use := use_of (k := 1058) (by decide +kernel) rfl
theorem fw_RX7_69 : xFW RX7 69 7 29 := ⟨RX7, TX7, 32, rfl, by decide, u_1058, uws_7⟩
theorem u_1031 : Cond.fieldLink RX7 13 (TX7 2).1 (TX7 2).2.1 (TX7 2).2.2.1 ∈ lw_use := use_of (k := 1031) (by decide +kernel) rfl
theorem fw_RX7_13 : xFW RX7 13 7 2 := ⟨RX7, TX7, 32, rfl, by decide, u_1031, uws_7⟩
theorem u_1032 : Cond.fieldLink RX7 16 (TX7 3).1 (TX7 3).2.1 (TX7 3).2.2.1 ∈ lw_use := use_of (k := 1032) (by decide +kernel) rfl
theorem fw_RX7_16 : xFW RX7 16 7 3 := ⟨RX7, TX7, 32, rfl, by decide, u_1032, uws_7⟩
theorem u_1033 : Cond.fieldLink RX7 20 (TX7 4).1 (TX7 4).2.1 (TX7 4).2.2.1 ∈ lw_use := use_of (k := 1033) (by decide +kernel) rfl
theorem fw_RX7_20 : xFW RX7 20 7 4 := ⟨RX7, TX7, 32, rfl, by decide, u_1033, uws_7⟩
theorem fp_RX7_79 : xFI RX7 79 7 0 := ⟨RX7, TX7, 32, tyX7, rfl, by decide, u_1029, uws_7, tyX7_ok, nmX7, rfl, by decide +kernel⟩
theorem u_1030 : Cond.fieldLink RX7 7 (TX7 1).1 (TX7 1).2.1 (TX7 1).2.2.1 ∈ lw_use := use_of (k := 1030) (by decide +kernel) rfl
theorem fw_RX7_7 : xFW RX7 7 7 1 := ⟨RX7, TX7, 32, rfl, by decide, u_1030, uws_7⟩
theorem u_1141 : Cond.methodLink RX7 90 yX7_isWord ∈ lw_use := use_of (k := 1141) (by decide +kernel) rfl
theorem u_1143 : Cond.code yX7_isWord cX7_isWord 1 (some .boolean) ∈ lw_use := use_of (k := 1143) (by decide +kernel) rfl
theorem u_1142 : Cond.static yX7_isWord ∈ lw_use := use_of (k := 1142) (by decide +kernel) rfl
theorem pw_RX7_90 : xCS RX7 90 M_X7_isWord 1 := ⟨⟨u_1141, u_85, u_1143, ⟨by decide +kernel, by decide +kernel, by decide +kernel⟩, by decide⟩, u_1142⟩
abbrev M_X7_begins : xM := (yX7_begins, cX7_begins, 4, (some .int))
theorem u_1148 : Cond.methodLink RX7 93 yX7_isCount ∈ lw_use := use_of (k := 1148) (by decide +kernel) rfl
theorem u_1151 : Cond.code yX7_isCount cX7_isCount 2 (some .boolean) ∈ lw_use := use_of (k := 1151) (by decide +kernel) rfl
theorem u_1150 : Cond.instanceMethod yX7_isCount ∈ lw_use := use_of (k := 1150) (by decide +kernel) rfl
theorem u_37 : Cond.selects RX7 yX7_isCount yX7_isCount ∈ lw_use := use_of (k := 37) (by decide +kernel) rfl
theorem pw_RX7_93 : xCV RX7 93 M_X7_isCount 1 := ⟨⟨u_1148, u_85, u_1151, ⟨by decide +kernel, by decide +kernel, by decide +kernel⟩, by decide⟩, u_1150, u_37⟩
abbrev M_X7_totalOf : xM := (yX7_totalOf, cX7_totalOf, 2, (some .int))
abbrev M_X7_aboutOf : xM := (yX7_aboutOf, cX7_aboutOf, 3, (some .int))
theorem u_1160 : Cond.methodLink RX7 96 yX7_totalOf ∈ lw_use := use_of (k := 1160) (by decide +kernel) rfl
theorem u_1163 : Cond.code yX7_totalOf cX7_totalOf 2 (some .int) ∈ lw_use := use_of (k := 1163) (by decide +kernel) rfl
theorem u_1162 : Cond.instanceMethod yX7_totalOf ∈ lw_use := use_of (k := 1162) (by decide +kernel) rfl
theorem u_39 : Cond.selects RX7 yX7_totalOf yX7_totalOf ∈ lw_use := use_of (k := 39) (by decide +kernel) rfl
theorem pw_RX7_96 : xCV RX7 96 M_X7_totalOf 1 := ⟨⟨u_1160, u_85, u_1163, ⟨by decide +kernel, by decide +kernel, by decide +kernel⟩, by decide⟩, u_1162, u_39⟩
abbrev M_X7_about : xM := (yX7_about, cX7_about, 3, (some .int))
theorem u_1156 : Cond.methodLink RX7 99 yX7_aboutOf ∈ lw_use := use_of (k := 1156) (by decide +kernel) rfl
theorem u_1159 : Cond.code yX7_aboutOf cX7_aboutOf 3 (some .int) ∈ lw_use := use_of (k := 1159) (by decide +kernel) rfl
theorem u_1158 : Cond.instanceMethod yX7_aboutOf ∈ lw_use := use_of (k := 1158) (by decide +kernel) rfl
theorem u_38 : Cond.selects RX7 yX7_aboutOf yX7_aboutOf ∈ lw_use := use_of (k := 38) (by decide +kernel) rfl
theorem pw_RX7_99 : xCV RX7 99 M_X7_aboutOf 2 := ⟨⟨u_1156, u_85, u_1159, ⟨by decide +kernel, by decide +kernel, by decide +kernel⟩, by decide⟩, u_1158, u_38⟩
abbrev M_X7_sideOf : xM := (yX7_sideOf, cX7_sideOf, 3, (some .int))
abbrev M_X7_wordOf : xM := (yX7_wordOf, cX7_wordOf, 4, (some .int))
theorem u_1172 : Cond.methodLink RX7 103 yX7_sideOf ∈ lw_use := use_of (k := 1172) (by decide +kernel) rfl
theorem u_1175 : Cond.code yX7_sideOf cX7_sideOf 3 (some .int) ∈ lw_use := use_of (k := 1175) (by decide +kernel) rfl
theorem u_1174 : Cond.instanceMethod yX7_sideOf ∈ lw_use := use_of (k := 1174) (by decide +kernel) rfl
theorem u_41 : Cond.selects RX7 yX7_sideOf yX7_sideOf ∈ lw_use := use_of (k := 41) (by decide +kernel) rfl
theorem pw_RX7_103 : xCV RX7 103 M_X7_sideOf 2 := ⟨⟨u_1172, u_85, u_1175, ⟨by decide +kernel, by decide +kernel, by decide +kernel⟩, by decide⟩, u_1174, u_41⟩
abbrev M_X7_handOf : xM := (yX7_handOf, cX7_handOf, 4, (some .int))
abbrev M_X7_place : xM := (yX7_place, cX7_place, 4, (some .int))
theorem u_1176 : Cond.methodLink RX7 109 yX7_handOf ∈ lw_use := use_of (k := 1176) (by decide +kernel) rfl
theorem u_1179 : Cond.code yX7_handOf cX7_handOf 4 (some .int) ∈ lw_use := use_of (k := 1179) (by decide +kernel) rfl
theorem u_1178 : Cond.instanceMethod yX7_handOf ∈ lw_use := use_of (k := 1178) (by decide +kernel) rfl
theorem u_42 : Cond.selects RX7 yX7_handOf yX7_handOf ∈ lw_use := use_of (k := 42) (by decide +kernel) rfl
theorem pw_RX7_109 : xCV RX7 109 M_X7_handOf 2 := ⟨⟨u_1176, u_85, u_1179, ⟨by decide +kernel, by decide +kernel, by decide +kernel⟩, by decide⟩, u_1178, u_42⟩
theorem u_1168 : Cond.methodLink RX7 106 yX7_wordOf ∈ lw_use := use_of (k := 1168) (by decide +kernel) rfl
theorem u_1171 : Cond.code yX7_wordOf cX7_wordOf 4 (some .int) ∈ lw_use := use_of (k := 1171) (by decide +kernel) rfl
theorem u_1170 : Cond.instanceMethod yX7_wordOf ∈ lw_use := use_of (k := 1170) (by decide +kernel) rfl
theorem u_40 : Cond.selects RX7 yX7_wordOf yX7_wordOf ∈ lw_use := use_of (k := 40) (by decide +kernel) rfl
theorem pw_RX7_106 : xCV RX7 106 M_X7_wordOf 2 := ⟨⟨u_1168, u_85, u_1171, ⟨by decide +kernel, by decide +kernel, by decide +kernel⟩, by decide⟩, u_1170, u_40⟩
abbrev M_X7_menOf : xM := (yX7_menOf, cX7_menOf, 3, (some .int))
abbrev M_X7_placeOf : xM := (yX7_placeOf, cX7_placeOf, 3, (some .int))
theorem u_1188 : Cond.methodLink RX7 112 yX7_menOf ∈ lw_use := use_of (k := 1188) (by decide +kernel) rfl
theorem u_1191 : Cond.code yX7_menOf cX7_menOf 3 (some .int) ∈ lw_use := use_of (k := 1191) (by decide +kernel) rfl
theorem u_1190 : Cond.instanceMethod yX7_menOf ∈ lw_use := use_of (k := 1190) (by decide +kernel) rfl
theorem u_44 : Cond.selects RX7 yX7_menOf yX7_menOf ∈ lw_use := use_of (k := 44) (by decide +kernel) rfl
theorem pw_RX7_112 : xCV RX7 112 M_X7_menOf 2 := ⟨⟨u_1188, u_85, u_1191, ⟨by decide +kernel, by decide +kernel, by decide +kernel⟩, by decide⟩, u_1190, u_44⟩
abbrev M_X7_number : xM := (yX7_number, cX7_number, 5, (some .int))
theorem u_1184 : Cond.methodLink RX7 115 yX7_placeOf ∈ lw_use := use_of (k := 1184) (by decide +kernel) rfl
theorem u_1187 : Cond.code yX7_placeOf cX7_placeOf 3 (some .int) ∈ lw_use := use_of (k := 1187) (by decide +kernel) rfl
theorem u_1186 : Cond.instanceMethod yX7_placeOf ∈ lw_use := use_of (k := 1186) (by decide +kernel) rfl
theorem u_43 : Cond.selects RX7 yX7_placeOf yX7_placeOf ∈ lw_use := use_of (k := 43) (by decide +kernel) rfl
theorem pw_RX7_115 : xCV RX7 115 M_X7_placeOf 2 := ⟨⟨u_1184, u_85, u_1187, ⟨by decide +kernel, by decide +kernel, by decide +kernel⟩, by decide⟩, u_1186, u_43⟩
abbrev M_X7_value : xM := (yX7_value, cX7_value, 4, (some .int))
abbrev M_X7_mayMean : xM := (yX7_mayMean, cX7_mayMean, 7, (some .boolean))
abbrev M_X7_isPoint : xM := (yX7_isPoint, cX7_isPoint, 5, (some .boolean))
abbrev M_X7_meanings : xM := (yX7_meanings, cX7_meanings, 8, (some .int))
theorem u_1200 : Cond.methodLink RX7 118 yX7_isPoint ∈ lw_use := use_of (k := 1200) (by decide +kernel) rfl
theorem u_1203 : Cond.code yX7_isPoint cX7_isPoint 5 (some .boolean) ∈ lw_use := use_of (k := 1203) (by decide +kernel) rfl
theorem u_1202 : Cond.instanceMethod yX7_isPoint ∈ lw_use := use_of (k := 1202) (by decide +kernel) rfl
theorem u_45 : Cond.selects RX7 yX7_isPoint yX7_isPoint ∈ lw_use := use_of (k := 45) (by decide +kernel) rfl
theorem pw_RX7_118 : xCV RX7 118 M_X7_isPoint 4 := ⟨⟨u_1200, u_85, u_1203, ⟨by decide +kernel, by decide +kernel, by decide +kernel⟩, by decide⟩, u_1202, u_45⟩
theorem u_1204 : Cond.methodLink RX7 122 yX7_mayMean ∈ lw_use := use_of (k := 1204) (by decide +kernel) rfl
theorem u_1207 : Cond.code yX7_mayMean cX7_mayMean 7 (some .boolean) ∈ lw_use := use_of (k := 1207) (by decide +kernel) rfl
theorem u_1206 : Cond.instanceMethod yX7_mayMean ∈ lw_use := use_of (k := 1206) (by decide +kernel) rfl
theorem u_46 : Cond.selects RX7 yX7_mayMean yX7_mayMean ∈ lw_use := use_of (k := 46) (by decide +kernel) rfl
theorem pw_RX7_122 : xCV RX7 122 M_X7_mayMean 5 := ⟨⟨u_1204, u_85, u_1207, ⟨by decide +kernel, by decide +kernel, by decide +kernel⟩, by decide⟩, u_1206, u_46⟩
abbrev M_X7_meaning : xM := (yX7_meaning, cX7_meaning, 8, (some .int))
abbrev M_X7_mat : xM := (yX7_mat, cX7_mat, 3, (some .int))
theorem u_1034 : Cond.fieldLink RX7 23 (TX7 5).1 (TX7 5).2.1 (TX7 5).2.2.1 ∈ lw_use := use_of (k := 1034) (by decide +kernel) rfl
theorem fw_RX7_23 : xFW RX7 23 7 5 := ⟨RX7, TX7, 32, rfl, by decide, u_1034, uws_7⟩
theorem fp_RX7_23 : xFI RX7 23 7 5 := ⟨RX7, TX7, 32, tyX7, rfl, by decide, u_1034, uws_7, tyX7_ok, nmX7, rfl, by decide +kernel⟩
abbrev M_X7_clueMore : xM := (yX7_clueMore, cX7_clueMore, 8, (some .int))
theorem u_1035 : Cond.fieldLink RX7 126 (TX7 6).1 (TX7 6).2.1 (TX7 6).2.2.1 ∈ lw_use := use_of (k := 1035) (by decide +kernel) rfl
theorem fw_RX7_126 : xFW RX7 126 7 6 := ⟨RX7, TX7, 32, rfl, by decide, u_1035, uws_7⟩
theorem u_1036 : Cond.fieldLink RX7 27 (TX7 7).1 (TX7 7).2.1 (TX7 7).2.2.1 ∈ lw_use := use_of (k := 1036) (by decide +kernel) rfl
theorem fw_RX7_27 : xFW RX7 27 7 7 := ⟨RX7, TX7, 32, rfl, by decide, u_1036, uws_7⟩
theorem fp_RX7_126 : xFI RX7 126 7 6 := ⟨RX7, TX7, 32, tyX7, rfl, by decide, u_1035, uws_7, tyX7_ok, nmX7, rfl, by decide +kernel⟩
abbrev M_X7_isUnknown : xM := (yX7_isUnknown, cX7_isUnknown, 1, (some .boolean))
abbrev M_X7_clue : xM := (yX7_clue, cX7_clue, 6, (some .int))
theorem u_1220 : Cond.methodLink RX7 129 yX7_isUnknown ∈ lw_use := use_of (k := 1220) (by decide +kernel) rfl
theorem u_1222 : Cond.code yX7_isUnknown cX7_isUnknown 1 (some .boolean) ∈ lw_use := use_of (k := 1222) (by decide +kernel) rfl
theorem u_1221 : Cond.static yX7_isUnknown ∈ lw_use := use_of (k := 1221) (by decide +kernel) rfl
theorem pw_RX7_129 : xCS RX7 129 M_X7_isUnknown 1 := ⟨⟨u_1220, u_85, u_1222, ⟨by decide +kernel, by decide +kernel, by decide +kernel⟩, by decide⟩, u_1221⟩
theorem u_1223 : Cond.methodLink RX7 132 yX7_clueMore ∈ lw_use := use_of (k := 1223) (by decide +kernel) rfl
theorem u_1226 : Cond.code yX7_clueMore cX7_clueMore 8 (some .int) ∈ lw_use := use_of (k := 1226) (by decide +kernel) rfl
theorem u_1225 : Cond.instanceMethod yX7_clueMore ∈ lw_use := use_of (k := 1225) (by decide +kernel) rfl
theorem u_47 : Cond.selects RX7 yX7_clueMore yX7_clueMore ∈ lw_use := use_of (k := 47) (by decide +kernel) rfl
theorem pw_RX7_132 : xCV RX7 132 M_X7_clueMore 6 := ⟨⟨u_1223, u_85, u_1226, ⟨by decide +kernel, by decide +kernel, by decide +kernel⟩, by decide⟩, u_1225, u_47⟩
abbrev M_X7_sum : xM := (yX7_sum, cX7_sum, 4, (some .int))
abbrev M_X7_less : xM := (yX7_less, cX7_less, 3, (some .int))
abbrev M_X7_mats : xM := (yX7_mats, cX7_mats, 4, (some .int))
abbrev M_X7_forget : xM := (yX7_forget, cX7_forget, 2, (some .int))
abbrev M_X7_holds : xM := (yX7_holds, cX7_holds, 4, (some .boolean))
theorem u_1037 : Cond.fieldLink RX7 30 (TX7 8).1 (TX7 8).2.1 (TX7 8).2.2.1 ∈ lw_use := use_of (k := 1037) (by decide +kernel) rfl
theorem fw_RX7_30 : xFW RX7 30 7 8 := ⟨RX7, TX7, 32, rfl, by decide, u_1037, uws_7⟩
abbrev M_X7_holding : xM := (yX7_holding, cX7_holding, 3, (some .int))
theorem u_1259 : Cond.methodLink RX7 136 yX7_holds ∈ lw_use := use_of (k := 1259) (by decide +kernel) rfl
theorem u_1262 : Cond.code yX7_holds cX7_holds 4 (some .boolean) ∈ lw_use := use_of (k := 1262) (by decide +kernel) rfl
theorem u_1261 : Cond.instanceMethod yX7_holds ∈ lw_use := use_of (k := 1261) (by decide +kernel) rfl
theorem u_51 : Cond.selects RX7 yX7_holds yX7_holds ∈ lw_use := use_of (k := 51) (by decide +kernel) rfl
theorem pw_RX7_136 : xCV RX7 136 M_X7_holds 1 := ⟨⟨u_1259, u_85, u_1262, ⟨by decide +kernel, by decide +kernel, by decide +kernel⟩, by decide⟩, u_1261, u_51⟩
abbrev M_X7_tryOut : xM := (yX7_tryOut, cX7_tryOut, 2, none)
abbrev M_X7_solutionsNow : xM := (yX7_solutionsNow, cX7_solutionsNow, 3, (some .int))
theorem u_1251 : Cond.methodLink RX7 139 yX7_tryOut ∈ lw_use := use_of (k := 1251) (by decide +kernel) rfl
theorem u_1254 : Cond.code yX7_tryOut cX7_tryOut 2 none ∈ lw_use := use_of (k := 1254) (by decide +kernel) rfl
theorem u_1253 : Cond.instanceMethod yX7_tryOut ∈ lw_use := use_of (k := 1253) (by decide +kernel) rfl
theorem u_49 : Cond.selects RX7 yX7_tryOut yX7_tryOut ∈ lw_use := use_of (k := 49) (by decide +kernel) rfl
theorem pw_RX7_139 : xCV RX7 139 M_X7_tryOut 1 := ⟨⟨u_1251, u_85, u_1254, ⟨by decide +kernel, by decide +kernel, by decide +kernel⟩, by decide⟩, u_1253, u_49⟩
theorem u_1255 : Cond.methodLink RX7 143 yX7_holding ∈ lw_use := use_of (k := 1255) (by decide +kernel) rfl
theorem u_1258 : Cond.code yX7_holding cX7_holding 3 (some .int) ∈ lw_use := use_of (k := 1258) (by decide +kernel) rfl
theorem u_1257 : Cond.instanceMethod yX7_holding ∈ lw_use := use_of (k := 1257) (by decide +kernel) rfl
theorem u_50 : Cond.selects RX7 yX7_holding yX7_holding ∈ lw_use := use_of (k := 50) (by decide +kernel) rfl
theorem pw_RX7_143 : xCV RX7 143 M_X7_holding 0 := ⟨⟨u_1255, u_85, u_1258, ⟨by decide +kernel, by decide +kernel, by decide +kernel⟩, by decide⟩, u_1257, u_50⟩
abbrev M_X7_solutions : xM := (yX7_solutions, cX7_solutions, 1, (some .int))
theorem u_1247 : Cond.methodLink RX7 147 yX7_solutionsNow ∈ lw_use := use_of (k := 1247) (by decide +kernel) rfl
theorem u_1250 : Cond.code yX7_solutionsNow cX7_solutionsNow 3 (some .int) ∈ lw_use := use_of (k := 1250) (by decide +kernel) rfl
theorem u_1249 : Cond.instanceMethod yX7_solutionsNow ∈ lw_use := use_of (k := 1249) (by decide +kernel) rfl
theorem u_48 : Cond.selects RX7 yX7_solutionsNow yX7_solutionsNow ∈ lw_use := use_of (k := 48) (by decide +kernel) rfl
theorem pw_RX7_147 : xCV RX7 147 M_X7_solutionsNow 0 := ⟨⟨u_1247, u_85, u_1250, ⟨by decide +kernel, by decide +kernel, by decide +kernel⟩, by decide⟩, u_1249, u_48⟩
abbrev M_X7_solution : xM := (yX7_solution, cX7_solution, 5, (some .int))
abbrev M_X7_sure : xM := (yX7_sure, cX7_sure, 4, (some .int))
abbrev M_X7_ones : xM := (yX7_ones, cX7_ones, 3, (some .int))
abbrev M_X7_quarrel : xM := (yX7_quarrel, cX7_quarrel, 5, (some .int))
theorem u_1038 : Cond.fieldLink RX7 33 (TX7 9).1 (TX7 9).2.1 (TX7 9).2.2.1 ∈ lw_use := use_of (k := 1038) (by decide +kernel) rfl
theorem fw_RX7_33 : xFW RX7 33 7 9 := ⟨RX7, TX7, 32, rfl, by decide, u_1038, uws_7⟩
theorem u_1275 : Cond.methodLink RX7 150 yX7_ones ∈ lw_use := use_of (k := 1275) (by decide +kernel) rfl
theorem u_1277 : Cond.code yX7_ones cX7_ones 3 (some .int) ∈ lw_use := use_of (k := 1277) (by decide +kernel) rfl
theorem u_1276 : Cond.static yX7_ones ∈ lw_use := use_of (k := 1276) (by decide +kernel) rfl
theorem pw_RX7_150 : xCS RX7 150 M_X7_ones 1 := ⟨⟨u_1275, u_85, u_1277, ⟨by decide +kernel, by decide +kernel, by decide +kernel⟩, by decide⟩, u_1276⟩
abbrev M_X7_heardAs : xM := (yX7_heardAs, cX7_heardAs, 6, (some .int))
abbrev M_X7_heard : xM := (yX7_heard, cX7_heard, 4, (some .int))
theorem u_1282 : Cond.methodLink RX7 153 yX7_heardAs ∈ lw_use := use_of (k := 1282) (by decide +kernel) rfl
theorem u_1285 : Cond.code yX7_heardAs cX7_heardAs 6 (some .int) ∈ lw_use := use_of (k := 1285) (by decide +kernel) rfl
theorem u_1284 : Cond.instanceMethod yX7_heardAs ∈ lw_use := use_of (k := 1284) (by decide +kernel) rfl
theorem u_52 : Cond.selects RX7 yX7_heardAs yX7_heardAs ∈ lw_use := use_of (k := 52) (by decide +kernel) rfl
theorem pw_RX7_153 : xCV RX7 153 M_X7_heardAs 3 := ⟨⟨u_1282, u_85, u_1285, ⟨by decide +kernel, by decide +kernel, by decide +kernel⟩, by decide⟩, u_1284, u_52⟩
abbrev M_X7_clear : xM := (yX7_clear, cX7_clear, 6, (some .int))
abbrev M_X7_trap : xM := (yX7_trap, cX7_trap, 5, (some .int))
abbrev M_X7_isPerson : xM := (yX7_isPerson, cX7_isPerson, 2, (some .boolean))
theorem u_1039 : Cond.fieldLink RX7 157 (TX7 10).1 (TX7 10).2.1 (TX7 10).2.2.1 ∈ lw_use := use_of (k := 1039) (by decide +kernel) rfl
theorem fw_RX7_157 : xFW RX7 157 7 10 := ⟨RX7, TX7, 32, rfl, by decide, u_1039, uws_7⟩
abbrev M_X7_person : xM := (yX7_person, cX7_person, 2, (some .int))
theorem u_1040 : Cond.fieldLink RX7 36 (TX7 11).1 (TX7 11).2.1 (TX7 11).2.2.1 ∈ lw_use := use_of (k := 1040) (by decide +kernel) rfl
theorem fw_RX7_36 : xFW RX7 36 7 11 := ⟨RX7, TX7, 32, rfl, by decide, u_1040, uws_7⟩
theorem fp_RX7_157 : xFI RX7 157 7 10 := ⟨RX7, TX7, 32, tyX7, rfl, by decide, u_1039, uws_7, tyX7_ok, nmX7, rfl, by decide +kernel⟩
abbrev M_X7_owedBy : xM := (yX7_owedBy, cX7_owedBy, 3, (some .int))
theorem u_1041 : Cond.fieldLink RX7 39 (TX7 12).1 (TX7 12).2.1 (TX7 12).2.2.1 ∈ lw_use := use_of (k := 1041) (by decide +kernel) rfl
theorem fw_RX7_39 : xFW RX7 39 7 12 := ⟨RX7, TX7, 32, rfl, by decide, u_1041, uws_7⟩
abbrev M_X7_owe : xM := (yX7_owe, cX7_owe, 4, none)
abbrev M_X7_gift : xM := (yX7_gift, cX7_gift, 4, (some .int))
theorem u_1302 : Cond.methodLink RX7 160 yX7_isPerson ∈ lw_use := use_of (k := 1302) (by decide +kernel) rfl
theorem u_1305 : Cond.code yX7_isPerson cX7_isPerson 2 (some .boolean) ∈ lw_use := use_of (k := 1305) (by decide +kernel) rfl
theorem u_1304 : Cond.instanceMethod yX7_isPerson ∈ lw_use := use_of (k := 1304) (by decide +kernel) rfl
theorem u_53 : Cond.selects RX7 yX7_isPerson yX7_isPerson ∈ lw_use := use_of (k := 53) (by decide +kernel) rfl
theorem pw_RX7_160 : xCV RX7 160 M_X7_isPerson 1 := ⟨⟨u_1302, u_85, u_1305, ⟨by decide +kernel, by decide +kernel, by decide +kernel⟩, by decide⟩, u_1304, u_53⟩
theorem u_1306 : Cond.methodLink RX7 163 yX7_owe ∈ lw_use := use_of (k := 1306) (by decide +kernel) rfl
theorem u_1309 : Cond.code yX7_owe cX7_owe 4 none ∈ lw_use := use_of (k := 1309) (by decide +kernel) rfl
theorem u_1308 : Cond.instanceMethod yX7_owe ∈ lw_use := use_of (k := 1308) (by decide +kernel) rfl
theorem u_54 : Cond.selects RX7 yX7_owe yX7_owe ∈ lw_use := use_of (k := 54) (by decide +kernel) rfl
theorem pw_RX7_163 : xCV RX7 163 M_X7_owe 3 := ⟨⟨u_1306, u_85, u_1309, ⟨by decide +kernel, by decide +kernel, by decide +kernel⟩, by decide⟩, u_1308, u_54⟩
theorem u_1310 : Cond.methodLink RX7 167 yX7_owedBy ∈ lw_use := use_of (k := 1310) (by decide +kernel) rfl
theorem u_1313 : Cond.code yX7_owedBy cX7_owedBy 3 (some .int) ∈ lw_use := use_of (k := 1313) (by decide +kernel) rfl
theorem u_1312 : Cond.instanceMethod yX7_owedBy ∈ lw_use := use_of (k := 1312) (by decide +kernel) rfl
theorem u_55 : Cond.selects RX7 yX7_owedBy yX7_owedBy ∈ lw_use := use_of (k := 55) (by decide +kernel) rfl
theorem pw_RX7_167 : xCV RX7 167 M_X7_owedBy 2 := ⟨⟨u_1310, u_85, u_1313, ⟨by decide +kernel, by decide +kernel, by decide +kernel⟩, by decide⟩, u_1312, u_55⟩
abbrev M_X7_owed : xM := (yX7_owed, cX7_owed, 3, (some .int))
abbrev M_X7_told : xM := (yX7_told, cX7_told, 4, (some .int))
abbrev M_X7_finds : xM := (yX7_finds, cX7_finds, 2, (some .int))
theorem u_1330 : Cond.methodLink RX7 170 yX7_goesRound ∈ lw_use := use_of (k := 1330) (by decide +kernel) rfl
abbrev M_X7_goesRound : xM := (yX7_goesRound, cX7_goesRound, 3, (some .boolean))
theorem u_1333 : Cond.code yX7_goesRound cX7_goesRound 3 (some .boolean) ∈ lw_use := use_of (k := 1333) (by decide +kernel) rfl
theorem u_1332 : Cond.instanceMethod yX7_goesRound ∈ lw_use := use_of (k := 1332) (by decide +kernel) rfl
theorem u_57 : Cond.selects RX7 yX7_goesRound yX7_goesRound ∈ lw_use := use_of (k := 57) (by decide +kernel) rfl
theorem pw_RX7_170 : xCV RX7 170 M_X7_goesRound 1 := ⟨⟨u_1330, u_85, u_1333, ⟨by decide +kernel, by decide +kernel, by decide +kernel⟩, by decide⟩, u_1332, u_57⟩
theorem u_1042 : Cond.fieldLink RX7 42 (TX7 13).1 (TX7 13).2.1 (TX7 13).2.2.1 ∈ lw_use := use_of (k := 1042) (by decide +kernel) rfl
theorem fw_RX7_42 : xFW RX7 42 7 13 := ⟨RX7, TX7, 32, rfl, by decide, u_1042, uws_7⟩
theorem u_1334 : Cond.methodLink RX7 173 yX7_mayStand ∈ lw_use := use_of (k := 1334) (by decide +kernel) rfl
abbrev M_X7_mayStand : xM := (yX7_mayStand, cX7_mayStand, 3, (some .boolean))
theorem u_1337 : Cond.code yX7_mayStand cX7_mayStand 3 (some .boolean) ∈ lw_use := use_of (k := 1337) (by decide +kernel) rfl
theorem u_1336 : Cond.instanceMethod yX7_mayStand ∈ lw_use := use_of (k := 1336) (by decide +kernel) rfl
theorem u_58 : Cond.selects RX7 yX7_mayStand yX7_mayStand ∈ lw_use := use_of (k := 58) (by decide +kernel) rfl
theorem pw_RX7_173 : xCV RX7 173 M_X7_mayStand 1 := ⟨⟨u_1334, u_85, u_1337, ⟨by decide +kernel, by decide +kernel, by decide +kernel⟩, by decide⟩, u_1336, u_58⟩
abbrev M_X7_close : xM := (yX7_close, cX7_close, 6, (some .int))
theorem u_1326 : Cond.methodLink RX7 176 yX7_finds ∈ lw_use := use_of (k := 1326) (by decide +kernel) rfl
theorem u_1329 : Cond.code yX7_finds cX7_finds 2 (some .int) ∈ lw_use := use_of (k := 1329) (by decide +kernel) rfl
theorem u_1328 : Cond.instanceMethod yX7_finds ∈ lw_use := use_of (k := 1328) (by decide +kernel) rfl
theorem u_56 : Cond.selects RX7 yX7_finds yX7_finds ∈ lw_use := use_of (k := 56) (by decide +kernel) rfl
theorem pw_RX7_176 : xCV RX7 176 M_X7_finds 0 := ⟨⟨u_1326, u_85, u_1329, ⟨by decide +kernel, by decide +kernel, by decide +kernel⟩, by decide⟩, u_1328, u_56⟩
abbrev M_X7_worth : xM := (yX7_worth, cX7_worth, 4, (some .int))
theorem u_1342 : Cond.constant RX7 179 (-100000) ∈ lw_use := use_of (k := 1342) (by decide +kernel) rfl
abbrev M_X7_isList : xM := (yX7_isList, cX7_isList, 2, (some .boolean))
theorem u_1043 : Cond.fieldLink RX7 180 (TX7 14).1 (TX7 14).2.1 (TX7 14).2.2.1 ∈ lw_use := use_of (k := 1043) (by decide +kernel) rfl
theorem fw_RX7_180 : xFW RX7 180 7 14 := ⟨RX7, TX7, 32, rfl, by decide, u_1043, uws_7⟩
abbrev M_X7_list : xM := (yX7_list, cX7_list, 6, (some .int))
theorem u_1044 : Cond.fieldLink RX7 45 (TX7 15).1 (TX7 15).2.1 (TX7 15).2.2.1 ∈ lw_use := use_of (k := 1044) (by decide +kernel) rfl
theorem fw_RX7_45 : xFW RX7 45 7 15 := ⟨RX7, TX7, 32, rfl, by decide, u_1044, uws_7⟩
theorem u_1045 : Cond.fieldLink RX7 48 (TX7 16).1 (TX7 16).2.1 (TX7 16).2.2.1 ∈ lw_use := use_of (k := 1045) (by decide +kernel) rfl
theorem fw_RX7_48 : xFW RX7 48 7 16 := ⟨RX7, TX7, 32, rfl, by decide, u_1045, uws_7⟩
theorem fp_RX7_180 : xFI RX7 180 7 14 := ⟨RX7, TX7, 32, tyX7, rfl, by decide, u_1043, uws_7, tyX7_ok, nmX7, rfl, by decide +kernel⟩
theorem u_1046 : Cond.fieldLink RX7 51 (TX7 17).1 (TX7 17).2.1 (TX7 17).2.2.1 ∈ lw_use := use_of (k := 1046) (by decide +kernel) rfl
theorem fw_RX7_51 : xFW RX7 51 7 17 := ⟨RX7, TX7, 32, rfl, by decide, u_1046, uws_7⟩
abbrev M_X7_word : xM := (yX7_word, cX7_word, 3, (some .int))
theorem u_1351 : Cond.methodLink RX7 183 yX7_isList ∈ lw_use := use_of (k := 1351) (by decide +kernel) rfl
theorem u_1354 : Cond.code yX7_isList cX7_isList 2 (some .boolean) ∈ lw_use := use_of (k := 1354) (by decide +kernel) rfl
theorem u_1353 : Cond.instanceMethod yX7_isList ∈ lw_use := use_of (k := 1353) (by decide +kernel) rfl
theorem u_59 : Cond.selects RX7 yX7_isList yX7_isList ∈ lw_use := use_of (k := 59) (by decide +kernel) rfl
theorem pw_RX7_183 : xCV RX7 183 M_X7_isList 1 := ⟨⟨u_1351, u_85, u_1354, ⟨by decide +kernel, by decide +kernel, by decide +kernel⟩, by decide⟩, u_1353, u_59⟩
abbrev M_X7_tens : xM := (yX7_tens, cX7_tens, 8, (some .int))
abbrev M_X7_listOf : xM := (yX7_listOf, cX7_listOf, 5, (some .int))
theorem u_1363 : Cond.methodLink RX7 186 yX7_tens ∈ lw_use := use_of (k := 1363) (by decide +kernel) rfl
theorem u_1366 : Cond.code yX7_tens cX7_tens 8 (some .int) ∈ lw_use := use_of (k := 1366) (by decide +kernel) rfl
theorem u_1365 : Cond.instanceMethod yX7_tens ∈ lw_use := use_of (k := 1365) (by decide +kernel) rfl
theorem u_61 : Cond.selects RX7 yX7_tens yX7_tens ∈ lw_use := use_of (k := 61) (by decide +kernel) rfl
theorem pw_RX7_186 : xCV RX7 186 M_X7_tens 2 := ⟨⟨u_1363, u_85, u_1366, ⟨by decide +kernel, by decide +kernel, by decide +kernel⟩, by decide⟩, u_1365, u_61⟩
abbrev M_X7_listIs : xM := (yX7_listIs, cX7_listIs, 3, (some .int))
theorem u_1359 : Cond.methodLink RX7 189 yX7_listOf ∈ lw_use := use_of (k := 1359) (by decide +kernel) rfl
theorem u_1362 : Cond.code yX7_listOf cX7_listOf 5 (some .int) ∈ lw_use := use_of (k := 1362) (by decide +kernel) rfl
theorem u_1361 : Cond.instanceMethod yX7_listOf ∈ lw_use := use_of (k := 1361) (by decide +kernel) rfl
theorem u_60 : Cond.selects RX7 yX7_listOf yX7_listOf ∈ lw_use := use_of (k := 60) (by decide +kernel) rfl
theorem pw_RX7_189 : xCV RX7 189 M_X7_listOf 2 := ⟨⟨u_1359, u_85, u_1362, ⟨by decide +kernel, by decide +kernel, by decide +kernel⟩, by decide⟩, u_1361, u_60⟩
abbrev M_X7_changesOf : xM := (yX7_changesOf, cX7_changesOf, 9, (some .int))
theorem u_1047 : Cond.fieldLink RX7 54 (TX7 18).1 (TX7 18).2.1 (TX7 18).2.2.1 ∈ lw_use := use_of (k := 1047) (by decide +kernel) rfl
theorem fw_RX7_54 : xFW RX7 54 7 18 := ⟨RX7, TX7, 32, rfl, by decide, u_1047, uws_7⟩
abbrev M_X7_changes : xM := (yX7_changes, cX7_changes, 3, (some .int))
theorem u_1371 : Cond.methodLink RX7 192 yX7_changesOf ∈ lw_use := use_of (k := 1371) (by decide +kernel) rfl
theorem u_1374 : Cond.code yX7_changesOf cX7_changesOf 9 (some .int) ∈ lw_use := use_of (k := 1374) (by decide +kernel) rfl
theorem u_1373 : Cond.instanceMethod yX7_changesOf ∈ lw_use := use_of (k := 1373) (by decide +kernel) rfl
theorem u_62 : Cond.selects RX7 yX7_changesOf yX7_changesOf ∈ lw_use := use_of (k := 62) (by decide +kernel) rfl
theorem pw_RX7_192 : xCV RX7 192 M_X7_changesOf 2 := ⟨⟨u_1371, u_85, u_1374, ⟨by decide +kernel, by decide +kernel, by decide +kernel⟩, by decide⟩, u_1373, u_62⟩
abbrev M_X7_motherOf : xM := (yX7_motherOf, cX7_motherOf, 6, (some .int))
abbrev M_X7_mother : xM := (yX7_mother, cX7_mother, 2, (some .int))
theorem u_1379 : Cond.methodLink RX7 195 yX7_motherOf ∈ lw_use := use_of (k := 1379) (by decide +kernel) rfl
theorem u_1382 : Cond.code yX7_motherOf cX7_motherOf 6 (some .int) ∈ lw_use := use_of (k := 1382) (by decide +kernel) rfl
theorem u_1381 : Cond.instanceMethod yX7_motherOf ∈ lw_use := use_of (k := 1381) (by decide +kernel) rfl
theorem u_63 : Cond.selects RX7 yX7_motherOf yX7_motherOf ∈ lw_use := use_of (k := 63) (by decide +kernel) rfl
theorem pw_RX7_195 : xCV RX7 195 M_X7_motherOf 1 := ⟨⟨u_1379, u_85, u_1382, ⟨by decide +kernel, by decide +kernel, by decide +kernel⟩, by decide⟩, u_1381, u_63⟩
abbrev M_X7_strangeTo : xM := (yX7_strangeTo, cX7_strangeTo, 9, (some .int))
abbrev M_X7_mayBear : xM := (yX7_mayBear, cX7_mayBear, 3, (some .boolean))
abbrev M_X7_mothersOf : xM := (yX7_mothersOf, cX7_mothersOf, 6, (some .int))
theorem u_1048 : Cond.fieldLink RX7 198 (TX7 19).1 (TX7 19).2.1 (TX7 19).2.2.1 ∈ lw_use := use_of (k := 1048) (by decide +kernel) rfl
theorem fp_RX7_198 : xFI RX7 198 7 19 := ⟨RX7, TX7, 32, tyX7, rfl, by decide, u_1048, uws_7, tyX7_ok, nmX7, rfl, by decide +kernel⟩
theorem u_1391 : Cond.methodLink RX7 201 yX7_mayBear ∈ lw_use := use_of (k := 1391) (by decide +kernel) rfl
theorem u_1394 : Cond.code yX7_mayBear cX7_mayBear 3 (some .boolean) ∈ lw_use := use_of (k := 1394) (by decide +kernel) rfl
theorem u_1393 : Cond.instanceMethod yX7_mayBear ∈ lw_use := use_of (k := 1393) (by decide +kernel) rfl
theorem u_65 : Cond.selects RX7 yX7_mayBear yX7_mayBear ∈ lw_use := use_of (k := 65) (by decide +kernel) rfl
theorem pw_RX7_201 : xCV RX7 201 M_X7_mayBear 2 := ⟨⟨u_1391, u_85, u_1394, ⟨by decide +kernel, by decide +kernel, by decide +kernel⟩, by decide⟩, u_1393, u_65⟩
theorem u_1395 : Cond.methodLink RX7 205 yX7_strangeTo ∈ lw_use := use_of (k := 1395) (by decide +kernel) rfl
theorem u_1398 : Cond.code yX7_strangeTo cX7_strangeTo 9 (some .int) ∈ lw_use := use_of (k := 1398) (by decide +kernel) rfl
theorem u_1397 : Cond.instanceMethod yX7_strangeTo ∈ lw_use := use_of (k := 1397) (by decide +kernel) rfl
theorem u_66 : Cond.selects RX7 yX7_strangeTo yX7_strangeTo ∈ lw_use := use_of (k := 66) (by decide +kernel) rfl
theorem pw_RX7_205 : xCV RX7 205 M_X7_strangeTo 3 := ⟨⟨u_1395, u_85, u_1398, ⟨by decide +kernel, by decide +kernel, by decide +kernel⟩, by decide⟩, u_1397, u_66⟩
theorem fw_RX7_198 : xFW RX7 198 7 19 := ⟨RX7, TX7, 32, rfl, by decide, u_1048, uws_7⟩
abbrev M_X7_mothers : xM := (yX7_mothers, cX7_mothers, 2, (some .int))
theorem u_1387 : Cond.methodLink RX7 208 yX7_mothersOf ∈ lw_use := use_of (k := 1387) (by decide +kernel) rfl
theorem u_1390 : Cond.code yX7_mothersOf cX7_mothersOf 6 (some .int) ∈ lw_use := use_of (k := 1390) (by decide +kernel) rfl
theorem u_1389 : Cond.instanceMethod yX7_mothersOf ∈ lw_use := use_of (k := 1389) (by decide +kernel) rfl
theorem u_64 : Cond.selects RX7 yX7_mothersOf yX7_mothersOf ∈ lw_use := use_of (k := 64) (by decide +kernel) rfl
theorem pw_RX7_208 : xCV RX7 208 M_X7_mothersOf 1 := ⟨⟨u_1387, u_85, u_1390, ⟨by decide +kernel, by decide +kernel, by decide +kernel⟩, by decide⟩, u_1389, u_64⟩
abbrev M_X7_strange : xM := (yX7_strange, cX7_strange, 3, (some .int))
abbrev M_X7_age : xM := (yX7_age, cX7_age, 4, (some .int))
abbrev M_X7_slips : xM := (yX7_slips, cX7_slips, 9, (some .int))
abbrev M_X7_doesFit : xM := (yX7_doesFit, cX7_doesFit, 8, (some .boolean))
abbrev M_X7_refuses : xM := (yX7_refuses, cX7_refuses, 3, (some .int))
abbrev M_X7_readingOf : xM := (yX7_readingOf, cX7_readingOf, 7, (some .int))
theorem u_1049 : Cond.fieldLink RX7 211 (TX7 20).1 (TX7 20).2.1 (TX7 20).2.2.1 ∈ lw_use := use_of (k := 1049) (by decide +kernel) rfl
theorem fp_RX7_211 : xFI RX7 211 7 20 := ⟨RX7, TX7, 32, tyX7, rfl, by decide, u_1049, uws_7, tyX7_ok, nmX7, rfl, by decide +kernel⟩
theorem u_1423 : Cond.methodLink RX7 214 yX7_doesFit ∈ lw_use := use_of (k := 1423) (by decide +kernel) rfl
theorem u_1426 : Cond.code yX7_doesFit cX7_doesFit 8 (some .boolean) ∈ lw_use := use_of (k := 1426) (by decide +kernel) rfl
theorem u_1425 : Cond.instanceMethod yX7_doesFit ∈ lw_use := use_of (k := 1425) (by decide +kernel) rfl
theorem u_69 : Cond.selects RX7 yX7_doesFit yX7_doesFit ∈ lw_use := use_of (k := 69) (by decide +kernel) rfl
theorem pw_RX7_214 : xCV RX7 214 M_X7_doesFit 5 := ⟨⟨u_1423, u_85, u_1426, ⟨by decide +kernel, by decide +kernel, by decide +kernel⟩, by decide⟩, u_1425, u_69⟩
theorem fw_RX7_211 : xFW RX7 211 7 20 := ⟨RX7, TX7, 32, rfl, by decide, u_1049, uws_7⟩
theorem u_1427 : Cond.constant RX7 217 (100000) ∈ lw_use := use_of (k := 1427) (by decide +kernel) rfl
abbrev M_X7_readings : xM := (yX7_readings, cX7_readings, 5, (some .int))
theorem u_1415 : Cond.methodLink RX7 218 yX7_refuses ∈ lw_use := use_of (k := 1415) (by decide +kernel) rfl
theorem u_1418 : Cond.code yX7_refuses cX7_refuses 3 (some .int) ∈ lw_use := use_of (k := 1418) (by decide +kernel) rfl
theorem u_1417 : Cond.instanceMethod yX7_refuses ∈ lw_use := use_of (k := 1417) (by decide +kernel) rfl
theorem u_67 : Cond.selects RX7 yX7_refuses yX7_refuses ∈ lw_use := use_of (k := 67) (by decide +kernel) rfl
theorem pw_RX7_218 : xCV RX7 218 M_X7_refuses 2 := ⟨⟨u_1415, u_85, u_1418, ⟨by decide +kernel, by decide +kernel, by decide +kernel⟩, by decide⟩, u_1417, u_67⟩
theorem u_1419 : Cond.methodLink RX7 221 yX7_readingOf ∈ lw_use := use_of (k := 1419) (by decide +kernel) rfl
theorem u_1422 : Cond.code yX7_readingOf cX7_readingOf 7 (some .int) ∈ lw_use := use_of (k := 1422) (by decide +kernel) rfl
theorem u_1421 : Cond.instanceMethod yX7_readingOf ∈ lw_use := use_of (k := 1421) (by decide +kernel) rfl
theorem u_68 : Cond.selects RX7 yX7_readingOf yX7_readingOf ∈ lw_use := use_of (k := 68) (by decide +kernel) rfl
theorem pw_RX7_221 : xCV RX7 221 M_X7_readingOf 3 := ⟨⟨u_1419, u_85, u_1422, ⟨by decide +kernel, by decide +kernel, by decide +kernel⟩, by decide⟩, u_1421, u_68⟩
abbrev M_X7_reading : xM := (yX7_reading, cX7_reading, 5, (some .int))
abbrev M_X7_fits : xM := (yX7_fits, cX7_fits, 7, (some .int))
abbrev M_X7_type : xM := (yX7_type, cX7_type, 2, (some .int))
theorem u_1050 : Cond.fieldLink RX7 224 (TX7 21).1 (TX7 21).2.1 (TX7 21).2.2.1 ∈ lw_use := use_of (k := 1050) (by decide +kernel) rfl
theorem fw_RX7_224 : xFW RX7 224 7 21 := ⟨RX7, TX7, 32, rfl, by decide, u_1050, uws_7⟩
theorem u_1051 : Cond.fieldLink RX7 57 (TX7 22).1 (TX7 22).2.1 (TX7 22).2.2.1 ∈ lw_use := use_of (k := 1051) (by decide +kernel) rfl
theorem fw_RX7_57 : xFW RX7 57 7 22 := ⟨RX7, TX7, 32, rfl, by decide, u_1051, uws_7⟩
theorem fp_RX7_224 : xFI RX7 224 7 21 := ⟨RX7, TX7, 32, tyX7, rfl, by decide, u_1050, uws_7, tyX7_ok, nmX7, rfl, by decide +kernel⟩
abbrev M_X7_hush : xM := (yX7_hush, cX7_hush, 2, (some .int))
abbrev M_X7_byteAt : xM := (yX7_byteAt, cX7_byteAt, 2, (some .int))
abbrev M_X7_figures : xM := (yX7_figures, cX7_figures, 3, (some .int))
theorem u_1052 : Cond.fieldLink RX7 227 (TX7 23).1 (TX7 23).2.1 (TX7 23).2.2.1 ∈ lw_use := use_of (k := 1052) (by decide +kernel) rfl
theorem fw_RX7_227 : xFW RX7 227 7 23 := ⟨RX7, TX7, 32, rfl, by decide, u_1052, uws_7⟩
theorem u_1456 : Cond.methodLink RX7 230 yX7_byteAt ∈ lw_use := use_of (k := 1456) (by decide +kernel) rfl
theorem u_1459 : Cond.code yX7_byteAt cX7_byteAt 2 (some .int) ∈ lw_use := use_of (k := 1459) (by decide +kernel) rfl
theorem u_1458 : Cond.instanceMethod yX7_byteAt ∈ lw_use := use_of (k := 1458) (by decide +kernel) rfl
theorem u_72 : Cond.selects RX7 yX7_byteAt yX7_byteAt ∈ lw_use := use_of (k := 72) (by decide +kernel) rfl
theorem pw_RX7_230 : xCV RX7 230 M_X7_byteAt 1 := ⟨⟨u_1456, u_85, u_1459, ⟨by decide +kernel, by decide +kernel, by decide +kernel⟩, by decide⟩, u_1458, u_72⟩
theorem fp_RX7_227 : xFI RX7 227 7 23 := ⟨RX7, TX7, 32, tyX7, rfl, by decide, u_1052, uws_7, tyX7_ok, nmX7, rfl, by decide +kernel⟩
abbrev M_X7_says : xM := (yX7_says, cX7_says, 2, (some .int))
theorem u_1053 : Cond.fieldLink RX7 233 (TX7 24).1 (TX7 24).2.1 (TX7 24).2.2.1 ∈ lw_use := use_of (k := 1053) (by decide +kernel) rfl
theorem fp_RX7_233 : xFI RX7 233 7 24 := ⟨RX7, TX7, 32, tyX7, rfl, by decide, u_1053, uws_7, tyX7_ok, nmX7, rfl, by decide +kernel⟩
theorem u_1460 : Cond.methodLink RX7 236 yX7_figures ∈ lw_use := use_of (k := 1460) (by decide +kernel) rfl
theorem u_1463 : Cond.code yX7_figures cX7_figures 3 (some .int) ∈ lw_use := use_of (k := 1463) (by decide +kernel) rfl
theorem u_1462 : Cond.instanceMethod yX7_figures ∈ lw_use := use_of (k := 1462) (by decide +kernel) rfl
theorem u_73 : Cond.selects RX7 yX7_figures yX7_figures ∈ lw_use := use_of (k := 73) (by decide +kernel) rfl
theorem pw_RX7_236 : xCV RX7 236 M_X7_figures 0 := ⟨⟨u_1460, u_85, u_1463, ⟨by decide +kernel, by decide +kernel, by decide +kernel⟩, by decide⟩, u_1462, u_73⟩
theorem u_1054 : Cond.fieldLink RX7 239 (TX7 25).1 (TX7 25).2.1 (TX7 25).2.2.1 ∈ lw_use := use_of (k := 1054) (by decide +kernel) rfl
theorem fp_RX7_239 : xFI RX7 239 7 25 := ⟨RX7, TX7, 32, tyX7, rfl, by decide, u_1054, uws_7, tyX7_ok, nmX7, rfl, by decide +kernel⟩
theorem fw_RX7_239 : xFW RX7 239 7 25 := ⟨RX7, TX7, 32, rfl, by decide, u_1054, uws_7⟩
theorem fw_RX7_233 : xFW RX7 233 7 24 := ⟨RX7, TX7, 32, rfl, by decide, u_1053, uws_7⟩
abbrev M_X7_faultNow : xM := (yX7_faultNow, cX7_faultNow, 2, (some .int))
theorem u_1452 : Cond.methodLink RX7 242 yX7_says ∈ lw_use := use_of (k := 1452) (by decide +kernel) rfl
theorem u_1455 : Cond.code yX7_says cX7_says 2 (some .int) ∈ lw_use := use_of (k := 1455) (by decide +kernel) rfl
theorem u_1454 : Cond.instanceMethod yX7_says ∈ lw_use := use_of (k := 1454) (by decide +kernel) rfl
theorem u_71 : Cond.selects RX7 yX7_says yX7_says ∈ lw_use := use_of (k := 71) (by decide +kernel) rfl
theorem pw_RX7_242 : xCV RX7 242 M_X7_says 0 := ⟨⟨u_1452, u_85, u_1455, ⟨by decide +kernel, by decide +kernel, by decide +kernel⟩, by decide⟩, u_1454, u_71⟩
abbrev M_X7_fault : xM := (yX7_fault, cX7_fault, 1, (some .int))
theorem u_1448 : Cond.methodLink RX7 245 yX7_faultNow ∈ lw_use := use_of (k := 1448) (by decide +kernel) rfl
theorem u_1451 : Cond.code yX7_faultNow cX7_faultNow 2 (some .int) ∈ lw_use := use_of (k := 1451) (by decide +kernel) rfl
theorem u_1450 : Cond.instanceMethod yX7_faultNow ∈ lw_use := use_of (k := 1450) (by decide +kernel) rfl
theorem u_70 : Cond.selects RX7 yX7_faultNow yX7_faultNow ∈ lw_use := use_of (k := 70) (by decide +kernel) rfl
theorem pw_RX7_245 : xCV RX7 245 M_X7_faultNow 0 := ⟨⟨u_1448, u_85, u_1451, ⟨by decide +kernel, by decide +kernel, by decide +kernel⟩, by decide⟩, u_1450, u_70⟩
abbrev M_X7_speech : xM := (yX7_speech, cX7_speech, 5, (some .int))
theorem u_1468 : Cond.constant RX7 248 (-100001) ∈ lw_use := use_of (k := 1468) (by decide +kernel) rfl
theorem u_1060 : Cond.fieldLink RX7 249 (TX7 31).1 (TX7 31).2.1 (TX7 31).2.2.1 ∈ lw_use := use_of (k := 1060) (by decide +kernel) rfl
theorem fp_RX7_249 : xFI RX7 249 7 31 := ⟨RX7, TX7, 32, tyX7, rfl, by decide, u_1060, uws_7, tyX7_ok, nmX7, rfl, by decide +kernel⟩
abbrev M_X7_sheet : xM := (yX7_sheet, cX7_sheet, 5, (some .int))
theorem u_1056 : Cond.fieldLink RX7 63 (TX7 27).1 (TX7 27).2.1 (TX7 27).2.2.1 ∈ lw_use := use_of (k := 1056) (by decide +kernel) rfl
theorem fw_RX7_63 : xFW RX7 63 7 27 := ⟨RX7, TX7, 32, rfl, by decide, u_1056, uws_7⟩
abbrev M_X7_lose : xM := (yX7_lose, cX7_lose, 2, (some .int))
abbrev M_X7_lacks : xM := (yX7_lacks, cX7_lacks, 4, (some .int))
abbrev M_X7_lay : xM := (yX7_lay, cX7_lay, 4, none)
abbrev M_X7_put : xM := (yX7_put, cX7_put, 6, (some .int))
theorem u_1481 : Cond.methodLink RX7 252 yX7_lacks ∈ lw_use := use_of (k := 1481) (by decide +kernel) rfl
theorem u_1484 : Cond.code yX7_lacks cX7_lacks 4 (some .int) ∈ lw_use := use_of (k := 1484) (by decide +kernel) rfl
theorem u_1483 : Cond.instanceMethod yX7_lacks ∈ lw_use := use_of (k := 1483) (by decide +kernel) rfl
theorem u_74 : Cond.selects RX7 yX7_lacks yX7_lacks ∈ lw_use := use_of (k := 74) (by decide +kernel) rfl
theorem pw_RX7_252 : xCV RX7 252 M_X7_lacks 3 := ⟨⟨u_1481, u_85, u_1484, ⟨by decide +kernel, by decide +kernel, by decide +kernel⟩, by decide⟩, u_1483, u_74⟩
theorem u_1485 : Cond.methodLink RX7 255 yX7_lay ∈ lw_use := use_of (k := 1485) (by decide +kernel) rfl
theorem u_1488 : Cond.code yX7_lay cX7_lay 4 none ∈ lw_use := use_of (k := 1488) (by decide +kernel) rfl
theorem u_1487 : Cond.instanceMethod yX7_lay ∈ lw_use := use_of (k := 1487) (by decide +kernel) rfl
theorem u_75 : Cond.selects RX7 yX7_lay yX7_lay ∈ lw_use := use_of (k := 75) (by decide +kernel) rfl
theorem pw_RX7_255 : xCV RX7 255 M_X7_lay 3 := ⟨⟨u_1485, u_85, u_1488, ⟨by decide +kernel, by decide +kernel, by decide +kernel⟩, by decide⟩, u_1487, u_75⟩
abbrev M_X7_get : xM := (yX7_get, cX7_get, 5, (some .int))
theorem u_1493 : Cond.constant RX7 258 (-2147483648) ∈ lw_use := use_of (k := 1493) (by decide +kernel) rfl
abbrev M_X7_copy : xM := (yX7_copy, cX7_copy, 7, (some .int))
theorem u_1059 : Cond.fieldLink RX7 72 (TX7 30).1 (TX7 30).2.1 (TX7 30).2.2.1 ∈ lw_use := use_of (k := 1059) (by decide +kernel) rfl
theorem fw_RX7_72 : xFW RX7 72 7 30 := ⟨RX7, TX7, 32, rfl, by decide, u_1059, uws_7⟩
abbrev M_X7_write : xM := (yX7_write, cX7_write, 6, (some .int))
abbrev M_X7_count : xM := (yX7_count, cX7_count, 5, (some .int))
theorem fw_RX7_249 : xFW RX7 249 7 31 := ⟨RX7, TX7, 32, rfl, by decide, u_1060, uws_7⟩
abbrev M_X7_digest : xM := (yX7_digest, cX7_digest, 5, (some .long))
theorem u_1510 : Cond.constantLong RX7 259 (17) ∈ lw_use := use_of (k := 1510) (by decide +kernel) rfl
theorem u_1511 : Cond.constantLong RX7 261 (31) ∈ lw_use := use_of (k := 1511) (by decide +kernel) rfl
theorem u_1512 : Cond.methodLink RX7 263 yX7_count ∈ lw_use := use_of (k := 1512) (by decide +kernel) rfl
theorem u_1505 : Cond.code yX7_count cX7_count 5 (some .int) ∈ lw_use := use_of (k := 1505) (by decide +kernel) rfl
theorem u_1503 : Cond.instanceMethod yX7_count ∈ lw_use := use_of (k := 1503) (by decide +kernel) rfl
theorem u_1504 : Cond.selects RX7 yX7_count yX7_count ∈ lw_use := use_of (k := 1504) (by decide +kernel) rfl
theorem pw_RX7_263 : xCV RX7 263 M_X7_count 1 := ⟨⟨u_1512, u_85, u_1505, ⟨by decide +kernel, by decide +kernel, by decide +kernel⟩, by decide⟩, u_1503, u_1504⟩

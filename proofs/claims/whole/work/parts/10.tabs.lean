/-! what the tables say, a row each -/
theorem fl_X0_58 : FL RX0 58 0 15 := ⟨_, _, _, rfl, by decide, Or.inl (in_gd (List.mem_of_getElem? (i := 52) (by decide +kernel)) rfl)⟩
theorem fl_X0_61 : FL RX0 61 0 16 := ⟨_, _, _, rfl, by decide, Or.inl (in_gd (List.mem_of_getElem? (i := 54) (by decide +kernel)) rfl)⟩
theorem fl_X0_64 : FL RX0 64 0 17 := ⟨_, _, _, rfl, by decide, Or.inl (in_gd (List.mem_of_getElem? (i := 56) (by decide +kernel)) rfl)⟩
theorem fw_0_17 : FW 0 17 .int := ⟨_, _, _, rfl, rfl, by decide +kernel⟩
theorem fl_X0_67 : FL RX0 67 0 18 := ⟨_, _, _, rfl, by decide, Or.inl (in_gd (List.mem_of_getElem? (i := 58) (by decide +kernel)) rfl)⟩
theorem fw_0_18 : FW 0 18 .int := ⟨_, _, _, rfl, rfl, by decide +kernel⟩
theorem kb_m9 : (Int8.ofInt (-9)).toInt32 = (-9) := by decide
theorem kc_0 : Int32.ofInt 0 = 0 := by decide
theorem ar_1_15 : AR 1 15 5 := by decide
theorem ar_1_16 : AR 1 16 5 := by decide
theorem kc_1 : Int32.ofInt 1 = 1 := by decide
theorem kc_5 : Int32.ofInt 5 = 5 := by decide
theorem fl_X0_9 : FL RX0 9 0 0 := ⟨_, _, _, rfl, by decide, Or.inl (in_gd (List.mem_of_getElem? (i := 22) (by decide +kernel)) rfl)⟩
theorem fl_X0_15 : FL RX0 15 0 1 := ⟨_, _, _, rfl, by decide, Or.inl (in_gd (List.mem_of_getElem? (i := 24) (by decide +kernel)) rfl)⟩
theorem fl_X0_19 : FL RX0 19 0 2 := ⟨_, _, _, rfl, by decide, Or.inl (in_gd (List.mem_of_getElem? (i := 26) (by decide +kernel)) rfl)⟩
theorem fl_X0_22 : FL RX0 22 0 3 := ⟨_, _, _, rfl, by decide, Or.inl (in_gd (List.mem_of_getElem? (i := 28) (by decide +kernel)) rfl)⟩
theorem fl_X0_25 : FL RX0 25 0 4 := ⟨_, _, _, rfl, by decide, Or.inl (in_gd (List.mem_of_getElem? (i := 30) (by decide +kernel)) rfl)⟩
theorem fl_X0_28 : FL RX0 28 0 5 := ⟨_, _, _, rfl, by decide, Or.inl (in_gd (List.mem_of_getElem? (i := 32) (by decide +kernel)) rfl)⟩
theorem fl_X0_31 : FL RX0 31 0 6 := ⟨_, _, _, rfl, by decide, Or.inl (in_gd (List.mem_of_getElem? (i := 34) (by decide +kernel)) rfl)⟩
theorem fl_X0_34 : FL RX0 34 0 7 := ⟨_, _, _, rfl, by decide, Or.inl (in_gd (List.mem_of_getElem? (i := 36) (by decide +kernel)) rfl)⟩
theorem fl_X0_37 : FL RX0 37 0 8 := ⟨_, _, _, rfl, by decide, Or.inl (in_gd (List.mem_of_getElem? (i := 38) (by decide +kernel)) rfl)⟩
theorem fl_X0_40 : FL RX0 40 0 9 := ⟨_, _, _, rfl, by decide, Or.inl (in_gd (List.mem_of_getElem? (i := 40) (by decide +kernel)) rfl)⟩
theorem fl_X0_43 : FL RX0 43 0 10 := ⟨_, _, _, rfl, by decide, Or.inl (in_gd (List.mem_of_getElem? (i := 42) (by decide +kernel)) rfl)⟩
theorem fl_X0_46 : FL RX0 46 0 11 := ⟨_, _, _, rfl, by decide, Or.inl (in_gd (List.mem_of_getElem? (i := 44) (by decide +kernel)) rfl)⟩
theorem fl_X0_49 : FL RX0 49 0 12 := ⟨_, _, _, rfl, by decide, Or.inl (in_gd (List.mem_of_getElem? (i := 46) (by decide +kernel)) rfl)⟩
theorem fl_X0_52 : FL RX0 52 0 13 := ⟨_, _, _, rfl, by decide, Or.inl (in_gd (List.mem_of_getElem? (i := 48) (by decide +kernel)) rfl)⟩
theorem fl_X0_55 : FL RX0 55 0 14 := ⟨_, _, _, rfl, by decide, Or.inl (in_gd (List.mem_of_getElem? (i := 50) (by decide +kernel)) rfl)⟩
theorem fw_0_0 : FW 0 0 .int := ⟨_, _, _, rfl, rfl, by decide +kernel⟩
theorem ar_1_1 : AR 1 1 6 := by decide
theorem ar_1_2 : AR 1 2 6 := by decide
theorem ar_1_3 : AR 1 3 6 := by decide
theorem ar_1_4 : AR 1 4 6 := by decide
theorem ar_1_5 : AR 1 5 6 := by decide
theorem ar_1_6 : AR 1 6 6 := by decide
theorem fw_0_7 : FW 0 7 .int := ⟨_, _, _, rfl, rfl, by decide +kernel⟩
theorem ar_1_8 : AR 1 8 5 := by decide
theorem ar_1_9 : AR 1 9 5 := by decide
theorem ar_1_10 : AR 1 10 5 := by decide
theorem ar_1_11 : AR 1 11 5 := by decide
theorem ar_1_12 : AR 1 12 5 := by decide
theorem fw_0_13 : FW 0 13 .int := ⟨_, _, _, rfl, rfl, by decide +kernel⟩
theorem fw_0_14 : FW 0 14 .int := ⟨_, _, _, rfl, rfl, by decide +kernel⟩
theorem cf_X0_startTallies : CFv yX0_startTallies cX0_startTallies 2 none 0 := ⟨(in_gd (List.mem_of_getElem? (i := 196) (by decide +kernel)) rfl), (in_gs (List.mem_of_getElem? (i := 4) (by decide +kernel)) rfl), (in_gd (List.mem_of_getElem? (i := 2) (by decide +kernel)) rfl), (in_gd (List.mem_of_getElem? (i := 197) (by decide +kernel)) rfl), ⟨by decide +kernel, by decide +kernel⟩, by decide +kernel⟩
theorem ml_X0_76 : ML RX0 76 yX0_startTallies := Or.inl (in_gd (List.mem_of_getElem? (i := 194) (by decide +kernel)) rfl)
theorem la_X0_70 : Cond.methodLink RX0 70 arraycopyName ∈ lw_gd := (in_gd (List.mem_of_getElem? (i := 191) (by decide +kernel)) rfl)
theorem kb_6 : (Int8.ofInt 6).toInt32 = 6 := by decide
theorem kb_9 : (Int8.ofInt 9).toInt32 = 9 := by decide
theorem cf_X0_hasBag : CFv yX0_hasBag cX0_hasBag 2 (some .boolean) 1 := ⟨(in_gd (List.mem_of_getElem? (i := 220) (by decide +kernel)) rfl), (in_gs (List.mem_of_getElem? (i := 10) (by decide +kernel)) rfl), (in_gd (List.mem_of_getElem? (i := 2) (by decide +kernel)) rfl), (in_gd (List.mem_of_getElem? (i := 221) (by decide +kernel)) rfl), ⟨by decide +kernel, by decide +kernel⟩, by decide +kernel⟩
theorem ml_X0_79 : ML RX0 79 yX0_hasBag := Or.inl (in_gd (List.mem_of_getElem? (i := 218) (by decide +kernel)) rfl)
theorem cf_X0_hasBearer : CFv yX0_hasBearer cX0_hasBearer 2 (some .boolean) 1 := ⟨(in_gd (List.mem_of_getElem? (i := 224) (by decide +kernel)) rfl), (in_gs (List.mem_of_getElem? (i := 11) (by decide +kernel)) rfl), (in_gd (List.mem_of_getElem? (i := 2) (by decide +kernel)) rfl), (in_gd (List.mem_of_getElem? (i := 225) (by decide +kernel)) rfl), ⟨by decide +kernel, by decide +kernel⟩, by decide +kernel⟩
theorem ml_X0_83 : ML RX0 83 yX0_hasBearer := Or.inl (in_gd (List.mem_of_getElem? (i := 222) (by decide +kernel)) rfl)
theorem cf_X0_unfriend : CFv yX0_unfriend cX0_unfriend 2 none 1 := ⟨(in_gd (List.mem_of_getElem? (i := 232) (by decide +kernel)) rfl), (in_gs (List.mem_of_getElem? (i := 13) (by decide +kernel)) rfl), (in_gd (List.mem_of_getElem? (i := 2) (by decide +kernel)) rfl), (in_gd (List.mem_of_getElem? (i := 233) (by decide +kernel)) rfl), ⟨by decide +kernel, by decide +kernel⟩, by decide +kernel⟩
theorem ml_X0_86 : ML RX0 86 yX0_unfriend := Or.inl (in_gd (List.mem_of_getElem? (i := 230) (by decide +kernel)) rfl)
theorem cf_X0_startKeeping : CFv yX0_startKeeping cX0_startKeeping 3 none 1 := ⟨(in_gd (List.mem_of_getElem? (i := 516) (by decide +kernel)) rfl), (in_gs (List.mem_of_getElem? (i := 41) (by decide +kernel)) rfl), (in_gd (List.mem_of_getElem? (i := 2) (by decide +kernel)) rfl), (in_gd (List.mem_of_getElem? (i := 517) (by decide +kernel)) rfl), ⟨by decide +kernel, by decide +kernel⟩, by decide +kernel⟩
theorem ml_X0_90 : ML RX0 90 yX0_startKeeping := Or.inl (in_gd (List.mem_of_getElem? (i := 514) (by decide +kernel)) rfl)
theorem kc_2 : Int32.ofInt 2 = 2 := by decide
theorem kc_4 : Int32.ofInt 4 = 4 := by decide
theorem cf_X0_pullBy : CFv yX0_pullBy cX0_pullBy 4 (some .int) 3 := ⟨(in_gd (List.mem_of_getElem? (i := 256) (by decide +kernel)) rfl), (in_gs (List.mem_of_getElem? (i := 19) (by decide +kernel)) rfl), (in_gd (List.mem_of_getElem? (i := 2) (by decide +kernel)) rfl), (in_gd (List.mem_of_getElem? (i := 257) (by decide +kernel)) rfl), ⟨by decide +kernel, by decide +kernel⟩, by decide +kernel⟩
theorem ml_X0_97 : ML RX0 97 yX0_pullBy := Or.inl (in_gd (List.mem_of_getElem? (i := 254) (by decide +kernel)) rfl)
theorem cf_X0_keeperOfFriend : CFv yX0_keeperOfFriend cX0_keeperOfFriend 3 (some .int) 1 := ⟨(in_gd (List.mem_of_getElem? (i := 252) (by decide +kernel)) rfl), (in_gs (List.mem_of_getElem? (i := 18) (by decide +kernel)) rfl), (in_gd (List.mem_of_getElem? (i := 2) (by decide +kernel)) rfl), (in_gd (List.mem_of_getElem? (i := 253) (by decide +kernel)) rfl), ⟨by decide +kernel, by decide +kernel⟩, by decide +kernel⟩
theorem ml_X0_93 : ML RX0 93 yX0_keeperOfFriend := Or.inl (in_gd (List.mem_of_getElem? (i := 250) (by decide +kernel)) rfl)
theorem kb_10 : (Int8.ofInt 10).toInt32 = 10 := by decide
theorem cf_X0_pullOf : CFv yX0_pullOf cX0_pullOf 2 (some .int) 1 := ⟨(in_gd (List.mem_of_getElem? (i := 248) (by decide +kernel)) rfl), (in_gs (List.mem_of_getElem? (i := 17) (by decide +kernel)) rfl), (in_gd (List.mem_of_getElem? (i := 2) (by decide +kernel)) rfl), (in_gd (List.mem_of_getElem? (i := 249) (by decide +kernel)) rfl), ⟨by decide +kernel, by decide +kernel⟩, by decide +kernel⟩
theorem ml_X0_101 : ML RX0 101 yX0_pullOf := Or.inl (in_gd (List.mem_of_getElem? (i := 246) (by decide +kernel)) rfl)
theorem cf_J9_floorMod_7cf53 : CFs yJ9_floorMod_7cf53 cJ9_floorMod_7cf53 3 (some .int) 2 := ⟨(in_gd (List.mem_of_getElem? (i := 270) (by decide +kernel)) rfl), (in_gd (List.mem_of_getElem? (i := 6) (by decide +kernel)) rfl), (in_gd (List.mem_of_getElem? (i := 271) (by decide +kernel)) rfl), ⟨by decide +kernel, by decide +kernel⟩, by decide +kernel⟩
theorem ml_X0_138 : ML RX0 138 yJ9_floorMod_7cf53 := Or.inl (in_gd (List.mem_of_getElem? (i := 269) (by decide +kernel)) rfl)
theorem cf_J9_min_7cf53 : CFs yJ9_min_7cf53 cJ9_min_7cf53 2 (some .int) 2 := ⟨(in_gd (List.mem_of_getElem? (i := 273) (by decide +kernel)) rfl), (in_gd (List.mem_of_getElem? (i := 6) (by decide +kernel)) rfl), (in_gd (List.mem_of_getElem? (i := 274) (by decide +kernel)) rfl), ⟨by decide +kernel, by decide +kernel⟩, by decide +kernel⟩
theorem ml_X0_113 : ML RX0 113 yJ9_min_7cf53 := Or.inl (in_gd (List.mem_of_getElem? (i := 272) (by decide +kernel)) rfl)
theorem ml_X2_329 : ML RX2 329 yJ9_floorMod_7cf53 := Or.inl (in_gd (List.mem_of_getElem? (i := 278) (by decide +kernel)) rfl)
theorem ml_X2_263 : ML RX2 263 yJ9_min_7cf53 := Or.inl (in_gd (List.mem_of_getElem? (i := 279) (by decide +kernel)) rfl)
theorem cf_X0_toward : CFs yX0_toward cX0_toward 5 (some .int) 3 := ⟨(in_gd (List.mem_of_getElem? (i := 267) (by decide +kernel)) rfl), (in_gd (List.mem_of_getElem? (i := 2) (by decide +kernel)) rfl), (in_gd (List.mem_of_getElem? (i := 268) (by decide +kernel)) rfl), ⟨by decide +kernel, by decide +kernel⟩, by decide +kernel⟩
theorem ml_X0_128 : ML RX0 128 yX0_toward := Or.inl (in_gd (List.mem_of_getElem? (i := 266) (by decide +kernel)) rfl)
theorem cf_X0_isLed : CFv yX0_isLed cX0_isLed 2 (some .boolean) 1 := ⟨(in_gd (List.mem_of_getElem? (i := 244) (by decide +kernel)) rfl), (in_gs (List.mem_of_getElem? (i := 16) (by decide +kernel)) rfl), (in_gd (List.mem_of_getElem? (i := 2) (by decide +kernel)) rfl), (in_gd (List.mem_of_getElem? (i := 245) (by decide +kernel)) rfl), ⟨by decide +kernel, by decide +kernel⟩, by decide +kernel⟩
theorem ml_X0_119 : ML RX0 119 yX0_isLed := Or.inl (in_gd (List.mem_of_getElem? (i := 242) (by decide +kernel)) rfl)
theorem cf_X0_goalOf : CFv yX0_goalOf cX0_goalOf 4 (some .int) 2 := ⟨(in_gd (List.mem_of_getElem? (i := 260) (by decide +kernel)) rfl), (in_gs (List.mem_of_getElem? (i := 20) (by decide +kernel)) rfl), (in_gd (List.mem_of_getElem? (i := 2) (by decide +kernel)) rfl), (in_gd (List.mem_of_getElem? (i := 261) (by decide +kernel)) rfl), ⟨by decide +kernel, by decide +kernel⟩, by decide +kernel⟩
theorem ml_X0_122 : ML RX0 122 yX0_goalOf := Or.inl (in_gd (List.mem_of_getElem? (i := 258) (by decide +kernel)) rfl)
theorem cf_X0_paceOf : CFv yX0_paceOf cX0_paceOf 2 (some .int) 1 := ⟨(in_gd (List.mem_of_getElem? (i := 264) (by decide +kernel)) rfl), (in_gs (List.mem_of_getElem? (i := 21) (by decide +kernel)) rfl), (in_gd (List.mem_of_getElem? (i := 2) (by decide +kernel)) rfl), (in_gd (List.mem_of_getElem? (i := 265) (by decide +kernel)) rfl), ⟨by decide +kernel, by decide +kernel⟩, by decide +kernel⟩
theorem ml_X0_125 : ML RX0 125 yX0_paceOf := Or.inl (in_gd (List.mem_of_getElem? (i := 262) (by decide +kernel)) rfl)
theorem cf_X2_placesApart : CFs yX2_placesApart cX2_placesApart 3 (some .int) 2 := ⟨(in_gd (List.mem_of_getElem? (i := 276) (by decide +kernel)) rfl), (in_gd (List.mem_of_getElem? (i := 1) (by decide +kernel)) rfl), (in_gd (List.mem_of_getElem? (i := 277) (by decide +kernel)) rfl), ⟨by decide +kernel, by decide +kernel⟩, by decide +kernel⟩
theorem ml_X0_132 : ML RX0 132 yX2_placesApart := Or.inr ⟨"HandbagLady", in_ns (List.mem_of_getElem? (i := 275) (by decide +kernel)) rfl⟩
theorem cf_J9_max_7cf53 : CFs yJ9_max_7cf53 cJ9_max_7cf53 2 (some .int) 2 := ⟨(in_gd (List.mem_of_getElem? (i := 281) (by decide +kernel)) rfl), (in_gd (List.mem_of_getElem? (i := 6) (by decide +kernel)) rfl), (in_gd (List.mem_of_getElem? (i := 282) (by decide +kernel)) rfl), ⟨by decide +kernel, by decide +kernel⟩, by decide +kernel⟩
theorem ml_X0_135 : ML RX0 135 yJ9_max_7cf53 := Or.inl (in_gd (List.mem_of_getElem? (i := 280) (by decide +kernel)) rfl)
theorem kc_3 : Int32.ofInt 3 = 3 := by decide
theorem kb_99 : (Int8.ofInt 99).toInt32 = 99 := by decide
theorem cf_X0_growHeld : CFv yX0_growHeld cX0_growHeld 2 none 0 := ⟨(in_gd (List.mem_of_getElem? (i := 285) (by decide +kernel)) rfl), (in_gs (List.mem_of_getElem? (i := 22) (by decide +kernel)) rfl), (in_gd (List.mem_of_getElem? (i := 2) (by decide +kernel)) rfl), (in_gd (List.mem_of_getElem? (i := 286) (by decide +kernel)) rfl), ⟨by decide +kernel, by decide +kernel⟩, by decide +kernel⟩
theorem ml_X0_107 : ML RX0 107 yX0_growHeld := Or.inl (in_gd (List.mem_of_getElem? (i := 283) (by decide +kernel)) rfl)
theorem cf_X0_countSnaps : CFv yX0_countSnaps cX0_countSnaps 2 none 0 := ⟨(in_gd (List.mem_of_getElem? (i := 289) (by decide +kernel)) rfl), (in_gs (List.mem_of_getElem? (i := 23) (by decide +kernel)) rfl), (in_gd (List.mem_of_getElem? (i := 2) (by decide +kernel)) rfl), (in_gd (List.mem_of_getElem? (i := 290) (by decide +kernel)) rfl), ⟨by decide +kernel, by decide +kernel⟩, by decide +kernel⟩
theorem ml_X0_110 : ML RX0 110 yX0_countSnaps := Or.inl (in_gd (List.mem_of_getElem? (i := 287) (by decide +kernel)) rfl)
theorem cf_X0_go : CFv yX0_go cX0_go 3 none 1 := ⟨(in_gd (List.mem_of_getElem? (i := 240) (by decide +kernel)) rfl), (in_gs (List.mem_of_getElem? (i := 15) (by decide +kernel)) rfl), (in_gd (List.mem_of_getElem? (i := 2) (by decide +kernel)) rfl), (in_gd (List.mem_of_getElem? (i := 241) (by decide +kernel)) rfl), ⟨by decide +kernel, by decide +kernel⟩, by decide +kernel⟩
theorem ml_X0_104 : ML RX0 104 yX0_go := Or.inl (in_gd (List.mem_of_getElem? (i := 238) (by decide +kernel)) rfl)
theorem cf_X0_aboveWill : CFv yX0_aboveWill cX0_aboveWill 2 (some .int) 1 := ⟨(in_gd (List.mem_of_getElem? (i := 665) (by decide +kernel)) rfl), (in_gs (List.mem_of_getElem? (i := 61) (by decide +kernel)) rfl), (in_gd (List.mem_of_getElem? (i := 2) (by decide +kernel)) rfl), (in_gd (List.mem_of_getElem? (i := 666) (by decide +kernel)) rfl), ⟨by decide +kernel, by decide +kernel⟩, by decide +kernel⟩
theorem ml_X0_144 : ML RX0 144 yX0_aboveWill := Or.inl (in_gd (List.mem_of_getElem? (i := 663) (by decide +kernel)) rfl)
theorem cf_X0_leaderOf : CFv yX0_leaderOf cX0_leaderOf 3 (some .int) 2 := ⟨(in_gd (List.mem_of_getElem? (i := 661) (by decide +kernel)) rfl), (in_gs (List.mem_of_getElem? (i := 60) (by decide +kernel)) rfl), (in_gd (List.mem_of_getElem? (i := 2) (by decide +kernel)) rfl), (in_gd (List.mem_of_getElem? (i := 662) (by decide +kernel)) rfl), ⟨by decide +kernel, by decide +kernel⟩, by decide +kernel⟩
theorem ml_X0_141 : ML RX0 141 yX0_leaderOf := Or.inl (in_gd (List.mem_of_getElem? (i := 659) (by decide +kernel)) rfl)
theorem cf_X0_rankOfBearer : CFv yX0_rankOfBearer cX0_rankOfBearer 4 (some .int) 1 := ⟨(in_gd (List.mem_of_getElem? (i := 590) (by decide +kernel)) rfl), (in_gs (List.mem_of_getElem? (i := 52) (by decide +kernel)) rfl), (in_gd (List.mem_of_getElem? (i := 2) (by decide +kernel)) rfl), (in_gd (List.mem_of_getElem? (i := 591) (by decide +kernel)) rfl), ⟨by decide +kernel, by decide +kernel⟩, by decide +kernel⟩
theorem ml_X0_147 : ML RX0 147 yX0_rankOfBearer := Or.inl (in_gd (List.mem_of_getElem? (i := 615) (by decide +kernel)) rfl)
theorem kc_m1 : Int32.ofInt (-1) = (-1) := by decide
theorem cf_X0_plainPullOf : CFv yX0_plainPullOf cX0_plainPullOf 2 (some .int) 1 := ⟨(in_gd (List.mem_of_getElem? (i := 602) (by decide +kernel)) rfl), (in_gs (List.mem_of_getElem? (i := 55) (by decide +kernel)) rfl), (in_gd (List.mem_of_getElem? (i := 2) (by decide +kernel)) rfl), (in_gd (List.mem_of_getElem? (i := 603) (by decide +kernel)) rfl), ⟨by decide +kernel, by decide +kernel⟩, by decide +kernel⟩
theorem ml_X0_150 : ML RX0 150 yX0_plainPullOf := Or.inl (in_gd (List.mem_of_getElem? (i := 600) (by decide +kernel)) rfl)
theorem cf_J6_compare_7cf53 : CFs yJ6_compare_7cf53 cJ6_compare_7cf53 2 (some .int) 2 := ⟨(in_gd (List.mem_of_getElem? (i := 605) (by decide +kernel)) rfl), (in_gd (List.mem_of_getElem? (i := 7) (by decide +kernel)) rfl), (in_gd (List.mem_of_getElem? (i := 606) (by decide +kernel)) rfl), ⟨by decide +kernel, by decide +kernel⟩, by decide +kernel⟩
theorem ml_X0_153 : ML RX0 153 yJ6_compare_7cf53 := Or.inl (in_gd (List.mem_of_getElem? (i := 604) (by decide +kernel)) rfl)
theorem cf_X0_rankOfBag : CFv yX0_rankOfBag cX0_rankOfBag 5 (some .int) 1 := ⟨(in_gd (List.mem_of_getElem? (i := 598) (by decide +kernel)) rfl), (in_gs (List.mem_of_getElem? (i := 54) (by decide +kernel)) rfl), (in_gd (List.mem_of_getElem? (i := 2) (by decide +kernel)) rfl), (in_gd (List.mem_of_getElem? (i := 599) (by decide +kernel)) rfl), ⟨by decide +kernel, by decide +kernel⟩, by decide +kernel⟩
theorem ml_X0_158 : ML RX0 158 yX0_rankOfBag := Or.inl (in_gd (List.mem_of_getElem? (i := 596) (by decide +kernel)) rfl)
theorem fl_X1_22 : FL RX1 22 1 3 := ⟨_, _, _, rfl, by decide, Or.inl (in_gd (List.mem_of_getElem? (i := 110) (by decide +kernel)) rfl)⟩
theorem fl_X1_25 : FL RX1 25 1 4 := ⟨_, _, _, rfl, by decide, Or.inl (in_gd (List.mem_of_getElem? (i := 111) (by decide +kernel)) rfl)⟩
theorem fl_X1_18 : FL RX1 18 1 2 := ⟨_, _, _, rfl, by decide, Or.inl (in_gd (List.mem_of_getElem? (i := 109) (by decide +kernel)) rfl)⟩
theorem fw_1_4 : FW 1 4 .int := ⟨_, _, _, rfl, rfl, by decide +kernel⟩
theorem oc_12 : 12 < 14 ∧ co 12 = 1 := by decide
theorem fw_1_2 : FW 1 2 .int := ⟨_, _, _, rfl, rfl, by decide +kernel⟩
theorem ml_X1_28 : ML RX1 28 yJ9_min_7cf53 := Or.inl (in_gd (List.mem_of_getElem? (i := 549) (by decide +kernel)) rfl)
theorem fw_1_3 : FW 1 3 .int := ⟨_, _, _, rfl, rfl, by decide +kernel⟩
theorem fl_X1_9 : FL RX1 9 1 0 := ⟨_, _, _, rfl, by decide, Or.inl (in_gd (List.mem_of_getElem? (i := 107) (by decide +kernel)) rfl)⟩
theorem ml_X1_34 : ML RX1 34 yJ9_max_7cf53 := Or.inl (in_gd (List.mem_of_getElem? (i := 554) (by decide +kernel)) rfl)
theorem ar_12_0 : AR 12 0 4 := by decide
theorem fl_X1_15 : FL RX1 15 1 1 := ⟨_, _, _, rfl, by decide, Or.inl (in_gd (List.mem_of_getElem? (i := 108) (by decide +kernel)) rfl)⟩
theorem ar_12_1 : AR 12 1 4 := by decide
theorem la_X1_37 : Cond.methodLink RX1 37 arraycopyName ∈ lw_gd := (in_gd (List.mem_of_getElem? (i := 571) (by decide +kernel)) rfl)
theorem fl_X2_47 : FL RX2 47 2 10 := ⟨_, _, _, rfl, by decide, Or.inl (in_gd (List.mem_of_getElem? (i := 134) (by decide +kernel)) rfl)⟩
theorem ar_0_10 : AR 0 10 7 := by decide
theorem oc_0 : 0 < 14 ∧ co 0 = 2 := by decide
theorem kb_7 : (Int8.ofInt 7).toInt32 = 7 := by decide
theorem fl_X2_38 : FL RX2 38 2 7 := ⟨_, _, _, rfl, by decide, Or.inl (in_gd (List.mem_of_getElem? (i := 131) (by decide +kernel)) rfl)⟩
theorem fl_X2_34 : FL RX2 34 2 6 := ⟨_, _, _, rfl, by decide, Or.inl (in_gd (List.mem_of_getElem? (i := 130) (by decide +kernel)) rfl)⟩
theorem cf_X2_refuse : CFv yX2_refuse cX2_refuse 2 (some .int) 1 := ⟨(in_gd (List.mem_of_getElem? (i := 170) (by decide +kernel)) rfl), (in_gs (List.mem_of_getElem? (i := 0) (by decide +kernel)) rfl), (in_gd (List.mem_of_getElem? (i := 1) (by decide +kernel)) rfl), (in_gd (List.mem_of_getElem? (i := 171) (by decide +kernel)) rfl), ⟨by decide +kernel, by decide +kernel⟩, by decide +kernel⟩
theorem ml_X2_60 : ML RX2 60 yX2_refuse := Or.inl (in_gd (List.mem_of_getElem? (i := 168) (by decide +kernel)) rfl)
theorem kb_m6 : (Int8.ofInt (-6)).toInt32 = (-6) := by decide
theorem ar_0_6 : AR 0 6 96 := by decide
theorem fw_2_7 : FW 2 7 .int := ⟨_, _, _, rfl, rfl, by decide +kernel⟩
theorem kb_96 : (Int8.ofInt 96).toInt32 = 96 := by decide
theorem ks_255 : (Int16.ofInt 255).toInt32 = 255 := by decide
theorem kb_m4 : (Int8.ofInt (-4)).toInt32 = (-4) := by decide
theorem kb_59 : (Int8.ofInt 59).toInt32 = 59 := by decide
theorem kb_57 : (Int8.ofInt 57).toInt32 = 57 := by decide
theorem kb_48 : (Int8.ofInt 48).toInt32 = 48 := by decide
theorem cf_X2_digitsBehind : CFs yX2_digitsBehind cX2_digitsBehind 1 (some .int) 1 := ⟨(in_gd (List.mem_of_getElem? (i := 181) (by decide +kernel)) rfl), (in_gd (List.mem_of_getElem? (i := 1) (by decide +kernel)) rfl), (in_gd (List.mem_of_getElem? (i := 182) (by decide +kernel)) rfl), ⟨by decide +kernel, by decide +kernel⟩, by decide +kernel⟩
theorem ml_X2_81 : ML RX2 81 yX2_digitsBehind := Or.inl (in_gd (List.mem_of_getElem? (i := 180) (by decide +kernel)) rfl)
theorem fl_X2_16 : FL RX2 16 2 1 := ⟨_, _, _, rfl, by decide, Or.inl (in_gd (List.mem_of_getElem? (i := 125) (by decide +kernel)) rfl)⟩
theorem fl_X2_12 : FL RX2 12 2 0 := ⟨_, _, _, rfl, by decide, Or.inl (in_gd (List.mem_of_getElem? (i := 124) (by decide +kernel)) rfl)⟩
theorem cf_X0_copyFrom : CFv yX0_copyFrom cX0_copyFrom 2 none 1 := ⟨(in_gd (List.mem_of_getElem? (i := 189) (by decide +kernel)) rfl), (in_gs (List.mem_of_getElem? (i := 3) (by decide +kernel)) rfl), (in_gd (List.mem_of_getElem? (i := 2) (by decide +kernel)) rfl), (in_gd (List.mem_of_getElem? (i := 190) (by decide +kernel)) rfl), ⟨by decide +kernel, by decide +kernel⟩, by decide +kernel⟩
theorem ml_X2_74 : ML RX2 74 yX0_copyFrom := Or.inr ⟨"HandbagLady", in_ns (List.mem_of_getElem? (i := 187) (by decide +kernel)) rfl⟩
theorem oc_2 : 2 < 14 ∧ co 2 = 0 := by decide
theorem fl_X2_104 : FL RX2 104 0 14 := ⟨_, _, _, rfl, by decide, Or.inr ⟨"HandbagLady", in_ns (List.mem_of_getElem? (i := 51) (by decide +kernel)) rfl⟩⟩
theorem cf_X0_goHours : CFv yX0_goHours cX0_goHours 4 none 1 := ⟨(in_gd (List.mem_of_getElem? (i := 236) (by decide +kernel)) rfl), (in_gs (List.mem_of_getElem? (i := 14) (by decide +kernel)) rfl), (in_gd (List.mem_of_getElem? (i := 2) (by decide +kernel)) rfl), (in_gd (List.mem_of_getElem? (i := 237) (by decide +kernel)) rfl), ⟨by decide +kernel, by decide +kernel⟩, by decide +kernel⟩
theorem ml_X2_107 : ML RX2 107 yX0_goHours := Or.inr ⟨"HandbagLady", in_ns (List.mem_of_getElem? (i := 234) (by decide +kernel)) rfl⟩
theorem ks_999 : (Int16.ofInt 999).toInt32 = 999 := by decide
theorem kb_60 : (Int8.ofInt 60).toInt32 = 60 := by decide
theorem cf_X2_digitAt : CFv yX2_digitAt cX2_digitAt 2 (some .int) 1 := ⟨(in_gd (List.mem_of_getElem? (i := 204) (by decide +kernel)) rfl), (in_gs (List.mem_of_getElem? (i := 6) (by decide +kernel)) rfl), (in_gd (List.mem_of_getElem? (i := 1) (by decide +kernel)) rfl), (in_gd (List.mem_of_getElem? (i := 205) (by decide +kernel)) rfl), ⟨by decide +kernel, by decide +kernel⟩, by decide +kernel⟩
theorem ml_X2_84 : ML RX2 84 yX2_digitAt := Or.inl (in_gd (List.mem_of_getElem? (i := 202) (by decide +kernel)) rfl)
theorem cf_X0_addBearer : CFv yX0_addBearer cX0_addBearer 4 (some .int) 3 := ⟨(in_gd (List.mem_of_getElem? (i := 212) (by decide +kernel)) rfl), (in_gs (List.mem_of_getElem? (i := 8) (by decide +kernel)) rfl), (in_gd (List.mem_of_getElem? (i := 2) (by decide +kernel)) rfl), (in_gd (List.mem_of_getElem? (i := 213) (by decide +kernel)) rfl), ⟨by decide +kernel, by decide +kernel⟩, by decide +kernel⟩
theorem ml_X2_91 : ML RX2 91 yX0_addBearer := Or.inr ⟨"HandbagLady", in_ns (List.mem_of_getElem? (i := 210) (by decide +kernel)) rfl⟩
theorem cf_X0_hand : CFv yX0_hand cX0_hand 3 (some .boolean) 2 := ⟨(in_gd (List.mem_of_getElem? (i := 216) (by decide +kernel)) rfl), (in_gs (List.mem_of_getElem? (i := 9) (by decide +kernel)) rfl), (in_gd (List.mem_of_getElem? (i := 2) (by decide +kernel)) rfl), (in_gd (List.mem_of_getElem? (i := 217) (by decide +kernel)) rfl), ⟨by decide +kernel, by decide +kernel⟩, by decide +kernel⟩
theorem ml_X2_94 : ML RX2 94 yX0_hand := Or.inr ⟨"HandbagLady", in_ns (List.mem_of_getElem? (i := 214) (by decide +kernel)) rfl⟩
theorem cf_X0_befriend : CFv yX0_befriend cX0_befriend 3 (some .boolean) 2 := ⟨(in_gd (List.mem_of_getElem? (i := 228) (by decide +kernel)) rfl), (in_gs (List.mem_of_getElem? (i := 12) (by decide +kernel)) rfl), (in_gd (List.mem_of_getElem? (i := 2) (by decide +kernel)) rfl), (in_gd (List.mem_of_getElem? (i := 229) (by decide +kernel)) rfl), ⟨by decide +kernel, by decide +kernel⟩, by decide +kernel⟩
theorem ml_X2_98 : ML RX2 98 yX0_befriend := Or.inr ⟨"HandbagLady", in_ns (List.mem_of_getElem? (i := 226) (by decide +kernel)) rfl⟩
theorem fl_X2_101 : FL RX2 101 0 13 := ⟨_, _, _, rfl, by decide, Or.inr ⟨"HandbagLady", in_ns (List.mem_of_getElem? (i := 49) (by decide +kernel)) rfl⟩⟩
theorem cf_X0_addBag : CFv yX0_addBag cX0_addBag 4 (some .int) 3 := ⟨(in_gd (List.mem_of_getElem? (i := 208) (by decide +kernel)) rfl), (in_gs (List.mem_of_getElem? (i := 7) (by decide +kernel)) rfl), (in_gd (List.mem_of_getElem? (i := 2) (by decide +kernel)) rfl), (in_gd (List.mem_of_getElem? (i := 209) (by decide +kernel)) rfl), ⟨by decide +kernel, by decide +kernel⟩, by decide +kernel⟩
theorem ml_X2_87 : ML RX2 87 yX0_addBag := Or.inr ⟨"HandbagLady", in_ns (List.mem_of_getElem? (i := 206) (by decide +kernel)) rfl⟩
theorem fl_X2_30 : FL RX2 30 2 5 := ⟨_, _, _, rfl, by decide, Or.inl (in_gd (List.mem_of_getElem? (i := 129) (by decide +kernel)) rfl)⟩
theorem fw_2_5 : FW 2 5 .int := ⟨_, _, _, rfl, rfl, by decide +kernel⟩
theorem oc_1 : 1 < 14 ∧ co 1 = 0 := by decide
theorem cf_X2_forgetPast : CFv yX2_forgetPast cX2_forgetPast 1 none 0 := ⟨(in_gd (List.mem_of_getElem? (i := 293) (by decide +kernel)) rfl), (in_gs (List.mem_of_getElem? (i := 24) (by decide +kernel)) rfl), (in_gd (List.mem_of_getElem? (i := 1) (by decide +kernel)) rfl), (in_gd (List.mem_of_getElem? (i := 294) (by decide +kernel)) rfl), ⟨by decide +kernel, by decide +kernel⟩, by decide +kernel⟩
theorem ml_X2_78 : ML RX2 78 yX2_forgetPast := Or.inl (in_gd (List.mem_of_getElem? (i := 291) (by decide +kernel)) rfl)
theorem cf_X2_carryOut : CFv yX2_carryOut cX2_carryOut 6 (some .boolean) 1 := ⟨(in_gd (List.mem_of_getElem? (i := 200) (by decide +kernel)) rfl), (in_gs (List.mem_of_getElem? (i := 5) (by decide +kernel)) rfl), (in_gd (List.mem_of_getElem? (i := 1) (by decide +kernel)) rfl), (in_gd (List.mem_of_getElem? (i := 201) (by decide +kernel)) rfl), ⟨by decide +kernel, by decide +kernel⟩, by decide +kernel⟩
theorem ml_X2_70 : ML RX2 70 yX2_carryOut := Or.inl (in_gd (List.mem_of_getElem? (i := 198) (by decide +kernel)) rfl)
theorem ks_m2000 : (Int16.ofInt (-2000)).toInt32 = (-2000) := by decide
theorem cf_X2_formFault : CFv yX2_formFault cX2_formFault 5 (some .int) 1 := ⟨(in_gd (List.mem_of_getElem? (i := 178) (by decide +kernel)) rfl), (in_gs (List.mem_of_getElem? (i := 1) (by decide +kernel)) rfl), (in_gd (List.mem_of_getElem? (i := 1) (by decide +kernel)) rfl), (in_gd (List.mem_of_getElem? (i := 179) (by decide +kernel)) rfl), ⟨by decide +kernel, by decide +kernel⟩, by decide +kernel⟩
theorem ml_X2_64 : ML RX2 64 yX2_formFault := Or.inl (in_gd (List.mem_of_getElem? (i := 176) (by decide +kernel)) rfl)
theorem cf_X2_think : CFv yX2_think cX2_think 1 none 0 := ⟨(in_gd (List.mem_of_getElem? (i := 185) (by decide +kernel)) rfl), (in_gs (List.mem_of_getElem? (i := 2) (by decide +kernel)) rfl), (in_gd (List.mem_of_getElem? (i := 1) (by decide +kernel)) rfl), (in_gd (List.mem_of_getElem? (i := 186) (by decide +kernel)) rfl), ⟨by decide +kernel, by decide +kernel⟩, by decide +kernel⟩
theorem ml_X2_67 : ML RX2 67 yX2_think := Or.inl (in_gd (List.mem_of_getElem? (i := 183) (by decide +kernel)) rfl)
theorem ks_m1000 : (Int16.ofInt (-1000)).toInt32 = (-1000) := by decide
theorem fl_X2_129 : FL RX2 129 0 6 := ⟨_, _, _, rfl, by decide, Or.inr ⟨"HandbagLady", in_ns (List.mem_of_getElem? (i := 35) (by decide +kernel)) rfl⟩⟩
theorem fl_X2_126 : FL RX2 126 0 5 := ⟨_, _, _, rfl, by decide, Or.inr ⟨"HandbagLady", in_ns (List.mem_of_getElem? (i := 33) (by decide +kernel)) rfl⟩⟩
theorem fl_X2_123 : FL RX2 123 0 4 := ⟨_, _, _, rfl, by decide, Or.inr ⟨"HandbagLady", in_ns (List.mem_of_getElem? (i := 31) (by decide +kernel)) rfl⟩⟩
theorem fl_X2_120 : FL RX2 120 0 3 := ⟨_, _, _, rfl, by decide, Or.inr ⟨"HandbagLady", in_ns (List.mem_of_getElem? (i := 29) (by decide +kernel)) rfl⟩⟩
theorem fl_X2_117 : FL RX2 117 0 2 := ⟨_, _, _, rfl, by decide, Or.inr ⟨"HandbagLady", in_ns (List.mem_of_getElem? (i := 27) (by decide +kernel)) rfl⟩⟩
theorem fl_X2_114 : FL RX2 114 0 1 := ⟨_, _, _, rfl, by decide, Or.inr ⟨"HandbagLady", in_ns (List.mem_of_getElem? (i := 25) (by decide +kernel)) rfl⟩⟩
theorem ml_X2_111 : ML RX2 111 yX0_hasBag := Or.inr ⟨"HandbagLady", in_ns (List.mem_of_getElem? (i := 299) (by decide +kernel)) rfl⟩
theorem kb_m2 : (Int8.ofInt (-2)).toInt32 = (-2) := by decide
theorem ml_X2_132 : ML RX2 132 yX0_pullOf := Or.inr ⟨"HandbagLady", in_ns (List.mem_of_getElem? (i := 300) (by decide +kernel)) rfl⟩
theorem fl_X2_150 : FL RX2 150 0 12 := ⟨_, _, _, rfl, by decide, Or.inr ⟨"HandbagLady", in_ns (List.mem_of_getElem? (i := 47) (by decide +kernel)) rfl⟩⟩
theorem fl_X2_147 : FL RX2 147 0 11 := ⟨_, _, _, rfl, by decide, Or.inr ⟨"HandbagLady", in_ns (List.mem_of_getElem? (i := 45) (by decide +kernel)) rfl⟩⟩
theorem fl_X2_144 : FL RX2 144 0 10 := ⟨_, _, _, rfl, by decide, Or.inr ⟨"HandbagLady", in_ns (List.mem_of_getElem? (i := 43) (by decide +kernel)) rfl⟩⟩
theorem fl_X2_141 : FL RX2 141 0 9 := ⟨_, _, _, rfl, by decide, Or.inr ⟨"HandbagLady", in_ns (List.mem_of_getElem? (i := 41) (by decide +kernel)) rfl⟩⟩
theorem fl_X2_138 : FL RX2 138 0 8 := ⟨_, _, _, rfl, by decide, Or.inr ⟨"HandbagLady", in_ns (List.mem_of_getElem? (i := 39) (by decide +kernel)) rfl⟩⟩
theorem ml_X2_135 : ML RX2 135 yX0_hasBearer := Or.inr ⟨"HandbagLady", in_ns (List.mem_of_getElem? (i := 305) (by decide +kernel)) rfl⟩
theorem ml_X2_153 : ML RX2 153 yX0_isLed := Or.inr ⟨"HandbagLady", in_ns (List.mem_of_getElem? (i := 306) (by decide +kernel)) rfl⟩
theorem fl_X2_44 : FL RX2 44 2 9 := ⟨_, _, _, rfl, by decide, Or.inl (in_gd (List.mem_of_getElem? (i := 133) (by decide +kernel)) rfl)⟩
theorem fl_X2_159 : FL RX2 159 0 7 := ⟨_, _, _, rfl, by decide, Or.inr ⟨"HandbagLady", in_ns (List.mem_of_getElem? (i := 37) (by decide +kernel)) rfl⟩⟩
theorem fl_X2_156 : FL RX2 156 0 0 := ⟨_, _, _, rfl, by decide, Or.inr ⟨"HandbagLady", in_ns (List.mem_of_getElem? (i := 23) (by decide +kernel)) rfl⟩⟩
theorem kb_16 : (Int8.ofInt 16).toInt32 = 16 := by decide
theorem kb_11 : (Int8.ofInt 11).toInt32 = 11 := by decide
theorem cf_X0_ledOnes : CFv yX0_ledOnes cX0_ledOnes 3 (some .int) 0 := ⟨(in_gd (List.mem_of_getElem? (i := 321) (by decide +kernel)) rfl), (in_gs (List.mem_of_getElem? (i := 27) (by decide +kernel)) rfl), (in_gd (List.mem_of_getElem? (i := 2) (by decide +kernel)) rfl), (in_gd (List.mem_of_getElem? (i := 322) (by decide +kernel)) rfl), ⟨by decide +kernel, by decide +kernel⟩, by decide +kernel⟩
theorem ml_X2_169 : ML RX2 169 yX0_ledOnes := Or.inr ⟨"HandbagLady", in_ns (List.mem_of_getElem? (i := 319) (by decide +kernel)) rfl⟩
theorem cf_X0_allBreath : CFv yX0_allBreath cX0_allBreath 3 (some .int) 0 := ⟨(in_gd (List.mem_of_getElem? (i := 317) (by decide +kernel)) rfl), (in_gs (List.mem_of_getElem? (i := 26) (by decide +kernel)) rfl), (in_gd (List.mem_of_getElem? (i := 2) (by decide +kernel)) rfl), (in_gd (List.mem_of_getElem? (i := 318) (by decide +kernel)) rfl), ⟨by decide +kernel, by decide +kernel⟩, by decide +kernel⟩
theorem ml_X2_166 : ML RX2 166 yX0_allBreath := Or.inr ⟨"HandbagLady", in_ns (List.mem_of_getElem? (i := 315) (by decide +kernel)) rfl⟩
theorem cf_X0_bagsHad : CFv yX0_bagsHad cX0_bagsHad 3 (some .int) 0 := ⟨(in_gd (List.mem_of_getElem? (i := 313) (by decide +kernel)) rfl), (in_gs (List.mem_of_getElem? (i := 25) (by decide +kernel)) rfl), (in_gd (List.mem_of_getElem? (i := 2) (by decide +kernel)) rfl), (in_gd (List.mem_of_getElem? (i := 314) (by decide +kernel)) rfl), ⟨by decide +kernel, by decide +kernel⟩, by decide +kernel⟩
theorem ml_X2_162 : ML RX2 162 yX0_bagsHad := Or.inr ⟨"HandbagLady", in_ns (List.mem_of_getElem? (i := 311) (by decide +kernel)) rfl⟩
theorem fl_X2_26 : FL RX2 26 2 4 := ⟨_, _, _, rfl, by decide, Or.inl (in_gd (List.mem_of_getElem? (i := 128) (by decide +kernel)) rfl)⟩
theorem kb_8 : (Int8.ofInt 8).toInt32 = 8 := by decide
theorem cf_X2_remember : CFv yX2_remember cX2_remember 3 none 0 := ⟨(in_gd (List.mem_of_getElem? (i := 337) (by decide +kernel)) rfl), (in_gs (List.mem_of_getElem? (i := 28) (by decide +kernel)) rfl), (in_gd (List.mem_of_getElem? (i := 1) (by decide +kernel)) rfl), (in_gd (List.mem_of_getElem? (i := 338) (by decide +kernel)) rfl), ⟨by decide +kernel, by decide +kernel⟩, by decide +kernel⟩
theorem ml_X2_172 : ML RX2 172 yX2_remember := Or.inl (in_gd (List.mem_of_getElem? (i := 335) (by decide +kernel)) rfl)
theorem cf_X2_isPlace : CFs yX2_isPlace cX2_isPlace 1 (some .boolean) 1 := ⟨(in_gd (List.mem_of_getElem? (i := 348) (by decide +kernel)) rfl), (in_gd (List.mem_of_getElem? (i := 1) (by decide +kernel)) rfl), (in_gd (List.mem_of_getElem? (i := 349) (by decide +kernel)) rfl), ⟨by decide +kernel, by decide +kernel⟩, by decide +kernel⟩
theorem ml_X2_175 : ML RX2 175 yX2_isPlace := Or.inl (in_gd (List.mem_of_getElem? (i := 347) (by decide +kernel)) rfl)
theorem fl_X2_181 : FL RX2 181 0 17 := ⟨_, _, _, rfl, by decide, Or.inr ⟨"HandbagLady", in_ns (List.mem_of_getElem? (i := 57) (by decide +kernel)) rfl⟩⟩
theorem ml_X2_178 : ML RX2 178 yX0_startTallies := Or.inr ⟨"HandbagLady", in_ns (List.mem_of_getElem? (i := 362) (by decide +kernel)) rfl⟩
theorem kb_m3 : (Int8.ofInt (-3)).toInt32 = (-3) := by decide
theorem fl_X2_19 : FL RX2 19 2 2 := ⟨_, _, _, rfl, by decide, Or.inl (in_gd (List.mem_of_getElem? (i := 126) (by decide +kernel)) rfl)⟩
theorem oc_3 : 3 < 14 ∧ co 3 = 0 := by decide
theorem fl_X2_22 : FL RX2 22 2 3 := ⟨_, _, _, rfl, by decide, Or.inl (in_gd (List.mem_of_getElem? (i := 127) (by decide +kernel)) rfl)⟩
theorem fw_2_3 : FW 2 3 .boolean := ⟨_, _, _, rfl, rfl, by decide +kernel⟩
theorem fl_X2_187 : FL RX2 187 0 15 := ⟨_, _, _, rfl, by decide, Or.inr ⟨"HandbagLady", in_ns (List.mem_of_getElem? (i := 53) (by decide +kernel)) rfl⟩⟩
theorem cf_X2_wrongHours : CFs yX2_wrongHours cX2_wrongHours 1 (some .int) 1 := ⟨(in_gd (List.mem_of_getElem? (i := 380) (by decide +kernel)) rfl), (in_gd (List.mem_of_getElem? (i := 1) (by decide +kernel)) rfl), (in_gd (List.mem_of_getElem? (i := 381) (by decide +kernel)) rfl), ⟨by decide +kernel, by decide +kernel⟩, by decide +kernel⟩
theorem ml_X2_184 : ML RX2 184 yX2_wrongHours := Or.inl (in_gd (List.mem_of_getElem? (i := 379) (by decide +kernel)) rfl)
theorem ar_2_11 : AR 2 11 5 := by decide
theorem ar_2_15 : AR 2 15 5 := by decide
theorem ar_2_12 : AR 2 12 5 := by decide
theorem ar_2_10 : AR 2 10 5 := by decide
theorem kb_61 : (Int8.ofInt 61).toInt32 = 61 := by decide
theorem cf_X2_areTwo : CFv yX2_areTwo cX2_areTwo 3 (some .boolean) 2 := ⟨(in_gd (List.mem_of_getElem? (i := 388) (by decide +kernel)) rfl), (in_gs (List.mem_of_getElem? (i := 29) (by decide +kernel)) rfl), (in_gd (List.mem_of_getElem? (i := 1) (by decide +kernel)) rfl), (in_gd (List.mem_of_getElem? (i := 389) (by decide +kernel)) rfl), ⟨by decide +kernel, by decide +kernel⟩, by decide +kernel⟩
theorem ml_X2_190 : ML RX2 190 yX2_areTwo := Or.inl (in_gd (List.mem_of_getElem? (i := 386) (by decide +kernel)) rfl)
theorem cf_X2_firstMeeting : CFv yX2_firstMeeting cX2_firstMeeting 5 (some .int) 3 := ⟨(in_gd (List.mem_of_getElem? (i := 392) (by decide +kernel)) rfl), (in_gs (List.mem_of_getElem? (i := 30) (by decide +kernel)) rfl), (in_gd (List.mem_of_getElem? (i := 1) (by decide +kernel)) rfl), (in_gd (List.mem_of_getElem? (i := 393) (by decide +kernel)) rfl), ⟨by decide +kernel, by decide +kernel⟩, by decide +kernel⟩
theorem ml_X2_193 : ML RX2 193 yX2_firstMeeting := Or.inl (in_gd (List.mem_of_getElem? (i := 390) (by decide +kernel)) rfl)
theorem cf_X2_orNone : CFs yX2_orNone cX2_orNone 1 (some .int) 1 := ⟨(in_gd (List.mem_of_getElem? (i := 395) (by decide +kernel)) rfl), (in_gd (List.mem_of_getElem? (i := 1) (by decide +kernel)) rfl), (in_gd (List.mem_of_getElem? (i := 396) (by decide +kernel)) rfl), ⟨by decide +kernel, by decide +kernel⟩, by decide +kernel⟩
theorem ml_X2_196 : ML RX2 196 yX2_orNone := Or.inl (in_gd (List.mem_of_getElem? (i := 394) (by decide +kernel)) rfl)
theorem fl_X2_50 : FL RX2 50 2 11 := ⟨_, _, _, rfl, by decide, Or.inl (in_gd (List.mem_of_getElem? (i := 135) (by decide +kernel)) rfl)⟩
theorem ar_0_11 : AR 0 11 10 := by decide
theorem cf_X2_wrongHoursOrWhat : CFs yX2_wrongHoursOrWhat cX2_wrongHoursOrWhat 4 (some .int) 3 := ⟨(in_gd (List.mem_of_getElem? (i := 402) (by decide +kernel)) rfl), (in_gd (List.mem_of_getElem? (i := 1) (by decide +kernel)) rfl), (in_gd (List.mem_of_getElem? (i := 403) (by decide +kernel)) rfl), ⟨by decide +kernel, by decide +kernel⟩, by decide +kernel⟩
theorem ml_X2_199 : ML RX2 199 yX2_wrongHoursOrWhat := Or.inl (in_gd (List.mem_of_getElem? (i := 401) (by decide +kernel)) rfl)
theorem cf_X2_startPlaceTally : CFv yX2_startPlaceTally cX2_startPlaceTally 2 none 0 := ⟨(in_gd (List.mem_of_getElem? (i := 406) (by decide +kernel)) rfl), (in_gs (List.mem_of_getElem? (i := 31) (by decide +kernel)) rfl), (in_gd (List.mem_of_getElem? (i := 1) (by decide +kernel)) rfl), (in_gd (List.mem_of_getElem? (i := 407) (by decide +kernel)) rfl), ⟨by decide +kernel, by decide +kernel⟩, by decide +kernel⟩
theorem ml_X2_202 : ML RX2 202 yX2_startPlaceTally := Or.inl (in_gd (List.mem_of_getElem? (i := 404) (by decide +kernel)) rfl)
theorem cf_X2_tallyPlaces : CFv yX2_tallyPlaces cX2_tallyPlaces 2 none 0 := ⟨(in_gd (List.mem_of_getElem? (i := 410) (by decide +kernel)) rfl), (in_gs (List.mem_of_getElem? (i := 32) (by decide +kernel)) rfl), (in_gd (List.mem_of_getElem? (i := 1) (by decide +kernel)) rfl), (in_gd (List.mem_of_getElem? (i := 411) (by decide +kernel)) rfl), ⟨by decide +kernel, by decide +kernel⟩, by decide +kernel⟩
theorem ml_X2_205 : ML RX2 205 yX2_tallyPlaces := Or.inl (in_gd (List.mem_of_getElem? (i := 408) (by decide +kernel)) rfl)
theorem cf_X2_fullestPlace : CFv yX2_fullestPlace cX2_fullestPlace 3 (some .int) 0 := ⟨(in_gd (List.mem_of_getElem? (i := 414) (by decide +kernel)) rfl), (in_gs (List.mem_of_getElem? (i := 33) (by decide +kernel)) rfl), (in_gd (List.mem_of_getElem? (i := 1) (by decide +kernel)) rfl), (in_gd (List.mem_of_getElem? (i := 415) (by decide +kernel)) rfl), ⟨by decide +kernel, by decide +kernel⟩, by decide +kernel⟩
theorem ml_X2_208 : ML RX2 208 yX2_fullestPlace := Or.inl (in_gd (List.mem_of_getElem? (i := 412) (by decide +kernel)) rfl)
theorem cf_X2_firstOutOfBreath : CFv yX2_firstOutOfBreath cX2_firstOutOfBreath 2 (some .int) 0 := ⟨(in_gd (List.mem_of_getElem? (i := 422) (by decide +kernel)) rfl), (in_gs (List.mem_of_getElem? (i := 34) (by decide +kernel)) rfl), (in_gd (List.mem_of_getElem? (i := 1) (by decide +kernel)) rfl), (in_gd (List.mem_of_getElem? (i := 423) (by decide +kernel)) rfl), ⟨by decide +kernel, by decide +kernel⟩, by decide +kernel⟩
theorem ml_X2_211 : ML RX2 211 yX2_firstOutOfBreath := Or.inl (in_gd (List.mem_of_getElem? (i := 420) (by decide +kernel)) rfl)
theorem lc_X2_220 : Cond.constant RX2 220 1000000 ∈ lw_gd := (in_gd (List.mem_of_getElem? (i := 432) (by decide +kernel)) rfl)
theorem cf_X2_leastLed : CFv yX2_leastLed cX2_leastLed 3 (some .int) 0 := ⟨(in_gd (List.mem_of_getElem? (i := 435) (by decide +kernel)) rfl), (in_gs (List.mem_of_getElem? (i := 36) (by decide +kernel)) rfl), (in_gd (List.mem_of_getElem? (i := 1) (by decide +kernel)) rfl), (in_gd (List.mem_of_getElem? (i := 436) (by decide +kernel)) rfl), ⟨by decide +kernel, by decide +kernel⟩, by decide +kernel⟩
theorem ml_X2_217 : ML RX2 217 yX2_leastLed := Or.inl (in_gd (List.mem_of_getElem? (i := 433) (by decide +kernel)) rfl)
theorem cf_X2_whereColonel : CFv yX2_whereColonel cX2_whereColonel 5 (some .int) 1 := ⟨(in_gd (List.mem_of_getElem? (i := 430) (by decide +kernel)) rfl), (in_gs (List.mem_of_getElem? (i := 35) (by decide +kernel)) rfl), (in_gd (List.mem_of_getElem? (i := 1) (by decide +kernel)) rfl), (in_gd (List.mem_of_getElem? (i := 431) (by decide +kernel)) rfl), ⟨by decide +kernel, by decide +kernel⟩, by decide +kernel⟩
theorem ml_X2_214 : ML RX2 214 yX2_whereColonel := Or.inl (in_gd (List.mem_of_getElem? (i := 428) (by decide +kernel)) rfl)
theorem fl_X2_221 : FL RX2 221 0 16 := ⟨_, _, _, rfl, by decide, Or.inr ⟨"HandbagLady", in_ns (List.mem_of_getElem? (i := 55) (by decide +kernel)) rfl⟩⟩
theorem ar_2_16 : AR 2 16 5 := by decide
theorem cf_X0_allAtOnePlace : CFv yX0_allAtOnePlace cX0_allAtOnePlace 2 (some .boolean) 0 := ⟨(in_gd (List.mem_of_getElem? (i := 467) (by decide +kernel)) rfl), (in_gs (List.mem_of_getElem? (i := 37) (by decide +kernel)) rfl), (in_gd (List.mem_of_getElem? (i := 2) (by decide +kernel)) rfl), (in_gd (List.mem_of_getElem? (i := 468) (by decide +kernel)) rfl), ⟨by decide +kernel, by decide +kernel⟩, by decide +kernel⟩
theorem ml_X2_224 : ML RX2 224 yX0_allAtOnePlace := Or.inr ⟨"HandbagLady", in_ns (List.mem_of_getElem? (i := 465) (by decide +kernel)) rfl⟩
theorem ml_X2_228 : ML RX2 228 yX2_placesApart := Or.inl (in_gd (List.mem_of_getElem? (i := 473) (by decide +kernel)) rfl)
theorem cf_X2_firstAt : CFv yX2_firstAt cX2_firstAt 5 (some .int) 3 := ⟨(in_gd (List.mem_of_getElem? (i := 480) (by decide +kernel)) rfl), (in_gs (List.mem_of_getElem? (i := 38) (by decide +kernel)) rfl), (in_gd (List.mem_of_getElem? (i := 1) (by decide +kernel)) rfl), (in_gd (List.mem_of_getElem? (i := 481) (by decide +kernel)) rfl), ⟨by decide +kernel, by decide +kernel⟩, by decide +kernel⟩
theorem ml_X2_232 : ML RX2 232 yX2_firstAt := Or.inl (in_gd (List.mem_of_getElem? (i := 478) (by decide +kernel)) rfl)
theorem ar_2_9 : AR 2 9 5 := by decide
theorem ar_2_8 : AR 2 8 5 := by decide
theorem ar_2_3 : AR 2 3 6 := by decide
theorem ar_2_2 : AR 2 2 6 := by decide
theorem cf_X0_changeBags : CFv yX0_changeBags cX0_changeBags 4 none 2 := ⟨(in_gd (List.mem_of_getElem? (i := 512) (by decide +kernel)) rfl), (in_gs (List.mem_of_getElem? (i := 40) (by decide +kernel)) rfl), (in_gd (List.mem_of_getElem? (i := 2) (by decide +kernel)) rfl), (in_gd (List.mem_of_getElem? (i := 513) (by decide +kernel)) rfl), ⟨by decide +kernel, by decide +kernel⟩, by decide +kernel⟩
theorem ml_X2_238 : ML RX2 238 yX0_changeBags := Or.inr ⟨"HandbagLady", in_ns (List.mem_of_getElem? (i := 510) (by decide +kernel)) rfl⟩
theorem cf_X0_allLedHours : CFv yX0_allLedHours cX0_allLedHours 3 (some .int) 0 := ⟨(in_gd (List.mem_of_getElem? (i := 508) (by decide +kernel)) rfl), (in_gs (List.mem_of_getElem? (i := 39) (by decide +kernel)) rfl), (in_gd (List.mem_of_getElem? (i := 2) (by decide +kernel)) rfl), (in_gd (List.mem_of_getElem? (i := 509) (by decide +kernel)) rfl), ⟨by decide +kernel, by decide +kernel⟩, by decide +kernel⟩
theorem ml_X2_235 : ML RX2 235 yX0_allLedHours := Or.inr ⟨"HandbagLady", in_ns (List.mem_of_getElem? (i := 506) (by decide +kernel)) rfl⟩
theorem cf_X2_strongestBag : CFv yX2_strongestBag cX2_strongestBag 3 (some .int) 0 := ⟨(in_gd (List.mem_of_getElem? (i := 528) (by decide +kernel)) rfl), (in_gs (List.mem_of_getElem? (i := 43) (by decide +kernel)) rfl), (in_gd (List.mem_of_getElem? (i := 1) (by decide +kernel)) rfl), (in_gd (List.mem_of_getElem? (i := 529) (by decide +kernel)) rfl), ⟨by decide +kernel, by decide +kernel⟩, by decide +kernel⟩
theorem ml_X2_245 : ML RX2 245 yX2_strongestBag := Or.inl (in_gd (List.mem_of_getElem? (i := 526) (by decide +kernel)) rfl)
theorem cf_X2_strongestWilled : CFv yX2_strongestWilled cX2_strongestWilled 3 (some .int) 0 := ⟨(in_gd (List.mem_of_getElem? (i := 524) (by decide +kernel)) rfl), (in_gs (List.mem_of_getElem? (i := 42) (by decide +kernel)) rfl), (in_gd (List.mem_of_getElem? (i := 1) (by decide +kernel)) rfl), (in_gd (List.mem_of_getElem? (i := 525) (by decide +kernel)) rfl), ⟨by decide +kernel, by decide +kernel⟩, by decide +kernel⟩
theorem ml_X2_242 : ML RX2 242 yX2_strongestWilled := Or.inl (in_gd (List.mem_of_getElem? (i := 522) (by decide +kernel)) rfl)
theorem kb_24 : (Int8.ofInt 24).toInt32 = 24 := by decide
theorem lc_X2_250 : Cond.constant RX2 250 65536 ∈ lw_gd := (in_gd (List.mem_of_getElem? (i := 540) (by decide +kernel)) rfl)
theorem lc_X2_249 : Cond.constant RX2 249 2147483647 ∈ lw_gd := (in_gd (List.mem_of_getElem? (i := 539) (by decide +kernel)) rfl)
theorem ks_12345 : (Int16.ofInt 12345).toInt32 = 12345 := by decide
theorem lc_X2_248 : Cond.constant RX2 248 1103515245 ∈ lw_gd := (in_gd (List.mem_of_getElem? (i := 538) (by decide +kernel)) rfl)
theorem kb_20 : (Int8.ofInt 20).toInt32 = 20 := by decide
theorem fl_X2_56 : FL RX2 56 2 12 := ⟨_, _, _, rfl, by decide, Or.inl (in_gd (List.mem_of_getElem? (i := 136) (by decide +kernel)) rfl)⟩
theorem cf_X1_choiceOf : CFv yX1_choiceOf cX1_choiceOf 2 (some .int) 1 := ⟨(in_gd (List.mem_of_getElem? (i := 565) (by decide +kernel)) rfl), (in_gs (List.mem_of_getElem? (i := 48) (by decide +kernel)) rfl), (in_gd (List.mem_of_getElem? (i := 3) (by decide +kernel)) rfl), (in_gd (List.mem_of_getElem? (i := 566) (by decide +kernel)) rfl), ⟨by decide +kernel, by decide +kernel⟩, by decide +kernel⟩
theorem ml_X2_280 : ML RX2 280 yX1_choiceOf := Or.inr ⟨"HandbagLady", in_ns (List.mem_of_getElem? (i := 563) (by decide +kernel)) rfl⟩
theorem cf_X0_takeAllBags : CFv yX0_takeAllBags cX0_takeAllBags 2 none 0 := ⟨(in_gd (List.mem_of_getElem? (i := 561) (by decide +kernel)) rfl), (in_gs (List.mem_of_getElem? (i := 47) (by decide +kernel)) rfl), (in_gd (List.mem_of_getElem? (i := 2) (by decide +kernel)) rfl), (in_gd (List.mem_of_getElem? (i := 562) (by decide +kernel)) rfl), ⟨by decide +kernel, by decide +kernel⟩, by decide +kernel⟩
theorem ml_X2_277 : ML RX2 277 yX0_takeAllBags := Or.inr ⟨"HandbagLady", in_ns (List.mem_of_getElem? (i := 559) (by decide +kernel)) rfl⟩
theorem fl_X2_254 : FL RX2 254 1 4 := ⟨_, _, _, rfl, by decide, Or.inr ⟨"HandbagLady", in_ns (List.mem_of_getElem? (i := 112) (by decide +kernel)) rfl⟩⟩
theorem cf_X1_bestBagOf : CFv yX1_bestBagOf cX1_bestBagOf 2 (some .int) 1 := ⟨(in_gd (List.mem_of_getElem? (i := 574) (by decide +kernel)) rfl), (in_gs (List.mem_of_getElem? (i := 50) (by decide +kernel)) rfl), (in_gd (List.mem_of_getElem? (i := 3) (by decide +kernel)) rfl), (in_gd (List.mem_of_getElem? (i := 575) (by decide +kernel)) rfl), ⟨by decide +kernel, by decide +kernel⟩, by decide +kernel⟩
theorem ml_X2_271 : ML RX2 271 yX1_bestBagOf := Or.inr ⟨"HandbagLady", in_ns (List.mem_of_getElem? (i := 572) (by decide +kernel)) rfl⟩
theorem cf_X1_decode : CFv yX1_decode cX1_decode 8 (some .boolean) 1 := ⟨(in_gd (List.mem_of_getElem? (i := 552) (by decide +kernel)) rfl), (in_gs (List.mem_of_getElem? (i := 45) (by decide +kernel)) rfl), (in_gd (List.mem_of_getElem? (i := 3) (by decide +kernel)) rfl), (in_gd (List.mem_of_getElem? (i := 553) (by decide +kernel)) rfl), ⟨by decide +kernel, by decide +kernel⟩, by decide +kernel⟩
theorem ml_X2_257 : ML RX2 257 yX1_decode := Or.inr ⟨"HandbagLady", in_ns (List.mem_of_getElem? (i := 550) (by decide +kernel)) rfl⟩
theorem cf_X2_thinkGiven : CFv yX2_thinkGiven cX2_thinkGiven 2 none 0 := ⟨(in_gd (List.mem_of_getElem? (i := 557) (by decide +kernel)) rfl), (in_gs (List.mem_of_getElem? (i := 46) (by decide +kernel)) rfl), (in_gd (List.mem_of_getElem? (i := 1) (by decide +kernel)) rfl), (in_gd (List.mem_of_getElem? (i := 558) (by decide +kernel)) rfl), ⟨by decide +kernel, by decide +kernel⟩, by decide +kernel⟩
theorem ml_X2_260 : ML RX2 260 yX2_thinkGiven := Or.inl (in_gd (List.mem_of_getElem? (i := 555) (by decide +kernel)) rfl)
theorem cf_X1_keepBest : CFv yX1_keepBest cX1_keepBest 1 none 0 := ⟨(in_gd (List.mem_of_getElem? (i := 569) (by decide +kernel)) rfl), (in_gs (List.mem_of_getElem? (i := 49) (by decide +kernel)) rfl), (in_gd (List.mem_of_getElem? (i := 3) (by decide +kernel)) rfl), (in_gd (List.mem_of_getElem? (i := 570) (by decide +kernel)) rfl), ⟨by decide +kernel, by decide +kernel⟩, by decide +kernel⟩
theorem ml_X2_268 : ML RX2 268 yX1_keepBest := Or.inr ⟨"HandbagLady", in_ns (List.mem_of_getElem? (i := 567) (by decide +kernel)) rfl⟩
theorem cf_X1_start : CFv yX1_start cX1_start 4 none 2 := ⟨(in_gd (List.mem_of_getElem? (i := 547) (by decide +kernel)) rfl), (in_gs (List.mem_of_getElem? (i := 44) (by decide +kernel)) rfl), (in_gd (List.mem_of_getElem? (i := 3) (by decide +kernel)) rfl), (in_gd (List.mem_of_getElem? (i := 548) (by decide +kernel)) rfl), ⟨by decide +kernel, by decide +kernel⟩, by decide +kernel⟩
theorem ml_X2_251 : ML RX2 251 yX1_start := Or.inr ⟨"HandbagLady", in_ns (List.mem_of_getElem? (i := 545) (by decide +kernel)) rfl⟩
theorem kb_62 : (Int8.ofInt 62).toInt32 = 62 := by decide
theorem cf_X2_ledHoursBelow : CFv yX2_ledHoursBelow cX2_ledHoursBelow 4 (some .int) 2 := ⟨(in_gd (List.mem_of_getElem? (i := 582) (by decide +kernel)) rfl), (in_gs (List.mem_of_getElem? (i := 51) (by decide +kernel)) rfl), (in_gd (List.mem_of_getElem? (i := 1) (by decide +kernel)) rfl), (in_gd (List.mem_of_getElem? (i := 583) (by decide +kernel)) rfl), ⟨by decide +kernel, by decide +kernel⟩, by decide +kernel⟩
theorem ml_X2_274 : ML RX2 274 yX2_ledHoursBelow := Or.inl (in_gd (List.mem_of_getElem? (i := 580) (by decide +kernel)) rfl)
theorem ml_X2_283 : ML RX2 283 yX0_rankOfBearer := Or.inr ⟨"HandbagLady", in_ns (List.mem_of_getElem? (i := 588) (by decide +kernel)) rfl⟩
theorem cf_X0_bagRanked : CFv yX0_bagRanked cX0_bagRanked 3 (some .int) 1 := ⟨(in_gd (List.mem_of_getElem? (i := 594) (by decide +kernel)) rfl), (in_gs (List.mem_of_getElem? (i := 53) (by decide +kernel)) rfl), (in_gd (List.mem_of_getElem? (i := 2) (by decide +kernel)) rfl), (in_gd (List.mem_of_getElem? (i := 595) (by decide +kernel)) rfl), ⟨by decide +kernel, by decide +kernel⟩, by decide +kernel⟩
theorem ml_X2_286 : ML RX2 286 yX0_bagRanked := Or.inr ⟨"HandbagLady", in_ns (List.mem_of_getElem? (i := 592) (by decide +kernel)) rfl⟩
theorem cf_X0_bearerRanked : CFv yX0_bearerRanked cX0_bearerRanked 3 (some .int) 1 := ⟨(in_gd (List.mem_of_getElem? (i := 613) (by decide +kernel)) rfl), (in_gs (List.mem_of_getElem? (i := 56) (by decide +kernel)) rfl), (in_gd (List.mem_of_getElem? (i := 2) (by decide +kernel)) rfl), (in_gd (List.mem_of_getElem? (i := 614) (by decide +kernel)) rfl), ⟨by decide +kernel, by decide +kernel⟩, by decide +kernel⟩
theorem ml_X2_289 : ML RX2 289 yX0_bearerRanked := Or.inr ⟨"HandbagLady", in_ns (List.mem_of_getElem? (i := 611) (by decide +kernel)) rfl⟩
theorem ml_X2_292 : ML RX2 292 yX0_plainPullOf := Or.inr ⟨"HandbagLady", in_ns (List.mem_of_getElem? (i := 616) (by decide +kernel)) rfl⟩
theorem fl_X2_41 : FL RX2 41 2 8 := ⟨_, _, _, rfl, by decide, Or.inl (in_gd (List.mem_of_getElem? (i := 132) (by decide +kernel)) rfl)⟩
theorem ar_0_8 : AR 0 8 12 := by decide
theorem fw_2_9 : FW 2 9 .int := ⟨_, _, _, rfl, rfl, by decide +kernel⟩
theorem kb_12 : (Int8.ofInt 12).toInt32 = 12 := by decide
theorem cf_X2_firstUntrue : CFv yX2_firstUntrue cX2_firstUntrue 3 (some .int) 1 := ⟨(in_gd (List.mem_of_getElem? (i := 627) (by decide +kernel)) rfl), (in_gs (List.mem_of_getElem? (i := 57) (by decide +kernel)) rfl), (in_gd (List.mem_of_getElem? (i := 1) (by decide +kernel)) rfl), (in_gd (List.mem_of_getElem? (i := 628) (by decide +kernel)) rfl), ⟨by decide +kernel, by decide +kernel⟩, by decide +kernel⟩
theorem ml_X2_295 : ML RX2 295 yX2_firstUntrue := Or.inl (in_gd (List.mem_of_getElem? (i := 625) (by decide +kernel)) rfl)
theorem ar_2_1 : AR 2 1 6 := by decide
theorem kb_63 : (Int8.ofInt 63).toInt32 = 63 := by decide
theorem lc_J6_267 : Cond.constant RJ6 267 252645135 ∈ lw_gd := (in_gd (List.mem_of_getElem? (i := 650) (by decide +kernel)) rfl)
theorem lc_J6_266 : Cond.constant RJ6 266 858993459 ∈ lw_gd := (in_gd (List.mem_of_getElem? (i := 649) (by decide +kernel)) rfl)
theorem lc_J6_265 : Cond.constant RJ6 265 1431655765 ∈ lw_gd := (in_gd (List.mem_of_getElem? (i := 648) (by decide +kernel)) rfl)
theorem cf_J6_bitCount_0f7a4 : CFs yJ6_bitCount_0f7a4 cJ6_bitCount_0f7a4 1 (some .int) 1 := ⟨(in_gd (List.mem_of_getElem? (i := 646) (by decide +kernel)) rfl), (in_gd (List.mem_of_getElem? (i := 7) (by decide +kernel)) rfl), (in_gd (List.mem_of_getElem? (i := 647) (by decide +kernel)) rfl), ⟨by decide +kernel, by decide +kernel⟩, by decide +kernel⟩
theorem ml_X2_302 : ML RX2 302 yJ6_bitCount_0f7a4 := Or.inl (in_gd (List.mem_of_getElem? (i := 645) (by decide +kernel)) rfl)
theorem cf_X2_placesByKinds : CFv yX2_placesByKinds cX2_placesByKinds 7 (some .int) 4 := ⟨(in_gd (List.mem_of_getElem? (i := 643) (by decide +kernel)) rfl), (in_gs (List.mem_of_getElem? (i := 58) (by decide +kernel)) rfl), (in_gd (List.mem_of_getElem? (i := 1) (by decide +kernel)) rfl), (in_gd (List.mem_of_getElem? (i := 644) (by decide +kernel)) rfl), ⟨by decide +kernel, by decide +kernel⟩, by decide +kernel⟩
theorem ml_X2_298 : ML RX2 298 yX2_placesByKinds := Or.inl (in_gd (List.mem_of_getElem? (i := 641) (by decide +kernel)) rfl)
theorem cf_X0_goArmInArm : CFv yX0_goArmInArm cX0_goArmInArm 5 none 2 := ⟨(in_gd (List.mem_of_getElem? (i := 657) (by decide +kernel)) rfl), (in_gs (List.mem_of_getElem? (i := 59) (by decide +kernel)) rfl), (in_gd (List.mem_of_getElem? (i := 2) (by decide +kernel)) rfl), (in_gd (List.mem_of_getElem? (i := 658) (by decide +kernel)) rfl), ⟨by decide +kernel, by decide +kernel⟩, by decide +kernel⟩
theorem ml_X2_307 : ML RX2 307 yX0_goArmInArm := Or.inr ⟨"HandbagLady", in_ns (List.mem_of_getElem? (i := 655) (by decide +kernel)) rfl⟩
theorem fl_X2_326 : FL RX2 326 0 18 := ⟨_, _, _, rfl, by decide, Or.inr ⟨"HandbagLady", in_ns (List.mem_of_getElem? (i := 59) (by decide +kernel)) rfl⟩⟩
theorem kb_100 : (Int8.ofInt 100).toInt32 = 100 := by decide
theorem cf_X2_commonDivisor : CFs yX2_commonDivisor cX2_commonDivisor 11 (some .long) 2 := ⟨(in_gd (List.mem_of_getElem? (i := 681) (by decide +kernel)) rfl), (in_gd (List.mem_of_getElem? (i := 1) (by decide +kernel)) rfl), (in_gd (List.mem_of_getElem? (i := 682) (by decide +kernel)) rfl), ⟨by decide +kernel, by decide +kernel⟩, by decide +kernel⟩
theorem ml_X2_320 : ML RX2 320 yX2_commonDivisor := Or.inl (in_gd (List.mem_of_getElem? (i := 680) (by decide +kernel)) rfl)
theorem lc_X2_324 : Cond.constantLong RX2 324 (-9) ∈ lw_gd := (in_gd (List.mem_of_getElem? (i := 683) (by decide +kernel)) rfl)
theorem cf_X2_walkAsleep : CFv yX2_walkAsleep cX2_walkAsleep 9 (some .long) 4 := ⟨(in_gd (List.mem_of_getElem? (i := 678) (by decide +kernel)) rfl), (in_gs (List.mem_of_getElem? (i := 63) (by decide +kernel)) rfl), (in_gd (List.mem_of_getElem? (i := 1) (by decide +kernel)) rfl), (in_gd (List.mem_of_getElem? (i := 679) (by decide +kernel)) rfl), ⟨by decide +kernel, by decide +kernel⟩, by decide +kernel⟩
theorem ml_X2_316 : ML RX2 316 yX2_walkAsleep := Or.inl (in_gd (List.mem_of_getElem? (i := 676) (by decide +kernel)) rfl)
theorem cf_X2_wrongSleep : CFv yX2_wrongSleep cX2_wrongSleep 6 (some .int) 5 := ⟨(in_gd (List.mem_of_getElem? (i := 673) (by decide +kernel)) rfl), (in_gs (List.mem_of_getElem? (i := 62) (by decide +kernel)) rfl), (in_gd (List.mem_of_getElem? (i := 1) (by decide +kernel)) rfl), (in_gd (List.mem_of_getElem? (i := 674) (by decide +kernel)) rfl), ⟨by decide +kernel, by decide +kernel⟩, by decide +kernel⟩
theorem ml_X2_310 : ML RX2 310 yX2_wrongSleep := Or.inl (in_gd (List.mem_of_getElem? (i := 671) (by decide +kernel)) rfl)
theorem lc_X2_314 : Cond.constantLong RX2 314 4000000000000000000 ∈ lw_gd := (in_gd (List.mem_of_getElem? (i := 675) (by decide +kernel)) rfl)
theorem fl_X3_7 : FL RX3 7 3 0 := ⟨_, _, _, rfl, by decide, Or.inl (in_gd (List.mem_of_getElem? (i := 690) (by decide +kernel)) rfl)⟩
theorem ar_13_0 : AR 13 0 7 := by decide
theorem oc_13 : 13 < 14 ∧ co 13 = 3 := by decide
theorem lc_X3_86 : Cond.constantLong RX3 86 4000000000000000000 ∈ lw_gd := (in_gd (List.mem_of_getElem? (i := 1184) (by decide +kernel)) rfl)
theorem fl_X3_83 : FL RX3 83 3 11 := ⟨_, _, _, rfl, by decide, Or.inl (in_gd (List.mem_of_getElem? (i := 701) (by decide +kernel)) rfl)⟩
theorem fl_X3_88 : FL RX3 88 3 12 := ⟨_, _, _, rfl, by decide, Or.inl (in_gd (List.mem_of_getElem? (i := 702) (by decide +kernel)) rfl)⟩
theorem cf_X3_isBearer : CFv yX3_isBearer cX3_isBearer 2 (some .boolean) 1 := ⟨(in_gd (List.mem_of_getElem? (i := 869) (by decide +kernel)) rfl), (in_gs (List.mem_of_getElem? (i := 76) (by decide +kernel)) rfl), (in_gd (List.mem_of_getElem? (i := 4) (by decide +kernel)) rfl), (in_gd (List.mem_of_getElem? (i := 870) (by decide +kernel)) rfl), ⟨by decide +kernel, by decide +kernel⟩, by decide +kernel⟩
theorem ml_X3_91 : ML RX3 91 yX3_isBearer := Or.inl (in_gd (List.mem_of_getElem? (i := 867) (by decide +kernel)) rfl)
theorem fl_X3_99 : FL RX3 99 3 19 := ⟨_, _, _, rfl, by decide, Or.inl (in_gd (List.mem_of_getElem? (i := 709) (by decide +kernel)) rfl)⟩
theorem fl_X3_43 : FL RX3 43 3 15 := ⟨_, _, _, rfl, by decide, Or.inl (in_gd (List.mem_of_getElem? (i := 705) (by decide +kernel)) rfl)⟩
theorem ar_13_15 : AR 13 15 96 := by decide
theorem fw_3_19 : FW 3 19 .int := ⟨_, _, _, rfl, rfl, by decide +kernel⟩
theorem cf_X3_no : CFv yX3_no cX3_no 2 (some .int) 1 := ⟨(in_gd (List.mem_of_getElem? (i := 814) (by decide +kernel)) rfl), (in_gs (List.mem_of_getElem? (i := 64) (by decide +kernel)) rfl), (in_gd (List.mem_of_getElem? (i := 4) (by decide +kernel)) rfl), (in_gd (List.mem_of_getElem? (i := 815) (by decide +kernel)) rfl), ⟨by decide +kernel, by decide +kernel⟩, by decide +kernel⟩
theorem ml_X3_102 : ML RX3 102 yX3_no := Or.inl (in_gd (List.mem_of_getElem? (i := 812) (by decide +kernel)) rfl)
theorem cf_X3_bound : CFs yX3_bound cX3_bound 3 (some .int) 3 := ⟨(in_gd (List.mem_of_getElem? (i := 810) (by decide +kernel)) rfl), (in_gd (List.mem_of_getElem? (i := 4) (by decide +kernel)) rfl), (in_gd (List.mem_of_getElem? (i := 811) (by decide +kernel)) rfl), ⟨by decide +kernel, by decide +kernel⟩, by decide +kernel⟩
theorem ml_X3_95 : ML RX3 95 yX3_bound := Or.inl (in_gd (List.mem_of_getElem? (i := 809) (by decide +kernel)) rfl)
theorem fl_X3_106 : FL RX3 106 3 20 := ⟨_, _, _, rfl, by decide, Or.inl (in_gd (List.mem_of_getElem? (i := 710) (by decide +kernel)) rfl)⟩
theorem fl_X3_52 : FL RX3 52 3 18 := ⟨_, _, _, rfl, by decide, Or.inl (in_gd (List.mem_of_getElem? (i := 708) (by decide +kernel)) rfl)⟩
theorem ar_13_18 : AR 13 18 144 := by decide
theorem cf_X3_next : CFv yX3_next cX3_next 1 (some .int) 0 := ⟨(in_gd (List.mem_of_getElem? (i := 826) (by decide +kernel)) rfl), (in_gs (List.mem_of_getElem? (i := 66) (by decide +kernel)) rfl), (in_gd (List.mem_of_getElem? (i := 4) (by decide +kernel)) rfl), (in_gd (List.mem_of_getElem? (i := 827) (by decide +kernel)) rfl), ⟨by decide +kernel, by decide +kernel⟩, by decide +kernel⟩
theorem ml_X3_109 : ML RX3 109 yX3_next := Or.inl (in_gd (List.mem_of_getElem? (i := 824) (by decide +kernel)) rfl)
theorem cf_X3_isIn : CFs yX3_isIn cX3_isIn 3 (some .boolean) 3 := ⟨(in_gd (List.mem_of_getElem? (i := 837) (by decide +kernel)) rfl), (in_gd (List.mem_of_getElem? (i := 4) (by decide +kernel)) rfl), (in_gd (List.mem_of_getElem? (i := 838) (by decide +kernel)) rfl), ⟨by decide +kernel, by decide +kernel⟩, by decide +kernel⟩
theorem ml_X3_113 : ML RX3 113 yX3_isIn := Or.inl (in_gd (List.mem_of_getElem? (i := 836) (by decide +kernel)) rfl)
theorem fw_3_20 : FW 3 20 .int := ⟨_, _, _, rfl, rfl, by decide +kernel⟩
theorem cf_X3_readsDigits : CFv yX3_readsDigits cX3_readsDigits 5 (some .boolean) 2 := ⟨(in_gd (List.mem_of_getElem? (i := 834) (by decide +kernel)) rfl), (in_gs (List.mem_of_getElem? (i := 68) (by decide +kernel)) rfl), (in_gd (List.mem_of_getElem? (i := 4) (by decide +kernel)) rfl), (in_gd (List.mem_of_getElem? (i := 835) (by decide +kernel)) rfl), ⟨by decide +kernel, by decide +kernel⟩, by decide +kernel⟩
theorem ml_X3_117 : ML RX3 117 yX3_readsDigits := Or.inl (in_gd (List.mem_of_getElem? (i := 832) (by decide +kernel)) rfl)
theorem fl_X3_46 : FL RX3 46 3 16 := ⟨_, _, _, rfl, by decide, Or.inl (in_gd (List.mem_of_getElem? (i := 706) (by decide +kernel)) rfl)⟩
theorem fl_X3_121 : FL RX3 121 3 21 := ⟨_, _, _, rfl, by decide, Or.inl (in_gd (List.mem_of_getElem? (i := 711) (by decide +kernel)) rfl)⟩
theorem fl_X3_49 : FL RX3 49 3 17 := ⟨_, _, _, rfl, by decide, Or.inl (in_gd (List.mem_of_getElem? (i := 707) (by decide +kernel)) rfl)⟩
theorem ar_13_16 : AR 13 16 48 := by decide
theorem ar_13_17 : AR 13 17 48 := by decide
theorem cf_X3_readsAll : CFv yX3_readsAll cX3_readsAll 3 (some .boolean) 2 := ⟨(in_gd (List.mem_of_getElem? (i := 830) (by decide +kernel)) rfl), (in_gs (List.mem_of_getElem? (i := 67) (by decide +kernel)) rfl), (in_gd (List.mem_of_getElem? (i := 4) (by decide +kernel)) rfl), (in_gd (List.mem_of_getElem? (i := 831) (by decide +kernel)) rfl), ⟨by decide +kernel, by decide +kernel⟩, by decide +kernel⟩
theorem ml_X3_124 : ML RX3 124 yX3_readsAll := Or.inl (in_gd (List.mem_of_getElem? (i := 828) (by decide +kernel)) rfl)
theorem kb_104 : (Int8.ofInt 104).toInt32 = 104 := by decide
theorem kb_102 : (Int8.ofInt 102).toInt32 = 102 := by decide
theorem kb_103 : (Int8.ofInt 103).toInt32 = 103 := by decide
theorem kb_108 : (Int8.ofInt 108).toInt32 = 108 := by decide
theorem kb_98 : (Int8.ofInt 98).toInt32 = 98 := by decide
theorem fl_X3_37 : FL RX3 37 3 9 := ⟨_, _, _, rfl, by decide, Or.inl (in_gd (List.mem_of_getElem? (i := 699) (by decide +kernel)) rfl)⟩
theorem ar_13_9 : AR 13 9 5 := by decide
theorem fl_X3_22 : FL RX3 22 3 4 := ⟨_, _, _, rfl, by decide, Or.inl (in_gd (List.mem_of_getElem? (i := 694) (by decide +kernel)) rfl)⟩
theorem ar_13_4 : AR 13 4 6 := by decide
theorem cf_X3_whoHas : CFv yX3_whoHas cX3_whoHas 3 (some .int) 1 := ⟨(in_gd (List.mem_of_getElem? (i := 877) (by decide +kernel)) rfl), (in_gs (List.mem_of_getElem? (i := 78) (by decide +kernel)) rfl), (in_gd (List.mem_of_getElem? (i := 4) (by decide +kernel)) rfl), (in_gd (List.mem_of_getElem? (i := 878) (by decide +kernel)) rfl), ⟨by decide +kernel, by decide +kernel⟩, by decide +kernel⟩
theorem ml_X3_188 : ML RX3 188 yX3_whoHas := Or.inl (in_gd (List.mem_of_getElem? (i := 875) (by decide +kernel)) rfl)
theorem fl_X3_13 : FL RX3 13 3 1 := ⟨_, _, _, rfl, by decide, Or.inl (in_gd (List.mem_of_getElem? (i := 691) (by decide +kernel)) rfl)⟩
theorem fl_X3_16 : FL RX3 16 3 2 := ⟨_, _, _, rfl, by decide, Or.inl (in_gd (List.mem_of_getElem? (i := 692) (by decide +kernel)) rfl)⟩
theorem fl_X3_25 : FL RX3 25 3 5 := ⟨_, _, _, rfl, by decide, Or.inl (in_gd (List.mem_of_getElem? (i := 695) (by decide +kernel)) rfl)⟩
theorem ar_13_1 : AR 13 1 6 := by decide
theorem ar_13_2 : AR 13 2 6 := by decide
theorem ar_13_5 : AR 13 5 6 := by decide
theorem cf_X3_isFriendOut : CFv yX3_isFriendOut cX3_isFriendOut 2 (some .boolean) 1 := ⟨(in_gd (List.mem_of_getElem? (i := 909) (by decide +kernel)) rfl), (in_gs (List.mem_of_getElem? (i := 86) (by decide +kernel)) rfl), (in_gd (List.mem_of_getElem? (i := 4) (by decide +kernel)) rfl), (in_gd (List.mem_of_getElem? (i := 910) (by decide +kernel)) rfl), ⟨by decide +kernel, by decide +kernel⟩, by decide +kernel⟩
theorem ml_X3_195 : ML RX3 195 yX3_isFriendOut := Or.inl (in_gd (List.mem_of_getElem? (i := 907) (by decide +kernel)) rfl)
theorem fl_X3_28 : FL RX3 28 3 6 := ⟨_, _, _, rfl, by decide, Or.inl (in_gd (List.mem_of_getElem? (i := 696) (by decide +kernel)) rfl)⟩
theorem cf_X3_pullOf : CFv yX3_pullOf cX3_pullOf 2 (some .int) 1 := ⟨(in_gd (List.mem_of_getElem? (i := 905) (by decide +kernel)) rfl), (in_gs (List.mem_of_getElem? (i := 85) (by decide +kernel)) rfl), (in_gd (List.mem_of_getElem? (i := 4) (by decide +kernel)) rfl), (in_gd (List.mem_of_getElem? (i := 906) (by decide +kernel)) rfl), ⟨by decide +kernel, by decide +kernel⟩, by decide +kernel⟩
theorem ml_X3_198 : ML RX3 198 yX3_pullOf := Or.inl (in_gd (List.mem_of_getElem? (i := 903) (by decide +kernel)) rfl)
theorem ar_13_6 : AR 13 6 5 := by decide
theorem fl_X3_151 : FL RX3 151 3 14 := ⟨_, _, _, rfl, by decide, Or.inl (in_gd (List.mem_of_getElem? (i := 704) (by decide +kernel)) rfl)⟩
theorem fl_X3_127 : FL RX3 127 3 13 := ⟨_, _, _, rfl, by decide, Or.inl (in_gd (List.mem_of_getElem? (i := 703) (by decide +kernel)) rfl)⟩
theorem fl_X3_34 : FL RX3 34 3 8 := ⟨_, _, _, rfl, by decide, Or.inl (in_gd (List.mem_of_getElem? (i := 698) (by decide +kernel)) rfl)⟩
theorem fl_X3_19 : FL RX3 19 3 3 := ⟨_, _, _, rfl, by decide, Or.inl (in_gd (List.mem_of_getElem? (i := 693) (by decide +kernel)) rfl)⟩
theorem ar_13_3 : AR 13 3 6 := by decide
theorem ar_13_8 : AR 13 8 5 := by decide
theorem fl_X3_31 : FL RX3 31 3 7 := ⟨_, _, _, rfl, by decide, Or.inl (in_gd (List.mem_of_getElem? (i := 697) (by decide +kernel)) rfl)⟩
theorem fl_X3_40 : FL RX3 40 3 10 := ⟨_, _, _, rfl, by decide, Or.inl (in_gd (List.mem_of_getElem? (i := 700) (by decide +kernel)) rfl)⟩
theorem cf_X3_towards : CFs yX3_towards cX3_towards 3 (some .int) 2 := ⟨(in_gd (List.mem_of_getElem? (i := 920) (by decide +kernel)) rfl), (in_gd (List.mem_of_getElem? (i := 4) (by decide +kernel)) rfl), (in_gd (List.mem_of_getElem? (i := 921) (by decide +kernel)) rfl), ⟨by decide +kernel, by decide +kernel⟩, by decide +kernel⟩
theorem ml_X3_205 : ML RX3 205 yX3_towards := Or.inl (in_gd (List.mem_of_getElem? (i := 919) (by decide +kernel)) rfl)
theorem ar_13_10 : AR 13 10 5 := by decide
theorem ar_13_7 : AR 13 7 5 := by decide
theorem cf_X3_goalOf : CFv yX3_goalOf cX3_goalOf 3 (some .int) 2 := ⟨(in_gd (List.mem_of_getElem? (i := 917) (by decide +kernel)) rfl), (in_gs (List.mem_of_getElem? (i := 88) (by decide +kernel)) rfl), (in_gd (List.mem_of_getElem? (i := 4) (by decide +kernel)) rfl), (in_gd (List.mem_of_getElem? (i := 918) (by decide +kernel)) rfl), ⟨by decide +kernel, by decide +kernel⟩, by decide +kernel⟩
theorem ml_X3_201 : ML RX3 201 yX3_goalOf := Or.inl (in_gd (List.mem_of_getElem? (i := 915) (by decide +kernel)) rfl)
theorem fl_X3_61 : FL RX3 61 3 28 := ⟨_, _, _, rfl, by decide, Or.inl (in_gd (List.mem_of_getElem? (i := 718) (by decide +kernel)) rfl)⟩
theorem fl_X3_58 : FL RX3 58 3 27 := ⟨_, _, _, rfl, by decide, Or.inl (in_gd (List.mem_of_getElem? (i := 717) (by decide +kernel)) rfl)⟩
theorem cf_X3_isLed : CFv yX3_isLed cX3_isLed 2 (some .boolean) 1 := ⟨(in_gd (List.mem_of_getElem? (i := 901) (by decide +kernel)) rfl), (in_gs (List.mem_of_getElem? (i := 84) (by decide +kernel)) rfl), (in_gd (List.mem_of_getElem? (i := 4) (by decide +kernel)) rfl), (in_gd (List.mem_of_getElem? (i := 902) (by decide +kernel)) rfl), ⟨by decide +kernel, by decide +kernel⟩, by decide +kernel⟩
theorem ml_X3_208 : ML RX3 208 yX3_isLed := Or.inl (in_gd (List.mem_of_getElem? (i := 899) (by decide +kernel)) rfl)
theorem ar_13_27 : AR 13 27 5 := by decide
theorem cf_X3_goesLed : CFv yX3_goesLed cX3_goesLed 5 none 1 := ⟨(in_gd (List.mem_of_getElem? (i := 913) (by decide +kernel)) rfl), (in_gs (List.mem_of_getElem? (i := 87) (by decide +kernel)) rfl), (in_gd (List.mem_of_getElem? (i := 4) (by decide +kernel)) rfl), (in_gd (List.mem_of_getElem? (i := 914) (by decide +kernel)) rfl), ⟨by decide +kernel, by decide +kernel⟩, by decide +kernel⟩
theorem ml_X3_211 : ML RX3 211 yX3_goesLed := Or.inl (in_gd (List.mem_of_getElem? (i := 911) (by decide +kernel)) rfl)
theorem ar_13_28 : AR 13 28 5 := by decide
theorem fl_X3_64 : FL RX3 64 3 30 := ⟨_, _, _, rfl, by decide, Or.inl (in_gd (List.mem_of_getElem? (i := 720) (by decide +kernel)) rfl)⟩
theorem fl_X3_217 : FL RX3 217 3 29 := ⟨_, _, _, rfl, by decide, Or.inl (in_gd (List.mem_of_getElem? (i := 719) (by decide +kernel)) rfl)⟩
theorem cf_X3_goesOne : CFv yX3_goesOne cX3_goesOne 3 none 2 := ⟨(in_gd (List.mem_of_getElem? (i := 897) (by decide +kernel)) rfl), (in_gs (List.mem_of_getElem? (i := 83) (by decide +kernel)) rfl), (in_gd (List.mem_of_getElem? (i := 4) (by decide +kernel)) rfl), (in_gd (List.mem_of_getElem? (i := 898) (by decide +kernel)) rfl), ⟨by decide +kernel, by decide +kernel⟩, by decide +kernel⟩
theorem ml_X3_214 : ML RX3 214 yX3_goesOne := Or.inl (in_gd (List.mem_of_getElem? (i := 895) (by decide +kernel)) rfl)
theorem fw_3_29 : FW 3 29 .int := ⟨_, _, _, rfl, rfl, by decide +kernel⟩
theorem fw_3_13 : FW 3 13 .int := ⟨_, _, _, rfl, rfl, by decide +kernel⟩
theorem cf_X3_goesHour : CFv yX3_goesHour cX3_goesHour 3 none 1 := ⟨(in_gd (List.mem_of_getElem? (i := 893) (by decide +kernel)) rfl), (in_gs (List.mem_of_getElem? (i := 82) (by decide +kernel)) rfl), (in_gd (List.mem_of_getElem? (i := 4) (by decide +kernel)) rfl), (in_gd (List.mem_of_getElem? (i := 894) (by decide +kernel)) rfl), ⟨by decide +kernel, by decide +kernel⟩, by decide +kernel⟩
theorem ml_X3_130 : ML RX3 130 yX3_goesHour := Or.inl (in_gd (List.mem_of_getElem? (i := 891) (by decide +kernel)) rfl)
theorem fw_3_11 : FW 3 11 .int := ⟨_, _, _, rfl, rfl, by decide +kernel⟩
theorem fw_3_12 : FW 3 12 .int := ⟨_, _, _, rfl, rfl, by decide +kernel⟩
theorem cf_X3_unfriends : CFv yX3_unfriends cX3_unfriends 2 none 1 := ⟨(in_gd (List.mem_of_getElem? (i := 885) (by decide +kernel)) rfl), (in_gs (List.mem_of_getElem? (i := 80) (by decide +kernel)) rfl), (in_gd (List.mem_of_getElem? (i := 4) (by decide +kernel)) rfl), (in_gd (List.mem_of_getElem? (i := 886) (by decide +kernel)) rfl), ⟨by decide +kernel, by decide +kernel⟩, by decide +kernel⟩
theorem ml_X3_191 : ML RX3 191 yX3_unfriends := Or.inl (in_gd (List.mem_of_getElem? (i := 883) (by decide +kernel)) rfl)
theorem cf_X3_comesHours : CFv yX3_comesHours cX3_comesHours 3 (some .boolean) 1 := ⟨(in_gd (List.mem_of_getElem? (i := 889) (by decide +kernel)) rfl), (in_gs (List.mem_of_getElem? (i := 81) (by decide +kernel)) rfl), (in_gd (List.mem_of_getElem? (i := 4) (by decide +kernel)) rfl), (in_gd (List.mem_of_getElem? (i := 890) (by decide +kernel)) rfl), ⟨by decide +kernel, by decide +kernel⟩, by decide +kernel⟩
theorem ml_X3_154 : ML RX3 154 yX3_comesHours := Or.inl (in_gd (List.mem_of_getElem? (i := 887) (by decide +kernel)) rfl)
theorem cf_X3_addsBearer : CFv yX3_addsBearer cX3_addsBearer 4 none 3 := ⟨(in_gd (List.mem_of_getElem? (i := 861) (by decide +kernel)) rfl), (in_gs (List.mem_of_getElem? (i := 74) (by decide +kernel)) rfl), (in_gd (List.mem_of_getElem? (i := 4) (by decide +kernel)) rfl), (in_gd (List.mem_of_getElem? (i := 862) (by decide +kernel)) rfl), ⟨by decide +kernel, by decide +kernel⟩, by decide +kernel⟩
theorem ml_X3_138 : ML RX3 138 yX3_addsBearer := Or.inl (in_gd (List.mem_of_getElem? (i := 859) (by decide +kernel)) rfl)
theorem cf_X3_isBag : CFv yX3_isBag cX3_isBag 2 (some .boolean) 1 := ⟨(in_gd (List.mem_of_getElem? (i := 865) (by decide +kernel)) rfl), (in_gs (List.mem_of_getElem? (i := 75) (by decide +kernel)) rfl), (in_gd (List.mem_of_getElem? (i := 4) (by decide +kernel)) rfl), (in_gd (List.mem_of_getElem? (i := 866) (by decide +kernel)) rfl), ⟨by decide +kernel, by decide +kernel⟩, by decide +kernel⟩
theorem ml_X3_141 : ML RX3 141 yX3_isBag := Or.inl (in_gd (List.mem_of_getElem? (i := 863) (by decide +kernel)) rfl)
theorem cf_X3_givesHer : CFv yX3_givesHer cX3_givesHer 4 none 2 := ⟨(in_gd (List.mem_of_getElem? (i := 873) (by decide +kernel)) rfl), (in_gs (List.mem_of_getElem? (i := 77) (by decide +kernel)) rfl), (in_gd (List.mem_of_getElem? (i := 4) (by decide +kernel)) rfl), (in_gd (List.mem_of_getElem? (i := 874) (by decide +kernel)) rfl), ⟨by decide +kernel, by decide +kernel⟩, by decide +kernel⟩
theorem ml_X3_144 : ML RX3 144 yX3_givesHer := Or.inl (in_gd (List.mem_of_getElem? (i := 871) (by decide +kernel)) rfl)
theorem cf_X3_befriends : CFv yX3_befriends cX3_befriends 3 none 2 := ⟨(in_gd (List.mem_of_getElem? (i := 881) (by decide +kernel)) rfl), (in_gs (List.mem_of_getElem? (i := 79) (by decide +kernel)) rfl), (in_gd (List.mem_of_getElem? (i := 4) (by decide +kernel)) rfl), (in_gd (List.mem_of_getElem? (i := 882) (by decide +kernel)) rfl), ⟨by decide +kernel, by decide +kernel⟩, by decide +kernel⟩
theorem ml_X3_148 : ML RX3 148 yX3_befriends := Or.inl (in_gd (List.mem_of_getElem? (i := 879) (by decide +kernel)) rfl)
theorem fw_3_14 : FW 3 14 .int := ⟨_, _, _, rfl, rfl, by decide +kernel⟩
theorem cf_X3_addsBag : CFv yX3_addsBag cX3_addsBag 4 none 3 := ⟨(in_gd (List.mem_of_getElem? (i := 857) (by decide +kernel)) rfl), (in_gs (List.mem_of_getElem? (i := 73) (by decide +kernel)) rfl), (in_gd (List.mem_of_getElem? (i := 4) (by decide +kernel)) rfl), (in_gd (List.mem_of_getElem? (i := 858) (by decide +kernel)) rfl), ⟨by decide +kernel, by decide +kernel⟩, by decide +kernel⟩
theorem ml_X3_134 : ML RX3 134 yX3_addsBag := Or.inl (in_gd (List.mem_of_getElem? (i := 855) (by decide +kernel)) rfl)
theorem fl_X3_171 : FL RX3 171 3 24 := ⟨_, _, _, rfl, by decide, Or.inl (in_gd (List.mem_of_getElem? (i := 714) (by decide +kernel)) rfl)⟩
theorem fl_X3_55 : FL RX3 55 3 22 := ⟨_, _, _, rfl, by decide, Or.inl (in_gd (List.mem_of_getElem? (i := 712) (by decide +kernel)) rfl)⟩
theorem fl_X3_175 : FL RX3 175 3 25 := ⟨_, _, _, rfl, by decide, Or.inl (in_gd (List.mem_of_getElem? (i := 715) (by decide +kernel)) rfl)⟩
theorem ar_13_22 : AR 13 22 660 := by decide
theorem fw_3_25 : FW 3 25 .int := ⟨_, _, _, rfl, rfl, by decide +kernel⟩
theorem fw_3_24 : FW 3 24 .boolean := ⟨_, _, _, rfl, rfl, by decide +kernel⟩
theorem cf_X3_passes : CFv yX3_passes cX3_passes 3 none 1 := ⟨(in_gd (List.mem_of_getElem? (i := 845) (by decide +kernel)) rfl), (in_gs (List.mem_of_getElem? (i := 70) (by decide +kernel)) rfl), (in_gd (List.mem_of_getElem? (i := 4) (by decide +kernel)) rfl), (in_gd (List.mem_of_getElem? (i := 846) (by decide +kernel)) rfl), ⟨by decide +kernel, by decide +kernel⟩, by decide +kernel⟩
theorem ml_X3_178 : ML RX3 178 yX3_passes := Or.inl (in_gd (List.mem_of_getElem? (i := 843) (by decide +kernel)) rfl)
theorem cf_X3_passOne : CFv yX3_passOne cX3_passOne 3 (some .int) 1 := ⟨(in_gd (List.mem_of_getElem? (i := 849) (by decide +kernel)) rfl), (in_gs (List.mem_of_getElem? (i := 71) (by decide +kernel)) rfl), (in_gd (List.mem_of_getElem? (i := 4) (by decide +kernel)) rfl), (in_gd (List.mem_of_getElem? (i := 850) (by decide +kernel)) rfl), ⟨by decide +kernel, by decide +kernel⟩, by decide +kernel⟩
theorem ml_X3_182 : ML RX3 182 yX3_passOne := Or.inl (in_gd (List.mem_of_getElem? (i := 847) (by decide +kernel)) rfl)
theorem fl_X3_168 : FL RX3 168 3 26 := ⟨_, _, _, rfl, by decide, Or.inl (in_gd (List.mem_of_getElem? (i := 716) (by decide +kernel)) rfl)⟩
theorem fw_3_26 : FW 3 26 .int := ⟨_, _, _, rfl, rfl, by decide +kernel⟩
theorem cf_X3_comes : CFv yX3_comes cX3_comes 4 (some .boolean) 1 := ⟨(in_gd (List.mem_of_getElem? (i := 853) (by decide +kernel)) rfl), (in_gs (List.mem_of_getElem? (i := 72) (by decide +kernel)) rfl), (in_gd (List.mem_of_getElem? (i := 4) (by decide +kernel)) rfl), (in_gd (List.mem_of_getElem? (i := 854) (by decide +kernel)) rfl), ⟨by decide +kernel, by decide +kernel⟩, by decide +kernel⟩
theorem ml_X3_165 : ML RX3 165 yX3_comes := Or.inl (in_gd (List.mem_of_getElem? (i := 851) (by decide +kernel)) rfl)
theorem cf_X3_passesAll : CFv yX3_passesAll cX3_passesAll 3 none 2 := ⟨(in_gd (List.mem_of_getElem? (i := 841) (by decide +kernel)) rfl), (in_gs (List.mem_of_getElem? (i := 69) (by decide +kernel)) rfl), (in_gd (List.mem_of_getElem? (i := 4) (by decide +kernel)) rfl), (in_gd (List.mem_of_getElem? (i := 842) (by decide +kernel)) rfl), ⟨by decide +kernel, by decide +kernel⟩, by decide +kernel⟩
theorem ml_X3_161 : ML RX3 161 yX3_passesAll := Or.inl (in_gd (List.mem_of_getElem? (i := 839) (by decide +kernel)) rfl)
theorem cf_X3_statement : CFv yX3_statement cX3_statement 2 (some .boolean) 0 := ⟨(in_gd (List.mem_of_getElem? (i := 822) (by decide +kernel)) rfl), (in_gs (List.mem_of_getElem? (i := 65) (by decide +kernel)) rfl), (in_gd (List.mem_of_getElem? (i := 4) (by decide +kernel)) rfl), (in_gd (List.mem_of_getElem? (i := 823) (by decide +kernel)) rfl), ⟨by decide +kernel, by decide +kernel⟩, by decide +kernel⟩
theorem ml_X3_157 : ML RX3 157 yX3_statement := Or.inl (in_gd (List.mem_of_getElem? (i := 820) (by decide +kernel)) rfl)
theorem fw_3_21 : FW 3 21 .int := ⟨_, _, _, rfl, rfl, by decide +kernel⟩
theorem ks_600 : (Int16.ofInt 600).toInt32 = 600 := by decide
theorem ks_180 : (Int16.ofInt 180).toInt32 = 180 := by decide
theorem fl_X3_185 : FL RX3 185 3 23 := ⟨_, _, _, rfl, by decide, Or.inl (in_gd (List.mem_of_getElem? (i := 713) (by decide +kernel)) rfl)⟩
theorem fw_3_23 : FW 3 23 .boolean := ⟨_, _, _, rfl, rfl, by decide +kernel⟩
theorem cf_X3_bagNow : CFv yX3_bagNow cX3_bagNow 2 (some .int) 1 := ⟨(in_gd (List.mem_of_getElem? (i := 944) (by decide +kernel)) rfl), (in_gs (List.mem_of_getElem? (i := 89) (by decide +kernel)) rfl), (in_gd (List.mem_of_getElem? (i := 4) (by decide +kernel)) rfl), (in_gd (List.mem_of_getElem? (i := 945) (by decide +kernel)) rfl), ⟨by decide +kernel, by decide +kernel⟩, by decide +kernel⟩
theorem ml_X3_220 : ML RX3 220 yX3_bagNow := Or.inl (in_gd (List.mem_of_getElem? (i := 942) (by decide +kernel)) rfl)
theorem cf_X3_keepsBack : CFv yX3_keepsBack cX3_keepsBack 2 none 0 := ⟨(in_gd (List.mem_of_getElem? (i := 960) (by decide +kernel)) rfl), (in_gs (List.mem_of_getElem? (i := 90) (by decide +kernel)) rfl), (in_gd (List.mem_of_getElem? (i := 4) (by decide +kernel)) rfl), (in_gd (List.mem_of_getElem? (i := 961) (by decide +kernel)) rfl), ⟨by decide +kernel, by decide +kernel⟩, by decide +kernel⟩
theorem ml_X3_223 : ML RX3 223 yX3_keepsBack := Or.inl (in_gd (List.mem_of_getElem? (i := 958) (by decide +kernel)) rfl)
theorem cf_X3_isPlace : CFs yX3_isPlace cX3_isPlace 1 (some .boolean) 1 := ⟨(in_gd (List.mem_of_getElem? (i := 971) (by decide +kernel)) rfl), (in_gd (List.mem_of_getElem? (i := 4) (by decide +kernel)) rfl), (in_gd (List.mem_of_getElem? (i := 972) (by decide +kernel)) rfl), ⟨by decide +kernel, by decide +kernel⟩, by decide +kernel⟩
theorem ml_X3_226 : ML RX3 226 yX3_isPlace := Or.inl (in_gd (List.mem_of_getElem? (i := 970) (by decide +kernel)) rfl)
theorem cf_X3_counts : CFv yX3_counts cX3_counts 2 none 0 := ⟨(in_gd (List.mem_of_getElem? (i := 987) (by decide +kernel)) rfl), (in_gs (List.mem_of_getElem? (i := 91) (by decide +kernel)) rfl), (in_gd (List.mem_of_getElem? (i := 4) (by decide +kernel)) rfl), (in_gd (List.mem_of_getElem? (i := 988) (by decide +kernel)) rfl), ⟨by decide +kernel, by decide +kernel⟩, by decide +kernel⟩
theorem ml_X3_229 : ML RX3 229 yX3_counts := Or.inl (in_gd (List.mem_of_getElem? (i := 985) (by decide +kernel)) rfl)
theorem cf_X3_goes : CFv yX3_goes cX3_goes 3 none 1 := ⟨(in_gd (List.mem_of_getElem? (i := 991) (by decide +kernel)) rfl), (in_gs (List.mem_of_getElem? (i := 92) (by decide +kernel)) rfl), (in_gd (List.mem_of_getElem? (i := 4) (by decide +kernel)) rfl), (in_gd (List.mem_of_getElem? (i := 992) (by decide +kernel)) rfl), ⟨by decide +kernel, by decide +kernel⟩, by decide +kernel⟩
theorem ml_X3_232 : ML RX3 232 yX3_goes := Or.inl (in_gd (List.mem_of_getElem? (i := 989) (by decide +kernel)) rfl)
theorem cf_X3_thinks : CFv yX3_thinks cX3_thinks 1 none 0 := ⟨(in_gd (List.mem_of_getElem? (i := 1002) (by decide +kernel)) rfl), (in_gs (List.mem_of_getElem? (i := 93) (by decide +kernel)) rfl), (in_gd (List.mem_of_getElem? (i := 4) (by decide +kernel)) rfl), (in_gd (List.mem_of_getElem? (i := 1003) (by decide +kernel)) rfl), ⟨by decide +kernel, by decide +kernel⟩, by decide +kernel⟩
theorem ml_X3_238 : ML RX3 238 yX3_thinks := Or.inl (in_gd (List.mem_of_getElem? (i := 1000) (by decide +kernel)) rfl)
theorem cf_X3_forgets : CFv yX3_forgets cX3_forgets 1 none 0 := ⟨(in_gd (List.mem_of_getElem? (i := 1006) (by decide +kernel)) rfl), (in_gs (List.mem_of_getElem? (i := 94) (by decide +kernel)) rfl), (in_gd (List.mem_of_getElem? (i := 4) (by decide +kernel)) rfl), (in_gd (List.mem_of_getElem? (i := 1007) (by decide +kernel)) rfl), ⟨by decide +kernel, by decide +kernel⟩, by decide +kernel⟩
theorem ml_X3_241 : ML RX3 241 yX3_forgets := Or.inl (in_gd (List.mem_of_getElem? (i := 1004) (by decide +kernel)) rfl)
theorem cf_X3_notHours : CFs yX3_notHours cX3_notHours 1 (some .int) 1 := ⟨(in_gd (List.mem_of_getElem? (i := 998) (by decide +kernel)) rfl), (in_gd (List.mem_of_getElem? (i := 4) (by decide +kernel)) rfl), (in_gd (List.mem_of_getElem? (i := 999) (by decide +kernel)) rfl), ⟨by decide +kernel, by decide +kernel⟩, by decide +kernel⟩
theorem ml_X3_235 : ML RX3 235 yX3_notHours := Or.inl (in_gd (List.mem_of_getElem? (i := 997) (by decide +kernel)) rfl)
theorem cf_X3_areTwo : CFv yX3_areTwo cX3_areTwo 3 (some .boolean) 2 := ⟨(in_gd (List.mem_of_getElem? (i := 1014) (by decide +kernel)) rfl), (in_gs (List.mem_of_getElem? (i := 95) (by decide +kernel)) rfl), (in_gd (List.mem_of_getElem? (i := 4) (by decide +kernel)) rfl), (in_gd (List.mem_of_getElem? (i := 1015) (by decide +kernel)) rfl), ⟨by decide +kernel, by decide +kernel⟩, by decide +kernel⟩
theorem ml_X3_244 : ML RX3 244 yX3_areTwo := Or.inl (in_gd (List.mem_of_getElem? (i := 1012) (by decide +kernel)) rfl)
theorem cf_X3_meetsIn : CFv yX3_meetsIn cX3_meetsIn 5 (some .int) 2 := ⟨(in_gd (List.mem_of_getElem? (i := 1018) (by decide +kernel)) rfl), (in_gs (List.mem_of_getElem? (i := 96) (by decide +kernel)) rfl), (in_gd (List.mem_of_getElem? (i := 4) (by decide +kernel)) rfl), (in_gd (List.mem_of_getElem? (i := 1019) (by decide +kernel)) rfl), ⟨by decide +kernel, by decide +kernel⟩, by decide +kernel⟩
theorem ml_X3_247 : ML RX3 247 yX3_meetsIn := Or.inl (in_gd (List.mem_of_getElem? (i := 1016) (by decide +kernel)) rfl)
theorem cf_X3_manyAt : CFv yX3_manyAt cX3_manyAt 4 (some .int) 1 := ⟨(in_gd (List.mem_of_getElem? (i := 1026) (by decide +kernel)) rfl), (in_gs (List.mem_of_getElem? (i := 97) (by decide +kernel)) rfl), (in_gd (List.mem_of_getElem? (i := 4) (by decide +kernel)) rfl), (in_gd (List.mem_of_getElem? (i := 1027) (by decide +kernel)) rfl), ⟨by decide +kernel, by decide +kernel⟩, by decide +kernel⟩
theorem ml_X3_250 : ML RX3 250 yX3_manyAt := Or.inl (in_gd (List.mem_of_getElem? (i := 1024) (by decide +kernel)) rfl)
theorem cf_X3_outOf : CFv yX3_outOf cX3_outOf 4 (some .int) 1 := ⟨(in_gd (List.mem_of_getElem? (i := 1034) (by decide +kernel)) rfl), (in_gs (List.mem_of_getElem? (i := 98) (by decide +kernel)) rfl), (in_gd (List.mem_of_getElem? (i := 4) (by decide +kernel)) rfl), (in_gd (List.mem_of_getElem? (i := 1035) (by decide +kernel)) rfl), ⟨by decide +kernel, by decide +kernel⟩, by decide +kernel⟩
theorem ml_X3_253 : ML RX3 253 yX3_outOf := Or.inl (in_gd (List.mem_of_getElem? (i := 1032) (by decide +kernel)) rfl)
theorem cf_X3_snapsIn : CFv yX3_snapsIn cX3_snapsIn 2 (some .int) 1 := ⟨(in_gd (List.mem_of_getElem? (i := 1042) (by decide +kernel)) rfl), (in_gs (List.mem_of_getElem? (i := 99) (by decide +kernel)) rfl), (in_gd (List.mem_of_getElem? (i := 4) (by decide +kernel)) rfl), (in_gd (List.mem_of_getElem? (i := 1043) (by decide +kernel)) rfl), ⟨by decide +kernel, by decide +kernel⟩, by decide +kernel⟩
theorem ml_X3_256 : ML RX3 256 yX3_snapsIn := Or.inl (in_gd (List.mem_of_getElem? (i := 1040) (by decide +kernel)) rfl)
theorem ks_1000 : (Int16.ofInt 1000).toInt32 = 1000 := by decide
theorem cf_X3_leastLed : CFv yX3_leastLed cX3_leastLed 4 (some .int) 1 := ⟨(in_gd (List.mem_of_getElem? (i := 1050) (by decide +kernel)) rfl), (in_gs (List.mem_of_getElem? (i := 101) (by decide +kernel)) rfl), (in_gd (List.mem_of_getElem? (i := 4) (by decide +kernel)) rfl), (in_gd (List.mem_of_getElem? (i := 1051) (by decide +kernel)) rfl), ⟨by decide +kernel, by decide +kernel⟩, by decide +kernel⟩
theorem ml_X3_262 : ML RX3 262 yX3_leastLed := Or.inl (in_gd (List.mem_of_getElem? (i := 1048) (by decide +kernel)) rfl)
theorem cf_X3_bestColonel : CFv yX3_bestColonel cX3_bestColonel 7 (some .int) 1 := ⟨(in_gd (List.mem_of_getElem? (i := 1046) (by decide +kernel)) rfl), (in_gs (List.mem_of_getElem? (i := 100) (by decide +kernel)) rfl), (in_gd (List.mem_of_getElem? (i := 4) (by decide +kernel)) rfl), (in_gd (List.mem_of_getElem? (i := 1047) (by decide +kernel)) rfl), ⟨by decide +kernel, by decide +kernel⟩, by decide +kernel⟩
theorem ml_X3_259 : ML RX3 259 yX3_bestColonel := Or.inl (in_gd (List.mem_of_getElem? (i := 1044) (by decide +kernel)) rfl)
theorem cf_X3_comesTo : CFv yX3_comesTo cX3_comesTo 6 (some .int) 3 := ⟨(in_gd (List.mem_of_getElem? (i := 1062) (by decide +kernel)) rfl), (in_gs (List.mem_of_getElem? (i := 103) (by decide +kernel)) rfl), (in_gd (List.mem_of_getElem? (i := 4) (by decide +kernel)) rfl), (in_gd (List.mem_of_getElem? (i := 1063) (by decide +kernel)) rfl), ⟨by decide +kernel, by decide +kernel⟩, by decide +kernel⟩
theorem ml_X3_265 : ML RX3 265 yX3_comesTo := Or.inl (in_gd (List.mem_of_getElem? (i := 1060) (by decide +kernel)) rfl)
theorem cf_X3_comesWith : CFv yX3_comesWith cX3_comesWith 5 (some .int) 3 := ⟨(in_gd (List.mem_of_getElem? (i := 1058) (by decide +kernel)) rfl), (in_gs (List.mem_of_getElem? (i := 102) (by decide +kernel)) rfl), (in_gd (List.mem_of_getElem? (i := 4) (by decide +kernel)) rfl), (in_gd (List.mem_of_getElem? (i := 1059) (by decide +kernel)) rfl), ⟨by decide +kernel, by decide +kernel⟩, by decide +kernel⟩
theorem ml_X3_268 : ML RX3 268 yX3_comesWith := Or.inl (in_gd (List.mem_of_getElem? (i := 1056) (by decide +kernel)) rfl)
theorem cf_X3_errandBy : CFv yX3_errandBy cX3_errandBy 8 (some .int) 4 := ⟨(in_gd (List.mem_of_getElem? (i := 1074) (by decide +kernel)) rfl), (in_gs (List.mem_of_getElem? (i := 104) (by decide +kernel)) rfl), (in_gd (List.mem_of_getElem? (i := 4) (by decide +kernel)) rfl), (in_gd (List.mem_of_getElem? (i := 1075) (by decide +kernel)) rfl), ⟨by decide +kernel, by decide +kernel⟩, by decide +kernel⟩
theorem ml_X3_271 : ML RX3 271 yX3_errandBy := Or.inl (in_gd (List.mem_of_getElem? (i := 1072) (by decide +kernel)) rfl)
theorem cf_X3_digitOf : CFv yX3_digitOf cX3_digitOf 5 (some .int) 2 := ⟨(in_gd (List.mem_of_getElem? (i := 1098) (by decide +kernel)) rfl), (in_gs (List.mem_of_getElem? (i := 108) (by decide +kernel)) rfl), (in_gd (List.mem_of_getElem? (i := 4) (by decide +kernel)) rfl), (in_gd (List.mem_of_getElem? (i := 1099) (by decide +kernel)) rfl), ⟨by decide +kernel, by decide +kernel⟩, by decide +kernel⟩
theorem ml_X3_275 : ML RX3 275 yX3_digitOf := Or.inl (in_gd (List.mem_of_getElem? (i := 1096) (by decide +kernel)) rfl)
theorem fl_X3_290 : FL RX3 290 3 31 := ⟨_, _, _, rfl, by decide, Or.inl (in_gd (List.mem_of_getElem? (i := 721) (by decide +kernel)) rfl)⟩
theorem cf_X3_manyWays : CFv yX3_manyWays cX3_manyWays 3 (some .int) 0 := ⟨(in_gd (List.mem_of_getElem? (i := 1090) (by decide +kernel)) rfl), (in_gs (List.mem_of_getElem? (i := 106) (by decide +kernel)) rfl), (in_gd (List.mem_of_getElem? (i := 4) (by decide +kernel)) rfl), (in_gd (List.mem_of_getElem? (i := 1091) (by decide +kernel)) rfl), ⟨by decide +kernel, by decide +kernel⟩, by decide +kernel⟩
theorem ml_X3_278 : ML RX3 278 yX3_manyWays := Or.inl (in_gd (List.mem_of_getElem? (i := 1088) (by decide +kernel)) rfl)
theorem cf_X3_isWay : CFv yX3_isWay cX3_isWay 6 (some .boolean) 1 := ⟨(in_gd (List.mem_of_getElem? (i := 1094) (by decide +kernel)) rfl), (in_gs (List.mem_of_getElem? (i := 107) (by decide +kernel)) rfl), (in_gd (List.mem_of_getElem? (i := 4) (by decide +kernel)) rfl), (in_gd (List.mem_of_getElem? (i := 1095) (by decide +kernel)) rfl), ⟨by decide +kernel, by decide +kernel⟩, by decide +kernel⟩
theorem ml_X3_281 : ML RX3 281 yX3_isWay := Or.inl (in_gd (List.mem_of_getElem? (i := 1092) (by decide +kernel)) rfl)
theorem cf_X3_givesAll : CFv yX3_givesAll cX3_givesAll 4 none 1 := ⟨(in_gd (List.mem_of_getElem? (i := 1102) (by decide +kernel)) rfl), (in_gs (List.mem_of_getElem? (i := 109) (by decide +kernel)) rfl), (in_gd (List.mem_of_getElem? (i := 4) (by decide +kernel)) rfl), (in_gd (List.mem_of_getElem? (i := 1103) (by decide +kernel)) rfl), ⟨by decide +kernel, by decide +kernel⟩, by decide +kernel⟩
theorem ml_X3_284 : ML RX3 284 yX3_givesAll := Or.inl (in_gd (List.mem_of_getElem? (i := 1100) (by decide +kernel)) rfl)
theorem cf_X3_allLed : CFv yX3_allLed cX3_allLed 4 (some .int) 1 := ⟨(in_gd (List.mem_of_getElem? (i := 1106) (by decide +kernel)) rfl), (in_gs (List.mem_of_getElem? (i := 110) (by decide +kernel)) rfl), (in_gd (List.mem_of_getElem? (i := 4) (by decide +kernel)) rfl), (in_gd (List.mem_of_getElem? (i := 1107) (by decide +kernel)) rfl), ⟨by decide +kernel, by decide +kernel⟩, by decide +kernel⟩
theorem ml_X3_287 : ML RX3 287 yX3_allLed := Or.inl (in_gd (List.mem_of_getElem? (i := 1104) (by decide +kernel)) rfl)
theorem fw_3_31 : FW 3 31 .int := ⟨_, _, _, rfl, rfl, by decide +kernel⟩
theorem cf_X3_bestWay : CFv yX3_bestWay cX3_bestWay 7 (some .int) 3 := ⟨(in_gd (List.mem_of_getElem? (i := 1086) (by decide +kernel)) rfl), (in_gs (List.mem_of_getElem? (i := 105) (by decide +kernel)) rfl), (in_gd (List.mem_of_getElem? (i := 4) (by decide +kernel)) rfl), (in_gd (List.mem_of_getElem? (i := 1087) (by decide +kernel)) rfl), ⟨by decide +kernel, by decide +kernel⟩, by decide +kernel⟩
theorem ml_X3_293 : ML RX3 293 yX3_bestWay := Or.inl (in_gd (List.mem_of_getElem? (i := 1084) (by decide +kernel)) rfl)
theorem cf_X3_bagBy : CFv yX3_bagBy cX3_bagBy 3 (some .int) 2 := ⟨(in_gd (List.mem_of_getElem? (i := 1110) (by decide +kernel)) rfl), (in_gs (List.mem_of_getElem? (i := 111) (by decide +kernel)) rfl), (in_gd (List.mem_of_getElem? (i := 4) (by decide +kernel)) rfl), (in_gd (List.mem_of_getElem? (i := 1111) (by decide +kernel)) rfl), ⟨by decide +kernel, by decide +kernel⟩, by decide +kernel⟩
theorem ml_X3_296 : ML RX3 296 yX3_bagBy := Or.inl (in_gd (List.mem_of_getElem? (i := 1108) (by decide +kernel)) rfl)
theorem fl_X3_68 : FL RX3 68 3 32 := ⟨_, _, _, rfl, by decide, Or.inl (in_gd (List.mem_of_getElem? (i := 722) (by decide +kernel)) rfl)⟩
theorem ar_13_32 : AR 13 32 5 := by decide
theorem cf_X3_plainPull : CFv yX3_plainPull cX3_plainPull 2 (some .int) 1 := ⟨(in_gd (List.mem_of_getElem? (i := 1134) (by decide +kernel)) rfl), (in_gs (List.mem_of_getElem? (i := 115) (by decide +kernel)) rfl), (in_gd (List.mem_of_getElem? (i := 4) (by decide +kernel)) rfl), (in_gd (List.mem_of_getElem? (i := 1135) (by decide +kernel)) rfl), ⟨by decide +kernel, by decide +kernel⟩, by decide +kernel⟩
theorem ml_X3_299 : ML RX3 299 yX3_plainPull := Or.inl (in_gd (List.mem_of_getElem? (i := 1132) (by decide +kernel)) rfl)
theorem fl_X3_71 : FL RX3 71 3 33 := ⟨_, _, _, rfl, by decide, Or.inl (in_gd (List.mem_of_getElem? (i := 723) (by decide +kernel)) rfl)⟩
theorem ar_13_33 : AR 13 33 6 := by decide
theorem cf_X3_isRather : CFv yX3_isRather cX3_isRather 3 (some .boolean) 2 := ⟨(in_gd (List.mem_of_getElem? (i := 1138) (by decide +kernel)) rfl), (in_gs (List.mem_of_getElem? (i := 116) (by decide +kernel)) rfl), (in_gd (List.mem_of_getElem? (i := 4) (by decide +kernel)) rfl), (in_gd (List.mem_of_getElem? (i := 1139) (by decide +kernel)) rfl), ⟨by decide +kernel, by decide +kernel⟩, by decide +kernel⟩
theorem ml_X3_308 : ML RX3 308 yX3_isRather := Or.inl (in_gd (List.mem_of_getElem? (i := 1136) (by decide +kernel)) rfl)
theorem cf_X3_isKept : CFv yX3_isKept cX3_isKept 3 (some .boolean) 1 := ⟨(in_gd (List.mem_of_getElem? (i := 1126) (by decide +kernel)) rfl), (in_gs (List.mem_of_getElem? (i := 113) (by decide +kernel)) rfl), (in_gd (List.mem_of_getElem? (i := 4) (by decide +kernel)) rfl), (in_gd (List.mem_of_getElem? (i := 1127) (by decide +kernel)) rfl), ⟨by decide +kernel, by decide +kernel⟩, by decide +kernel⟩
theorem ml_X3_302 : ML RX3 302 yX3_isKept := Or.inl (in_gd (List.mem_of_getElem? (i := 1124) (by decide +kernel)) rfl)
theorem cf_X3_nextAsked : CFv yX3_nextAsked cX3_nextAsked 4 (some .int) 1 := ⟨(in_gd (List.mem_of_getElem? (i := 1130) (by decide +kernel)) rfl), (in_gs (List.mem_of_getElem? (i := 114) (by decide +kernel)) rfl), (in_gd (List.mem_of_getElem? (i := 4) (by decide +kernel)) rfl), (in_gd (List.mem_of_getElem? (i := 1131) (by decide +kernel)) rfl), ⟨by decide +kernel, by decide +kernel⟩, by decide +kernel⟩
theorem ml_X3_305 : ML RX3 305 yX3_nextAsked := Or.inl (in_gd (List.mem_of_getElem? (i := 1128) (by decide +kernel)) rfl)
theorem cf_X3_asks : CFv yX3_asks cX3_asks 3 (some .boolean) 1 := ⟨(in_gd (List.mem_of_getElem? (i := 1122) (by decide +kernel)) rfl), (in_gs (List.mem_of_getElem? (i := 112) (by decide +kernel)) rfl), (in_gd (List.mem_of_getElem? (i := 4) (by decide +kernel)) rfl), (in_gd (List.mem_of_getElem? (i := 1123) (by decide +kernel)) rfl), ⟨by decide +kernel, by decide +kernel⟩, by decide +kernel⟩
theorem ml_X3_311 : ML RX3 311 yX3_asks := Or.inl (in_gd (List.mem_of_getElem? (i := 1120) (by decide +kernel)) rfl)
theorem fl_X3_314 : FL RX3 314 3 35 := ⟨_, _, _, rfl, by decide, Or.inl (in_gd (List.mem_of_getElem? (i := 725) (by decide +kernel)) rfl)⟩
theorem fl_X3_74 : FL RX3 74 3 34 := ⟨_, _, _, rfl, by decide, Or.inl (in_gd (List.mem_of_getElem? (i := 724) (by decide +kernel)) rfl)⟩
theorem ar_13_34 : AR 13 34 12 := by decide
theorem cf_X3_walksSo : CFv yX3_walksSo cX3_walksSo 4 (some .boolean) 1 := ⟨(in_gd (List.mem_of_getElem? (i := 1150) (by decide +kernel)) rfl), (in_gs (List.mem_of_getElem? (i := 118) (by decide +kernel)) rfl), (in_gd (List.mem_of_getElem? (i := 4) (by decide +kernel)) rfl), (in_gd (List.mem_of_getElem? (i := 1151) (by decide +kernel)) rfl), ⟨by decide +kernel, by decide +kernel⟩, by decide +kernel⟩
theorem ml_X3_317 : ML RX3 317 yX3_walksSo := Or.inl (in_gd (List.mem_of_getElem? (i := 1148) (by decide +kernel)) rfl)
theorem cf_X3_bitsFor : CFv yX3_bitsFor cX3_bitsFor 8 (some .int) 4 := ⟨(in_gd (List.mem_of_getElem? (i := 1146) (by decide +kernel)) rfl), (in_gs (List.mem_of_getElem? (i := 117) (by decide +kernel)) rfl), (in_gd (List.mem_of_getElem? (i := 4) (by decide +kernel)) rfl), (in_gd (List.mem_of_getElem? (i := 1147) (by decide +kernel)) rfl), ⟨by decide +kernel, by decide +kernel⟩, by decide +kernel⟩
theorem ml_X3_320 : ML RX3 320 yX3_bitsFor := Or.inl (in_gd (List.mem_of_getElem? (i := 1144) (by decide +kernel)) rfl)
theorem cf_X3_atIn : CFv yX3_atIn cX3_atIn 4 (some .int) 2 := ⟨(in_gd (List.mem_of_getElem? (i := 1162) (by decide +kernel)) rfl), (in_gs (List.mem_of_getElem? (i := 120) (by decide +kernel)) rfl), (in_gd (List.mem_of_getElem? (i := 4) (by decide +kernel)) rfl), (in_gd (List.mem_of_getElem? (i := 1163) (by decide +kernel)) rfl), ⟨by decide +kernel, by decide +kernel⟩, by decide +kernel⟩
theorem ml_X3_324 : ML RX3 324 yX3_atIn := Or.inl (in_gd (List.mem_of_getElem? (i := 1160) (by decide +kernel)) rfl)
theorem cf_X3_unlikeBy : CFv yX3_unlikeBy cX3_unlikeBy 8 (some .int) 2 := ⟨(in_gd (List.mem_of_getElem? (i := 1158) (by decide +kernel)) rfl), (in_gs (List.mem_of_getElem? (i := 119) (by decide +kernel)) rfl), (in_gd (List.mem_of_getElem? (i := 4) (by decide +kernel)) rfl), (in_gd (List.mem_of_getElem? (i := 1159) (by decide +kernel)) rfl), ⟨by decide +kernel, by decide +kernel⟩, by decide +kernel⟩
theorem ml_X3_327 : ML RX3 327 yX3_unlikeBy := Or.inl (in_gd (List.mem_of_getElem? (i := 1156) (by decide +kernel)) rfl)
theorem cf_X3_above : CFv yX3_above cX3_above 2 (some .int) 1 := ⟨(in_gd (List.mem_of_getElem? (i := 1174) (by decide +kernel)) rfl), (in_gs (List.mem_of_getElem? (i := 122) (by decide +kernel)) rfl), (in_gd (List.mem_of_getElem? (i := 4) (by decide +kernel)) rfl), (in_gd (List.mem_of_getElem? (i := 1175) (by decide +kernel)) rfl), ⟨by decide +kernel, by decide +kernel⟩, by decide +kernel⟩
theorem ml_X3_330 : ML RX3 330 yX3_above := Or.inl (in_gd (List.mem_of_getElem? (i := 1172) (by decide +kernel)) rfl)
theorem cf_X3_goesArm : CFv yX3_goesArm cX3_goesArm 7 none 2 := ⟨(in_gd (List.mem_of_getElem? (i := 1170) (by decide +kernel)) rfl), (in_gs (List.mem_of_getElem? (i := 121) (by decide +kernel)) rfl), (in_gd (List.mem_of_getElem? (i := 4) (by decide +kernel)) rfl), (in_gd (List.mem_of_getElem? (i := 1171) (by decide +kernel)) rfl), ⟨by decide +kernel, by decide +kernel⟩, by decide +kernel⟩
theorem ml_X3_333 : ML RX3 333 yX3_goesArm := Or.inl (in_gd (List.mem_of_getElem? (i := 1168) (by decide +kernel)) rfl)
theorem fw_3_30 : FW 3 30 .int := ⟨_, _, _, rfl, rfl, by decide +kernel⟩
theorem cf_X3_lowest : CFv yX3_lowest cX3_lowest 2 (some .long) 1 := ⟨(in_gd (List.mem_of_getElem? (i := 1182) (by decide +kernel)) rfl), (in_gs (List.mem_of_getElem? (i := 123) (by decide +kernel)) rfl), (in_gd (List.mem_of_getElem? (i := 4) (by decide +kernel)) rfl), (in_gd (List.mem_of_getElem? (i := 1183) (by decide +kernel)) rfl), ⟨by decide +kernel, by decide +kernel⟩, by decide +kernel⟩
theorem ml_X3_336 : ML RX3 336 yX3_lowest := Or.inl (in_gd (List.mem_of_getElem? (i := 1180) (by decide +kernel)) rfl)
theorem cf_X3_divisor : CFs yX3_divisor cX3_divisor 10 (some .long) 2 := ⟨(in_gd (List.mem_of_getElem? (i := 1186) (by decide +kernel)) rfl), (in_gd (List.mem_of_getElem? (i := 4) (by decide +kernel)) rfl), (in_gd (List.mem_of_getElem? (i := 1187) (by decide +kernel)) rfl), ⟨by decide +kernel, by decide +kernel⟩, by decide +kernel⟩
theorem ml_X3_340 : ML RX3 340 yX3_divisor := Or.inl (in_gd (List.mem_of_getElem? (i := 1185) (by decide +kernel)) rfl)
theorem cf_X3_ledSwapped : CFv yX3_ledSwapped cX3_ledSwapped 6 (some .int) 3 := ⟨(in_gd (List.mem_of_getElem? (i := 1194) (by decide +kernel)) rfl), (in_gs (List.mem_of_getElem? (i := 124) (by decide +kernel)) rfl), (in_gd (List.mem_of_getElem? (i := 4) (by decide +kernel)) rfl), (in_gd (List.mem_of_getElem? (i := 1195) (by decide +kernel)) rfl), ⟨by decide +kernel, by decide +kernel⟩, by decide +kernel⟩
theorem ml_X3_344 : ML RX3 344 yX3_ledSwapped := Or.inl (in_gd (List.mem_of_getElem? (i := 1192) (by decide +kernel)) rfl)
theorem cf_X3_apart : CFv yX3_apart cX3_apart 4 (some .int) 2 := ⟨(in_gd (List.mem_of_getElem? (i := 1206) (by decide +kernel)) rfl), (in_gs (List.mem_of_getElem? (i := 125) (by decide +kernel)) rfl), (in_gd (List.mem_of_getElem? (i := 4) (by decide +kernel)) rfl), (in_gd (List.mem_of_getElem? (i := 1207) (by decide +kernel)) rfl), ⟨by decide +kernel, by decide +kernel⟩, by decide +kernel⟩
theorem ml_X3_347 : ML RX3 347 yX3_apart := Or.inl (in_gd (List.mem_of_getElem? (i := 1204) (by decide +kernel)) rfl)
theorem cf_X3_allBreath : CFv yX3_allBreath cX3_allBreath 3 (some .int) 0 := ⟨(in_gd (List.mem_of_getElem? (i := 1214) (by decide +kernel)) rfl), (in_gs (List.mem_of_getElem? (i := 126) (by decide +kernel)) rfl), (in_gd (List.mem_of_getElem? (i := 4) (by decide +kernel)) rfl), (in_gd (List.mem_of_getElem? (i := 1215) (by decide +kernel)) rfl), ⟨by decide +kernel, by decide +kernel⟩, by decide +kernel⟩
theorem ml_X3_350 : ML RX3 350 yX3_allBreath := Or.inl (in_gd (List.mem_of_getElem? (i := 1212) (by decide +kernel)) rfl)
theorem fl_X3_77 : FL RX3 77 3 36 := ⟨_, _, _, rfl, by decide, Or.inl (in_gd (List.mem_of_getElem? (i := 726) (by decide +kernel)) rfl)⟩
theorem ar_13_36 : AR 13 36 10 := by decide
theorem fl_X3_80 : FL RX3 80 3 37 := ⟨_, _, _, rfl, by decide, Or.inl (in_gd (List.mem_of_getElem? (i := 727) (by decide +kernel)) rfl)⟩
theorem ar_13_37 : AR 13 37 64 := by decide
theorem kb_64 : (Int8.ofInt 64).toInt32 = 64 := by decide
theorem cf_X3_areAtOne : CFv yX3_areAtOne cX3_areAtOne 2 (some .boolean) 0 := ⟨(in_gd (List.mem_of_getElem? (i := 1250) (by decide +kernel)) rfl), (in_gs (List.mem_of_getElem? (i := 127) (by decide +kernel)) rfl), (in_gd (List.mem_of_getElem? (i := 4) (by decide +kernel)) rfl), (in_gd (List.mem_of_getElem? (i := 1251) (by decide +kernel)) rfl), ⟨by decide +kernel, by decide +kernel⟩, by decide +kernel⟩
theorem ml_X3_353 : ML RX3 353 yX3_areAtOne := Or.inl (in_gd (List.mem_of_getElem? (i := 1248) (by decide +kernel)) rfl)
theorem fw_3_35 : FW 3 35 .int := ⟨_, _, _, rfl, rfl, by decide +kernel⟩
theorem lc_X3_358 : Cond.constant RX3 358 65536 ∈ lw_gd := (in_gd (List.mem_of_getElem? (i := 1278) (by decide +kernel)) rfl)
theorem lc_X3_357 : Cond.constant RX3 357 2147483647 ∈ lw_gd := (in_gd (List.mem_of_getElem? (i := 1277) (by decide +kernel)) rfl)
theorem lc_X3_356 : Cond.constant RX3 356 1103515245 ∈ lw_gd := (in_gd (List.mem_of_getElem? (i := 1276) (by decide +kernel)) rfl)

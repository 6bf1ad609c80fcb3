/-! the law: its loop as a function, and its bytecode -/
theorem cf_X2_feed : CFv yX2_feed cX2_feed 2 (some .int) 1 := ⟨(in_gd (List.mem_of_getElem? (i := 165) (by decide +kernel)) rfl), (in_gd (List.mem_of_getElem? (i := 166) (by decide +kernel)) rfl), (in_gd (List.mem_of_getElem? (i := 1) (by decide +kernel)) rfl), (in_gd (List.mem_of_getElem? (i := 167) (by decide +kernel)) rfl), ⟨by decide +kernel, by decide +kernel⟩, by decide +kernel⟩
theorem ml_L_13 : ML RL 13 yX2_feed := Or.inl (in_gd (List.mem_of_getElem? (i := 164) (by decide +kernel)) rfl)
theorem cf_X3_feed : CFv yX3_feed cX3_feed 3 (some .int) 1 := ⟨(in_gd (List.mem_of_getElem? (i := 806) (by decide +kernel)) rfl), (in_gd (List.mem_of_getElem? (i := 807) (by decide +kernel)) rfl), (in_gd (List.mem_of_getElem? (i := 4) (by decide +kernel)) rfl), (in_gd (List.mem_of_getElem? (i := 808) (by decide +kernel)) rfl), ⟨by decide +kernel, by decide +kernel⟩, by decide +kernel⟩
theorem ml_L_17 : ML RL 17 yX3_feed := Or.inl (in_gd (List.mem_of_getElem? (i := 805) (by decide +kernel)) rfl)
theorem kc_6 : Int32.ofInt 6 = 6 := by decide
theorem cf_X2_bequest : CFv yX2_bequest cX2_bequest 5 (some .int) 0 := ⟨(in_gd (List.mem_of_getElem? (i := 173) (by decide +kernel)) rfl), (in_gd (List.mem_of_getElem? (i := 174) (by decide +kernel)) rfl), (in_gd (List.mem_of_getElem? (i := 1) (by decide +kernel)) rfl), (in_gd (List.mem_of_getElem? (i := 175) (by decide +kernel)) rfl), ⟨by decide +kernel, by decide +kernel⟩, by decide +kernel⟩
theorem ml_L_18 : ML RL 18 yX2_bequest := Or.inl (in_gd (List.mem_of_getElem? (i := 172) (by decide +kernel)) rfl)
theorem cf_X3_bequest : CFv yX3_bequest cX3_bequest 3 (some .int) 0 := ⟨(in_gd (List.mem_of_getElem? (i := 817) (by decide +kernel)) rfl), (in_gd (List.mem_of_getElem? (i := 818) (by decide +kernel)) rfl), (in_gd (List.mem_of_getElem? (i := 4) (by decide +kernel)) rfl), (in_gd (List.mem_of_getElem? (i := 819) (by decide +kernel)) rfl), ⟨by decide +kernel, by decide +kernel⟩, by decide +kernel⟩
theorem ml_L_22 : ML RL 22 yX3_bequest := Or.inl (in_gd (List.mem_of_getElem? (i := 816) (by decide +kernel)) rfl)
theorem cf_X2_bagOf : CFv yX2_bagOf cX2_bagOf 3 (some .int) 2 := ⟨(in_gd (List.mem_of_getElem? (i := 296) (by decide +kernel)) rfl), (in_gd (List.mem_of_getElem? (i := 297) (by decide +kernel)) rfl), (in_gd (List.mem_of_getElem? (i := 1) (by decide +kernel)) rfl), (in_gd (List.mem_of_getElem? (i := 298) (by decide +kernel)) rfl), ⟨by decide +kernel, by decide +kernel⟩, by decide +kernel⟩
theorem ml_L_23 : ML RL 23 yX2_bagOf := Or.inl (in_gd (List.mem_of_getElem? (i := 295) (by decide +kernel)) rfl)
theorem cf_X3_bagOf : CFv yX3_bagOf cX3_bagOf 3 (some .int) 2 := ⟨(in_gd (List.mem_of_getElem? (i := 935) (by decide +kernel)) rfl), (in_gd (List.mem_of_getElem? (i := 936) (by decide +kernel)) rfl), (in_gd (List.mem_of_getElem? (i := 4) (by decide +kernel)) rfl), (in_gd (List.mem_of_getElem? (i := 937) (by decide +kernel)) rfl), ⟨by decide +kernel, by decide +kernel⟩, by decide +kernel⟩
theorem ml_L_27 : ML RL 27 yX3_bagOf := Or.inl (in_gd (List.mem_of_getElem? (i := 934) (by decide +kernel)) rfl)
theorem cf_X2_bearerOf : CFv yX2_bearerOf cX2_bearerOf 3 (some .int) 2 := ⟨(in_gd (List.mem_of_getElem? (i := 302) (by decide +kernel)) rfl), (in_gd (List.mem_of_getElem? (i := 303) (by decide +kernel)) rfl), (in_gd (List.mem_of_getElem? (i := 1) (by decide +kernel)) rfl), (in_gd (List.mem_of_getElem? (i := 304) (by decide +kernel)) rfl), ⟨by decide +kernel, by decide +kernel⟩, by decide +kernel⟩
theorem ml_L_28 : ML RL 28 yX2_bearerOf := Or.inl (in_gd (List.mem_of_getElem? (i := 301) (by decide +kernel)) rfl)
theorem cf_X3_bearerOf : CFv yX3_bearerOf cX3_bearerOf 3 (some .int) 2 := ⟨(in_gd (List.mem_of_getElem? (i := 939) (by decide +kernel)) rfl), (in_gd (List.mem_of_getElem? (i := 940) (by decide +kernel)) rfl), (in_gd (List.mem_of_getElem? (i := 4) (by decide +kernel)) rfl), (in_gd (List.mem_of_getElem? (i := 941) (by decide +kernel)) rfl), ⟨by decide +kernel, by decide +kernel⟩, by decide +kernel⟩
theorem ml_L_31 : ML RL 31 yX3_bearerOf := Or.inl (in_gd (List.mem_of_getElem? (i := 938) (by decide +kernel)) rfl)
theorem cf_X2_bag : CFv yX2_bag cX2_bag 4 (some .int) 3 := ⟨(in_gd (List.mem_of_getElem? (i := 324) (by decide +kernel)) rfl), (in_gd (List.mem_of_getElem? (i := 325) (by decide +kernel)) rfl), (in_gd (List.mem_of_getElem? (i := 1) (by decide +kernel)) rfl), (in_gd (List.mem_of_getElem? (i := 326) (by decide +kernel)) rfl), ⟨by decide +kernel, by decide +kernel⟩, by decide +kernel⟩
theorem ml_L_32 : ML RL 32 yX2_bag := Or.inl (in_gd (List.mem_of_getElem? (i := 323) (by decide +kernel)) rfl)
theorem cf_X3_bag : CFv yX3_bag cX3_bag 5 (some .int) 3 := ⟨(in_gd (List.mem_of_getElem? (i := 947) (by decide +kernel)) rfl), (in_gd (List.mem_of_getElem? (i := 948) (by decide +kernel)) rfl), (in_gd (List.mem_of_getElem? (i := 4) (by decide +kernel)) rfl), (in_gd (List.mem_of_getElem? (i := 949) (by decide +kernel)) rfl), ⟨by decide +kernel, by decide +kernel⟩, by decide +kernel⟩
theorem ml_L_36 : ML RL 36 yX3_bag := Or.inl (in_gd (List.mem_of_getElem? (i := 946) (by decide +kernel)) rfl)
theorem cf_X2_bearer : CFv yX2_bearer cX2_bearer 4 (some .int) 3 := ⟨(in_gd (List.mem_of_getElem? (i := 328) (by decide +kernel)) rfl), (in_gd (List.mem_of_getElem? (i := 329) (by decide +kernel)) rfl), (in_gd (List.mem_of_getElem? (i := 1) (by decide +kernel)) rfl), (in_gd (List.mem_of_getElem? (i := 330) (by decide +kernel)) rfl), ⟨by decide +kernel, by decide +kernel⟩, by decide +kernel⟩
theorem ml_L_37 : ML RL 37 yX2_bearer := Or.inl (in_gd (List.mem_of_getElem? (i := 327) (by decide +kernel)) rfl)
theorem cf_X3_bearer : CFv yX3_bearer cX3_bearer 5 (some .int) 3 := ⟨(in_gd (List.mem_of_getElem? (i := 951) (by decide +kernel)) rfl), (in_gd (List.mem_of_getElem? (i := 952) (by decide +kernel)) rfl), (in_gd (List.mem_of_getElem? (i := 4) (by decide +kernel)) rfl), (in_gd (List.mem_of_getElem? (i := 953) (by decide +kernel)) rfl), ⟨by decide +kernel, by decide +kernel⟩, by decide +kernel⟩
theorem ml_L_40 : ML RL 40 yX3_bearer := Or.inl (in_gd (List.mem_of_getElem? (i := 950) (by decide +kernel)) rfl)
theorem cf_X2_gives : CFv yX2_gives cX2_gives 4 (some .int) 2 := ⟨(in_gd (List.mem_of_getElem? (i := 332) (by decide +kernel)) rfl), (in_gd (List.mem_of_getElem? (i := 333) (by decide +kernel)) rfl), (in_gd (List.mem_of_getElem? (i := 1) (by decide +kernel)) rfl), (in_gd (List.mem_of_getElem? (i := 334) (by decide +kernel)) rfl), ⟨by decide +kernel, by decide +kernel⟩, by decide +kernel⟩
theorem ml_L_41 : ML RL 41 yX2_gives := Or.inl (in_gd (List.mem_of_getElem? (i := 331) (by decide +kernel)) rfl)
theorem cf_X3_gives : CFv yX3_gives cX3_gives 4 (some .int) 2 := ⟨(in_gd (List.mem_of_getElem? (i := 955) (by decide +kernel)) rfl), (in_gd (List.mem_of_getElem? (i := 956) (by decide +kernel)) rfl), (in_gd (List.mem_of_getElem? (i := 4) (by decide +kernel)) rfl), (in_gd (List.mem_of_getElem? (i := 957) (by decide +kernel)) rfl), ⟨by decide +kernel, by decide +kernel⟩, by decide +kernel⟩
theorem ml_L_44 : ML RL 44 yX3_gives := Or.inl (in_gd (List.mem_of_getElem? (i := 954) (by decide +kernel)) rfl)
theorem cf_X2_friends : CFv yX2_friends cX2_friends 3 (some .int) 2 := ⟨(in_gd (List.mem_of_getElem? (i := 340) (by decide +kernel)) rfl), (in_gd (List.mem_of_getElem? (i := 341) (by decide +kernel)) rfl), (in_gd (List.mem_of_getElem? (i := 1) (by decide +kernel)) rfl), (in_gd (List.mem_of_getElem? (i := 342) (by decide +kernel)) rfl), ⟨by decide +kernel, by decide +kernel⟩, by decide +kernel⟩
theorem ml_L_45 : ML RL 45 yX2_friends := Or.inl (in_gd (List.mem_of_getElem? (i := 339) (by decide +kernel)) rfl)
theorem cf_X3_friends : CFv yX3_friends cX3_friends 3 (some .int) 2 := ⟨(in_gd (List.mem_of_getElem? (i := 963) (by decide +kernel)) rfl), (in_gd (List.mem_of_getElem? (i := 964) (by decide +kernel)) rfl), (in_gd (List.mem_of_getElem? (i := 4) (by decide +kernel)) rfl), (in_gd (List.mem_of_getElem? (i := 965) (by decide +kernel)) rfl), ⟨by decide +kernel, by decide +kernel⟩, by decide +kernel⟩
theorem ml_L_48 : ML RL 48 yX3_friends := Or.inl (in_gd (List.mem_of_getElem? (i := 962) (by decide +kernel)) rfl)
theorem cf_X2_wants : CFv yX2_wants cX2_wants 4 (some .int) 2 := ⟨(in_gd (List.mem_of_getElem? (i := 344) (by decide +kernel)) rfl), (in_gd (List.mem_of_getElem? (i := 345) (by decide +kernel)) rfl), (in_gd (List.mem_of_getElem? (i := 1) (by decide +kernel)) rfl), (in_gd (List.mem_of_getElem? (i := 346) (by decide +kernel)) rfl), ⟨by decide +kernel, by decide +kernel⟩, by decide +kernel⟩
theorem ml_L_49 : ML RL 49 yX2_wants := Or.inl (in_gd (List.mem_of_getElem? (i := 343) (by decide +kernel)) rfl)
theorem cf_X3_wants : CFv yX3_wants cX3_wants 4 (some .int) 2 := ⟨(in_gd (List.mem_of_getElem? (i := 967) (by decide +kernel)) rfl), (in_gd (List.mem_of_getElem? (i := 968) (by decide +kernel)) rfl), (in_gd (List.mem_of_getElem? (i := 4) (by decide +kernel)) rfl), (in_gd (List.mem_of_getElem? (i := 969) (by decide +kernel)) rfl), ⟨by decide +kernel, by decide +kernel⟩, by decide +kernel⟩
theorem ml_L_52 : ML RL 52 yX3_wants := Or.inl (in_gd (List.mem_of_getElem? (i := 966) (by decide +kernel)) rfl)
theorem cf_X2_put : CFv yX2_put cX2_put 4 (some .int) 2 := ⟨(in_gd (List.mem_of_getElem? (i := 351) (by decide +kernel)) rfl), (in_gd (List.mem_of_getElem? (i := 352) (by decide +kernel)) rfl), (in_gd (List.mem_of_getElem? (i := 1) (by decide +kernel)) rfl), (in_gd (List.mem_of_getElem? (i := 353) (by decide +kernel)) rfl), ⟨by decide +kernel, by decide +kernel⟩, by decide +kernel⟩
theorem ml_L_53 : ML RL 53 yX2_put := Or.inl (in_gd (List.mem_of_getElem? (i := 350) (by decide +kernel)) rfl)
theorem cf_X3_put : CFv yX3_put cX3_put 4 (some .int) 2 := ⟨(in_gd (List.mem_of_getElem? (i := 974) (by decide +kernel)) rfl), (in_gd (List.mem_of_getElem? (i := 975) (by decide +kernel)) rfl), (in_gd (List.mem_of_getElem? (i := 4) (by decide +kernel)) rfl), (in_gd (List.mem_of_getElem? (i := 976) (by decide +kernel)) rfl), ⟨by decide +kernel, by decide +kernel⟩, by decide +kernel⟩
theorem ml_L_56 : ML RL 56 yX3_put := Or.inl (in_gd (List.mem_of_getElem? (i := 973) (by decide +kernel)) rfl)
theorem cf_X2_colonel : CFv yX2_colonel cX2_colonel 3 (some .int) 1 := ⟨(in_gd (List.mem_of_getElem? (i := 355) (by decide +kernel)) rfl), (in_gd (List.mem_of_getElem? (i := 356) (by decide +kernel)) rfl), (in_gd (List.mem_of_getElem? (i := 1) (by decide +kernel)) rfl), (in_gd (List.mem_of_getElem? (i := 357) (by decide +kernel)) rfl), ⟨by decide +kernel, by decide +kernel⟩, by decide +kernel⟩
theorem ml_L_57 : ML RL 57 yX2_colonel := Or.inl (in_gd (List.mem_of_getElem? (i := 354) (by decide +kernel)) rfl)
theorem cf_X3_colonel : CFv yX3_colonel cX3_colonel 3 (some .int) 1 := ⟨(in_gd (List.mem_of_getElem? (i := 978) (by decide +kernel)) rfl), (in_gd (List.mem_of_getElem? (i := 979) (by decide +kernel)) rfl), (in_gd (List.mem_of_getElem? (i := 4) (by decide +kernel)) rfl), (in_gd (List.mem_of_getElem? (i := 980) (by decide +kernel)) rfl), ⟨by decide +kernel, by decide +kernel⟩, by decide +kernel⟩
theorem ml_L_60 : ML RL 60 yX3_colonel := Or.inl (in_gd (List.mem_of_getElem? (i := 977) (by decide +kernel)) rfl)
theorem cf_X2_hours : CFv yX2_hours cX2_hours 2 (some .int) 1 := ⟨(in_gd (List.mem_of_getElem? (i := 359) (by decide +kernel)) rfl), (in_gd (List.mem_of_getElem? (i := 360) (by decide +kernel)) rfl), (in_gd (List.mem_of_getElem? (i := 1) (by decide +kernel)) rfl), (in_gd (List.mem_of_getElem? (i := 361) (by decide +kernel)) rfl), ⟨by decide +kernel, by decide +kernel⟩, by decide +kernel⟩
theorem ml_L_61 : ML RL 61 yX2_hours := Or.inl (in_gd (List.mem_of_getElem? (i := 358) (by decide +kernel)) rfl)
theorem cf_X3_hours : CFv yX3_hours cX3_hours 3 (some .int) 1 := ⟨(in_gd (List.mem_of_getElem? (i := 982) (by decide +kernel)) rfl), (in_gd (List.mem_of_getElem? (i := 983) (by decide +kernel)) rfl), (in_gd (List.mem_of_getElem? (i := 4) (by decide +kernel)) rfl), (in_gd (List.mem_of_getElem? (i := 984) (by decide +kernel)) rfl), ⟨by decide +kernel, by decide +kernel⟩, by decide +kernel⟩
theorem ml_L_64 : ML RL 64 yX3_hours := Or.inl (in_gd (List.mem_of_getElem? (i := 981) (by decide +kernel)) rfl)
theorem cf_X2_back : CFv yX2_back cX2_back 1 (some .int) 0 := ⟨(in_gd (List.mem_of_getElem? (i := 364) (by decide +kernel)) rfl), (in_gd (List.mem_of_getElem? (i := 365) (by decide +kernel)) rfl), (in_gd (List.mem_of_getElem? (i := 1) (by decide +kernel)) rfl), (in_gd (List.mem_of_getElem? (i := 366) (by decide +kernel)) rfl), ⟨by decide +kernel, by decide +kernel⟩, by decide +kernel⟩
theorem ml_L_65 : ML RL 65 yX2_back := Or.inl (in_gd (List.mem_of_getElem? (i := 363) (by decide +kernel)) rfl)
theorem cf_X3_back : CFv yX3_back cX3_back 1 (some .int) 0 := ⟨(in_gd (List.mem_of_getElem? (i := 923) (by decide +kernel)) rfl), (in_gd (List.mem_of_getElem? (i := 924) (by decide +kernel)) rfl), (in_gd (List.mem_of_getElem? (i := 4) (by decide +kernel)) rfl), (in_gd (List.mem_of_getElem? (i := 925) (by decide +kernel)) rfl), ⟨by decide +kernel, by decide +kernel⟩, by decide +kernel⟩
theorem ml_L_68 : ML RL 68 yX3_back := Or.inl (in_gd (List.mem_of_getElem? (i := 922) (by decide +kernel)) rfl)
theorem cf_X2_behind : CFv yX2_behind cX2_behind 5 (some .int) 3 := ⟨(in_gd (List.mem_of_getElem? (i := 376) (by decide +kernel)) rfl), (in_gd (List.mem_of_getElem? (i := 377) (by decide +kernel)) rfl), (in_gd (List.mem_of_getElem? (i := 1) (by decide +kernel)) rfl), (in_gd (List.mem_of_getElem? (i := 378) (by decide +kernel)) rfl), ⟨by decide +kernel, by decide +kernel⟩, by decide +kernel⟩
theorem ml_L_69 : ML RL 69 yX2_behind := Or.inl (in_gd (List.mem_of_getElem? (i := 375) (by decide +kernel)) rfl)
theorem cf_X3_behind : CFv yX3_behind cX3_behind 7 (some .int) 3 := ⟨(in_gd (List.mem_of_getElem? (i := 994) (by decide +kernel)) rfl), (in_gd (List.mem_of_getElem? (i := 995) (by decide +kernel)) rfl), (in_gd (List.mem_of_getElem? (i := 4) (by decide +kernel)) rfl), (in_gd (List.mem_of_getElem? (i := 996) (by decide +kernel)) rfl), ⟨by decide +kernel, by decide +kernel⟩, by decide +kernel⟩
theorem ml_L_72 : ML RL 72 yX3_behind := Or.inl (in_gd (List.mem_of_getElem? (i := 993) (by decide +kernel)) rfl)
theorem cf_X2_meet : CFv yX2_meet cX2_meet 3 (some .int) 2 := ⟨(in_gd (List.mem_of_getElem? (i := 383) (by decide +kernel)) rfl), (in_gd (List.mem_of_getElem? (i := 384) (by decide +kernel)) rfl), (in_gd (List.mem_of_getElem? (i := 1) (by decide +kernel)) rfl), (in_gd (List.mem_of_getElem? (i := 385) (by decide +kernel)) rfl), ⟨by decide +kernel, by decide +kernel⟩, by decide +kernel⟩
theorem ml_L_73 : ML RL 73 yX2_meet := Or.inl (in_gd (List.mem_of_getElem? (i := 382) (by decide +kernel)) rfl)
theorem cf_X3_meet : CFv yX3_meet cX3_meet 3 (some .int) 2 := ⟨(in_gd (List.mem_of_getElem? (i := 1009) (by decide +kernel)) rfl), (in_gd (List.mem_of_getElem? (i := 1010) (by decide +kernel)) rfl), (in_gd (List.mem_of_getElem? (i := 4) (by decide +kernel)) rfl), (in_gd (List.mem_of_getElem? (i := 1011) (by decide +kernel)) rfl), ⟨by decide +kernel, by decide +kernel⟩, by decide +kernel⟩
theorem ml_L_76 : ML RL 76 yX3_meet := Or.inl (in_gd (List.mem_of_getElem? (i := 1008) (by decide +kernel)) rfl)
theorem cf_X2_company : CFv yX2_company cX2_company 5 (some .int) 2 := ⟨(in_gd (List.mem_of_getElem? (i := 398) (by decide +kernel)) rfl), (in_gd (List.mem_of_getElem? (i := 399) (by decide +kernel)) rfl), (in_gd (List.mem_of_getElem? (i := 1) (by decide +kernel)) rfl), (in_gd (List.mem_of_getElem? (i := 400) (by decide +kernel)) rfl), ⟨by decide +kernel, by decide +kernel⟩, by decide +kernel⟩
theorem ml_L_77 : ML RL 77 yX2_company := Or.inl (in_gd (List.mem_of_getElem? (i := 397) (by decide +kernel)) rfl)
theorem cf_X3_company : CFv yX3_company cX3_company 6 (some .int) 2 := ⟨(in_gd (List.mem_of_getElem? (i := 1021) (by decide +kernel)) rfl), (in_gd (List.mem_of_getElem? (i := 1022) (by decide +kernel)) rfl), (in_gd (List.mem_of_getElem? (i := 4) (by decide +kernel)) rfl), (in_gd (List.mem_of_getElem? (i := 1023) (by decide +kernel)) rfl), ⟨by decide +kernel, by decide +kernel⟩, by decide +kernel⟩
theorem ml_L_80 : ML RL 80 yX3_company := Or.inl (in_gd (List.mem_of_getElem? (i := 1020) (by decide +kernel)) rfl)
theorem cf_X2_breathless : CFv yX2_breathless cX2_breathless 4 (some .int) 1 := ⟨(in_gd (List.mem_of_getElem? (i := 417) (by decide +kernel)) rfl), (in_gd (List.mem_of_getElem? (i := 418) (by decide +kernel)) rfl), (in_gd (List.mem_of_getElem? (i := 1) (by decide +kernel)) rfl), (in_gd (List.mem_of_getElem? (i := 419) (by decide +kernel)) rfl), ⟨by decide +kernel, by decide +kernel⟩, by decide +kernel⟩
theorem ml_L_81 : ML RL 81 yX2_breathless := Or.inl (in_gd (List.mem_of_getElem? (i := 416) (by decide +kernel)) rfl)
theorem cf_X3_breathless : CFv yX3_breathless cX3_breathless 4 (some .int) 1 := ⟨(in_gd (List.mem_of_getElem? (i := 1029) (by decide +kernel)) rfl), (in_gd (List.mem_of_getElem? (i := 1030) (by decide +kernel)) rfl), (in_gd (List.mem_of_getElem? (i := 4) (by decide +kernel)) rfl), (in_gd (List.mem_of_getElem? (i := 1031) (by decide +kernel)) rfl), ⟨by decide +kernel, by decide +kernel⟩, by decide +kernel⟩
theorem ml_L_84 : ML RL 84 yX3_breathless := Or.inl (in_gd (List.mem_of_getElem? (i := 1028) (by decide +kernel)) rfl)
theorem cf_X2_snaps : CFv yX2_snaps cX2_snaps 4 (some .int) 2 := ⟨(in_gd (List.mem_of_getElem? (i := 425) (by decide +kernel)) rfl), (in_gd (List.mem_of_getElem? (i := 426) (by decide +kernel)) rfl), (in_gd (List.mem_of_getElem? (i := 1) (by decide +kernel)) rfl), (in_gd (List.mem_of_getElem? (i := 427) (by decide +kernel)) rfl), ⟨by decide +kernel, by decide +kernel⟩, by decide +kernel⟩
theorem ml_L_85 : ML RL 85 yX2_snaps := Or.inl (in_gd (List.mem_of_getElem? (i := 424) (by decide +kernel)) rfl)
theorem cf_X3_snaps : CFv yX3_snaps cX3_snaps 4 (some .int) 2 := ⟨(in_gd (List.mem_of_getElem? (i := 1037) (by decide +kernel)) rfl), (in_gd (List.mem_of_getElem? (i := 1038) (by decide +kernel)) rfl), (in_gd (List.mem_of_getElem? (i := 4) (by decide +kernel)) rfl), (in_gd (List.mem_of_getElem? (i := 1039) (by decide +kernel)) rfl), ⟨by decide +kernel, by decide +kernel⟩, by decide +kernel⟩
theorem ml_L_88 : ML RL 88 yX3_snaps := Or.inl (in_gd (List.mem_of_getElem? (i := 1036) (by decide +kernel)) rfl)
theorem cf_X2_bestBag : CFv yX2_bestBag cX2_bestBag 8 (some .int) 3 := ⟨(in_gd (List.mem_of_getElem? (i := 475) (by decide +kernel)) rfl), (in_gd (List.mem_of_getElem? (i := 476) (by decide +kernel)) rfl), (in_gd (List.mem_of_getElem? (i := 1) (by decide +kernel)) rfl), (in_gd (List.mem_of_getElem? (i := 477) (by decide +kernel)) rfl), ⟨by decide +kernel, by decide +kernel⟩, by decide +kernel⟩
theorem ml_L_89 : ML RL 89 yX2_bestBag := Or.inl (in_gd (List.mem_of_getElem? (i := 474) (by decide +kernel)) rfl)
theorem cf_X3_bestBag : CFv yX3_bestBag cX3_bestBag 9 (some .int) 3 := ⟨(in_gd (List.mem_of_getElem? (i := 1053) (by decide +kernel)) rfl), (in_gd (List.mem_of_getElem? (i := 1054) (by decide +kernel)) rfl), (in_gd (List.mem_of_getElem? (i := 4) (by decide +kernel)) rfl), (in_gd (List.mem_of_getElem? (i := 1055) (by decide +kernel)) rfl), ⟨by decide +kernel, by decide +kernel⟩, by decide +kernel⟩
theorem ml_L_92 : ML RL 92 yX3_bestBag := Or.inl (in_gd (List.mem_of_getElem? (i := 1052) (by decide +kernel)) rfl)
theorem cf_X2_hers : CFv yX2_hers cX2_hers 3 (some .int) 1 := ⟨(in_gd (List.mem_of_getElem? (i := 483) (by decide +kernel)) rfl), (in_gd (List.mem_of_getElem? (i := 484) (by decide +kernel)) rfl), (in_gd (List.mem_of_getElem? (i := 1) (by decide +kernel)) rfl), (in_gd (List.mem_of_getElem? (i := 485) (by decide +kernel)) rfl), ⟨by decide +kernel, by decide +kernel⟩, by decide +kernel⟩
theorem ml_L_93 : ML RL 93 yX2_hers := Or.inl (in_gd (List.mem_of_getElem? (i := 482) (by decide +kernel)) rfl)
theorem cf_X3_hers : CFv yX3_hers cX3_hers 4 (some .int) 1 := ⟨(in_gd (List.mem_of_getElem? (i := 1065) (by decide +kernel)) rfl), (in_gd (List.mem_of_getElem? (i := 1066) (by decide +kernel)) rfl), (in_gd (List.mem_of_getElem? (i := 4) (by decide +kernel)) rfl), (in_gd (List.mem_of_getElem? (i := 1067) (by decide +kernel)) rfl), ⟨by decide +kernel, by decide +kernel⟩, by decide +kernel⟩
theorem ml_L_96 : ML RL 96 yX3_hers := Or.inl (in_gd (List.mem_of_getElem? (i := 1064) (by decide +kernel)) rfl)
theorem cf_X2_errand : CFv yX2_errand cX2_errand 3 (some .int) 2 := ⟨(in_gd (List.mem_of_getElem? (i := 487) (by decide +kernel)) rfl), (in_gd (List.mem_of_getElem? (i := 488) (by decide +kernel)) rfl), (in_gd (List.mem_of_getElem? (i := 1) (by decide +kernel)) rfl), (in_gd (List.mem_of_getElem? (i := 489) (by decide +kernel)) rfl), ⟨by decide +kernel, by decide +kernel⟩, by decide +kernel⟩
theorem ml_L_97 : ML RL 97 yX2_errand := Or.inl (in_gd (List.mem_of_getElem? (i := 486) (by decide +kernel)) rfl)
theorem cf_X3_errand : CFv yX3_errand cX3_errand 3 (some .int) 2 := ⟨(in_gd (List.mem_of_getElem? (i := 1069) (by decide +kernel)) rfl), (in_gd (List.mem_of_getElem? (i := 1070) (by decide +kernel)) rfl), (in_gd (List.mem_of_getElem? (i := 4) (by decide +kernel)) rfl), (in_gd (List.mem_of_getElem? (i := 1071) (by decide +kernel)) rfl), ⟨by decide +kernel, by decide +kernel⟩, by decide +kernel⟩
theorem ml_L_100 : ML RL 100 yX3_errand := Or.inl (in_gd (List.mem_of_getElem? (i := 1068) (by decide +kernel)) rfl)
theorem cf_X2_defy : CFv yX2_defy cX2_defy 6 (some .int) 3 := ⟨(in_gd (List.mem_of_getElem? (i := 491) (by decide +kernel)) rfl), (in_gd (List.mem_of_getElem? (i := 492) (by decide +kernel)) rfl), (in_gd (List.mem_of_getElem? (i := 1) (by decide +kernel)) rfl), (in_gd (List.mem_of_getElem? (i := 493) (by decide +kernel)) rfl), ⟨by decide +kernel, by decide +kernel⟩, by decide +kernel⟩
theorem ml_L_101 : ML RL 101 yX2_defy := Or.inl (in_gd (List.mem_of_getElem? (i := 490) (by decide +kernel)) rfl)
theorem cf_X3_defy : CFv yX3_defy cX3_defy 6 (some .int) 3 := ⟨(in_gd (List.mem_of_getElem? (i := 1077) (by decide +kernel)) rfl), (in_gd (List.mem_of_getElem? (i := 1078) (by decide +kernel)) rfl), (in_gd (List.mem_of_getElem? (i := 4) (by decide +kernel)) rfl), (in_gd (List.mem_of_getElem? (i := 1079) (by decide +kernel)) rfl), ⟨by decide +kernel, by decide +kernel⟩, by decide +kernel⟩
theorem ml_L_104 : ML RL 104 yX3_defy := Or.inl (in_gd (List.mem_of_getElem? (i := 1076) (by decide +kernel)) rfl)
theorem cf_X2_given : CFv yX2_given cX2_given 7 (some .int) 3 := ⟨(in_gd (List.mem_of_getElem? (i := 542) (by decide +kernel)) rfl), (in_gd (List.mem_of_getElem? (i := 543) (by decide +kernel)) rfl), (in_gd (List.mem_of_getElem? (i := 1) (by decide +kernel)) rfl), (in_gd (List.mem_of_getElem? (i := 544) (by decide +kernel)) rfl), ⟨by decide +kernel, by decide +kernel⟩, by decide +kernel⟩
theorem ml_L_105 : ML RL 105 yX2_given := Or.inl (in_gd (List.mem_of_getElem? (i := 541) (by decide +kernel)) rfl)
theorem cf_X3_given : CFv yX3_given cX3_given 6 (some .int) 3 := ⟨(in_gd (List.mem_of_getElem? (i := 1081) (by decide +kernel)) rfl), (in_gd (List.mem_of_getElem? (i := 1082) (by decide +kernel)) rfl), (in_gd (List.mem_of_getElem? (i := 4) (by decide +kernel)) rfl), (in_gd (List.mem_of_getElem? (i := 1083) (by decide +kernel)) rfl), ⟨by decide +kernel, by decide +kernel⟩, by decide +kernel⟩
theorem ml_L_108 : ML RL 108 yX3_given := Or.inl (in_gd (List.mem_of_getElem? (i := 1080) (by decide +kernel)) rfl)
theorem cf_X2_quiet : CFv yX2_quiet cX2_quiet 6 (some .int) 2 := ⟨(in_gd (List.mem_of_getElem? (i := 577) (by decide +kernel)) rfl), (in_gd (List.mem_of_getElem? (i := 578) (by decide +kernel)) rfl), (in_gd (List.mem_of_getElem? (i := 1) (by decide +kernel)) rfl), (in_gd (List.mem_of_getElem? (i := 579) (by decide +kernel)) rfl), ⟨by decide +kernel, by decide +kernel⟩, by decide +kernel⟩
theorem ml_L_109 : ML RL 109 yX2_quiet := Or.inl (in_gd (List.mem_of_getElem? (i := 576) (by decide +kernel)) rfl)
theorem cf_X3_quiet : CFv yX3_quiet cX3_quiet 5 (some .int) 2 := ⟨(in_gd (List.mem_of_getElem? (i := 1113) (by decide +kernel)) rfl), (in_gd (List.mem_of_getElem? (i := 1114) (by decide +kernel)) rfl), (in_gd (List.mem_of_getElem? (i := 4) (by decide +kernel)) rfl), (in_gd (List.mem_of_getElem? (i := 1115) (by decide +kernel)) rfl), ⟨by decide +kernel, by decide +kernel⟩, by decide +kernel⟩
theorem ml_L_112 : ML RL 112 yX3_quiet := Or.inl (in_gd (List.mem_of_getElem? (i := 1112) (by decide +kernel)) rfl)
theorem cf_X2_stable : CFv yX2_stable cX2_stable 2 (some .int) 1 := ⟨(in_gd (List.mem_of_getElem? (i := 585) (by decide +kernel)) rfl), (in_gd (List.mem_of_getElem? (i := 586) (by decide +kernel)) rfl), (in_gd (List.mem_of_getElem? (i := 1) (by decide +kernel)) rfl), (in_gd (List.mem_of_getElem? (i := 587) (by decide +kernel)) rfl), ⟨by decide +kernel, by decide +kernel⟩, by decide +kernel⟩
theorem ml_L_113 : ML RL 113 yX2_stable := Or.inl (in_gd (List.mem_of_getElem? (i := 584) (by decide +kernel)) rfl)
theorem cf_X3_stable : CFv yX3_stable cX3_stable 4 (some .int) 1 := ⟨(in_gd (List.mem_of_getElem? (i := 1117) (by decide +kernel)) rfl), (in_gd (List.mem_of_getElem? (i := 1118) (by decide +kernel)) rfl), (in_gd (List.mem_of_getElem? (i := 4) (by decide +kernel)) rfl), (in_gd (List.mem_of_getElem? (i := 1119) (by decide +kernel)) rfl), ⟨by decide +kernel, by decide +kernel⟩, by decide +kernel⟩
theorem ml_L_116 : ML RL 116 yX3_stable := Or.inl (in_gd (List.mem_of_getElem? (i := 1116) (by decide +kernel)) rfl)
theorem cf_X2_whose : CFv yX2_whose cX2_whose 7 (some .int) 2 := ⟨(in_gd (List.mem_of_getElem? (i := 634) (by decide +kernel)) rfl), (in_gd (List.mem_of_getElem? (i := 635) (by decide +kernel)) rfl), (in_gd (List.mem_of_getElem? (i := 1) (by decide +kernel)) rfl), (in_gd (List.mem_of_getElem? (i := 636) (by decide +kernel)) rfl), ⟨by decide +kernel, by decide +kernel⟩, by decide +kernel⟩
theorem ml_L_117 : ML RL 117 yX2_whose := Or.inl (in_gd (List.mem_of_getElem? (i := 633) (by decide +kernel)) rfl)
theorem cf_X3_whose : CFv yX3_whose cX3_whose 5 (some .int) 2 := ⟨(in_gd (List.mem_of_getElem? (i := 1141) (by decide +kernel)) rfl), (in_gd (List.mem_of_getElem? (i := 1142) (by decide +kernel)) rfl), (in_gd (List.mem_of_getElem? (i := 4) (by decide +kernel)) rfl), (in_gd (List.mem_of_getElem? (i := 1143) (by decide +kernel)) rfl), ⟨by decide +kernel, by decide +kernel⟩, by decide +kernel⟩
theorem ml_L_120 : ML RL 120 yX3_whose := Or.inl (in_gd (List.mem_of_getElem? (i := 1140) (by decide +kernel)) rfl)
theorem cf_X2_nextTell : CFv yX2_nextTell cX2_nextTell 10 (some .int) 3 := ⟨(in_gd (List.mem_of_getElem? (i := 638) (by decide +kernel)) rfl), (in_gd (List.mem_of_getElem? (i := 639) (by decide +kernel)) rfl), (in_gd (List.mem_of_getElem? (i := 1) (by decide +kernel)) rfl), (in_gd (List.mem_of_getElem? (i := 640) (by decide +kernel)) rfl), ⟨by decide +kernel, by decide +kernel⟩, by decide +kernel⟩
theorem ml_L_121 : ML RL 121 yX2_nextTell := Or.inl (in_gd (List.mem_of_getElem? (i := 637) (by decide +kernel)) rfl)
theorem cf_X3_nextTell : CFv yX3_nextTell cX3_nextTell 10 (some .int) 3 := ⟨(in_gd (List.mem_of_getElem? (i := 1153) (by decide +kernel)) rfl), (in_gd (List.mem_of_getElem? (i := 1154) (by decide +kernel)) rfl), (in_gd (List.mem_of_getElem? (i := 4) (by decide +kernel)) rfl), (in_gd (List.mem_of_getElem? (i := 1155) (by decide +kernel)) rfl), ⟨by decide +kernel, by decide +kernel⟩, by decide +kernel⟩
theorem ml_L_124 : ML RL 124 yX3_nextTell := Or.inl (in_gd (List.mem_of_getElem? (i := 1152) (by decide +kernel)) rfl)
theorem cf_X2_arm : CFv yX2_arm cX2_arm 6 (some .int) 3 := ⟨(in_gd (List.mem_of_getElem? (i := 652) (by decide +kernel)) rfl), (in_gd (List.mem_of_getElem? (i := 653) (by decide +kernel)) rfl), (in_gd (List.mem_of_getElem? (i := 1) (by decide +kernel)) rfl), (in_gd (List.mem_of_getElem? (i := 654) (by decide +kernel)) rfl), ⟨by decide +kernel, by decide +kernel⟩, by decide +kernel⟩
theorem ml_L_125 : ML RL 125 yX2_arm := Or.inl (in_gd (List.mem_of_getElem? (i := 651) (by decide +kernel)) rfl)
theorem cf_X3_arm : CFv yX3_arm cX3_arm 6 (some .int) 3 := ⟨(in_gd (List.mem_of_getElem? (i := 1165) (by decide +kernel)) rfl), (in_gd (List.mem_of_getElem? (i := 1166) (by decide +kernel)) rfl), (in_gd (List.mem_of_getElem? (i := 4) (by decide +kernel)) rfl), (in_gd (List.mem_of_getElem? (i := 1167) (by decide +kernel)) rfl), ⟨by decide +kernel, by decide +kernel⟩, by decide +kernel⟩
theorem ml_L_128 : ML RL 128 yX3_arm := Or.inl (in_gd (List.mem_of_getElem? (i := 1164) (by decide +kernel)) rfl)
theorem cf_X2_sleep : CFv yX2_sleep cX2_sleep 14 (some .long) 5 := ⟨(in_gd (List.mem_of_getElem? (i := 668) (by decide +kernel)) rfl), (in_gd (List.mem_of_getElem? (i := 669) (by decide +kernel)) rfl), (in_gd (List.mem_of_getElem? (i := 1) (by decide +kernel)) rfl), (in_gd (List.mem_of_getElem? (i := 670) (by decide +kernel)) rfl), ⟨by decide +kernel, by decide +kernel⟩, by decide +kernel⟩
theorem ml_L_129 : ML RL 129 yX2_sleep := Or.inl (in_gd (List.mem_of_getElem? (i := 667) (by decide +kernel)) rfl)
theorem cf_X3_sleep : CFv yX3_sleep cX3_sleep 16 (some .long) 5 := ⟨(in_gd (List.mem_of_getElem? (i := 1177) (by decide +kernel)) rfl), (in_gd (List.mem_of_getElem? (i := 1178) (by decide +kernel)) rfl), (in_gd (List.mem_of_getElem? (i := 4) (by decide +kernel)) rfl), (in_gd (List.mem_of_getElem? (i := 1179) (by decide +kernel)) rfl), ⟨by decide +kernel, by decide +kernel⟩, by decide +kernel⟩
theorem ml_L_133 : ML RL 133 yX3_sleep := Or.inl (in_gd (List.mem_of_getElem? (i := 1176) (by decide +kernel)) rfl)
theorem cf_X2_swap : CFv yX2_swap cX2_swap 7 (some .int) 1 := ⟨(in_gd (List.mem_of_getElem? (i := 503) (by decide +kernel)) rfl), (in_gd (List.mem_of_getElem? (i := 504) (by decide +kernel)) rfl), (in_gd (List.mem_of_getElem? (i := 1) (by decide +kernel)) rfl), (in_gd (List.mem_of_getElem? (i := 505) (by decide +kernel)) rfl), ⟨by decide +kernel, by decide +kernel⟩, by decide +kernel⟩
theorem ml_L_134 : ML RL 134 yX2_swap := Or.inl (in_gd (List.mem_of_getElem? (i := 502) (by decide +kernel)) rfl)
theorem cf_X3_swap : CFv yX3_swap cX3_swap 8 (some .int) 1 := ⟨(in_gd (List.mem_of_getElem? (i := 1189) (by decide +kernel)) rfl), (in_gd (List.mem_of_getElem? (i := 1190) (by decide +kernel)) rfl), (in_gd (List.mem_of_getElem? (i := 4) (by decide +kernel)) rfl), (in_gd (List.mem_of_getElem? (i := 1191) (by decide +kernel)) rfl), ⟨by decide +kernel, by decide +kernel⟩, by decide +kernel⟩
theorem ml_L_137 : ML RL 137 yX3_swap := Or.inl (in_gd (List.mem_of_getElem? (i := 1188) (by decide +kernel)) rfl)
theorem cf_X2_heir : CFv yX2_heir cX2_heir 2 (some .int) 1 := ⟨(in_gd (List.mem_of_getElem? (i := 519) (by decide +kernel)) rfl), (in_gd (List.mem_of_getElem? (i := 520) (by decide +kernel)) rfl), (in_gd (List.mem_of_getElem? (i := 1) (by decide +kernel)) rfl), (in_gd (List.mem_of_getElem? (i := 521) (by decide +kernel)) rfl), ⟨by decide +kernel, by decide +kernel⟩, by decide +kernel⟩
theorem ml_L_138 : ML RL 138 yX2_heir := Or.inl (in_gd (List.mem_of_getElem? (i := 518) (by decide +kernel)) rfl)
theorem cf_X3_heir : CFv yX3_heir cX3_heir 4 (some .int) 1 := ⟨(in_gd (List.mem_of_getElem? (i := 1197) (by decide +kernel)) rfl), (in_gd (List.mem_of_getElem? (i := 1198) (by decide +kernel)) rfl), (in_gd (List.mem_of_getElem? (i := 4) (by decide +kernel)) rfl), (in_gd (List.mem_of_getElem? (i := 1199) (by decide +kernel)) rfl), ⟨by decide +kernel, by decide +kernel⟩, by decide +kernel⟩
theorem ml_L_141 : ML RL 141 yX3_heir := Or.inl (in_gd (List.mem_of_getElem? (i := 1196) (by decide +kernel)) rfl)
theorem cf_X2_far : CFv yX2_far cX2_far 3 (some .int) 2 := ⟨(in_gd (List.mem_of_getElem? (i := 531) (by decide +kernel)) rfl), (in_gd (List.mem_of_getElem? (i := 532) (by decide +kernel)) rfl), (in_gd (List.mem_of_getElem? (i := 1) (by decide +kernel)) rfl), (in_gd (List.mem_of_getElem? (i := 533) (by decide +kernel)) rfl), ⟨by decide +kernel, by decide +kernel⟩, by decide +kernel⟩
theorem ml_L_142 : ML RL 142 yX2_far := Or.inl (in_gd (List.mem_of_getElem? (i := 530) (by decide +kernel)) rfl)
theorem cf_X3_far : CFv yX3_far cX3_far 3 (some .int) 2 := ⟨(in_gd (List.mem_of_getElem? (i := 1201) (by decide +kernel)) rfl), (in_gd (List.mem_of_getElem? (i := 1202) (by decide +kernel)) rfl), (in_gd (List.mem_of_getElem? (i := 4) (by decide +kernel)) rfl), (in_gd (List.mem_of_getElem? (i := 1203) (by decide +kernel)) rfl), ⟨by decide +kernel, by decide +kernel⟩, by decide +kernel⟩
theorem ml_L_145 : ML RL 145 yX3_far := Or.inl (in_gd (List.mem_of_getElem? (i := 1200) (by decide +kernel)) rfl)
theorem cf_X2_tired : CFv yX2_tired cX2_tired 3 (some .int) 1 := ⟨(in_gd (List.mem_of_getElem? (i := 438) (by decide +kernel)) rfl), (in_gd (List.mem_of_getElem? (i := 439) (by decide +kernel)) rfl), (in_gd (List.mem_of_getElem? (i := 1) (by decide +kernel)) rfl), (in_gd (List.mem_of_getElem? (i := 440) (by decide +kernel)) rfl), ⟨by decide +kernel, by decide +kernel⟩, by decide +kernel⟩
theorem ml_L_146 : ML RL 146 yX2_tired := Or.inl (in_gd (List.mem_of_getElem? (i := 437) (by decide +kernel)) rfl)
theorem cf_X3_tired : CFv yX3_tired cX3_tired 4 (some .int) 1 := ⟨(in_gd (List.mem_of_getElem? (i := 1209) (by decide +kernel)) rfl), (in_gd (List.mem_of_getElem? (i := 1210) (by decide +kernel)) rfl), (in_gd (List.mem_of_getElem? (i := 4) (by decide +kernel)) rfl), (in_gd (List.mem_of_getElem? (i := 1211) (by decide +kernel)) rfl), ⟨by decide +kernel, by decide +kernel⟩, by decide +kernel⟩
theorem ml_L_149 : ML RL 149 yX3_tired := Or.inl (in_gd (List.mem_of_getElem? (i := 1208) (by decide +kernel)) rfl)
theorem cf_X2_visits : CFv yX2_visits cX2_visits 7 (some .int) 3 := ⟨(in_gd (List.mem_of_getElem? (i := 442) (by decide +kernel)) rfl), (in_gd (List.mem_of_getElem? (i := 443) (by decide +kernel)) rfl), (in_gd (List.mem_of_getElem? (i := 1) (by decide +kernel)) rfl), (in_gd (List.mem_of_getElem? (i := 444) (by decide +kernel)) rfl), ⟨by decide +kernel, by decide +kernel⟩, by decide +kernel⟩
theorem ml_L_150 : ML RL 150 yX2_visits := Or.inl (in_gd (List.mem_of_getElem? (i := 441) (by decide +kernel)) rfl)
theorem cf_X3_visits : CFv yX3_visits cX3_visits 7 (some .int) 3 := ⟨(in_gd (List.mem_of_getElem? (i := 1217) (by decide +kernel)) rfl), (in_gd (List.mem_of_getElem? (i := 1218) (by decide +kernel)) rfl), (in_gd (List.mem_of_getElem? (i := 4) (by decide +kernel)) rfl), (in_gd (List.mem_of_getElem? (i := 1219) (by decide +kernel)) rfl), ⟨by decide +kernel, by decide +kernel⟩, by decide +kernel⟩
theorem ml_L_153 : ML RL 153 yX3_visits := Or.inl (in_gd (List.mem_of_getElem? (i := 1216) (by decide +kernel)) rfl)
theorem cf_X2_together : CFv yX2_together cX2_together 7 (some .int) 3 := ⟨(in_gd (List.mem_of_getElem? (i := 446) (by decide +kernel)) rfl), (in_gd (List.mem_of_getElem? (i := 447) (by decide +kernel)) rfl), (in_gd (List.mem_of_getElem? (i := 1) (by decide +kernel)) rfl), (in_gd (List.mem_of_getElem? (i := 448) (by decide +kernel)) rfl), ⟨by decide +kernel, by decide +kernel⟩, by decide +kernel⟩
theorem ml_L_154 : ML RL 154 yX2_together := Or.inl (in_gd (List.mem_of_getElem? (i := 445) (by decide +kernel)) rfl)
theorem cf_X3_together : CFv yX3_together cX3_together 7 (some .int) 3 := ⟨(in_gd (List.mem_of_getElem? (i := 1221) (by decide +kernel)) rfl), (in_gd (List.mem_of_getElem? (i := 1222) (by decide +kernel)) rfl), (in_gd (List.mem_of_getElem? (i := 4) (by decide +kernel)) rfl), (in_gd (List.mem_of_getElem? (i := 1223) (by decide +kernel)) rfl), ⟨by decide +kernel, by decide +kernel⟩, by decide +kernel⟩
theorem ml_L_157 : ML RL 157 yX3_together := Or.inl (in_gd (List.mem_of_getElem? (i := 1220) (by decide +kernel)) rfl)
theorem cf_X2_rests : CFv yX2_rests cX2_rests 4 (some .int) 2 := ⟨(in_gd (List.mem_of_getElem? (i := 450) (by decide +kernel)) rfl), (in_gd (List.mem_of_getElem? (i := 451) (by decide +kernel)) rfl), (in_gd (List.mem_of_getElem? (i := 1) (by decide +kernel)) rfl), (in_gd (List.mem_of_getElem? (i := 452) (by decide +kernel)) rfl), ⟨by decide +kernel, by decide +kernel⟩, by decide +kernel⟩
theorem ml_L_158 : ML RL 158 yX2_rests := Or.inl (in_gd (List.mem_of_getElem? (i := 449) (by decide +kernel)) rfl)
theorem cf_X3_rests : CFv yX3_rests cX3_rests 4 (some .int) 2 := ⟨(in_gd (List.mem_of_getElem? (i := 1225) (by decide +kernel)) rfl), (in_gd (List.mem_of_getElem? (i := 1226) (by decide +kernel)) rfl), (in_gd (List.mem_of_getElem? (i := 4) (by decide +kernel)) rfl), (in_gd (List.mem_of_getElem? (i := 1227) (by decide +kernel)) rfl), ⟨by decide +kernel, by decide +kernel⟩, by decide +kernel⟩
theorem ml_L_161 : ML RL 161 yX3_rests := Or.inl (in_gd (List.mem_of_getElem? (i := 1224) (by decide +kernel)) rfl)
theorem cf_X2_firstSnap : CFv yX2_firstSnap cX2_firstSnap 2 (some .int) 0 := ⟨(in_gd (List.mem_of_getElem? (i := 454) (by decide +kernel)) rfl), (in_gd (List.mem_of_getElem? (i := 455) (by decide +kernel)) rfl), (in_gd (List.mem_of_getElem? (i := 1) (by decide +kernel)) rfl), (in_gd (List.mem_of_getElem? (i := 456) (by decide +kernel)) rfl), ⟨by decide +kernel, by decide +kernel⟩, by decide +kernel⟩
theorem ml_L_162 : ML RL 162 yX2_firstSnap := Or.inl (in_gd (List.mem_of_getElem? (i := 453) (by decide +kernel)) rfl)
theorem cf_X3_firstSnap : CFv yX3_firstSnap cX3_firstSnap 3 (some .int) 0 := ⟨(in_gd (List.mem_of_getElem? (i := 1229) (by decide +kernel)) rfl), (in_gd (List.mem_of_getElem? (i := 1230) (by decide +kernel)) rfl), (in_gd (List.mem_of_getElem? (i := 4) (by decide +kernel)) rfl), (in_gd (List.mem_of_getElem? (i := 1231) (by decide +kernel)) rfl), ⟨by decide +kernel, by decide +kernel⟩, by decide +kernel⟩
theorem ml_L_165 : ML RL 165 yX3_firstSnap := Or.inl (in_gd (List.mem_of_getElem? (i := 1228) (by decide +kernel)) rfl)
theorem cf_X2_busy : CFv yX2_busy cX2_busy 5 (some .int) 2 := ⟨(in_gd (List.mem_of_getElem? (i := 458) (by decide +kernel)) rfl), (in_gd (List.mem_of_getElem? (i := 459) (by decide +kernel)) rfl), (in_gd (List.mem_of_getElem? (i := 1) (by decide +kernel)) rfl), (in_gd (List.mem_of_getElem? (i := 460) (by decide +kernel)) rfl), ⟨by decide +kernel, by decide +kernel⟩, by decide +kernel⟩
theorem ml_L_166 : ML RL 166 yX2_busy := Or.inl (in_gd (List.mem_of_getElem? (i := 457) (by decide +kernel)) rfl)
theorem cf_X3_busy : CFv yX3_busy cX3_busy 6 (some .int) 2 := ⟨(in_gd (List.mem_of_getElem? (i := 1233) (by decide +kernel)) rfl), (in_gd (List.mem_of_getElem? (i := 1234) (by decide +kernel)) rfl), (in_gd (List.mem_of_getElem? (i := 4) (by decide +kernel)) rfl), (in_gd (List.mem_of_getElem? (i := 1235) (by decide +kernel)) rfl), ⟨by decide +kernel, by decide +kernel⟩, by decide +kernel⟩
theorem ml_L_169 : ML RL 169 yX3_busy := Or.inl (in_gd (List.mem_of_getElem? (i := 1232) (by decide +kernel)) rfl)
theorem cf_X2_tamed : CFv yX2_tamed cX2_tamed 4 (some .int) 1 := ⟨(in_gd (List.mem_of_getElem? (i := 499) (by decide +kernel)) rfl), (in_gd (List.mem_of_getElem? (i := 500) (by decide +kernel)) rfl), (in_gd (List.mem_of_getElem? (i := 1) (by decide +kernel)) rfl), (in_gd (List.mem_of_getElem? (i := 501) (by decide +kernel)) rfl), ⟨by decide +kernel, by decide +kernel⟩, by decide +kernel⟩
theorem ml_L_170 : ML RL 170 yX2_tamed := Or.inl (in_gd (List.mem_of_getElem? (i := 498) (by decide +kernel)) rfl)
theorem cf_X3_tamed : CFv yX3_tamed cX3_tamed 6 (some .int) 1 := ⟨(in_gd (List.mem_of_getElem? (i := 1237) (by decide +kernel)) rfl), (in_gd (List.mem_of_getElem? (i := 1238) (by decide +kernel)) rfl), (in_gd (List.mem_of_getElem? (i := 4) (by decide +kernel)) rfl), (in_gd (List.mem_of_getElem? (i := 1239) (by decide +kernel)) rfl), ⟨by decide +kernel, by decide +kernel⟩, by decide +kernel⟩
theorem ml_L_173 : ML RL 173 yX3_tamed := Or.inl (in_gd (List.mem_of_getElem? (i := 1236) (by decide +kernel)) rfl)
theorem cf_X2_unled : CFv yX2_unled cX2_unled 5 (some .int) 0 := ⟨(in_gd (List.mem_of_getElem? (i := 608) (by decide +kernel)) rfl), (in_gd (List.mem_of_getElem? (i := 609) (by decide +kernel)) rfl), (in_gd (List.mem_of_getElem? (i := 1) (by decide +kernel)) rfl), (in_gd (List.mem_of_getElem? (i := 610) (by decide +kernel)) rfl), ⟨by decide +kernel, by decide +kernel⟩, by decide +kernel⟩
theorem ml_L_174 : ML RL 174 yX2_unled := Or.inl (in_gd (List.mem_of_getElem? (i := 607) (by decide +kernel)) rfl)
theorem cf_X3_unled : CFv yX3_unled cX3_unled 5 (some .int) 0 := ⟨(in_gd (List.mem_of_getElem? (i := 1241) (by decide +kernel)) rfl), (in_gd (List.mem_of_getElem? (i := 1242) (by decide +kernel)) rfl), (in_gd (List.mem_of_getElem? (i := 4) (by decide +kernel)) rfl), (in_gd (List.mem_of_getElem? (i := 1243) (by decide +kernel)) rfl), ⟨by decide +kernel, by decide +kernel⟩, by decide +kernel⟩
theorem ml_L_177 : ML RL 177 yX3_unled := Or.inl (in_gd (List.mem_of_getElem? (i := 1240) (by decide +kernel)) rfl)
theorem cf_X2_gathering : CFv yX2_gathering cX2_gathering 2 (some .int) 0 := ⟨(in_gd (List.mem_of_getElem? (i := 462) (by decide +kernel)) rfl), (in_gd (List.mem_of_getElem? (i := 463) (by decide +kernel)) rfl), (in_gd (List.mem_of_getElem? (i := 1) (by decide +kernel)) rfl), (in_gd (List.mem_of_getElem? (i := 464) (by decide +kernel)) rfl), ⟨by decide +kernel, by decide +kernel⟩, by decide +kernel⟩
theorem ml_L_178 : ML RL 178 yX2_gathering := Or.inl (in_gd (List.mem_of_getElem? (i := 461) (by decide +kernel)) rfl)
theorem cf_X3_gathering : CFv yX3_gathering cX3_gathering 3 (some .int) 0 := ⟨(in_gd (List.mem_of_getElem? (i := 1245) (by decide +kernel)) rfl), (in_gd (List.mem_of_getElem? (i := 1246) (by decide +kernel)) rfl), (in_gd (List.mem_of_getElem? (i := 4) (by decide +kernel)) rfl), (in_gd (List.mem_of_getElem? (i := 1247) (by decide +kernel)) rfl), ⟨by decide +kernel, by decide +kernel⟩, by decide +kernel⟩
theorem ml_L_181 : ML RL 181 yX3_gathering := Or.inl (in_gd (List.mem_of_getElem? (i := 1244) (by decide +kernel)) rfl)
theorem cf_X2_bestHabit : CFv yX2_bestHabit cX2_bestHabit 8 (some .int) 2 := ⟨(in_gd (List.mem_of_getElem? (i := 495) (by decide +kernel)) rfl), (in_gd (List.mem_of_getElem? (i := 496) (by decide +kernel)) rfl), (in_gd (List.mem_of_getElem? (i := 1) (by decide +kernel)) rfl), (in_gd (List.mem_of_getElem? (i := 497) (by decide +kernel)) rfl), ⟨by decide +kernel, by decide +kernel⟩, by decide +kernel⟩
theorem ml_L_182 : ML RL 182 yX2_bestHabit := Or.inl (in_gd (List.mem_of_getElem? (i := 494) (by decide +kernel)) rfl)
theorem cf_X3_bestHabit : CFv yX3_bestHabit cX3_bestHabit 9 (some .int) 2 := ⟨(in_gd (List.mem_of_getElem? (i := 1253) (by decide +kernel)) rfl), (in_gd (List.mem_of_getElem? (i := 1254) (by decide +kernel)) rfl), (in_gd (List.mem_of_getElem? (i := 4) (by decide +kernel)) rfl), (in_gd (List.mem_of_getElem? (i := 1255) (by decide +kernel)) rfl), ⟨by decide +kernel, by decide +kernel⟩, by decide +kernel⟩
theorem ml_L_185 : ML RL 185 yX3_bestHabit := Or.inl (in_gd (List.mem_of_getElem? (i := 1252) (by decide +kernel)) rfl)
theorem cf_X2_farthest : CFv yX2_farthest cX2_farthest 9 (some .int) 2 := ⟨(in_gd (List.mem_of_getElem? (i := 470) (by decide +kernel)) rfl), (in_gd (List.mem_of_getElem? (i := 471) (by decide +kernel)) rfl), (in_gd (List.mem_of_getElem? (i := 1) (by decide +kernel)) rfl), (in_gd (List.mem_of_getElem? (i := 472) (by decide +kernel)) rfl), ⟨by decide +kernel, by decide +kernel⟩, by decide +kernel⟩
theorem ml_L_186 : ML RL 186 yX2_farthest := Or.inl (in_gd (List.mem_of_getElem? (i := 469) (by decide +kernel)) rfl)
theorem cf_X3_farthest : CFv yX3_farthest cX3_farthest 8 (some .int) 2 := ⟨(in_gd (List.mem_of_getElem? (i := 1257) (by decide +kernel)) rfl), (in_gd (List.mem_of_getElem? (i := 1258) (by decide +kernel)) rfl), (in_gd (List.mem_of_getElem? (i := 4) (by decide +kernel)) rfl), (in_gd (List.mem_of_getElem? (i := 1259) (by decide +kernel)) rfl), ⟨by decide +kernel, by decide +kernel⟩, by decide +kernel⟩
theorem ml_L_189 : ML RL 189 yX3_farthest := Or.inl (in_gd (List.mem_of_getElem? (i := 1256) (by decide +kernel)) rfl)
theorem cf_X2_row : CFv yX2_row cX2_row 2 (some .int) 1 := ⟨(in_gd (List.mem_of_getElem? (i := 618) (by decide +kernel)) rfl), (in_gd (List.mem_of_getElem? (i := 619) (by decide +kernel)) rfl), (in_gd (List.mem_of_getElem? (i := 1) (by decide +kernel)) rfl), (in_gd (List.mem_of_getElem? (i := 620) (by decide +kernel)) rfl), ⟨by decide +kernel, by decide +kernel⟩, by decide +kernel⟩
theorem ml_L_190 : ML RL 190 yX2_row := Or.inl (in_gd (List.mem_of_getElem? (i := 617) (by decide +kernel)) rfl)
theorem cf_X3_row : CFv yX3_row cX3_row 3 (some .int) 1 := ⟨(in_gd (List.mem_of_getElem? (i := 1261) (by decide +kernel)) rfl), (in_gd (List.mem_of_getElem? (i := 1262) (by decide +kernel)) rfl), (in_gd (List.mem_of_getElem? (i := 4) (by decide +kernel)) rfl), (in_gd (List.mem_of_getElem? (i := 1263) (by decide +kernel)) rfl), ⟨by decide +kernel, by decide +kernel⟩, by decide +kernel⟩
theorem ml_L_193 : ML RL 193 yX3_row := Or.inl (in_gd (List.mem_of_getElem? (i := 1260) (by decide +kernel)) rfl)
theorem cf_X2_judge : CFv yX2_judge cX2_judge 3 (some .int) 1 := ⟨(in_gd (List.mem_of_getElem? (i := 622) (by decide +kernel)) rfl), (in_gd (List.mem_of_getElem? (i := 623) (by decide +kernel)) rfl), (in_gd (List.mem_of_getElem? (i := 1) (by decide +kernel)) rfl), (in_gd (List.mem_of_getElem? (i := 624) (by decide +kernel)) rfl), ⟨by decide +kernel, by decide +kernel⟩, by decide +kernel⟩
theorem ml_L_194 : ML RL 194 yX2_judge := Or.inl (in_gd (List.mem_of_getElem? (i := 621) (by decide +kernel)) rfl)
theorem cf_X3_judge : CFv yX3_judge cX3_judge 5 (some .int) 1 := ⟨(in_gd (List.mem_of_getElem? (i := 1265) (by decide +kernel)) rfl), (in_gd (List.mem_of_getElem? (i := 1266) (by decide +kernel)) rfl), (in_gd (List.mem_of_getElem? (i := 4) (by decide +kernel)) rfl), (in_gd (List.mem_of_getElem? (i := 1267) (by decide +kernel)) rfl), ⟨by decide +kernel, by decide +kernel⟩, by decide +kernel⟩
theorem ml_L_197 : ML RL 197 yX3_judge := Or.inl (in_gd (List.mem_of_getElem? (i := 1264) (by decide +kernel)) rfl)
theorem cf_X2_clear : CFv yX2_clear cX2_clear 2 (some .int) 0 := ⟨(in_gd (List.mem_of_getElem? (i := 630) (by decide +kernel)) rfl), (in_gd (List.mem_of_getElem? (i := 631) (by decide +kernel)) rfl), (in_gd (List.mem_of_getElem? (i := 1) (by decide +kernel)) rfl), (in_gd (List.mem_of_getElem? (i := 632) (by decide +kernel)) rfl), ⟨by decide +kernel, by decide +kernel⟩, by decide +kernel⟩
theorem ml_L_198 : ML RL 198 yX2_clear := Or.inl (in_gd (List.mem_of_getElem? (i := 629) (by decide +kernel)) rfl)
theorem cf_X3_clear : CFv yX3_clear cX3_clear 2 (some .int) 0 := ⟨(in_gd (List.mem_of_getElem? (i := 1269) (by decide +kernel)) rfl), (in_gd (List.mem_of_getElem? (i := 1270) (by decide +kernel)) rfl), (in_gd (List.mem_of_getElem? (i := 4) (by decide +kernel)) rfl), (in_gd (List.mem_of_getElem? (i := 1271) (by decide +kernel)) rfl), ⟨by decide +kernel, by decide +kernel⟩, by decide +kernel⟩
theorem ml_L_201 : ML RL 201 yX3_clear := Or.inl (in_gd (List.mem_of_getElem? (i := 1268) (by decide +kernel)) rfl)
theorem cf_X2_lots : CFv yX2_lots cX2_lots 8 (some .int) 3 := ⟨(in_gd (List.mem_of_getElem? (i := 535) (by decide +kernel)) rfl), (in_gd (List.mem_of_getElem? (i := 536) (by decide +kernel)) rfl), (in_gd (List.mem_of_getElem? (i := 1) (by decide +kernel)) rfl), (in_gd (List.mem_of_getElem? (i := 537) (by decide +kernel)) rfl), ⟨by decide +kernel, by decide +kernel⟩, by decide +kernel⟩
theorem ml_L_202 : ML RL 202 yX2_lots := Or.inl (in_gd (List.mem_of_getElem? (i := 534) (by decide +kernel)) rfl)
theorem cf_X3_lots : CFv yX3_lots cX3_lots 10 (some .int) 3 := ⟨(in_gd (List.mem_of_getElem? (i := 1273) (by decide +kernel)) rfl), (in_gd (List.mem_of_getElem? (i := 1274) (by decide +kernel)) rfl), (in_gd (List.mem_of_getElem? (i := 4) (by decide +kernel)) rfl), (in_gd (List.mem_of_getElem? (i := 1275) (by decide +kernel)) rfl), ⟨by decide +kernel, by decide +kernel⟩, by decide +kernel⟩
theorem ml_L_205 : ML RL 205 yX3_lots := Or.inl (in_gd (List.mem_of_getElem? (i := 1272) (by decide +kernel)) rfl)
theorem cf_X2_image : CFv yX2_image cX2_image 1 (some .int) 0 := ⟨(in_gd (List.mem_of_getElem? (i := 368) (by decide +kernel)) rfl), (in_gd (List.mem_of_getElem? (i := 369) (by decide +kernel)) rfl), (in_gd (List.mem_of_getElem? (i := 1) (by decide +kernel)) rfl), (in_gd (List.mem_of_getElem? (i := 370) (by decide +kernel)) rfl), ⟨by decide +kernel, by decide +kernel⟩, by decide +kernel⟩
theorem ml_L_206 : ML RL 206 yX2_image := Or.inl (in_gd (List.mem_of_getElem? (i := 367) (by decide +kernel)) rfl)
theorem cf_X3_image : CFv yX3_image cX3_image 1 (some .int) 0 := ⟨(in_gd (List.mem_of_getElem? (i := 927) (by decide +kernel)) rfl), (in_gd (List.mem_of_getElem? (i := 928) (by decide +kernel)) rfl), (in_gd (List.mem_of_getElem? (i := 4) (by decide +kernel)) rfl), (in_gd (List.mem_of_getElem? (i := 929) (by decide +kernel)) rfl), ⟨by decide +kernel, by decide +kernel⟩, by decide +kernel⟩
theorem ml_L_209 : ML RL 209 yX3_image := Or.inl (in_gd (List.mem_of_getElem? (i := 926) (by decide +kernel)) rfl)
theorem cf_X2_restore : CFv yX2_restore cX2_restore 1 (some .int) 0 := ⟨(in_gd (List.mem_of_getElem? (i := 372) (by decide +kernel)) rfl), (in_gd (List.mem_of_getElem? (i := 373) (by decide +kernel)) rfl), (in_gd (List.mem_of_getElem? (i := 1) (by decide +kernel)) rfl), (in_gd (List.mem_of_getElem? (i := 374) (by decide +kernel)) rfl), ⟨by decide +kernel, by decide +kernel⟩, by decide +kernel⟩
theorem ml_L_210 : ML RL 210 yX2_restore := Or.inl (in_gd (List.mem_of_getElem? (i := 371) (by decide +kernel)) rfl)
theorem cf_X3_restore : CFv yX3_restore cX3_restore 1 (some .int) 0 := ⟨(in_gd (List.mem_of_getElem? (i := 931) (by decide +kernel)) rfl), (in_gd (List.mem_of_getElem? (i := 932) (by decide +kernel)) rfl), (in_gd (List.mem_of_getElem? (i := 4) (by decide +kernel)) rfl), (in_gd (List.mem_of_getElem? (i := 933) (by decide +kernel)) rfl), ⟨by decide +kernel, by decide +kernel⟩, by decide +kernel⟩
theorem ml_L_213 : ML RL 213 yX3_restore := Or.inl (in_gd (List.mem_of_getElem? (i := 930) (by decide +kernel)) rfl)
theorem cf_X2_count : CFv yX2_count cX2_count 2 (some .int) 1 := ⟨(in_gd (List.mem_of_getElem? (i := 308) (by decide +kernel)) rfl), (in_gd (List.mem_of_getElem? (i := 309) (by decide +kernel)) rfl), (in_gd (List.mem_of_getElem? (i := 1) (by decide +kernel)) rfl), (in_gd (List.mem_of_getElem? (i := 310) (by decide +kernel)) rfl), ⟨by decide +kernel, by decide +kernel⟩, by decide +kernel⟩
theorem ml_L_214 : ML RL 214 yX2_count := Or.inl (in_gd (List.mem_of_getElem? (i := 307) (by decide +kernel)) rfl)
theorem cf_X3_count : CFv yX3_count cX3_count 4 (some .int) 1 := ⟨(in_gd (List.mem_of_getElem? (i := 1280) (by decide +kernel)) rfl), (in_gd (List.mem_of_getElem? (i := 1281) (by decide +kernel)) rfl), (in_gd (List.mem_of_getElem? (i := 4) (by decide +kernel)) rfl), (in_gd (List.mem_of_getElem? (i := 1282) (by decide +kernel)) rfl), ⟨by decide +kernel, by decide +kernel⟩, by decide +kernel⟩
theorem ml_L_217 : ML RL 217 yX3_count := Or.inl (in_gd (List.mem_of_getElem? (i := 1279) (by decide +kernel)) rfl)
def T_L_law_j248 (xs : Nat → Int32) (L : Nat) (K18 : Int32 → ST → Option Unit) (v3 : Int32) (σ : ST) : Option Unit := lds xs L (v3 + 1) (fun x1 => cI (T_X2_feed x1 σ) (fun x2 σ3 => lds xs L (v3 + 1) (fun x4 => cI (T_X3_feed x4 σ3) (fun x5 σ6 => if x2 = x5 then vl (v3 + 6) (fun x7 => K18 x7 σ6) else none))))
def T_L_law_j271 (xs : Nat → Int32) (L : Nat) (K18 : Int32 → ST → Option Unit) (v3 : Int32) (σ : ST) : Option Unit := cI (T_X2_bequest σ) (fun x1 σ2 => cI (T_X3_bequest σ2) (fun x3 σ4 => if x1 = x3 then vl (v3 + 6) (fun x5 => K18 x5 σ4) else none))
def T_L_law_j284 (xs : Nat → Int32) (L : Nat) (K18 : Int32 → ST → Option Unit) (v3 : Int32) (σ : ST) : Option Unit := lds xs L (v3 + 1) (fun x1 => lds xs L (v3 + 2) (fun x2 => cI (T_X2_bagOf x1 x2 σ) (fun x3 σ4 => lds xs L (v3 + 1) (fun x5 => lds xs L (v3 + 2) (fun x6 => cI (T_X3_bagOf x5 x6 σ4) (fun x7 σ8 => if x3 = x7 then vl (v3 + 6) (fun x9 => K18 x9 σ8) else none))))))
def T_L_law_j317 (xs : Nat → Int32) (L : Nat) (K18 : Int32 → ST → Option Unit) (v3 : Int32) (σ : ST) : Option Unit := lds xs L (v3 + 1) (fun x1 => lds xs L (v3 + 2) (fun x2 => cI (T_X2_bearerOf x1 x2 σ) (fun x3 σ4 => lds xs L (v3 + 1) (fun x5 => lds xs L (v3 + 2) (fun x6 => cI (T_X3_bearerOf x5 x6 σ4) (fun x7 σ8 => if x3 = x7 then vl (v3 + 6) (fun x9 => K18 x9 σ8) else none))))))
def T_L_law_j350 (xs : Nat → Int32) (L : Nat) (K18 : Int32 → ST → Option Unit) (v3 : Int32) (σ : ST) : Option Unit := lds xs L (v3 + 1) (fun x1 => lds xs L (v3 + 2) (fun x2 => lds xs L (v3 + 3) (fun x3 => cI (T_X2_bag x1 x2 x3 σ) (fun x4 σ5 => lds xs L (v3 + 1) (fun x6 => lds xs L (v3 + 2) (fun x7 => lds xs L (v3 + 3) (fun x8 => cI (T_X3_bag x6 x7 x8 σ5) (fun x9 σ10 => if x4 = x9 then vl (v3 + 6) (fun x11 => K18 x11 σ10) else none))))))))
def T_L_law_j393 (xs : Nat → Int32) (L : Nat) (K18 : Int32 → ST → Option Unit) (v3 : Int32) (σ : ST) : Option Unit := lds xs L (v3 + 1) (fun x1 => lds xs L (v3 + 2) (fun x2 => lds xs L (v3 + 3) (fun x3 => cI (T_X2_bearer x1 x2 x3 σ) (fun x4 σ5 => lds xs L (v3 + 1) (fun x6 => lds xs L (v3 + 2) (fun x7 => lds xs L (v3 + 3) (fun x8 => cI (T_X3_bearer x6 x7 x8 σ5) (fun x9 σ10 => if x4 = x9 then vl (v3 + 6) (fun x11 => K18 x11 σ10) else none))))))))
def T_L_law_j436 (xs : Nat → Int32) (L : Nat) (K18 : Int32 → ST → Option Unit) (v3 : Int32) (σ : ST) : Option Unit := lds xs L (v3 + 1) (fun x1 => lds xs L (v3 + 2) (fun x2 => cI (T_X2_gives x1 x2 σ) (fun x3 σ4 => lds xs L (v3 + 1) (fun x5 => lds xs L (v3 + 2) (fun x6 => cI (T_X3_gives x5 x6 σ4) (fun x7 σ8 => if x3 = x7 then vl (v3 + 6) (fun x9 => K18 x9 σ8) else none))))))
def T_L_law_j469 (xs : Nat → Int32) (L : Nat) (K18 : Int32 → ST → Option Unit) (v3 : Int32) (σ : ST) : Option Unit := lds xs L (v3 + 1) (fun x1 => lds xs L (v3 + 2) (fun x2 => cI (T_X2_friends x1 x2 σ) (fun x3 σ4 => lds xs L (v3 + 1) (fun x5 => lds xs L (v3 + 2) (fun x6 => cI (T_X3_friends x5 x6 σ4) (fun x7 σ8 => if x3 = x7 then vl (v3 + 6) (fun x9 => K18 x9 σ8) else none))))))
def T_L_law_j502 (xs : Nat → Int32) (L : Nat) (K18 : Int32 → ST → Option Unit) (v3 : Int32) (σ : ST) : Option Unit := lds xs L (v3 + 1) (fun x1 => lds xs L (v3 + 2) (fun x2 => cI (T_X2_wants x1 x2 σ) (fun x3 σ4 => lds xs L (v3 + 1) (fun x5 => lds xs L (v3 + 2) (fun x6 => cI (T_X3_wants x5 x6 σ4) (fun x7 σ8 => if x3 = x7 then vl (v3 + 6) (fun x9 => K18 x9 σ8) else none))))))
def T_L_law_j535 (xs : Nat → Int32) (L : Nat) (K18 : Int32 → ST → Option Unit) (v3 : Int32) (σ : ST) : Option Unit := lds xs L (v3 + 1) (fun x1 => lds xs L (v3 + 2) (fun x2 => cI (T_X2_put x1 x2 σ) (fun x3 σ4 => lds xs L (v3 + 1) (fun x5 => lds xs L (v3 + 2) (fun x6 => cI (T_X3_put x5 x6 σ4) (fun x7 σ8 => if x3 = x7 then vl (v3 + 6) (fun x9 => K18 x9 σ8) else none))))))
def T_L_law_j568 (xs : Nat → Int32) (L : Nat) (K18 : Int32 → ST → Option Unit) (v3 : Int32) (σ : ST) : Option Unit := lds xs L (v3 + 1) (fun x1 => cI (T_X2_colonel x1 σ) (fun x2 σ3 => lds xs L (v3 + 1) (fun x4 => cI (T_X3_colonel x4 σ3) (fun x5 σ6 => if x2 = x5 then vl (v3 + 6) (fun x7 => K18 x7 σ6) else none))))
def T_L_law_j591 (xs : Nat → Int32) (L : Nat) (K18 : Int32 → ST → Option Unit) (v3 : Int32) (σ : ST) : Option Unit := lds xs L (v3 + 1) (fun x1 => cI (T_X2_hours x1 σ) (fun x2 σ3 => lds xs L (v3 + 1) (fun x4 => cI (T_X3_hours x4 σ3) (fun x5 σ6 => if x2 = x5 then vl (v3 + 6) (fun x7 => K18 x7 σ6) else none))))
def T_L_law_j614 (xs : Nat → Int32) (L : Nat) (K18 : Int32 → ST → Option Unit) (v3 : Int32) (σ : ST) : Option Unit := cI (T_X2_back σ) (fun x1 σ2 => cI (T_X3_back σ2) (fun x3 σ4 => if x1 = x3 then vl (v3 + 6) (fun x5 => K18 x5 σ4) else none))
def T_L_law_j627 (xs : Nat → Int32) (L : Nat) (K18 : Int32 → ST → Option Unit) (v3 : Int32) (σ : ST) : Option Unit := lds xs L (v3 + 1) (fun x1 => lds xs L (v3 + 2) (fun x2 => lds xs L (v3 + 3) (fun x3 => cI (T_X2_behind x1 x2 x3 σ) (fun x4 σ5 => lds xs L (v3 + 1) (fun x6 => lds xs L (v3 + 2) (fun x7 => lds xs L (v3 + 3) (fun x8 => cI (T_X3_behind x6 x7 x8 σ5) (fun x9 σ10 => if x4 = x9 then vl (v3 + 6) (fun x11 => K18 x11 σ10) else none))))))))
def T_L_law_j670 (xs : Nat → Int32) (L : Nat) (K18 : Int32 → ST → Option Unit) (v3 : Int32) (σ : ST) : Option Unit := lds xs L (v3 + 1) (fun x1 => lds xs L (v3 + 2) (fun x2 => cI (T_X2_meet x1 x2 σ) (fun x3 σ4 => lds xs L (v3 + 1) (fun x5 => lds xs L (v3 + 2) (fun x6 => cI (T_X3_meet x5 x6 σ4) (fun x7 σ8 => if x3 = x7 then vl (v3 + 6) (fun x9 => K18 x9 σ8) else none))))))
def T_L_law_j703 (xs : Nat → Int32) (L : Nat) (K18 : Int32 → ST → Option Unit) (v3 : Int32) (σ : ST) : Option Unit := lds xs L (v3 + 1) (fun x1 => lds xs L (v3 + 2) (fun x2 => cI (T_X2_company x1 x2 σ) (fun x3 σ4 => lds xs L (v3 + 1) (fun x5 => lds xs L (v3 + 2) (fun x6 => cI (T_X3_company x5 x6 σ4) (fun x7 σ8 => if x3 = x7 then vl (v3 + 6) (fun x9 => K18 x9 σ8) else none))))))
def T_L_law_j736 (xs : Nat → Int32) (L : Nat) (K18 : Int32 → ST → Option Unit) (v3 : Int32) (σ : ST) : Option Unit := lds xs L (v3 + 1) (fun x1 => cI (T_X2_breathless x1 σ) (fun x2 σ3 => lds xs L (v3 + 1) (fun x4 => cI (T_X3_breathless x4 σ3) (fun x5 σ6 => if x2 = x5 then vl (v3 + 6) (fun x7 => K18 x7 σ6) else none))))
def T_L_law_j759 (xs : Nat → Int32) (L : Nat) (K18 : Int32 → ST → Option Unit) (v3 : Int32) (σ : ST) : Option Unit := lds xs L (v3 + 1) (fun x1 => lds xs L (v3 + 2) (fun x2 => cI (T_X2_snaps x1 x2 σ) (fun x3 σ4 => lds xs L (v3 + 1) (fun x5 => lds xs L (v3 + 2) (fun x6 => cI (T_X3_snaps x5 x6 σ4) (fun x7 σ8 => if x3 = x7 then vl (v3 + 6) (fun x9 => K18 x9 σ8) else none))))))
def T_L_law_j792 (xs : Nat → Int32) (L : Nat) (K18 : Int32 → ST → Option Unit) (v3 : Int32) (σ : ST) : Option Unit := lds xs L (v3 + 1) (fun x1 => lds xs L (v3 + 2) (fun x2 => lds xs L (v3 + 3) (fun x3 => cI (T_X2_bestBag x1 x2 x3 σ) (fun x4 σ5 => lds xs L (v3 + 1) (fun x6 => lds xs L (v3 + 2) (fun x7 => lds xs L (v3 + 3) (fun x8 => cI (T_X3_bestBag x6 x7 x8 σ5) (fun x9 σ10 => if x4 = x9 then vl (v3 + 6) (fun x11 => K18 x11 σ10) else none))))))))
def T_L_law_j835 (xs : Nat → Int32) (L : Nat) (K18 : Int32 → ST → Option Unit) (v3 : Int32) (σ : ST) : Option Unit := lds xs L (v3 + 1) (fun x1 => cI (T_X2_hers x1 σ) (fun x2 σ3 => lds xs L (v3 + 1) (fun x4 => cI (T_X3_hers x4 σ3) (fun x5 σ6 => if x2 = x5 then vl (v3 + 6) (fun x7 => K18 x7 σ6) else none))))
def T_L_law_j858 (xs : Nat → Int32) (L : Nat) (K18 : Int32 → ST → Option Unit) (v3 : Int32) (σ : ST) : Option Unit := lds xs L (v3 + 1) (fun x1 => lds xs L (v3 + 2) (fun x2 => cI (T_X2_errand x1 x2 σ) (fun x3 σ4 => lds xs L (v3 + 1) (fun x5 => lds xs L (v3 + 2) (fun x6 => cI (T_X3_errand x5 x6 σ4) (fun x7 σ8 => if x3 = x7 then vl (v3 + 6) (fun x9 => K18 x9 σ8) else none))))))
def T_L_law_j891 (xs : Nat → Int32) (L : Nat) (K18 : Int32 → ST → Option Unit) (v3 : Int32) (σ : ST) : Option Unit := lds xs L (v3 + 1) (fun x1 => lds xs L (v3 + 2) (fun x2 => lds xs L (v3 + 3) (fun x3 => cI (T_X2_defy x1 x2 x3 σ) (fun x4 σ5 => lds xs L (v3 + 1) (fun x6 => lds xs L (v3 + 2) (fun x7 => lds xs L (v3 + 3) (fun x8 => cI (T_X3_defy x6 x7 x8 σ5) (fun x9 σ10 => if x4 = x9 then vl (v3 + 6) (fun x11 => K18 x11 σ10) else none))))))))
def T_L_law_j934 (xs : Nat → Int32) (L : Nat) (K18 : Int32 → ST → Option Unit) (v3 : Int32) (σ : ST) : Option Unit := lds xs L (v3 + 1) (fun x1 => lds xs L (v3 + 2) (fun x2 => lds xs L (v3 + 3) (fun x3 => cI (T_X2_given x1 x2 x3 σ) (fun x4 σ5 => lds xs L (v3 + 1) (fun x6 => lds xs L (v3 + 2) (fun x7 => lds xs L (v3 + 3) (fun x8 => cI (T_X3_given x6 x7 x8 σ5) (fun x9 σ10 => if x4 = x9 then vl (v3 + 6) (fun x11 => K18 x11 σ10) else none))))))))
def T_L_law_j977 (xs : Nat → Int32) (L : Nat) (K18 : Int32 → ST → Option Unit) (v3 : Int32) (σ : ST) : Option Unit := lds xs L (v3 + 1) (fun x1 => lds xs L (v3 + 2) (fun x2 => cI (T_X2_quiet x1 x2 σ) (fun x3 σ4 => lds xs L (v3 + 1) (fun x5 => lds xs L (v3 + 2) (fun x6 => cI (T_X3_quiet x5 x6 σ4) (fun x7 σ8 => if x3 = x7 then vl (v3 + 6) (fun x9 => K18 x9 σ8) else none))))))
def T_L_law_j1010 (xs : Nat → Int32) (L : Nat) (K18 : Int32 → ST → Option Unit) (v3 : Int32) (σ : ST) : Option Unit := lds xs L (v3 + 1) (fun x1 => cI (T_X2_stable x1 σ) (fun x2 σ3 => lds xs L (v3 + 1) (fun x4 => cI (T_X3_stable x4 σ3) (fun x5 σ6 => if x2 = x5 then vl (v3 + 6) (fun x7 => K18 x7 σ6) else none))))
def T_L_law_j1033 (xs : Nat → Int32) (L : Nat) (K18 : Int32 → ST → Option Unit) (v3 : Int32) (σ : ST) : Option Unit := lds xs L (v3 + 1) (fun x1 => lds xs L (v3 + 2) (fun x2 => cI (T_X2_whose x1 x2 σ) (fun x3 σ4 => lds xs L (v3 + 1) (fun x5 => lds xs L (v3 + 2) (fun x6 => cI (T_X3_whose x5 x6 σ4) (fun x7 σ8 => if x3 = x7 then vl (v3 + 6) (fun x9 => K18 x9 σ8) else none))))))
def T_L_law_j1066 (xs : Nat → Int32) (L : Nat) (K18 : Int32 → ST → Option Unit) (v3 : Int32) (σ : ST) : Option Unit := lds xs L (v3 + 1) (fun x1 => lds xs L (v3 + 2) (fun x2 => lds xs L (v3 + 3) (fun x3 => cI (T_X2_nextTell x1 x2 x3 σ) (fun x4 σ5 => lds xs L (v3 + 1) (fun x6 => lds xs L (v3 + 2) (fun x7 => lds xs L (v3 + 3) (fun x8 => cI (T_X3_nextTell x6 x7 x8 σ5) (fun x9 σ10 => if x4 = x9 then vl (v3 + 6) (fun x11 => K18 x11 σ10) else none))))))))
def T_L_law_j1109 (xs : Nat → Int32) (L : Nat) (K18 : Int32 → ST → Option Unit) (v3 : Int32) (σ : ST) : Option Unit := lds xs L (v3 + 1) (fun x1 => lds xs L (v3 + 2) (fun x2 => lds xs L (v3 + 3) (fun x3 => cI (T_X2_arm x1 x2 x3 σ) (fun x4 σ5 => lds xs L (v3 + 1) (fun x6 => lds xs L (v3 + 2) (fun x7 => lds xs L (v3 + 3) (fun x8 => cI (T_X3_arm x6 x7 x8 σ5) (fun x9 σ10 => if x4 = x9 then vl (v3 + 6) (fun x11 => K18 x11 σ10) else none))))))))
def T_L_law_j1152 (xs : Nat → Int32) (L : Nat) (K18 : Int32 → ST → Option Unit) (v3 : Int32) (σ : ST) : Option Unit := lds xs L (v3 + 1) (fun x1 => lds xs L (v3 + 2) (fun x2 => lds xs L (v3 + 3) (fun x3 => lds xs L (v3 + 4) (fun x4 => lds xs L (v3 + 5) (fun x5 => cJ (T_X2_sleep x1 x2 x3 x4 x5 σ) (fun x6 σ7 => lds xs L (v3 + 1) (fun x8 => lds xs L (v3 + 2) (fun x9 => lds xs L (v3 + 3) (fun x10 => lds xs L (v3 + 4) (fun x11 => lds xs L (v3 + 5) (fun x12 => cJ (T_X3_sleep x8 x9 x10 x11 x12 σ7) (fun x13 σ14 => if (lg_cmp x6 x13) = 0 then vl (v3 + 6) (fun x15 => K18 x15 σ14) else none))))))))))))
def T_L_law_j1216 (xs : Nat → Int32) (L : Nat) (K18 : Int32 → ST → Option Unit) (v3 : Int32) (σ : ST) : Option Unit := lds xs L (v3 + 1) (fun x1 => cI (T_X2_swap x1 σ) (fun x2 σ3 => lds xs L (v3 + 1) (fun x4 => cI (T_X3_swap x4 σ3) (fun x5 σ6 => if x2 = x5 then vl (v3 + 6) (fun x7 => K18 x7 σ6) else none))))
def T_L_law_j1239 (xs : Nat → Int32) (L : Nat) (K18 : Int32 → ST → Option Unit) (v3 : Int32) (σ : ST) : Option Unit := lds xs L (v3 + 1) (fun x1 => cI (T_X2_heir x1 σ) (fun x2 σ3 => lds xs L (v3 + 1) (fun x4 => cI (T_X3_heir x4 σ3) (fun x5 σ6 => if x2 = x5 then vl (v3 + 6) (fun x7 => K18 x7 σ6) else none))))
def T_L_law_j1262 (xs : Nat → Int32) (L : Nat) (K18 : Int32 → ST → Option Unit) (v3 : Int32) (σ : ST) : Option Unit := lds xs L (v3 + 1) (fun x1 => lds xs L (v3 + 2) (fun x2 => cI (T_X2_far x1 x2 σ) (fun x3 σ4 => lds xs L (v3 + 1) (fun x5 => lds xs L (v3 + 2) (fun x6 => cI (T_X3_far x5 x6 σ4) (fun x7 σ8 => if x3 = x7 then vl (v3 + 6) (fun x9 => K18 x9 σ8) else none))))))
def T_L_law_j1295 (xs : Nat → Int32) (L : Nat) (K18 : Int32 → ST → Option Unit) (v3 : Int32) (σ : ST) : Option Unit := lds xs L (v3 + 1) (fun x1 => cI (T_X2_tired x1 σ) (fun x2 σ3 => lds xs L (v3 + 1) (fun x4 => cI (T_X3_tired x4 σ3) (fun x5 σ6 => if x2 = x5 then vl (v3 + 6) (fun x7 => K18 x7 σ6) else none))))
def T_L_law_j1318 (xs : Nat → Int32) (L : Nat) (K18 : Int32 → ST → Option Unit) (v3 : Int32) (σ : ST) : Option Unit := lds xs L (v3 + 1) (fun x1 => lds xs L (v3 + 2) (fun x2 => lds xs L (v3 + 3) (fun x3 => cI (T_X2_visits x1 x2 x3 σ) (fun x4 σ5 => lds xs L (v3 + 1) (fun x6 => lds xs L (v3 + 2) (fun x7 => lds xs L (v3 + 3) (fun x8 => cI (T_X3_visits x6 x7 x8 σ5) (fun x9 σ10 => if x4 = x9 then vl (v3 + 6) (fun x11 => K18 x11 σ10) else none))))))))
def T_L_law_j1361 (xs : Nat → Int32) (L : Nat) (K18 : Int32 → ST → Option Unit) (v3 : Int32) (σ : ST) : Option Unit := lds xs L (v3 + 1) (fun x1 => lds xs L (v3 + 2) (fun x2 => lds xs L (v3 + 3) (fun x3 => cI (T_X2_together x1 x2 x3 σ) (fun x4 σ5 => lds xs L (v3 + 1) (fun x6 => lds xs L (v3 + 2) (fun x7 => lds xs L (v3 + 3) (fun x8 => cI (T_X3_together x6 x7 x8 σ5) (fun x9 σ10 => if x4 = x9 then vl (v3 + 6) (fun x11 => K18 x11 σ10) else none))))))))
def T_L_law_j1404 (xs : Nat → Int32) (L : Nat) (K18 : Int32 → ST → Option Unit) (v3 : Int32) (σ : ST) : Option Unit := lds xs L (v3 + 1) (fun x1 => lds xs L (v3 + 2) (fun x2 => cI (T_X2_rests x1 x2 σ) (fun x3 σ4 => lds xs L (v3 + 1) (fun x5 => lds xs L (v3 + 2) (fun x6 => cI (T_X3_rests x5 x6 σ4) (fun x7 σ8 => if x3 = x7 then vl (v3 + 6) (fun x9 => K18 x9 σ8) else none))))))
def T_L_law_j1437 (xs : Nat → Int32) (L : Nat) (K18 : Int32 → ST → Option Unit) (v3 : Int32) (σ : ST) : Option Unit := cI (T_X2_firstSnap σ) (fun x1 σ2 => cI (T_X3_firstSnap σ2) (fun x3 σ4 => if x1 = x3 then vl (v3 + 6) (fun x5 => K18 x5 σ4) else none))
def T_L_law_j1450 (xs : Nat → Int32) (L : Nat) (K18 : Int32 → ST → Option Unit) (v3 : Int32) (σ : ST) : Option Unit := lds xs L (v3 + 1) (fun x1 => lds xs L (v3 + 2) (fun x2 => cI (T_X2_busy x1 x2 σ) (fun x3 σ4 => lds xs L (v3 + 1) (fun x5 => lds xs L (v3 + 2) (fun x6 => cI (T_X3_busy x5 x6 σ4) (fun x7 σ8 => if x3 = x7 then vl (v3 + 6) (fun x9 => K18 x9 σ8) else none))))))
def T_L_law_j1483 (xs : Nat → Int32) (L : Nat) (K18 : Int32 → ST → Option Unit) (v3 : Int32) (σ : ST) : Option Unit := lds xs L (v3 + 1) (fun x1 => cI (T_X2_tamed x1 σ) (fun x2 σ3 => lds xs L (v3 + 1) (fun x4 => cI (T_X3_tamed x4 σ3) (fun x5 σ6 => if x2 = x5 then vl (v3 + 6) (fun x7 => K18 x7 σ6) else none))))
def T_L_law_j1506 (xs : Nat → Int32) (L : Nat) (K18 : Int32 → ST → Option Unit) (v3 : Int32) (σ : ST) : Option Unit := cV (T_X2_unled σ) (fun x1 => cI (T_X3_unled σ) (fun x3 σ4 => if x1 = x3 then vl (v3 + 6) (fun x5 => K18 x5 σ4) else none))
def T_L_law_j1519 (xs : Nat → Int32) (L : Nat) (K18 : Int32 → ST → Option Unit) (v3 : Int32) (σ : ST) : Option Unit := cI (T_X2_gathering σ) (fun x1 σ2 => cI (T_X3_gathering σ2) (fun x3 σ4 => if x1 = x3 then vl (v3 + 6) (fun x5 => K18 x5 σ4) else none))
def T_L_law_j1532 (xs : Nat → Int32) (L : Nat) (K18 : Int32 → ST → Option Unit) (v3 : Int32) (σ : ST) : Option Unit := lds xs L (v3 + 1) (fun x1 => lds xs L (v3 + 2) (fun x2 => cI (T_X2_bestHabit x1 x2 σ) (fun x3 σ4 => lds xs L (v3 + 1) (fun x5 => lds xs L (v3 + 2) (fun x6 => cI (T_X3_bestHabit x5 x6 σ4) (fun x7 σ8 => if x3 = x7 then vl (v3 + 6) (fun x9 => K18 x9 σ8) else none))))))
def T_L_law_j1565 (xs : Nat → Int32) (L : Nat) (K18 : Int32 → ST → Option Unit) (v3 : Int32) (σ : ST) : Option Unit := lds xs L (v3 + 1) (fun x1 => lds xs L (v3 + 2) (fun x2 => cI (T_X2_farthest x1 x2 σ) (fun x3 σ4 => lds xs L (v3 + 1) (fun x5 => lds xs L (v3 + 2) (fun x6 => cI (T_X3_farthest x5 x6 σ4) (fun x7 σ8 => if x3 = x7 then vl (v3 + 6) (fun x9 => K18 x9 σ8) else none))))))
def T_L_law_j1598 (xs : Nat → Int32) (L : Nat) (K18 : Int32 → ST → Option Unit) (v3 : Int32) (σ : ST) : Option Unit := lds xs L (v3 + 1) (fun x1 => cI (T_X2_row x1 σ) (fun x2 σ3 => lds xs L (v3 + 1) (fun x4 => cI (T_X3_row x4 σ3) (fun x5 σ6 => if x2 = x5 then vl (v3 + 6) (fun x7 => K18 x7 σ6) else none))))
def T_L_law_j1621 (xs : Nat → Int32) (L : Nat) (K18 : Int32 → ST → Option Unit) (v3 : Int32) (σ : ST) : Option Unit := lds xs L (v3 + 1) (fun x1 => cI (T_X2_judge x1 σ) (fun x2 σ3 => lds xs L (v3 + 1) (fun x4 => cI (T_X3_judge x4 σ3) (fun x5 σ6 => if x2 = x5 then vl (v3 + 6) (fun x7 => K18 x7 σ6) else none))))
def T_L_law_j1644 (xs : Nat → Int32) (L : Nat) (K18 : Int32 → ST → Option Unit) (v3 : Int32) (σ : ST) : Option Unit := cI (T_X2_clear σ) (fun x1 σ2 => cI (T_X3_clear σ2) (fun x3 σ4 => if x1 = x3 then vl (v3 + 6) (fun x5 => K18 x5 σ4) else none))
def T_L_law_j1657 (xs : Nat → Int32) (L : Nat) (K18 : Int32 → ST → Option Unit) (v3 : Int32) (σ : ST) : Option Unit := lds xs L (v3 + 1) (fun x1 => lds xs L (v3 + 2) (fun x2 => lds xs L (v3 + 3) (fun x3 => cI (T_X2_lots x1 x2 x3 σ) (fun x4 σ5 => lds xs L (v3 + 1) (fun x6 => lds xs L (v3 + 2) (fun x7 => lds xs L (v3 + 3) (fun x8 => cI (T_X3_lots x6 x7 x8 σ5) (fun x9 σ10 => if x4 = x9 then vl (v3 + 6) (fun x11 => K18 x11 σ10) else none))))))))
def T_L_law_j1700 (xs : Nat → Int32) (L : Nat) (K18 : Int32 → ST → Option Unit) (v3 : Int32) (σ : ST) : Option Unit := cI (T_X2_image σ) (fun x1 σ2 => cI (T_X3_image σ2) (fun x3 σ4 => if x1 = x3 then vl (v3 + 6) (fun x5 => K18 x5 σ4) else none))
def T_L_law_j1713 (xs : Nat → Int32) (L : Nat) (K18 : Int32 → ST → Option Unit) (v3 : Int32) (σ : ST) : Option Unit := cI (T_X2_restore σ) (fun x1 σ2 => cI (T_X3_restore σ2) (fun x3 σ4 => if x1 = x3 then vl (v3 + 6) (fun x5 => K18 x5 σ4) else none))
def T_L_law_j1726 (xs : Nat → Int32) (L : Nat) (K18 : Int32 → ST → Option Unit) (v3 : Int32) (σ : ST) : Option Unit := lds xs L (v3 + 1) (fun x1 => cV (T_X2_count σ x1) (fun x2 => lds xs L (v3 + 1) (fun x4 => cV (T_X3_count σ x4) (fun x5 => if x2 = x5 then vl (v3 + 6) (fun x7 => K18 x7 σ) else none))))
def T_L_law_L18 (xs : Nat → Int32) (L : Nat) : Nat → Int32 → ST → Option Unit
  | 0, _, _ => none
  | n + 1, v3, σ => if ((Int32.ofNat L) - 6) < v3 then some () else lds xs L v3 (fun x1 => if (x1 &&& 63) = 0 then T_L_law_j248 xs L (fun v3 s => T_L_law_L18 xs L n v3 s) v3 σ else if (x1 &&& 63) = 1 then T_L_law_j271 xs L (fun v3 s => T_L_law_L18 xs L n v3 s) v3 σ else if (x1 &&& 63) = 2 then T_L_law_j284 xs L (fun v3 s => T_L_law_L18 xs L n v3 s) v3 σ else if (x1 &&& 63) = 3 then T_L_law_j317 xs L (fun v3 s => T_L_law_L18 xs L n v3 s) v3 σ else if (x1 &&& 63) = 4 then T_L_law_j350 xs L (fun v3 s => T_L_law_L18 xs L n v3 s) v3 σ else if (x1 &&& 63) = 5 then T_L_law_j393 xs L (fun v3 s => T_L_law_L18 xs L n v3 s) v3 σ else if (x1 &&& 63) = 6 then T_L_law_j436 xs L (fun v3 s => T_L_law_L18 xs L n v3 s) v3 σ else if (x1 &&& 63) = 7 then T_L_law_j469 xs L (fun v3 s => T_L_law_L18 xs L n v3 s) v3 σ else if (x1 &&& 63) = 8 then T_L_law_j502 xs L (fun v3 s => T_L_law_L18 xs L n v3 s) v3 σ else if (x1 &&& 63) = 9 then T_L_law_j535 xs L (fun v3 s => T_L_law_L18 xs L n v3 s) v3 σ else if (x1 &&& 63) = 10 then T_L_law_j568 xs L (fun v3 s => T_L_law_L18 xs L n v3 s) v3 σ else if (x1 &&& 63) = 11 then T_L_law_j591 xs L (fun v3 s => T_L_law_L18 xs L n v3 s) v3 σ else if (x1 &&& 63) = 12 then T_L_law_j614 xs L (fun v3 s => T_L_law_L18 xs L n v3 s) v3 σ else if (x1 &&& 63) = 13 then T_L_law_j627 xs L (fun v3 s => T_L_law_L18 xs L n v3 s) v3 σ else if (x1 &&& 63) = 14 then T_L_law_j670 xs L (fun v3 s => T_L_law_L18 xs L n v3 s) v3 σ else if (x1 &&& 63) = 15 then T_L_law_j703 xs L (fun v3 s => T_L_law_L18 xs L n v3 s) v3 σ else if (x1 &&& 63) = 16 then T_L_law_j736 xs L (fun v3 s => T_L_law_L18 xs L n v3 s) v3 σ else if (x1 &&& 63) = 17 then T_L_law_j759 xs L (fun v3 s => T_L_law_L18 xs L n v3 s) v3 σ else if (x1 &&& 63) = 18 then T_L_law_j792 xs L (fun v3 s => T_L_law_L18 xs L n v3 s) v3 σ else if (x1 &&& 63) = 19 then T_L_law_j835 xs L (fun v3 s => T_L_law_L18 xs L n v3 s) v3 σ else if (x1 &&& 63) = 20 then T_L_law_j858 xs L (fun v3 s => T_L_law_L18 xs L n v3 s) v3 σ else if (x1 &&& 63) = 21 then T_L_law_j891 xs L (fun v3 s => T_L_law_L18 xs L n v3 s) v3 σ else if (x1 &&& 63) = 22 then T_L_law_j934 xs L (fun v3 s => T_L_law_L18 xs L n v3 s) v3 σ else if (x1 &&& 63) = 23 then T_L_law_j977 xs L (fun v3 s => T_L_law_L18 xs L n v3 s) v3 σ else if (x1 &&& 63) = 24 then T_L_law_j1010 xs L (fun v3 s => T_L_law_L18 xs L n v3 s) v3 σ else if (x1 &&& 63) = 25 then T_L_law_j1033 xs L (fun v3 s => T_L_law_L18 xs L n v3 s) v3 σ else if (x1 &&& 63) = 26 then T_L_law_j1066 xs L (fun v3 s => T_L_law_L18 xs L n v3 s) v3 σ else if (x1 &&& 63) = 27 then T_L_law_j1109 xs L (fun v3 s => T_L_law_L18 xs L n v3 s) v3 σ else if (x1 &&& 63) = 28 then T_L_law_j1152 xs L (fun v3 s => T_L_law_L18 xs L n v3 s) v3 σ else if (x1 &&& 63) = 29 then T_L_law_j1216 xs L (fun v3 s => T_L_law_L18 xs L n v3 s) v3 σ else if (x1 &&& 63) = 30 then T_L_law_j1239 xs L (fun v3 s => T_L_law_L18 xs L n v3 s) v3 σ else if (x1 &&& 63) = 31 then T_L_law_j1262 xs L (fun v3 s => T_L_law_L18 xs L n v3 s) v3 σ else if (x1 &&& 63) = 32 then T_L_law_j1295 xs L (fun v3 s => T_L_law_L18 xs L n v3 s) v3 σ else if (x1 &&& 63) = 33 then T_L_law_j1318 xs L (fun v3 s => T_L_law_L18 xs L n v3 s) v3 σ else if (x1 &&& 63) = 34 then T_L_law_j1361 xs L (fun v3 s => T_L_law_L18 xs L n v3 s) v3 σ else if (x1 &&& 63) = 35 then T_L_law_j1404 xs L (fun v3 s => T_L_law_L18 xs L n v3 s) v3 σ else if (x1 &&& 63) = 36 then T_L_law_j1437 xs L (fun v3 s => T_L_law_L18 xs L n v3 s) v3 σ else if (x1 &&& 63) = 37 then T_L_law_j1450 xs L (fun v3 s => T_L_law_L18 xs L n v3 s) v3 σ else if (x1 &&& 63) = 38 then T_L_law_j1483 xs L (fun v3 s => T_L_law_L18 xs L n v3 s) v3 σ else if (x1 &&& 63) = 39 then T_L_law_j1506 xs L (fun v3 s => T_L_law_L18 xs L n v3 s) v3 σ else if (x1 &&& 63) = 40 then T_L_law_j1519 xs L (fun v3 s => T_L_law_L18 xs L n v3 s) v3 σ else if (x1 &&& 63) = 41 then T_L_law_j1532 xs L (fun v3 s => T_L_law_L18 xs L n v3 s) v3 σ else if (x1 &&& 63) = 42 then T_L_law_j1565 xs L (fun v3 s => T_L_law_L18 xs L n v3 s) v3 σ else if (x1 &&& 63) = 43 then T_L_law_j1598 xs L (fun v3 s => T_L_law_L18 xs L n v3 s) v3 σ else if (x1 &&& 63) = 44 then T_L_law_j1621 xs L (fun v3 s => T_L_law_L18 xs L n v3 s) v3 σ else if (x1 &&& 63) = 45 then T_L_law_j1644 xs L (fun v3 s => T_L_law_L18 xs L n v3 s) v3 σ else if (x1 &&& 63) = 46 then T_L_law_j1657 xs L (fun v3 s => T_L_law_L18 xs L n v3 s) v3 σ else if (x1 &&& 63) = 47 then T_L_law_j1700 xs L (fun v3 s => T_L_law_L18 xs L n v3 s) v3 σ else if (x1 &&& 63) = 48 then T_L_law_j1713 xs L (fun v3 s => T_L_law_L18 xs L n v3 s) v3 σ else if (x1 &&& 63) = 49 then T_L_law_j1726 xs L (fun v3 s => T_L_law_L18 xs L n v3 s) v3 σ else vl (v3 + 6) (fun x2 => T_L_law_L18 xs L n x2 σ))
set_option maxRecDepth 100000 in
theorem s_L_law_j248 {y : LY} {l : Launch} {E : ET} {b L : Nat} {xs : Nat → Int32} (X : CX y l E cL_law 4 RL room_1) (LLX : LX y E b L xs) (hy : y.1 ≤ (eS E).heap.size) {K18 : Int32 → ST → Option Unit} (hK18 : ∀ (v3 : Int32) (σ : ST), WW y l E 4 (fun _ : Unit => lw_Z (eB E) (eA E) (eS E)) 18 [(0, .ref b), (1, .ref (ad y 0)), (2, .ref (ad y 13)), (3, .int v3)] [] σ (K18 v3 σ)) (v3 : Int32) (σ : ST) : WW y l E 4 (fun _ : Unit => lw_Z (eB E) (eA E) (eS E)) 248 [(0, .ref b), (1, .ref (ad y 0)), (2, .ref (ad y 13)), (3, .int v3)] [] σ (T_L_law_j248 xs L K18 v3 σ) := by
  unfold T_L_law_j248
  refine r_aload_n (pc := 248) X dL_law_248 1 rfl rfl ?_
  refine r_aload_n (pc := 249) X dL_law_249 0 rfl rfl ?_
  refine r_iload_n (pc := 250) X dL_law_250 3 rfl rfl ?_
  refine r_iconst (pc := 251) X dL_law_251 kc_1 ?_
  refine r_iadd (pc := 252) X dL_law_252 ?_
  refine r_sld (pc := 253) X dL_law_253 LLX (fun x1 => ?_)
  refine r_callvI (pc := 254) X dL_law_254 cf_X2_feed ml_L_13 (rfL rfl rfl) hy oc_0.1 hc_2 (fun b hb => m_X2_feed hb) rfl rfl (Nat.le_of_ble_eq_true rfl) (fun x2 σ3 => ?_)
  refine r_aload_n (pc := 257) X dL_law_257 2 rfl rfl ?_
  refine r_aload_n (pc := 258) X dL_law_258 0 rfl rfl ?_
  refine r_iload_n (pc := 259) X dL_law_259 3 rfl rfl ?_
  refine r_iconst (pc := 260) X dL_law_260 kc_1 ?_
  refine r_iadd (pc := 261) X dL_law_261 ?_
  refine r_sld (pc := 262) X dL_law_262 LLX (fun x4 => ?_)
  refine r_callvI (pc := 263) X dL_law_263 cf_X3_feed ml_L_17 (rfL rfl rfl) hy oc_13.1 hc_3 (fun b hb => m_X3_feed hb) rfl rfl (Nat.le_of_ble_eq_true rfl) (fun x5 σ6 => ?_)
  refine r_icmp_eq (pc := 266) (tgt := 1749) X dL_law_266 (by decide) ?_ ?_
  · refine r_iinc (pc := 1749) (lv' := [(0, .ref _), (1, .ref _), (2, .ref _)]) X dL_law_1749 3 rfl (congrArg (fun z => v3 + z) kc_6) (by decide) rfl (fun x7 => ?_)
    refine r_goto (pc := 1752) (tgt := 18) X dL_law_1752 (by decide) ?_
    refine r_sub [1, 2, 3, 0] rfl ?_
    exact hK18 x7 σ6
  · refine r_iconst (pc := 269) X dL_law_269 kc_0 ?_
    exact r_none rfl

set_option maxRecDepth 100000 in
theorem s_L_law_j271 {y : LY} {l : Launch} {E : ET} {b L : Nat} {xs : Nat → Int32} (X : CX y l E cL_law 4 RL room_1) (LLX : LX y E b L xs) (hy : y.1 ≤ (eS E).heap.size) {K18 : Int32 → ST → Option Unit} (hK18 : ∀ (v3 : Int32) (σ : ST), WW y l E 4 (fun _ : Unit => lw_Z (eB E) (eA E) (eS E)) 18 [(0, .ref b), (1, .ref (ad y 0)), (2, .ref (ad y 13)), (3, .int v3)] [] σ (K18 v3 σ)) (v3 : Int32) (σ : ST) : WW y l E 4 (fun _ : Unit => lw_Z (eB E) (eA E) (eS E)) 271 [(0, .ref b), (1, .ref (ad y 0)), (2, .ref (ad y 13)), (3, .int v3)] [] σ (T_L_law_j271 xs L K18 v3 σ) := by
  unfold T_L_law_j271
  refine r_aload_n (pc := 271) X dL_law_271 1 rfl rfl ?_
  refine r_callvI (pc := 272) X dL_law_272 cf_X2_bequest ml_L_18 (rfL rfl rfl) hy oc_0.1 hc_2 (fun b hb => m_X2_bequest hb) rfl rfl (Nat.le_of_ble_eq_true rfl) (fun x1 σ2 => ?_)
  refine r_aload_n (pc := 275) X dL_law_275 2 rfl rfl ?_
  refine r_callvI (pc := 276) X dL_law_276 cf_X3_bequest ml_L_22 (rfL rfl rfl) hy oc_13.1 hc_3 (fun b hb => m_X3_bequest hb) rfl rfl (Nat.le_of_ble_eq_true rfl) (fun x3 σ4 => ?_)
  refine r_icmp_eq (pc := 279) (tgt := 1749) X dL_law_279 (by decide) ?_ ?_
  · refine r_iinc (pc := 1749) (lv' := [(0, .ref _), (1, .ref _), (2, .ref _)]) X dL_law_1749 3 rfl (congrArg (fun z => v3 + z) kc_6) (by decide) rfl (fun x5 => ?_)
    refine r_goto (pc := 1752) (tgt := 18) X dL_law_1752 (by decide) ?_
    refine r_sub [1, 2, 3, 0] rfl ?_
    exact hK18 x5 σ4
  · refine r_iconst (pc := 282) X dL_law_282 kc_0 ?_
    exact r_none rfl

set_option maxRecDepth 100000 in
theorem s_L_law_j284 {y : LY} {l : Launch} {E : ET} {b L : Nat} {xs : Nat → Int32} (X : CX y l E cL_law 4 RL room_1) (LLX : LX y E b L xs) (hy : y.1 ≤ (eS E).heap.size) {K18 : Int32 → ST → Option Unit} (hK18 : ∀ (v3 : Int32) (σ : ST), WW y l E 4 (fun _ : Unit => lw_Z (eB E) (eA E) (eS E)) 18 [(0, .ref b), (1, .ref (ad y 0)), (2, .ref (ad y 13)), (3, .int v3)] [] σ (K18 v3 σ)) (v3 : Int32) (σ : ST) : WW y l E 4 (fun _ : Unit => lw_Z (eB E) (eA E) (eS E)) 284 [(0, .ref b), (1, .ref (ad y 0)), (2, .ref (ad y 13)), (3, .int v3)] [] σ (T_L_law_j284 xs L K18 v3 σ) := by
  unfold T_L_law_j284
  refine r_aload_n (pc := 284) X dL_law_284 1 rfl rfl ?_
  refine r_aload_n (pc := 285) X dL_law_285 0 rfl rfl ?_
  refine r_iload_n (pc := 286) X dL_law_286 3 rfl rfl ?_
  refine r_iconst (pc := 287) X dL_law_287 kc_1 ?_
  refine r_iadd (pc := 288) X dL_law_288 ?_
  refine r_sld (pc := 289) X dL_law_289 LLX (fun x1 => ?_)
  refine r_aload_n (pc := 290) X dL_law_290 0 rfl rfl ?_
  refine r_iload_n (pc := 291) X dL_law_291 3 rfl rfl ?_
  refine r_iconst (pc := 292) X dL_law_292 kc_2 ?_
  refine r_iadd (pc := 293) X dL_law_293 ?_
  refine r_sld (pc := 294) X dL_law_294 LLX (fun x2 => ?_)
  refine r_callvI (pc := 295) X dL_law_295 cf_X2_bagOf ml_L_23 (rfL rfl rfl) hy oc_0.1 hc_2 (fun b hb => m_X2_bagOf hb) rfl rfl (Nat.le_of_ble_eq_true rfl) (fun x3 σ4 => ?_)
  refine r_aload_n (pc := 298) X dL_law_298 2 rfl rfl ?_
  refine r_aload_n (pc := 299) X dL_law_299 0 rfl rfl ?_
  refine r_iload_n (pc := 300) X dL_law_300 3 rfl rfl ?_
  refine r_iconst (pc := 301) X dL_law_301 kc_1 ?_
  refine r_iadd (pc := 302) X dL_law_302 ?_
  refine r_sld (pc := 303) X dL_law_303 LLX (fun x5 => ?_)
  refine r_aload_n (pc := 304) X dL_law_304 0 rfl rfl ?_
  refine r_iload_n (pc := 305) X dL_law_305 3 rfl rfl ?_
  refine r_iconst (pc := 306) X dL_law_306 kc_2 ?_
  refine r_iadd (pc := 307) X dL_law_307 ?_
  refine r_sld (pc := 308) X dL_law_308 LLX (fun x6 => ?_)
  refine r_callvI (pc := 309) X dL_law_309 cf_X3_bagOf ml_L_27 (rfL rfl rfl) hy oc_13.1 hc_3 (fun b hb => m_X3_bagOf hb) rfl rfl (Nat.le_of_ble_eq_true rfl) (fun x7 σ8 => ?_)
  refine r_icmp_eq (pc := 312) (tgt := 1749) X dL_law_312 (by decide) ?_ ?_
  · refine r_iinc (pc := 1749) (lv' := [(0, .ref _), (1, .ref _), (2, .ref _)]) X dL_law_1749 3 rfl (congrArg (fun z => v3 + z) kc_6) (by decide) rfl (fun x9 => ?_)
    refine r_goto (pc := 1752) (tgt := 18) X dL_law_1752 (by decide) ?_
    refine r_sub [1, 2, 3, 0] rfl ?_
    exact hK18 x9 σ8
  · refine r_iconst (pc := 315) X dL_law_315 kc_0 ?_
    exact r_none rfl

set_option maxRecDepth 100000 in
theorem s_L_law_j317 {y : LY} {l : Launch} {E : ET} {b L : Nat} {xs : Nat → Int32} (X : CX y l E cL_law 4 RL room_1) (LLX : LX y E b L xs) (hy : y.1 ≤ (eS E).heap.size) {K18 : Int32 → ST → Option Unit} (hK18 : ∀ (v3 : Int32) (σ : ST), WW y l E 4 (fun _ : Unit => lw_Z (eB E) (eA E) (eS E)) 18 [(0, .ref b), (1, .ref (ad y 0)), (2, .ref (ad y 13)), (3, .int v3)] [] σ (K18 v3 σ)) (v3 : Int32) (σ : ST) : WW y l E 4 (fun _ : Unit => lw_Z (eB E) (eA E) (eS E)) 317 [(0, .ref b), (1, .ref (ad y 0)), (2, .ref (ad y 13)), (3, .int v3)] [] σ (T_L_law_j317 xs L K18 v3 σ) := by
  unfold T_L_law_j317
  refine r_aload_n (pc := 317) X dL_law_317 1 rfl rfl ?_
  refine r_aload_n (pc := 318) X dL_law_318 0 rfl rfl ?_
  refine r_iload_n (pc := 319) X dL_law_319 3 rfl rfl ?_
  refine r_iconst (pc := 320) X dL_law_320 kc_1 ?_
  refine r_iadd (pc := 321) X dL_law_321 ?_
  refine r_sld (pc := 322) X dL_law_322 LLX (fun x1 => ?_)
  refine r_aload_n (pc := 323) X dL_law_323 0 rfl rfl ?_
  refine r_iload_n (pc := 324) X dL_law_324 3 rfl rfl ?_
  refine r_iconst (pc := 325) X dL_law_325 kc_2 ?_
  refine r_iadd (pc := 326) X dL_law_326 ?_
  refine r_sld (pc := 327) X dL_law_327 LLX (fun x2 => ?_)
  refine r_callvI (pc := 328) X dL_law_328 cf_X2_bearerOf ml_L_28 (rfL rfl rfl) hy oc_0.1 hc_2 (fun b hb => m_X2_bearerOf hb) rfl rfl (Nat.le_of_ble_eq_true rfl) (fun x3 σ4 => ?_)
  refine r_aload_n (pc := 331) X dL_law_331 2 rfl rfl ?_
  refine r_aload_n (pc := 332) X dL_law_332 0 rfl rfl ?_
  refine r_iload_n (pc := 333) X dL_law_333 3 rfl rfl ?_
  refine r_iconst (pc := 334) X dL_law_334 kc_1 ?_
  refine r_iadd (pc := 335) X dL_law_335 ?_
  refine r_sld (pc := 336) X dL_law_336 LLX (fun x5 => ?_)
  refine r_aload_n (pc := 337) X dL_law_337 0 rfl rfl ?_
  refine r_iload_n (pc := 338) X dL_law_338 3 rfl rfl ?_
  refine r_iconst (pc := 339) X dL_law_339 kc_2 ?_
  refine r_iadd (pc := 340) X dL_law_340 ?_
  refine r_sld (pc := 341) X dL_law_341 LLX (fun x6 => ?_)
  refine r_callvI (pc := 342) X dL_law_342 cf_X3_bearerOf ml_L_31 (rfL rfl rfl) hy oc_13.1 hc_3 (fun b hb => m_X3_bearerOf hb) rfl rfl (Nat.le_of_ble_eq_true rfl) (fun x7 σ8 => ?_)
  refine r_icmp_eq (pc := 345) (tgt := 1749) X dL_law_345 (by decide) ?_ ?_
  · refine r_iinc (pc := 1749) (lv' := [(0, .ref _), (1, .ref _), (2, .ref _)]) X dL_law_1749 3 rfl (congrArg (fun z => v3 + z) kc_6) (by decide) rfl (fun x9 => ?_)
    refine r_goto (pc := 1752) (tgt := 18) X dL_law_1752 (by decide) ?_
    refine r_sub [1, 2, 3, 0] rfl ?_
    exact hK18 x9 σ8
  · refine r_iconst (pc := 348) X dL_law_348 kc_0 ?_
    exact r_none rfl

set_option maxRecDepth 100000 in
theorem s_L_law_j350 {y : LY} {l : Launch} {E : ET} {b L : Nat} {xs : Nat → Int32} (X : CX y l E cL_law 4 RL room_1) (LLX : LX y E b L xs) (hy : y.1 ≤ (eS E).heap.size) {K18 : Int32 → ST → Option Unit} (hK18 : ∀ (v3 : Int32) (σ : ST), WW y l E 4 (fun _ : Unit => lw_Z (eB E) (eA E) (eS E)) 18 [(0, .ref b), (1, .ref (ad y 0)), (2, .ref (ad y 13)), (3, .int v3)] [] σ (K18 v3 σ)) (v3 : Int32) (σ : ST) : WW y l E 4 (fun _ : Unit => lw_Z (eB E) (eA E) (eS E)) 350 [(0, .ref b), (1, .ref (ad y 0)), (2, .ref (ad y 13)), (3, .int v3)] [] σ (T_L_law_j350 xs L K18 v3 σ) := by
  unfold T_L_law_j350
  refine r_aload_n (pc := 350) X dL_law_350 1 rfl rfl ?_
  refine r_aload_n (pc := 351) X dL_law_351 0 rfl rfl ?_
  refine r_iload_n (pc := 352) X dL_law_352 3 rfl rfl ?_
  refine r_iconst (pc := 353) X dL_law_353 kc_1 ?_
  refine r_iadd (pc := 354) X dL_law_354 ?_
  refine r_sld (pc := 355) X dL_law_355 LLX (fun x1 => ?_)
  refine r_aload_n (pc := 356) X dL_law_356 0 rfl rfl ?_
  refine r_iload_n (pc := 357) X dL_law_357 3 rfl rfl ?_
  refine r_iconst (pc := 358) X dL_law_358 kc_2 ?_
  refine r_iadd (pc := 359) X dL_law_359 ?_
  refine r_sld (pc := 360) X dL_law_360 LLX (fun x2 => ?_)
  refine r_aload_n (pc := 361) X dL_law_361 0 rfl rfl ?_
  refine r_iload_n (pc := 362) X dL_law_362 3 rfl rfl ?_
  refine r_iconst (pc := 363) X dL_law_363 kc_3 ?_
  refine r_iadd (pc := 364) X dL_law_364 ?_
  refine r_sld (pc := 365) X dL_law_365 LLX (fun x3 => ?_)
  refine r_callvI (pc := 366) X dL_law_366 cf_X2_bag ml_L_32 (rfL rfl rfl) hy oc_0.1 hc_2 (fun b hb => m_X2_bag hb) rfl rfl (Nat.le_of_ble_eq_true rfl) (fun x4 σ5 => ?_)
  refine r_aload_n (pc := 369) X dL_law_369 2 rfl rfl ?_
  refine r_aload_n (pc := 370) X dL_law_370 0 rfl rfl ?_
  refine r_iload_n (pc := 371) X dL_law_371 3 rfl rfl ?_
  refine r_iconst (pc := 372) X dL_law_372 kc_1 ?_
  refine r_iadd (pc := 373) X dL_law_373 ?_
  refine r_sld (pc := 374) X dL_law_374 LLX (fun x6 => ?_)
  refine r_aload_n (pc := 375) X dL_law_375 0 rfl rfl ?_
  refine r_iload_n (pc := 376) X dL_law_376 3 rfl rfl ?_
  refine r_iconst (pc := 377) X dL_law_377 kc_2 ?_
  refine r_iadd (pc := 378) X dL_law_378 ?_
  refine r_sld (pc := 379) X dL_law_379 LLX (fun x7 => ?_)
  refine r_aload_n (pc := 380) X dL_law_380 0 rfl rfl ?_
  refine r_iload_n (pc := 381) X dL_law_381 3 rfl rfl ?_
  refine r_iconst (pc := 382) X dL_law_382 kc_3 ?_
  refine r_iadd (pc := 383) X dL_law_383 ?_
  refine r_sld (pc := 384) X dL_law_384 LLX (fun x8 => ?_)
  refine r_callvI (pc := 385) X dL_law_385 cf_X3_bag ml_L_36 (rfL rfl rfl) hy oc_13.1 hc_3 (fun b hb => m_X3_bag hb) rfl rfl (Nat.le_of_ble_eq_true rfl) (fun x9 σ10 => ?_)
  refine r_icmp_eq (pc := 388) (tgt := 1749) X dL_law_388 (by decide) ?_ ?_
  · refine r_iinc (pc := 1749) (lv' := [(0, .ref _), (1, .ref _), (2, .ref _)]) X dL_law_1749 3 rfl (congrArg (fun z => v3 + z) kc_6) (by decide) rfl (fun x11 => ?_)
    refine r_goto (pc := 1752) (tgt := 18) X dL_law_1752 (by decide) ?_
    refine r_sub [1, 2, 3, 0] rfl ?_
    exact hK18 x11 σ10
  · refine r_iconst (pc := 391) X dL_law_391 kc_0 ?_
    exact r_none rfl

set_option maxRecDepth 100000 in
theorem s_L_law_j393 {y : LY} {l : Launch} {E : ET} {b L : Nat} {xs : Nat → Int32} (X : CX y l E cL_law 4 RL room_1) (LLX : LX y E b L xs) (hy : y.1 ≤ (eS E).heap.size) {K18 : Int32 → ST → Option Unit} (hK18 : ∀ (v3 : Int32) (σ : ST), WW y l E 4 (fun _ : Unit => lw_Z (eB E) (eA E) (eS E)) 18 [(0, .ref b), (1, .ref (ad y 0)), (2, .ref (ad y 13)), (3, .int v3)] [] σ (K18 v3 σ)) (v3 : Int32) (σ : ST) : WW y l E 4 (fun _ : Unit => lw_Z (eB E) (eA E) (eS E)) 393 [(0, .ref b), (1, .ref (ad y 0)), (2, .ref (ad y 13)), (3, .int v3)] [] σ (T_L_law_j393 xs L K18 v3 σ) := by
  unfold T_L_law_j393
  refine r_aload_n (pc := 393) X dL_law_393 1 rfl rfl ?_
  refine r_aload_n (pc := 394) X dL_law_394 0 rfl rfl ?_
  refine r_iload_n (pc := 395) X dL_law_395 3 rfl rfl ?_
  refine r_iconst (pc := 396) X dL_law_396 kc_1 ?_
  refine r_iadd (pc := 397) X dL_law_397 ?_
  refine r_sld (pc := 398) X dL_law_398 LLX (fun x1 => ?_)
  refine r_aload_n (pc := 399) X dL_law_399 0 rfl rfl ?_
  refine r_iload_n (pc := 400) X dL_law_400 3 rfl rfl ?_
  refine r_iconst (pc := 401) X dL_law_401 kc_2 ?_
  refine r_iadd (pc := 402) X dL_law_402 ?_
  refine r_sld (pc := 403) X dL_law_403 LLX (fun x2 => ?_)
  refine r_aload_n (pc := 404) X dL_law_404 0 rfl rfl ?_
  refine r_iload_n (pc := 405) X dL_law_405 3 rfl rfl ?_
  refine r_iconst (pc := 406) X dL_law_406 kc_3 ?_
  refine r_iadd (pc := 407) X dL_law_407 ?_
  refine r_sld (pc := 408) X dL_law_408 LLX (fun x3 => ?_)
  refine r_callvI (pc := 409) X dL_law_409 cf_X2_bearer ml_L_37 (rfL rfl rfl) hy oc_0.1 hc_2 (fun b hb => m_X2_bearer hb) rfl rfl (Nat.le_of_ble_eq_true rfl) (fun x4 σ5 => ?_)
  refine r_aload_n (pc := 412) X dL_law_412 2 rfl rfl ?_
  refine r_aload_n (pc := 413) X dL_law_413 0 rfl rfl ?_
  refine r_iload_n (pc := 414) X dL_law_414 3 rfl rfl ?_
  refine r_iconst (pc := 415) X dL_law_415 kc_1 ?_
  refine r_iadd (pc := 416) X dL_law_416 ?_
  refine r_sld (pc := 417) X dL_law_417 LLX (fun x6 => ?_)
  refine r_aload_n (pc := 418) X dL_law_418 0 rfl rfl ?_
  refine r_iload_n (pc := 419) X dL_law_419 3 rfl rfl ?_
  refine r_iconst (pc := 420) X dL_law_420 kc_2 ?_
  refine r_iadd (pc := 421) X dL_law_421 ?_
  refine r_sld (pc := 422) X dL_law_422 LLX (fun x7 => ?_)
  refine r_aload_n (pc := 423) X dL_law_423 0 rfl rfl ?_
  refine r_iload_n (pc := 424) X dL_law_424 3 rfl rfl ?_
  refine r_iconst (pc := 425) X dL_law_425 kc_3 ?_
  refine r_iadd (pc := 426) X dL_law_426 ?_
  refine r_sld (pc := 427) X dL_law_427 LLX (fun x8 => ?_)
  refine r_callvI (pc := 428) X dL_law_428 cf_X3_bearer ml_L_40 (rfL rfl rfl) hy oc_13.1 hc_3 (fun b hb => m_X3_bearer hb) rfl rfl (Nat.le_of_ble_eq_true rfl) (fun x9 σ10 => ?_)
  refine r_icmp_eq (pc := 431) (tgt := 1749) X dL_law_431 (by decide) ?_ ?_
  · refine r_iinc (pc := 1749) (lv' := [(0, .ref _), (1, .ref _), (2, .ref _)]) X dL_law_1749 3 rfl (congrArg (fun z => v3 + z) kc_6) (by decide) rfl (fun x11 => ?_)
    refine r_goto (pc := 1752) (tgt := 18) X dL_law_1752 (by decide) ?_
    refine r_sub [1, 2, 3, 0] rfl ?_
    exact hK18 x11 σ10
  · refine r_iconst (pc := 434) X dL_law_434 kc_0 ?_
    exact r_none rfl

set_option maxRecDepth 100000 in
theorem s_L_law_j436 {y : LY} {l : Launch} {E : ET} {b L : Nat} {xs : Nat → Int32} (X : CX y l E cL_law 4 RL room_1) (LLX : LX y E b L xs) (hy : y.1 ≤ (eS E).heap.size) {K18 : Int32 → ST → Option Unit} (hK18 : ∀ (v3 : Int32) (σ : ST), WW y l E 4 (fun _ : Unit => lw_Z (eB E) (eA E) (eS E)) 18 [(0, .ref b), (1, .ref (ad y 0)), (2, .ref (ad y 13)), (3, .int v3)] [] σ (K18 v3 σ)) (v3 : Int32) (σ : ST) : WW y l E 4 (fun _ : Unit => lw_Z (eB E) (eA E) (eS E)) 436 [(0, .ref b), (1, .ref (ad y 0)), (2, .ref (ad y 13)), (3, .int v3)] [] σ (T_L_law_j436 xs L K18 v3 σ) := by
  unfold T_L_law_j436
  refine r_aload_n (pc := 436) X dL_law_436 1 rfl rfl ?_
  refine r_aload_n (pc := 437) X dL_law_437 0 rfl rfl ?_
  refine r_iload_n (pc := 438) X dL_law_438 3 rfl rfl ?_
  refine r_iconst (pc := 439) X dL_law_439 kc_1 ?_
  refine r_iadd (pc := 440) X dL_law_440 ?_
  refine r_sld (pc := 441) X dL_law_441 LLX (fun x1 => ?_)
  refine r_aload_n (pc := 442) X dL_law_442 0 rfl rfl ?_
  refine r_iload_n (pc := 443) X dL_law_443 3 rfl rfl ?_
  refine r_iconst (pc := 444) X dL_law_444 kc_2 ?_
  refine r_iadd (pc := 445) X dL_law_445 ?_
  refine r_sld (pc := 446) X dL_law_446 LLX (fun x2 => ?_)
  refine r_callvI (pc := 447) X dL_law_447 cf_X2_gives ml_L_41 (rfL rfl rfl) hy oc_0.1 hc_2 (fun b hb => m_X2_gives hb) rfl rfl (Nat.le_of_ble_eq_true rfl) (fun x3 σ4 => ?_)
  refine r_aload_n (pc := 450) X dL_law_450 2 rfl rfl ?_
  refine r_aload_n (pc := 451) X dL_law_451 0 rfl rfl ?_
  refine r_iload_n (pc := 452) X dL_law_452 3 rfl rfl ?_
  refine r_iconst (pc := 453) X dL_law_453 kc_1 ?_
  refine r_iadd (pc := 454) X dL_law_454 ?_
  refine r_sld (pc := 455) X dL_law_455 LLX (fun x5 => ?_)
  refine r_aload_n (pc := 456) X dL_law_456 0 rfl rfl ?_
  refine r_iload_n (pc := 457) X dL_law_457 3 rfl rfl ?_
  refine r_iconst (pc := 458) X dL_law_458 kc_2 ?_
  refine r_iadd (pc := 459) X dL_law_459 ?_
  refine r_sld (pc := 460) X dL_law_460 LLX (fun x6 => ?_)
  refine r_callvI (pc := 461) X dL_law_461 cf_X3_gives ml_L_44 (rfL rfl rfl) hy oc_13.1 hc_3 (fun b hb => m_X3_gives hb) rfl rfl (Nat.le_of_ble_eq_true rfl) (fun x7 σ8 => ?_)
  refine r_icmp_eq (pc := 464) (tgt := 1749) X dL_law_464 (by decide) ?_ ?_
  · refine r_iinc (pc := 1749) (lv' := [(0, .ref _), (1, .ref _), (2, .ref _)]) X dL_law_1749 3 rfl (congrArg (fun z => v3 + z) kc_6) (by decide) rfl (fun x9 => ?_)
    refine r_goto (pc := 1752) (tgt := 18) X dL_law_1752 (by decide) ?_
    refine r_sub [1, 2, 3, 0] rfl ?_
    exact hK18 x9 σ8
  · refine r_iconst (pc := 467) X dL_law_467 kc_0 ?_
    exact r_none rfl

set_option maxRecDepth 100000 in
theorem s_L_law_j469 {y : LY} {l : Launch} {E : ET} {b L : Nat} {xs : Nat → Int32} (X : CX y l E cL_law 4 RL room_1) (LLX : LX y E b L xs) (hy : y.1 ≤ (eS E).heap.size) {K18 : Int32 → ST → Option Unit} (hK18 : ∀ (v3 : Int32) (σ : ST), WW y l E 4 (fun _ : Unit => lw_Z (eB E) (eA E) (eS E)) 18 [(0, .ref b), (1, .ref (ad y 0)), (2, .ref (ad y 13)), (3, .int v3)] [] σ (K18 v3 σ)) (v3 : Int32) (σ : ST) : WW y l E 4 (fun _ : Unit => lw_Z (eB E) (eA E) (eS E)) 469 [(0, .ref b), (1, .ref (ad y 0)), (2, .ref (ad y 13)), (3, .int v3)] [] σ (T_L_law_j469 xs L K18 v3 σ) := by
  unfold T_L_law_j469
  refine r_aload_n (pc := 469) X dL_law_469 1 rfl rfl ?_
  refine r_aload_n (pc := 470) X dL_law_470 0 rfl rfl ?_
  refine r_iload_n (pc := 471) X dL_law_471 3 rfl rfl ?_
  refine r_iconst (pc := 472) X dL_law_472 kc_1 ?_
  refine r_iadd (pc := 473) X dL_law_473 ?_
  refine r_sld (pc := 474) X dL_law_474 LLX (fun x1 => ?_)
  refine r_aload_n (pc := 475) X dL_law_475 0 rfl rfl ?_
  refine r_iload_n (pc := 476) X dL_law_476 3 rfl rfl ?_
  refine r_iconst (pc := 477) X dL_law_477 kc_2 ?_
  refine r_iadd (pc := 478) X dL_law_478 ?_
  refine r_sld (pc := 479) X dL_law_479 LLX (fun x2 => ?_)
  refine r_callvI (pc := 480) X dL_law_480 cf_X2_friends ml_L_45 (rfL rfl rfl) hy oc_0.1 hc_2 (fun b hb => m_X2_friends hb) rfl rfl (Nat.le_of_ble_eq_true rfl) (fun x3 σ4 => ?_)
  refine r_aload_n (pc := 483) X dL_law_483 2 rfl rfl ?_
  refine r_aload_n (pc := 484) X dL_law_484 0 rfl rfl ?_
  refine r_iload_n (pc := 485) X dL_law_485 3 rfl rfl ?_
  refine r_iconst (pc := 486) X dL_law_486 kc_1 ?_
  refine r_iadd (pc := 487) X dL_law_487 ?_
  refine r_sld (pc := 488) X dL_law_488 LLX (fun x5 => ?_)
  refine r_aload_n (pc := 489) X dL_law_489 0 rfl rfl ?_
  refine r_iload_n (pc := 490) X dL_law_490 3 rfl rfl ?_
  refine r_iconst (pc := 491) X dL_law_491 kc_2 ?_
  refine r_iadd (pc := 492) X dL_law_492 ?_
  refine r_sld (pc := 493) X dL_law_493 LLX (fun x6 => ?_)
  refine r_callvI (pc := 494) X dL_law_494 cf_X3_friends ml_L_48 (rfL rfl rfl) hy oc_13.1 hc_3 (fun b hb => m_X3_friends hb) rfl rfl (Nat.le_of_ble_eq_true rfl) (fun x7 σ8 => ?_)
  refine r_icmp_eq (pc := 497) (tgt := 1749) X dL_law_497 (by decide) ?_ ?_
  · refine r_iinc (pc := 1749) (lv' := [(0, .ref _), (1, .ref _), (2, .ref _)]) X dL_law_1749 3 rfl (congrArg (fun z => v3 + z) kc_6) (by decide) rfl (fun x9 => ?_)
    refine r_goto (pc := 1752) (tgt := 18) X dL_law_1752 (by decide) ?_
    refine r_sub [1, 2, 3, 0] rfl ?_
    exact hK18 x9 σ8
  · refine r_iconst (pc := 500) X dL_law_500 kc_0 ?_
    exact r_none rfl

set_option maxRecDepth 100000 in
theorem s_L_law_j502 {y : LY} {l : Launch} {E : ET} {b L : Nat} {xs : Nat → Int32} (X : CX y l E cL_law 4 RL room_1) (LLX : LX y E b L xs) (hy : y.1 ≤ (eS E).heap.size) {K18 : Int32 → ST → Option Unit} (hK18 : ∀ (v3 : Int32) (σ : ST), WW y l E 4 (fun _ : Unit => lw_Z (eB E) (eA E) (eS E)) 18 [(0, .ref b), (1, .ref (ad y 0)), (2, .ref (ad y 13)), (3, .int v3)] [] σ (K18 v3 σ)) (v3 : Int32) (σ : ST) : WW y l E 4 (fun _ : Unit => lw_Z (eB E) (eA E) (eS E)) 502 [(0, .ref b), (1, .ref (ad y 0)), (2, .ref (ad y 13)), (3, .int v3)] [] σ (T_L_law_j502 xs L K18 v3 σ) := by
  unfold T_L_law_j502
  refine r_aload_n (pc := 502) X dL_law_502 1 rfl rfl ?_
  refine r_aload_n (pc := 503) X dL_law_503 0 rfl rfl ?_
  refine r_iload_n (pc := 504) X dL_law_504 3 rfl rfl ?_
  refine r_iconst (pc := 505) X dL_law_505 kc_1 ?_
  refine r_iadd (pc := 506) X dL_law_506 ?_
  refine r_sld (pc := 507) X dL_law_507 LLX (fun x1 => ?_)
  refine r_aload_n (pc := 508) X dL_law_508 0 rfl rfl ?_
  refine r_iload_n (pc := 509) X dL_law_509 3 rfl rfl ?_
  refine r_iconst (pc := 510) X dL_law_510 kc_2 ?_
  refine r_iadd (pc := 511) X dL_law_511 ?_
  refine r_sld (pc := 512) X dL_law_512 LLX (fun x2 => ?_)
  refine r_callvI (pc := 513) X dL_law_513 cf_X2_wants ml_L_49 (rfL rfl rfl) hy oc_0.1 hc_2 (fun b hb => m_X2_wants hb) rfl rfl (Nat.le_of_ble_eq_true rfl) (fun x3 σ4 => ?_)
  refine r_aload_n (pc := 516) X dL_law_516 2 rfl rfl ?_
  refine r_aload_n (pc := 517) X dL_law_517 0 rfl rfl ?_
  refine r_iload_n (pc := 518) X dL_law_518 3 rfl rfl ?_
  refine r_iconst (pc := 519) X dL_law_519 kc_1 ?_
  refine r_iadd (pc := 520) X dL_law_520 ?_
  refine r_sld (pc := 521) X dL_law_521 LLX (fun x5 => ?_)
  refine r_aload_n (pc := 522) X dL_law_522 0 rfl rfl ?_
  refine r_iload_n (pc := 523) X dL_law_523 3 rfl rfl ?_
  refine r_iconst (pc := 524) X dL_law_524 kc_2 ?_
  refine r_iadd (pc := 525) X dL_law_525 ?_
  refine r_sld (pc := 526) X dL_law_526 LLX (fun x6 => ?_)
  refine r_callvI (pc := 527) X dL_law_527 cf_X3_wants ml_L_52 (rfL rfl rfl) hy oc_13.1 hc_3 (fun b hb => m_X3_wants hb) rfl rfl (Nat.le_of_ble_eq_true rfl) (fun x7 σ8 => ?_)
  refine r_icmp_eq (pc := 530) (tgt := 1749) X dL_law_530 (by decide) ?_ ?_
  · refine r_iinc (pc := 1749) (lv' := [(0, .ref _), (1, .ref _), (2, .ref _)]) X dL_law_1749 3 rfl (congrArg (fun z => v3 + z) kc_6) (by decide) rfl (fun x9 => ?_)
    refine r_goto (pc := 1752) (tgt := 18) X dL_law_1752 (by decide) ?_
    refine r_sub [1, 2, 3, 0] rfl ?_
    exact hK18 x9 σ8
  · refine r_iconst (pc := 533) X dL_law_533 kc_0 ?_
    exact r_none rfl

set_option maxRecDepth 100000 in
theorem s_L_law_j535 {y : LY} {l : Launch} {E : ET} {b L : Nat} {xs : Nat → Int32} (X : CX y l E cL_law 4 RL room_1) (LLX : LX y E b L xs) (hy : y.1 ≤ (eS E).heap.size) {K18 : Int32 → ST → Option Unit} (hK18 : ∀ (v3 : Int32) (σ : ST), WW y l E 4 (fun _ : Unit => lw_Z (eB E) (eA E) (eS E)) 18 [(0, .ref b), (1, .ref (ad y 0)), (2, .ref (ad y 13)), (3, .int v3)] [] σ (K18 v3 σ)) (v3 : Int32) (σ : ST) : WW y l E 4 (fun _ : Unit => lw_Z (eB E) (eA E) (eS E)) 535 [(0, .ref b), (1, .ref (ad y 0)), (2, .ref (ad y 13)), (3, .int v3)] [] σ (T_L_law_j535 xs L K18 v3 σ) := by
  unfold T_L_law_j535
  refine r_aload_n (pc := 535) X dL_law_535 1 rfl rfl ?_
  refine r_aload_n (pc := 536) X dL_law_536 0 rfl rfl ?_
  refine r_iload_n (pc := 537) X dL_law_537 3 rfl rfl ?_
  refine r_iconst (pc := 538) X dL_law_538 kc_1 ?_
  refine r_iadd (pc := 539) X dL_law_539 ?_
  refine r_sld (pc := 540) X dL_law_540 LLX (fun x1 => ?_)
  refine r_aload_n (pc := 541) X dL_law_541 0 rfl rfl ?_
  refine r_iload_n (pc := 542) X dL_law_542 3 rfl rfl ?_
  refine r_iconst (pc := 543) X dL_law_543 kc_2 ?_
  refine r_iadd (pc := 544) X dL_law_544 ?_
  refine r_sld (pc := 545) X dL_law_545 LLX (fun x2 => ?_)
  refine r_callvI (pc := 546) X dL_law_546 cf_X2_put ml_L_53 (rfL rfl rfl) hy oc_0.1 hc_2 (fun b hb => m_X2_put hb) rfl rfl (Nat.le_of_ble_eq_true rfl) (fun x3 σ4 => ?_)
  refine r_aload_n (pc := 549) X dL_law_549 2 rfl rfl ?_
  refine r_aload_n (pc := 550) X dL_law_550 0 rfl rfl ?_
  refine r_iload_n (pc := 551) X dL_law_551 3 rfl rfl ?_
  refine r_iconst (pc := 552) X dL_law_552 kc_1 ?_
  refine r_iadd (pc := 553) X dL_law_553 ?_
  refine r_sld (pc := 554) X dL_law_554 LLX (fun x5 => ?_)
  refine r_aload_n (pc := 555) X dL_law_555 0 rfl rfl ?_
  refine r_iload_n (pc := 556) X dL_law_556 3 rfl rfl ?_
  refine r_iconst (pc := 557) X dL_law_557 kc_2 ?_
  refine r_iadd (pc := 558) X dL_law_558 ?_
  refine r_sld (pc := 559) X dL_law_559 LLX (fun x6 => ?_)
  refine r_callvI (pc := 560) X dL_law_560 cf_X3_put ml_L_56 (rfL rfl rfl) hy oc_13.1 hc_3 (fun b hb => m_X3_put hb) rfl rfl (Nat.le_of_ble_eq_true rfl) (fun x7 σ8 => ?_)
  refine r_icmp_eq (pc := 563) (tgt := 1749) X dL_law_563 (by decide) ?_ ?_
  · refine r_iinc (pc := 1749) (lv' := [(0, .ref _), (1, .ref _), (2, .ref _)]) X dL_law_1749 3 rfl (congrArg (fun z => v3 + z) kc_6) (by decide) rfl (fun x9 => ?_)
    refine r_goto (pc := 1752) (tgt := 18) X dL_law_1752 (by decide) ?_
    refine r_sub [1, 2, 3, 0] rfl ?_
    exact hK18 x9 σ8
  · refine r_iconst (pc := 566) X dL_law_566 kc_0 ?_
    exact r_none rfl

set_option maxRecDepth 100000 in
theorem s_L_law_j568 {y : LY} {l : Launch} {E : ET} {b L : Nat} {xs : Nat → Int32} (X : CX y l E cL_law 4 RL room_1) (LLX : LX y E b L xs) (hy : y.1 ≤ (eS E).heap.size) {K18 : Int32 → ST → Option Unit} (hK18 : ∀ (v3 : Int32) (σ : ST), WW y l E 4 (fun _ : Unit => lw_Z (eB E) (eA E) (eS E)) 18 [(0, .ref b), (1, .ref (ad y 0)), (2, .ref (ad y 13)), (3, .int v3)] [] σ (K18 v3 σ)) (v3 : Int32) (σ : ST) : WW y l E 4 (fun _ : Unit => lw_Z (eB E) (eA E) (eS E)) 568 [(0, .ref b), (1, .ref (ad y 0)), (2, .ref (ad y 13)), (3, .int v3)] [] σ (T_L_law_j568 xs L K18 v3 σ) := by
  unfold T_L_law_j568
  refine r_aload_n (pc := 568) X dL_law_568 1 rfl rfl ?_
  refine r_aload_n (pc := 569) X dL_law_569 0 rfl rfl ?_
  refine r_iload_n (pc := 570) X dL_law_570 3 rfl rfl ?_
  refine r_iconst (pc := 571) X dL_law_571 kc_1 ?_
  refine r_iadd (pc := 572) X dL_law_572 ?_
  refine r_sld (pc := 573) X dL_law_573 LLX (fun x1 => ?_)
  refine r_callvI (pc := 574) X dL_law_574 cf_X2_colonel ml_L_57 (rfL rfl rfl) hy oc_0.1 hc_2 (fun b hb => m_X2_colonel hb) rfl rfl (Nat.le_of_ble_eq_true rfl) (fun x2 σ3 => ?_)
  refine r_aload_n (pc := 577) X dL_law_577 2 rfl rfl ?_
  refine r_aload_n (pc := 578) X dL_law_578 0 rfl rfl ?_
  refine r_iload_n (pc := 579) X dL_law_579 3 rfl rfl ?_
  refine r_iconst (pc := 580) X dL_law_580 kc_1 ?_
  refine r_iadd (pc := 581) X dL_law_581 ?_
  refine r_sld (pc := 582) X dL_law_582 LLX (fun x4 => ?_)
  refine r_callvI (pc := 583) X dL_law_583 cf_X3_colonel ml_L_60 (rfL rfl rfl) hy oc_13.1 hc_3 (fun b hb => m_X3_colonel hb) rfl rfl (Nat.le_of_ble_eq_true rfl) (fun x5 σ6 => ?_)
  refine r_icmp_eq (pc := 586) (tgt := 1749) X dL_law_586 (by decide) ?_ ?_
  · refine r_iinc (pc := 1749) (lv' := [(0, .ref _), (1, .ref _), (2, .ref _)]) X dL_law_1749 3 rfl (congrArg (fun z => v3 + z) kc_6) (by decide) rfl (fun x7 => ?_)
    refine r_goto (pc := 1752) (tgt := 18) X dL_law_1752 (by decide) ?_
    refine r_sub [1, 2, 3, 0] rfl ?_
    exact hK18 x7 σ6
  · refine r_iconst (pc := 589) X dL_law_589 kc_0 ?_
    exact r_none rfl

set_option maxRecDepth 100000 in
theorem s_L_law_j591 {y : LY} {l : Launch} {E : ET} {b L : Nat} {xs : Nat → Int32} (X : CX y l E cL_law 4 RL room_1) (LLX : LX y E b L xs) (hy : y.1 ≤ (eS E).heap.size) {K18 : Int32 → ST → Option Unit} (hK18 : ∀ (v3 : Int32) (σ : ST), WW y l E 4 (fun _ : Unit => lw_Z (eB E) (eA E) (eS E)) 18 [(0, .ref b), (1, .ref (ad y 0)), (2, .ref (ad y 13)), (3, .int v3)] [] σ (K18 v3 σ)) (v3 : Int32) (σ : ST) : WW y l E 4 (fun _ : Unit => lw_Z (eB E) (eA E) (eS E)) 591 [(0, .ref b), (1, .ref (ad y 0)), (2, .ref (ad y 13)), (3, .int v3)] [] σ (T_L_law_j591 xs L K18 v3 σ) := by
  unfold T_L_law_j591
  refine r_aload_n (pc := 591) X dL_law_591 1 rfl rfl ?_
  refine r_aload_n (pc := 592) X dL_law_592 0 rfl rfl ?_
  refine r_iload_n (pc := 593) X dL_law_593 3 rfl rfl ?_
  refine r_iconst (pc := 594) X dL_law_594 kc_1 ?_
  refine r_iadd (pc := 595) X dL_law_595 ?_
  refine r_sld (pc := 596) X dL_law_596 LLX (fun x1 => ?_)
  refine r_callvI (pc := 597) X dL_law_597 cf_X2_hours ml_L_61 (rfL rfl rfl) hy oc_0.1 hc_2 (fun b hb => m_X2_hours hb) rfl rfl (Nat.le_of_ble_eq_true rfl) (fun x2 σ3 => ?_)
  refine r_aload_n (pc := 600) X dL_law_600 2 rfl rfl ?_
  refine r_aload_n (pc := 601) X dL_law_601 0 rfl rfl ?_
  refine r_iload_n (pc := 602) X dL_law_602 3 rfl rfl ?_
  refine r_iconst (pc := 603) X dL_law_603 kc_1 ?_
  refine r_iadd (pc := 604) X dL_law_604 ?_
  refine r_sld (pc := 605) X dL_law_605 LLX (fun x4 => ?_)
  refine r_callvI (pc := 606) X dL_law_606 cf_X3_hours ml_L_64 (rfL rfl rfl) hy oc_13.1 hc_3 (fun b hb => m_X3_hours hb) rfl rfl (Nat.le_of_ble_eq_true rfl) (fun x5 σ6 => ?_)
  refine r_icmp_eq (pc := 609) (tgt := 1749) X dL_law_609 (by decide) ?_ ?_
  · refine r_iinc (pc := 1749) (lv' := [(0, .ref _), (1, .ref _), (2, .ref _)]) X dL_law_1749 3 rfl (congrArg (fun z => v3 + z) kc_6) (by decide) rfl (fun x7 => ?_)
    refine r_goto (pc := 1752) (tgt := 18) X dL_law_1752 (by decide) ?_
    refine r_sub [1, 2, 3, 0] rfl ?_
    exact hK18 x7 σ6
  · refine r_iconst (pc := 612) X dL_law_612 kc_0 ?_
    exact r_none rfl

set_option maxRecDepth 100000 in
theorem s_L_law_j614 {y : LY} {l : Launch} {E : ET} {b L : Nat} {xs : Nat → Int32} (X : CX y l E cL_law 4 RL room_1) (LLX : LX y E b L xs) (hy : y.1 ≤ (eS E).heap.size) {K18 : Int32 → ST → Option Unit} (hK18 : ∀ (v3 : Int32) (σ : ST), WW y l E 4 (fun _ : Unit => lw_Z (eB E) (eA E) (eS E)) 18 [(0, .ref b), (1, .ref (ad y 0)), (2, .ref (ad y 13)), (3, .int v3)] [] σ (K18 v3 σ)) (v3 : Int32) (σ : ST) : WW y l E 4 (fun _ : Unit => lw_Z (eB E) (eA E) (eS E)) 614 [(0, .ref b), (1, .ref (ad y 0)), (2, .ref (ad y 13)), (3, .int v3)] [] σ (T_L_law_j614 xs L K18 v3 σ) := by
  unfold T_L_law_j614
  refine r_aload_n (pc := 614) X dL_law_614 1 rfl rfl ?_
  refine r_callvI (pc := 615) X dL_law_615 cf_X2_back ml_L_65 (rfL rfl rfl) hy oc_0.1 hc_2 (fun b hb => m_X2_back hb) rfl rfl (Nat.le_of_ble_eq_true rfl) (fun x1 σ2 => ?_)
  refine r_aload_n (pc := 618) X dL_law_618 2 rfl rfl ?_
  refine r_callvI (pc := 619) X dL_law_619 cf_X3_back ml_L_68 (rfL rfl rfl) hy oc_13.1 hc_3 (fun b hb => m_X3_back hb) rfl rfl (Nat.le_of_ble_eq_true rfl) (fun x3 σ4 => ?_)
  refine r_icmp_eq (pc := 622) (tgt := 1749) X dL_law_622 (by decide) ?_ ?_
  · refine r_iinc (pc := 1749) (lv' := [(0, .ref _), (1, .ref _), (2, .ref _)]) X dL_law_1749 3 rfl (congrArg (fun z => v3 + z) kc_6) (by decide) rfl (fun x5 => ?_)
    refine r_goto (pc := 1752) (tgt := 18) X dL_law_1752 (by decide) ?_
    refine r_sub [1, 2, 3, 0] rfl ?_
    exact hK18 x5 σ4
  · refine r_iconst (pc := 625) X dL_law_625 kc_0 ?_
    exact r_none rfl

set_option maxRecDepth 100000 in
theorem s_L_law_j627 {y : LY} {l : Launch} {E : ET} {b L : Nat} {xs : Nat → Int32} (X : CX y l E cL_law 4 RL room_1) (LLX : LX y E b L xs) (hy : y.1 ≤ (eS E).heap.size) {K18 : Int32 → ST → Option Unit} (hK18 : ∀ (v3 : Int32) (σ : ST), WW y l E 4 (fun _ : Unit => lw_Z (eB E) (eA E) (eS E)) 18 [(0, .ref b), (1, .ref (ad y 0)), (2, .ref (ad y 13)), (3, .int v3)] [] σ (K18 v3 σ)) (v3 : Int32) (σ : ST) : WW y l E 4 (fun _ : Unit => lw_Z (eB E) (eA E) (eS E)) 627 [(0, .ref b), (1, .ref (ad y 0)), (2, .ref (ad y 13)), (3, .int v3)] [] σ (T_L_law_j627 xs L K18 v3 σ) := by
  unfold T_L_law_j627
  refine r_aload_n (pc := 627) X dL_law_627 1 rfl rfl ?_
  refine r_aload_n (pc := 628) X dL_law_628 0 rfl rfl ?_
  refine r_iload_n (pc := 629) X dL_law_629 3 rfl rfl ?_
  refine r_iconst (pc := 630) X dL_law_630 kc_1 ?_
  refine r_iadd (pc := 631) X dL_law_631 ?_
  refine r_sld (pc := 632) X dL_law_632 LLX (fun x1 => ?_)
  refine r_aload_n (pc := 633) X dL_law_633 0 rfl rfl ?_
  refine r_iload_n (pc := 634) X dL_law_634 3 rfl rfl ?_
  refine r_iconst (pc := 635) X dL_law_635 kc_2 ?_
  refine r_iadd (pc := 636) X dL_law_636 ?_
  refine r_sld (pc := 637) X dL_law_637 LLX (fun x2 => ?_)
  refine r_aload_n (pc := 638) X dL_law_638 0 rfl rfl ?_
  refine r_iload_n (pc := 639) X dL_law_639 3 rfl rfl ?_
  refine r_iconst (pc := 640) X dL_law_640 kc_3 ?_
  refine r_iadd (pc := 641) X dL_law_641 ?_
  refine r_sld (pc := 642) X dL_law_642 LLX (fun x3 => ?_)
  refine r_callvI (pc := 643) X dL_law_643 cf_X2_behind ml_L_69 (rfL rfl rfl) hy oc_0.1 hc_2 (fun b hb => m_X2_behind hb) rfl rfl (Nat.le_of_ble_eq_true rfl) (fun x4 σ5 => ?_)
  refine r_aload_n (pc := 646) X dL_law_646 2 rfl rfl ?_
  refine r_aload_n (pc := 647) X dL_law_647 0 rfl rfl ?_
  refine r_iload_n (pc := 648) X dL_law_648 3 rfl rfl ?_
  refine r_iconst (pc := 649) X dL_law_649 kc_1 ?_
  refine r_iadd (pc := 650) X dL_law_650 ?_
  refine r_sld (pc := 651) X dL_law_651 LLX (fun x6 => ?_)
  refine r_aload_n (pc := 652) X dL_law_652 0 rfl rfl ?_
  refine r_iload_n (pc := 653) X dL_law_653 3 rfl rfl ?_
  refine r_iconst (pc := 654) X dL_law_654 kc_2 ?_
  refine r_iadd (pc := 655) X dL_law_655 ?_
  refine r_sld (pc := 656) X dL_law_656 LLX (fun x7 => ?_)
  refine r_aload_n (pc := 657) X dL_law_657 0 rfl rfl ?_
  refine r_iload_n (pc := 658) X dL_law_658 3 rfl rfl ?_
  refine r_iconst (pc := 659) X dL_law_659 kc_3 ?_
  refine r_iadd (pc := 660) X dL_law_660 ?_
  refine r_sld (pc := 661) X dL_law_661 LLX (fun x8 => ?_)
  refine r_callvI (pc := 662) X dL_law_662 cf_X3_behind ml_L_72 (rfL rfl rfl) hy oc_13.1 hc_3 (fun b hb => m_X3_behind hb) rfl rfl (Nat.le_of_ble_eq_true rfl) (fun x9 σ10 => ?_)
  refine r_icmp_eq (pc := 665) (tgt := 1749) X dL_law_665 (by decide) ?_ ?_
  · refine r_iinc (pc := 1749) (lv' := [(0, .ref _), (1, .ref _), (2, .ref _)]) X dL_law_1749 3 rfl (congrArg (fun z => v3 + z) kc_6) (by decide) rfl (fun x11 => ?_)
    refine r_goto (pc := 1752) (tgt := 18) X dL_law_1752 (by decide) ?_
    refine r_sub [1, 2, 3, 0] rfl ?_
    exact hK18 x11 σ10
  · refine r_iconst (pc := 668) X dL_law_668 kc_0 ?_
    exact r_none rfl

set_option maxRecDepth 100000 in
theorem s_L_law_j670 {y : LY} {l : Launch} {E : ET} {b L : Nat} {xs : Nat → Int32} (X : CX y l E cL_law 4 RL room_1) (LLX : LX y E b L xs) (hy : y.1 ≤ (eS E).heap.size) {K18 : Int32 → ST → Option Unit} (hK18 : ∀ (v3 : Int32) (σ : ST), WW y l E 4 (fun _ : Unit => lw_Z (eB E) (eA E) (eS E)) 18 [(0, .ref b), (1, .ref (ad y 0)), (2, .ref (ad y 13)), (3, .int v3)] [] σ (K18 v3 σ)) (v3 : Int32) (σ : ST) : WW y l E 4 (fun _ : Unit => lw_Z (eB E) (eA E) (eS E)) 670 [(0, .ref b), (1, .ref (ad y 0)), (2, .ref (ad y 13)), (3, .int v3)] [] σ (T_L_law_j670 xs L K18 v3 σ) := by
  unfold T_L_law_j670
  refine r_aload_n (pc := 670) X dL_law_670 1 rfl rfl ?_
  refine r_aload_n (pc := 671) X dL_law_671 0 rfl rfl ?_
  refine r_iload_n (pc := 672) X dL_law_672 3 rfl rfl ?_
  refine r_iconst (pc := 673) X dL_law_673 kc_1 ?_
  refine r_iadd (pc := 674) X dL_law_674 ?_
  refine r_sld (pc := 675) X dL_law_675 LLX (fun x1 => ?_)
  refine r_aload_n (pc := 676) X dL_law_676 0 rfl rfl ?_
  refine r_iload_n (pc := 677) X dL_law_677 3 rfl rfl ?_
  refine r_iconst (pc := 678) X dL_law_678 kc_2 ?_
  refine r_iadd (pc := 679) X dL_law_679 ?_
  refine r_sld (pc := 680) X dL_law_680 LLX (fun x2 => ?_)
  refine r_callvI (pc := 681) X dL_law_681 cf_X2_meet ml_L_73 (rfL rfl rfl) hy oc_0.1 hc_2 (fun b hb => m_X2_meet hb) rfl rfl (Nat.le_of_ble_eq_true rfl) (fun x3 σ4 => ?_)
  refine r_aload_n (pc := 684) X dL_law_684 2 rfl rfl ?_
  refine r_aload_n (pc := 685) X dL_law_685 0 rfl rfl ?_
  refine r_iload_n (pc := 686) X dL_law_686 3 rfl rfl ?_
  refine r_iconst (pc := 687) X dL_law_687 kc_1 ?_
  refine r_iadd (pc := 688) X dL_law_688 ?_
  refine r_sld (pc := 689) X dL_law_689 LLX (fun x5 => ?_)
  refine r_aload_n (pc := 690) X dL_law_690 0 rfl rfl ?_
  refine r_iload_n (pc := 691) X dL_law_691 3 rfl rfl ?_
  refine r_iconst (pc := 692) X dL_law_692 kc_2 ?_
  refine r_iadd (pc := 693) X dL_law_693 ?_
  refine r_sld (pc := 694) X dL_law_694 LLX (fun x6 => ?_)
  refine r_callvI (pc := 695) X dL_law_695 cf_X3_meet ml_L_76 (rfL rfl rfl) hy oc_13.1 hc_3 (fun b hb => m_X3_meet hb) rfl rfl (Nat.le_of_ble_eq_true rfl) (fun x7 σ8 => ?_)
  refine r_icmp_eq (pc := 698) (tgt := 1749) X dL_law_698 (by decide) ?_ ?_
  · refine r_iinc (pc := 1749) (lv' := [(0, .ref _), (1, .ref _), (2, .ref _)]) X dL_law_1749 3 rfl (congrArg (fun z => v3 + z) kc_6) (by decide) rfl (fun x9 => ?_)
    refine r_goto (pc := 1752) (tgt := 18) X dL_law_1752 (by decide) ?_
    refine r_sub [1, 2, 3, 0] rfl ?_
    exact hK18 x9 σ8
  · refine r_iconst (pc := 701) X dL_law_701 kc_0 ?_
    exact r_none rfl

set_option maxRecDepth 100000 in
theorem s_L_law_j703 {y : LY} {l : Launch} {E : ET} {b L : Nat} {xs : Nat → Int32} (X : CX y l E cL_law 4 RL room_1) (LLX : LX y E b L xs) (hy : y.1 ≤ (eS E).heap.size) {K18 : Int32 → ST → Option Unit} (hK18 : ∀ (v3 : Int32) (σ : ST), WW y l E 4 (fun _ : Unit => lw_Z (eB E) (eA E) (eS E)) 18 [(0, .ref b), (1, .ref (ad y 0)), (2, .ref (ad y 13)), (3, .int v3)] [] σ (K18 v3 σ)) (v3 : Int32) (σ : ST) : WW y l E 4 (fun _ : Unit => lw_Z (eB E) (eA E) (eS E)) 703 [(0, .ref b), (1, .ref (ad y 0)), (2, .ref (ad y 13)), (3, .int v3)] [] σ (T_L_law_j703 xs L K18 v3 σ) := by
  unfold T_L_law_j703
  refine r_aload_n (pc := 703) X dL_law_703 1 rfl rfl ?_
  refine r_aload_n (pc := 704) X dL_law_704 0 rfl rfl ?_
  refine r_iload_n (pc := 705) X dL_law_705 3 rfl rfl ?_
  refine r_iconst (pc := 706) X dL_law_706 kc_1 ?_
  refine r_iadd (pc := 707) X dL_law_707 ?_
  refine r_sld (pc := 708) X dL_law_708 LLX (fun x1 => ?_)
  refine r_aload_n (pc := 709) X dL_law_709 0 rfl rfl ?_
  refine r_iload_n (pc := 710) X dL_law_710 3 rfl rfl ?_
  refine r_iconst (pc := 711) X dL_law_711 kc_2 ?_
  refine r_iadd (pc := 712) X dL_law_712 ?_
  refine r_sld (pc := 713) X dL_law_713 LLX (fun x2 => ?_)
  refine r_callvI (pc := 714) X dL_law_714 cf_X2_company ml_L_77 (rfL rfl rfl) hy oc_0.1 hc_2 (fun b hb => m_X2_company hb) rfl rfl (Nat.le_of_ble_eq_true rfl) (fun x3 σ4 => ?_)
  refine r_aload_n (pc := 717) X dL_law_717 2 rfl rfl ?_
  refine r_aload_n (pc := 718) X dL_law_718 0 rfl rfl ?_
  refine r_iload_n (pc := 719) X dL_law_719 3 rfl rfl ?_
  refine r_iconst (pc := 720) X dL_law_720 kc_1 ?_
  refine r_iadd (pc := 721) X dL_law_721 ?_
  refine r_sld (pc := 722) X dL_law_722 LLX (fun x5 => ?_)
  refine r_aload_n (pc := 723) X dL_law_723 0 rfl rfl ?_
  refine r_iload_n (pc := 724) X dL_law_724 3 rfl rfl ?_
  refine r_iconst (pc := 725) X dL_law_725 kc_2 ?_
  refine r_iadd (pc := 726) X dL_law_726 ?_
  refine r_sld (pc := 727) X dL_law_727 LLX (fun x6 => ?_)
  refine r_callvI (pc := 728) X dL_law_728 cf_X3_company ml_L_80 (rfL rfl rfl) hy oc_13.1 hc_3 (fun b hb => m_X3_company hb) rfl rfl (Nat.le_of_ble_eq_true rfl) (fun x7 σ8 => ?_)
  refine r_icmp_eq (pc := 731) (tgt := 1749) X dL_law_731 (by decide) ?_ ?_
  · refine r_iinc (pc := 1749) (lv' := [(0, .ref _), (1, .ref _), (2, .ref _)]) X dL_law_1749 3 rfl (congrArg (fun z => v3 + z) kc_6) (by decide) rfl (fun x9 => ?_)
    refine r_goto (pc := 1752) (tgt := 18) X dL_law_1752 (by decide) ?_
    refine r_sub [1, 2, 3, 0] rfl ?_
    exact hK18 x9 σ8
  · refine r_iconst (pc := 734) X dL_law_734 kc_0 ?_
    exact r_none rfl

set_option maxRecDepth 100000 in
theorem s_L_law_j736 {y : LY} {l : Launch} {E : ET} {b L : Nat} {xs : Nat → Int32} (X : CX y l E cL_law 4 RL room_1) (LLX : LX y E b L xs) (hy : y.1 ≤ (eS E).heap.size) {K18 : Int32 → ST → Option Unit} (hK18 : ∀ (v3 : Int32) (σ : ST), WW y l E 4 (fun _ : Unit => lw_Z (eB E) (eA E) (eS E)) 18 [(0, .ref b), (1, .ref (ad y 0)), (2, .ref (ad y 13)), (3, .int v3)] [] σ (K18 v3 σ)) (v3 : Int32) (σ : ST) : WW y l E 4 (fun _ : Unit => lw_Z (eB E) (eA E) (eS E)) 736 [(0, .ref b), (1, .ref (ad y 0)), (2, .ref (ad y 13)), (3, .int v3)] [] σ (T_L_law_j736 xs L K18 v3 σ) := by
  unfold T_L_law_j736
  refine r_aload_n (pc := 736) X dL_law_736 1 rfl rfl ?_
  refine r_aload_n (pc := 737) X dL_law_737 0 rfl rfl ?_
  refine r_iload_n (pc := 738) X dL_law_738 3 rfl rfl ?_
  refine r_iconst (pc := 739) X dL_law_739 kc_1 ?_
  refine r_iadd (pc := 740) X dL_law_740 ?_
  refine r_sld (pc := 741) X dL_law_741 LLX (fun x1 => ?_)
  refine r_callvI (pc := 742) X dL_law_742 cf_X2_breathless ml_L_81 (rfL rfl rfl) hy oc_0.1 hc_2 (fun b hb => m_X2_breathless hb) rfl rfl (Nat.le_of_ble_eq_true rfl) (fun x2 σ3 => ?_)
  refine r_aload_n (pc := 745) X dL_law_745 2 rfl rfl ?_
  refine r_aload_n (pc := 746) X dL_law_746 0 rfl rfl ?_
  refine r_iload_n (pc := 747) X dL_law_747 3 rfl rfl ?_
  refine r_iconst (pc := 748) X dL_law_748 kc_1 ?_
  refine r_iadd (pc := 749) X dL_law_749 ?_
  refine r_sld (pc := 750) X dL_law_750 LLX (fun x4 => ?_)
  refine r_callvI (pc := 751) X dL_law_751 cf_X3_breathless ml_L_84 (rfL rfl rfl) hy oc_13.1 hc_3 (fun b hb => m_X3_breathless hb) rfl rfl (Nat.le_of_ble_eq_true rfl) (fun x5 σ6 => ?_)
  refine r_icmp_eq (pc := 754) (tgt := 1749) X dL_law_754 (by decide) ?_ ?_
  · refine r_iinc (pc := 1749) (lv' := [(0, .ref _), (1, .ref _), (2, .ref _)]) X dL_law_1749 3 rfl (congrArg (fun z => v3 + z) kc_6) (by decide) rfl (fun x7 => ?_)
    refine r_goto (pc := 1752) (tgt := 18) X dL_law_1752 (by decide) ?_
    refine r_sub [1, 2, 3, 0] rfl ?_
    exact hK18 x7 σ6
  · refine r_iconst (pc := 757) X dL_law_757 kc_0 ?_
    exact r_none rfl

set_option maxRecDepth 100000 in
theorem s_L_law_j759 {y : LY} {l : Launch} {E : ET} {b L : Nat} {xs : Nat → Int32} (X : CX y l E cL_law 4 RL room_1) (LLX : LX y E b L xs) (hy : y.1 ≤ (eS E).heap.size) {K18 : Int32 → ST → Option Unit} (hK18 : ∀ (v3 : Int32) (σ : ST), WW y l E 4 (fun _ : Unit => lw_Z (eB E) (eA E) (eS E)) 18 [(0, .ref b), (1, .ref (ad y 0)), (2, .ref (ad y 13)), (3, .int v3)] [] σ (K18 v3 σ)) (v3 : Int32) (σ : ST) : WW y l E 4 (fun _ : Unit => lw_Z (eB E) (eA E) (eS E)) 759 [(0, .ref b), (1, .ref (ad y 0)), (2, .ref (ad y 13)), (3, .int v3)] [] σ (T_L_law_j759 xs L K18 v3 σ) := by
  unfold T_L_law_j759
  refine r_aload_n (pc := 759) X dL_law_759 1 rfl rfl ?_
  refine r_aload_n (pc := 760) X dL_law_760 0 rfl rfl ?_
  refine r_iload_n (pc := 761) X dL_law_761 3 rfl rfl ?_
  refine r_iconst (pc := 762) X dL_law_762 kc_1 ?_
  refine r_iadd (pc := 763) X dL_law_763 ?_
  refine r_sld (pc := 764) X dL_law_764 LLX (fun x1 => ?_)
  refine r_aload_n (pc := 765) X dL_law_765 0 rfl rfl ?_
  refine r_iload_n (pc := 766) X dL_law_766 3 rfl rfl ?_
  refine r_iconst (pc := 767) X dL_law_767 kc_2 ?_
  refine r_iadd (pc := 768) X dL_law_768 ?_
  refine r_sld (pc := 769) X dL_law_769 LLX (fun x2 => ?_)
  refine r_callvI (pc := 770) X dL_law_770 cf_X2_snaps ml_L_85 (rfL rfl rfl) hy oc_0.1 hc_2 (fun b hb => m_X2_snaps hb) rfl rfl (Nat.le_of_ble_eq_true rfl) (fun x3 σ4 => ?_)
  refine r_aload_n (pc := 773) X dL_law_773 2 rfl rfl ?_
  refine r_aload_n (pc := 774) X dL_law_774 0 rfl rfl ?_
  refine r_iload_n (pc := 775) X dL_law_775 3 rfl rfl ?_
  refine r_iconst (pc := 776) X dL_law_776 kc_1 ?_
  refine r_iadd (pc := 777) X dL_law_777 ?_
  refine r_sld (pc := 778) X dL_law_778 LLX (fun x5 => ?_)
  refine r_aload_n (pc := 779) X dL_law_779 0 rfl rfl ?_
  refine r_iload_n (pc := 780) X dL_law_780 3 rfl rfl ?_
  refine r_iconst (pc := 781) X dL_law_781 kc_2 ?_
  refine r_iadd (pc := 782) X dL_law_782 ?_
  refine r_sld (pc := 783) X dL_law_783 LLX (fun x6 => ?_)
  refine r_callvI (pc := 784) X dL_law_784 cf_X3_snaps ml_L_88 (rfL rfl rfl) hy oc_13.1 hc_3 (fun b hb => m_X3_snaps hb) rfl rfl (Nat.le_of_ble_eq_true rfl) (fun x7 σ8 => ?_)
  refine r_icmp_eq (pc := 787) (tgt := 1749) X dL_law_787 (by decide) ?_ ?_
  · refine r_iinc (pc := 1749) (lv' := [(0, .ref _), (1, .ref _), (2, .ref _)]) X dL_law_1749 3 rfl (congrArg (fun z => v3 + z) kc_6) (by decide) rfl (fun x9 => ?_)
    refine r_goto (pc := 1752) (tgt := 18) X dL_law_1752 (by decide) ?_
    refine r_sub [1, 2, 3, 0] rfl ?_
    exact hK18 x9 σ8
  · refine r_iconst (pc := 790) X dL_law_790 kc_0 ?_
    exact r_none rfl

set_option maxRecDepth 100000 in
theorem s_L_law_j792 {y : LY} {l : Launch} {E : ET} {b L : Nat} {xs : Nat → Int32} (X : CX y l E cL_law 4 RL room_1) (LLX : LX y E b L xs) (hy : y.1 ≤ (eS E).heap.size) {K18 : Int32 → ST → Option Unit} (hK18 : ∀ (v3 : Int32) (σ : ST), WW y l E 4 (fun _ : Unit => lw_Z (eB E) (eA E) (eS E)) 18 [(0, .ref b), (1, .ref (ad y 0)), (2, .ref (ad y 13)), (3, .int v3)] [] σ (K18 v3 σ)) (v3 : Int32) (σ : ST) : WW y l E 4 (fun _ : Unit => lw_Z (eB E) (eA E) (eS E)) 792 [(0, .ref b), (1, .ref (ad y 0)), (2, .ref (ad y 13)), (3, .int v3)] [] σ (T_L_law_j792 xs L K18 v3 σ) := by
  unfold T_L_law_j792
  refine r_aload_n (pc := 792) X dL_law_792 1 rfl rfl ?_
  refine r_aload_n (pc := 793) X dL_law_793 0 rfl rfl ?_
  refine r_iload_n (pc := 794) X dL_law_794 3 rfl rfl ?_
  refine r_iconst (pc := 795) X dL_law_795 kc_1 ?_
  refine r_iadd (pc := 796) X dL_law_796 ?_
  refine r_sld (pc := 797) X dL_law_797 LLX (fun x1 => ?_)
  refine r_aload_n (pc := 798) X dL_law_798 0 rfl rfl ?_
  refine r_iload_n (pc := 799) X dL_law_799 3 rfl rfl ?_
  refine r_iconst (pc := 800) X dL_law_800 kc_2 ?_
  refine r_iadd (pc := 801) X dL_law_801 ?_
  refine r_sld (pc := 802) X dL_law_802 LLX (fun x2 => ?_)
  refine r_aload_n (pc := 803) X dL_law_803 0 rfl rfl ?_
  refine r_iload_n (pc := 804) X dL_law_804 3 rfl rfl ?_
  refine r_iconst (pc := 805) X dL_law_805 kc_3 ?_
  refine r_iadd (pc := 806) X dL_law_806 ?_
  refine r_sld (pc := 807) X dL_law_807 LLX (fun x3 => ?_)
  refine r_callvI (pc := 808) X dL_law_808 cf_X2_bestBag ml_L_89 (rfL rfl rfl) hy oc_0.1 hc_2 (fun b hb => m_X2_bestBag hb) rfl rfl (Nat.le_of_ble_eq_true rfl) (fun x4 σ5 => ?_)
  refine r_aload_n (pc := 811) X dL_law_811 2 rfl rfl ?_
  refine r_aload_n (pc := 812) X dL_law_812 0 rfl rfl ?_
  refine r_iload_n (pc := 813) X dL_law_813 3 rfl rfl ?_
  refine r_iconst (pc := 814) X dL_law_814 kc_1 ?_
  refine r_iadd (pc := 815) X dL_law_815 ?_
  refine r_sld (pc := 816) X dL_law_816 LLX (fun x6 => ?_)
  refine r_aload_n (pc := 817) X dL_law_817 0 rfl rfl ?_
  refine r_iload_n (pc := 818) X dL_law_818 3 rfl rfl ?_
  refine r_iconst (pc := 819) X dL_law_819 kc_2 ?_
  refine r_iadd (pc := 820) X dL_law_820 ?_
  refine r_sld (pc := 821) X dL_law_821 LLX (fun x7 => ?_)
  refine r_aload_n (pc := 822) X dL_law_822 0 rfl rfl ?_
  refine r_iload_n (pc := 823) X dL_law_823 3 rfl rfl ?_
  refine r_iconst (pc := 824) X dL_law_824 kc_3 ?_
  refine r_iadd (pc := 825) X dL_law_825 ?_
  refine r_sld (pc := 826) X dL_law_826 LLX (fun x8 => ?_)
  refine r_callvI (pc := 827) X dL_law_827 cf_X3_bestBag ml_L_92 (rfL rfl rfl) hy oc_13.1 hc_3 (fun b hb => m_X3_bestBag hb) rfl rfl (Nat.le_of_ble_eq_true rfl) (fun x9 σ10 => ?_)
  refine r_icmp_eq (pc := 830) (tgt := 1749) X dL_law_830 (by decide) ?_ ?_
  · refine r_iinc (pc := 1749) (lv' := [(0, .ref _), (1, .ref _), (2, .ref _)]) X dL_law_1749 3 rfl (congrArg (fun z => v3 + z) kc_6) (by decide) rfl (fun x11 => ?_)
    refine r_goto (pc := 1752) (tgt := 18) X dL_law_1752 (by decide) ?_
    refine r_sub [1, 2, 3, 0] rfl ?_
    exact hK18 x11 σ10
  · refine r_iconst (pc := 833) X dL_law_833 kc_0 ?_
    exact r_none rfl

set_option maxRecDepth 100000 in
theorem s_L_law_j835 {y : LY} {l : Launch} {E : ET} {b L : Nat} {xs : Nat → Int32} (X : CX y l E cL_law 4 RL room_1) (LLX : LX y E b L xs) (hy : y.1 ≤ (eS E).heap.size) {K18 : Int32 → ST → Option Unit} (hK18 : ∀ (v3 : Int32) (σ : ST), WW y l E 4 (fun _ : Unit => lw_Z (eB E) (eA E) (eS E)) 18 [(0, .ref b), (1, .ref (ad y 0)), (2, .ref (ad y 13)), (3, .int v3)] [] σ (K18 v3 σ)) (v3 : Int32) (σ : ST) : WW y l E 4 (fun _ : Unit => lw_Z (eB E) (eA E) (eS E)) 835 [(0, .ref b), (1, .ref (ad y 0)), (2, .ref (ad y 13)), (3, .int v3)] [] σ (T_L_law_j835 xs L K18 v3 σ) := by
  unfold T_L_law_j835
  refine r_aload_n (pc := 835) X dL_law_835 1 rfl rfl ?_
  refine r_aload_n (pc := 836) X dL_law_836 0 rfl rfl ?_
  refine r_iload_n (pc := 837) X dL_law_837 3 rfl rfl ?_
  refine r_iconst (pc := 838) X dL_law_838 kc_1 ?_
  refine r_iadd (pc := 839) X dL_law_839 ?_
  refine r_sld (pc := 840) X dL_law_840 LLX (fun x1 => ?_)
  refine r_callvI (pc := 841) X dL_law_841 cf_X2_hers ml_L_93 (rfL rfl rfl) hy oc_0.1 hc_2 (fun b hb => m_X2_hers hb) rfl rfl (Nat.le_of_ble_eq_true rfl) (fun x2 σ3 => ?_)
  refine r_aload_n (pc := 844) X dL_law_844 2 rfl rfl ?_
  refine r_aload_n (pc := 845) X dL_law_845 0 rfl rfl ?_
  refine r_iload_n (pc := 846) X dL_law_846 3 rfl rfl ?_
  refine r_iconst (pc := 847) X dL_law_847 kc_1 ?_
  refine r_iadd (pc := 848) X dL_law_848 ?_
  refine r_sld (pc := 849) X dL_law_849 LLX (fun x4 => ?_)
  refine r_callvI (pc := 850) X dL_law_850 cf_X3_hers ml_L_96 (rfL rfl rfl) hy oc_13.1 hc_3 (fun b hb => m_X3_hers hb) rfl rfl (Nat.le_of_ble_eq_true rfl) (fun x5 σ6 => ?_)
  refine r_icmp_eq (pc := 853) (tgt := 1749) X dL_law_853 (by decide) ?_ ?_
  · refine r_iinc (pc := 1749) (lv' := [(0, .ref _), (1, .ref _), (2, .ref _)]) X dL_law_1749 3 rfl (congrArg (fun z => v3 + z) kc_6) (by decide) rfl (fun x7 => ?_)
    refine r_goto (pc := 1752) (tgt := 18) X dL_law_1752 (by decide) ?_
    refine r_sub [1, 2, 3, 0] rfl ?_
    exact hK18 x7 σ6
  · refine r_iconst (pc := 856) X dL_law_856 kc_0 ?_
    exact r_none rfl

set_option maxRecDepth 100000 in
theorem s_L_law_j858 {y : LY} {l : Launch} {E : ET} {b L : Nat} {xs : Nat → Int32} (X : CX y l E cL_law 4 RL room_1) (LLX : LX y E b L xs) (hy : y.1 ≤ (eS E).heap.size) {K18 : Int32 → ST → Option Unit} (hK18 : ∀ (v3 : Int32) (σ : ST), WW y l E 4 (fun _ : Unit => lw_Z (eB E) (eA E) (eS E)) 18 [(0, .ref b), (1, .ref (ad y 0)), (2, .ref (ad y 13)), (3, .int v3)] [] σ (K18 v3 σ)) (v3 : Int32) (σ : ST) : WW y l E 4 (fun _ : Unit => lw_Z (eB E) (eA E) (eS E)) 858 [(0, .ref b), (1, .ref (ad y 0)), (2, .ref (ad y 13)), (3, .int v3)] [] σ (T_L_law_j858 xs L K18 v3 σ) := by
  unfold T_L_law_j858
  refine r_aload_n (pc := 858) X dL_law_858 1 rfl rfl ?_
  refine r_aload_n (pc := 859) X dL_law_859 0 rfl rfl ?_
  refine r_iload_n (pc := 860) X dL_law_860 3 rfl rfl ?_
  refine r_iconst (pc := 861) X dL_law_861 kc_1 ?_
  refine r_iadd (pc := 862) X dL_law_862 ?_
  refine r_sld (pc := 863) X dL_law_863 LLX (fun x1 => ?_)
  refine r_aload_n (pc := 864) X dL_law_864 0 rfl rfl ?_
  refine r_iload_n (pc := 865) X dL_law_865 3 rfl rfl ?_
  refine r_iconst (pc := 866) X dL_law_866 kc_2 ?_
  refine r_iadd (pc := 867) X dL_law_867 ?_
  refine r_sld (pc := 868) X dL_law_868 LLX (fun x2 => ?_)
  refine r_callvI (pc := 869) X dL_law_869 cf_X2_errand ml_L_97 (rfL rfl rfl) hy oc_0.1 hc_2 (fun b hb => m_X2_errand hb) rfl rfl (Nat.le_of_ble_eq_true rfl) (fun x3 σ4 => ?_)
  refine r_aload_n (pc := 872) X dL_law_872 2 rfl rfl ?_
  refine r_aload_n (pc := 873) X dL_law_873 0 rfl rfl ?_
  refine r_iload_n (pc := 874) X dL_law_874 3 rfl rfl ?_
  refine r_iconst (pc := 875) X dL_law_875 kc_1 ?_
  refine r_iadd (pc := 876) X dL_law_876 ?_
  refine r_sld (pc := 877) X dL_law_877 LLX (fun x5 => ?_)
  refine r_aload_n (pc := 878) X dL_law_878 0 rfl rfl ?_
  refine r_iload_n (pc := 879) X dL_law_879 3 rfl rfl ?_
  refine r_iconst (pc := 880) X dL_law_880 kc_2 ?_
  refine r_iadd (pc := 881) X dL_law_881 ?_
  refine r_sld (pc := 882) X dL_law_882 LLX (fun x6 => ?_)
  refine r_callvI (pc := 883) X dL_law_883 cf_X3_errand ml_L_100 (rfL rfl rfl) hy oc_13.1 hc_3 (fun b hb => m_X3_errand hb) rfl rfl (Nat.le_of_ble_eq_true rfl) (fun x7 σ8 => ?_)
  refine r_icmp_eq (pc := 886) (tgt := 1749) X dL_law_886 (by decide) ?_ ?_
  · refine r_iinc (pc := 1749) (lv' := [(0, .ref _), (1, .ref _), (2, .ref _)]) X dL_law_1749 3 rfl (congrArg (fun z => v3 + z) kc_6) (by decide) rfl (fun x9 => ?_)
    refine r_goto (pc := 1752) (tgt := 18) X dL_law_1752 (by decide) ?_
    refine r_sub [1, 2, 3, 0] rfl ?_
    exact hK18 x9 σ8
  · refine r_iconst (pc := 889) X dL_law_889 kc_0 ?_
    exact r_none rfl

set_option maxRecDepth 100000 in
theorem s_L_law_j891 {y : LY} {l : Launch} {E : ET} {b L : Nat} {xs : Nat → Int32} (X : CX y l E cL_law 4 RL room_1) (LLX : LX y E b L xs) (hy : y.1 ≤ (eS E).heap.size) {K18 : Int32 → ST → Option Unit} (hK18 : ∀ (v3 : Int32) (σ : ST), WW y l E 4 (fun _ : Unit => lw_Z (eB E) (eA E) (eS E)) 18 [(0, .ref b), (1, .ref (ad y 0)), (2, .ref (ad y 13)), (3, .int v3)] [] σ (K18 v3 σ)) (v3 : Int32) (σ : ST) : WW y l E 4 (fun _ : Unit => lw_Z (eB E) (eA E) (eS E)) 891 [(0, .ref b), (1, .ref (ad y 0)), (2, .ref (ad y 13)), (3, .int v3)] [] σ (T_L_law_j891 xs L K18 v3 σ) := by
  unfold T_L_law_j891
  refine r_aload_n (pc := 891) X dL_law_891 1 rfl rfl ?_
  refine r_aload_n (pc := 892) X dL_law_892 0 rfl rfl ?_
  refine r_iload_n (pc := 893) X dL_law_893 3 rfl rfl ?_
  refine r_iconst (pc := 894) X dL_law_894 kc_1 ?_
  refine r_iadd (pc := 895) X dL_law_895 ?_
  refine r_sld (pc := 896) X dL_law_896 LLX (fun x1 => ?_)
  refine r_aload_n (pc := 897) X dL_law_897 0 rfl rfl ?_
  refine r_iload_n (pc := 898) X dL_law_898 3 rfl rfl ?_
  refine r_iconst (pc := 899) X dL_law_899 kc_2 ?_
  refine r_iadd (pc := 900) X dL_law_900 ?_
  refine r_sld (pc := 901) X dL_law_901 LLX (fun x2 => ?_)
  refine r_aload_n (pc := 902) X dL_law_902 0 rfl rfl ?_
  refine r_iload_n (pc := 903) X dL_law_903 3 rfl rfl ?_
  refine r_iconst (pc := 904) X dL_law_904 kc_3 ?_
  refine r_iadd (pc := 905) X dL_law_905 ?_
  refine r_sld (pc := 906) X dL_law_906 LLX (fun x3 => ?_)
  refine r_callvI (pc := 907) X dL_law_907 cf_X2_defy ml_L_101 (rfL rfl rfl) hy oc_0.1 hc_2 (fun b hb => m_X2_defy hb) rfl rfl (Nat.le_of_ble_eq_true rfl) (fun x4 σ5 => ?_)
  refine r_aload_n (pc := 910) X dL_law_910 2 rfl rfl ?_
  refine r_aload_n (pc := 911) X dL_law_911 0 rfl rfl ?_
  refine r_iload_n (pc := 912) X dL_law_912 3 rfl rfl ?_
  refine r_iconst (pc := 913) X dL_law_913 kc_1 ?_
  refine r_iadd (pc := 914) X dL_law_914 ?_
  refine r_sld (pc := 915) X dL_law_915 LLX (fun x6 => ?_)
  refine r_aload_n (pc := 916) X dL_law_916 0 rfl rfl ?_
  refine r_iload_n (pc := 917) X dL_law_917 3 rfl rfl ?_
  refine r_iconst (pc := 918) X dL_law_918 kc_2 ?_
  refine r_iadd (pc := 919) X dL_law_919 ?_
  refine r_sld (pc := 920) X dL_law_920 LLX (fun x7 => ?_)
  refine r_aload_n (pc := 921) X dL_law_921 0 rfl rfl ?_
  refine r_iload_n (pc := 922) X dL_law_922 3 rfl rfl ?_
  refine r_iconst (pc := 923) X dL_law_923 kc_3 ?_
  refine r_iadd (pc := 924) X dL_law_924 ?_
  refine r_sld (pc := 925) X dL_law_925 LLX (fun x8 => ?_)
  refine r_callvI (pc := 926) X dL_law_926 cf_X3_defy ml_L_104 (rfL rfl rfl) hy oc_13.1 hc_3 (fun b hb => m_X3_defy hb) rfl rfl (Nat.le_of_ble_eq_true rfl) (fun x9 σ10 => ?_)
  refine r_icmp_eq (pc := 929) (tgt := 1749) X dL_law_929 (by decide) ?_ ?_
  · refine r_iinc (pc := 1749) (lv' := [(0, .ref _), (1, .ref _), (2, .ref _)]) X dL_law_1749 3 rfl (congrArg (fun z => v3 + z) kc_6) (by decide) rfl (fun x11 => ?_)
    refine r_goto (pc := 1752) (tgt := 18) X dL_law_1752 (by decide) ?_
    refine r_sub [1, 2, 3, 0] rfl ?_
    exact hK18 x11 σ10
  · refine r_iconst (pc := 932) X dL_law_932 kc_0 ?_
    exact r_none rfl

set_option maxRecDepth 100000 in
theorem s_L_law_j934 {y : LY} {l : Launch} {E : ET} {b L : Nat} {xs : Nat → Int32} (X : CX y l E cL_law 4 RL room_1) (LLX : LX y E b L xs) (hy : y.1 ≤ (eS E).heap.size) {K18 : Int32 → ST → Option Unit} (hK18 : ∀ (v3 : Int32) (σ : ST), WW y l E 4 (fun _ : Unit => lw_Z (eB E) (eA E) (eS E)) 18 [(0, .ref b), (1, .ref (ad y 0)), (2, .ref (ad y 13)), (3, .int v3)] [] σ (K18 v3 σ)) (v3 : Int32) (σ : ST) : WW y l E 4 (fun _ : Unit => lw_Z (eB E) (eA E) (eS E)) 934 [(0, .ref b), (1, .ref (ad y 0)), (2, .ref (ad y 13)), (3, .int v3)] [] σ (T_L_law_j934 xs L K18 v3 σ) := by
  unfold T_L_law_j934
  refine r_aload_n (pc := 934) X dL_law_934 1 rfl rfl ?_
  refine r_aload_n (pc := 935) X dL_law_935 0 rfl rfl ?_
  refine r_iload_n (pc := 936) X dL_law_936 3 rfl rfl ?_
  refine r_iconst (pc := 937) X dL_law_937 kc_1 ?_
  refine r_iadd (pc := 938) X dL_law_938 ?_
  refine r_sld (pc := 939) X dL_law_939 LLX (fun x1 => ?_)
  refine r_aload_n (pc := 940) X dL_law_940 0 rfl rfl ?_
  refine r_iload_n (pc := 941) X dL_law_941 3 rfl rfl ?_
  refine r_iconst (pc := 942) X dL_law_942 kc_2 ?_
  refine r_iadd (pc := 943) X dL_law_943 ?_
  refine r_sld (pc := 944) X dL_law_944 LLX (fun x2 => ?_)
  refine r_aload_n (pc := 945) X dL_law_945 0 rfl rfl ?_
  refine r_iload_n (pc := 946) X dL_law_946 3 rfl rfl ?_
  refine r_iconst (pc := 947) X dL_law_947 kc_3 ?_
  refine r_iadd (pc := 948) X dL_law_948 ?_
  refine r_sld (pc := 949) X dL_law_949 LLX (fun x3 => ?_)
  refine r_callvI (pc := 950) X dL_law_950 cf_X2_given ml_L_105 (rfL rfl rfl) hy oc_0.1 hc_2 (fun b hb => m_X2_given hb) rfl rfl (Nat.le_of_ble_eq_true rfl) (fun x4 σ5 => ?_)
  refine r_aload_n (pc := 953) X dL_law_953 2 rfl rfl ?_
  refine r_aload_n (pc := 954) X dL_law_954 0 rfl rfl ?_
  refine r_iload_n (pc := 955) X dL_law_955 3 rfl rfl ?_
  refine r_iconst (pc := 956) X dL_law_956 kc_1 ?_
  refine r_iadd (pc := 957) X dL_law_957 ?_
  refine r_sld (pc := 958) X dL_law_958 LLX (fun x6 => ?_)
  refine r_aload_n (pc := 959) X dL_law_959 0 rfl rfl ?_
  refine r_iload_n (pc := 960) X dL_law_960 3 rfl rfl ?_
  refine r_iconst (pc := 961) X dL_law_961 kc_2 ?_
  refine r_iadd (pc := 962) X dL_law_962 ?_
  refine r_sld (pc := 963) X dL_law_963 LLX (fun x7 => ?_)
  refine r_aload_n (pc := 964) X dL_law_964 0 rfl rfl ?_
  refine r_iload_n (pc := 965) X dL_law_965 3 rfl rfl ?_
  refine r_iconst (pc := 966) X dL_law_966 kc_3 ?_
  refine r_iadd (pc := 967) X dL_law_967 ?_
  refine r_sld (pc := 968) X dL_law_968 LLX (fun x8 => ?_)
  refine r_callvI (pc := 969) X dL_law_969 cf_X3_given ml_L_108 (rfL rfl rfl) hy oc_13.1 hc_3 (fun b hb => m_X3_given hb) rfl rfl (Nat.le_of_ble_eq_true rfl) (fun x9 σ10 => ?_)
  refine r_icmp_eq (pc := 972) (tgt := 1749) X dL_law_972 (by decide) ?_ ?_
  · refine r_iinc (pc := 1749) (lv' := [(0, .ref _), (1, .ref _), (2, .ref _)]) X dL_law_1749 3 rfl (congrArg (fun z => v3 + z) kc_6) (by decide) rfl (fun x11 => ?_)
    refine r_goto (pc := 1752) (tgt := 18) X dL_law_1752 (by decide) ?_
    refine r_sub [1, 2, 3, 0] rfl ?_
    exact hK18 x11 σ10
  · refine r_iconst (pc := 975) X dL_law_975 kc_0 ?_
    exact r_none rfl

set_option maxRecDepth 100000 in
theorem s_L_law_j977 {y : LY} {l : Launch} {E : ET} {b L : Nat} {xs : Nat → Int32} (X : CX y l E cL_law 4 RL room_1) (LLX : LX y E b L xs) (hy : y.1 ≤ (eS E).heap.size) {K18 : Int32 → ST → Option Unit} (hK18 : ∀ (v3 : Int32) (σ : ST), WW y l E 4 (fun _ : Unit => lw_Z (eB E) (eA E) (eS E)) 18 [(0, .ref b), (1, .ref (ad y 0)), (2, .ref (ad y 13)), (3, .int v3)] [] σ (K18 v3 σ)) (v3 : Int32) (σ : ST) : WW y l E 4 (fun _ : Unit => lw_Z (eB E) (eA E) (eS E)) 977 [(0, .ref b), (1, .ref (ad y 0)), (2, .ref (ad y 13)), (3, .int v3)] [] σ (T_L_law_j977 xs L K18 v3 σ) := by
  unfold T_L_law_j977
  refine r_aload_n (pc := 977) X dL_law_977 1 rfl rfl ?_
  refine r_aload_n (pc := 978) X dL_law_978 0 rfl rfl ?_
  refine r_iload_n (pc := 979) X dL_law_979 3 rfl rfl ?_
  refine r_iconst (pc := 980) X dL_law_980 kc_1 ?_
  refine r_iadd (pc := 981) X dL_law_981 ?_
  refine r_sld (pc := 982) X dL_law_982 LLX (fun x1 => ?_)
  refine r_aload_n (pc := 983) X dL_law_983 0 rfl rfl ?_
  refine r_iload_n (pc := 984) X dL_law_984 3 rfl rfl ?_
  refine r_iconst (pc := 985) X dL_law_985 kc_2 ?_
  refine r_iadd (pc := 986) X dL_law_986 ?_
  refine r_sld (pc := 987) X dL_law_987 LLX (fun x2 => ?_)
  refine r_callvI (pc := 988) X dL_law_988 cf_X2_quiet ml_L_109 (rfL rfl rfl) hy oc_0.1 hc_2 (fun b hb => m_X2_quiet hb) rfl rfl (Nat.le_of_ble_eq_true rfl) (fun x3 σ4 => ?_)
  refine r_aload_n (pc := 991) X dL_law_991 2 rfl rfl ?_
  refine r_aload_n (pc := 992) X dL_law_992 0 rfl rfl ?_
  refine r_iload_n (pc := 993) X dL_law_993 3 rfl rfl ?_
  refine r_iconst (pc := 994) X dL_law_994 kc_1 ?_
  refine r_iadd (pc := 995) X dL_law_995 ?_
  refine r_sld (pc := 996) X dL_law_996 LLX (fun x5 => ?_)
  refine r_aload_n (pc := 997) X dL_law_997 0 rfl rfl ?_
  refine r_iload_n (pc := 998) X dL_law_998 3 rfl rfl ?_
  refine r_iconst (pc := 999) X dL_law_999 kc_2 ?_
  refine r_iadd (pc := 1000) X dL_law_1000 ?_
  refine r_sld (pc := 1001) X dL_law_1001 LLX (fun x6 => ?_)
  refine r_callvI (pc := 1002) X dL_law_1002 cf_X3_quiet ml_L_112 (rfL rfl rfl) hy oc_13.1 hc_3 (fun b hb => m_X3_quiet hb) rfl rfl (Nat.le_of_ble_eq_true rfl) (fun x7 σ8 => ?_)
  refine r_icmp_eq (pc := 1005) (tgt := 1749) X dL_law_1005 (by decide) ?_ ?_
  · refine r_iinc (pc := 1749) (lv' := [(0, .ref _), (1, .ref _), (2, .ref _)]) X dL_law_1749 3 rfl (congrArg (fun z => v3 + z) kc_6) (by decide) rfl (fun x9 => ?_)
    refine r_goto (pc := 1752) (tgt := 18) X dL_law_1752 (by decide) ?_
    refine r_sub [1, 2, 3, 0] rfl ?_
    exact hK18 x9 σ8
  · refine r_iconst (pc := 1008) X dL_law_1008 kc_0 ?_
    exact r_none rfl

set_option maxRecDepth 100000 in
theorem s_L_law_j1010 {y : LY} {l : Launch} {E : ET} {b L : Nat} {xs : Nat → Int32} (X : CX y l E cL_law 4 RL room_1) (LLX : LX y E b L xs) (hy : y.1 ≤ (eS E).heap.size) {K18 : Int32 → ST → Option Unit} (hK18 : ∀ (v3 : Int32) (σ : ST), WW y l E 4 (fun _ : Unit => lw_Z (eB E) (eA E) (eS E)) 18 [(0, .ref b), (1, .ref (ad y 0)), (2, .ref (ad y 13)), (3, .int v3)] [] σ (K18 v3 σ)) (v3 : Int32) (σ : ST) : WW y l E 4 (fun _ : Unit => lw_Z (eB E) (eA E) (eS E)) 1010 [(0, .ref b), (1, .ref (ad y 0)), (2, .ref (ad y 13)), (3, .int v3)] [] σ (T_L_law_j1010 xs L K18 v3 σ) := by
  unfold T_L_law_j1010
  refine r_aload_n (pc := 1010) X dL_law_1010 1 rfl rfl ?_
  refine r_aload_n (pc := 1011) X dL_law_1011 0 rfl rfl ?_
  refine r_iload_n (pc := 1012) X dL_law_1012 3 rfl rfl ?_
  refine r_iconst (pc := 1013) X dL_law_1013 kc_1 ?_
  refine r_iadd (pc := 1014) X dL_law_1014 ?_
  refine r_sld (pc := 1015) X dL_law_1015 LLX (fun x1 => ?_)
  refine r_callvI (pc := 1016) X dL_law_1016 cf_X2_stable ml_L_113 (rfL rfl rfl) hy oc_0.1 hc_2 (fun b hb => m_X2_stable hb) rfl rfl (Nat.le_of_ble_eq_true rfl) (fun x2 σ3 => ?_)
  refine r_aload_n (pc := 1019) X dL_law_1019 2 rfl rfl ?_
  refine r_aload_n (pc := 1020) X dL_law_1020 0 rfl rfl ?_
  refine r_iload_n (pc := 1021) X dL_law_1021 3 rfl rfl ?_
  refine r_iconst (pc := 1022) X dL_law_1022 kc_1 ?_
  refine r_iadd (pc := 1023) X dL_law_1023 ?_
  refine r_sld (pc := 1024) X dL_law_1024 LLX (fun x4 => ?_)
  refine r_callvI (pc := 1025) X dL_law_1025 cf_X3_stable ml_L_116 (rfL rfl rfl) hy oc_13.1 hc_3 (fun b hb => m_X3_stable hb) rfl rfl (Nat.le_of_ble_eq_true rfl) (fun x5 σ6 => ?_)
  refine r_icmp_eq (pc := 1028) (tgt := 1749) X dL_law_1028 (by decide) ?_ ?_
  · refine r_iinc (pc := 1749) (lv' := [(0, .ref _), (1, .ref _), (2, .ref _)]) X dL_law_1749 3 rfl (congrArg (fun z => v3 + z) kc_6) (by decide) rfl (fun x7 => ?_)
    refine r_goto (pc := 1752) (tgt := 18) X dL_law_1752 (by decide) ?_
    refine r_sub [1, 2, 3, 0] rfl ?_
    exact hK18 x7 σ6
  · refine r_iconst (pc := 1031) X dL_law_1031 kc_0 ?_
    exact r_none rfl

set_option maxRecDepth 100000 in
theorem s_L_law_j1033 {y : LY} {l : Launch} {E : ET} {b L : Nat} {xs : Nat → Int32} (X : CX y l E cL_law 4 RL room_1) (LLX : LX y E b L xs) (hy : y.1 ≤ (eS E).heap.size) {K18 : Int32 → ST → Option Unit} (hK18 : ∀ (v3 : Int32) (σ : ST), WW y l E 4 (fun _ : Unit => lw_Z (eB E) (eA E) (eS E)) 18 [(0, .ref b), (1, .ref (ad y 0)), (2, .ref (ad y 13)), (3, .int v3)] [] σ (K18 v3 σ)) (v3 : Int32) (σ : ST) : WW y l E 4 (fun _ : Unit => lw_Z (eB E) (eA E) (eS E)) 1033 [(0, .ref b), (1, .ref (ad y 0)), (2, .ref (ad y 13)), (3, .int v3)] [] σ (T_L_law_j1033 xs L K18 v3 σ) := by
  unfold T_L_law_j1033
  refine r_aload_n (pc := 1033) X dL_law_1033 1 rfl rfl ?_
  refine r_aload_n (pc := 1034) X dL_law_1034 0 rfl rfl ?_
  refine r_iload_n (pc := 1035) X dL_law_1035 3 rfl rfl ?_
  refine r_iconst (pc := 1036) X dL_law_1036 kc_1 ?_
  refine r_iadd (pc := 1037) X dL_law_1037 ?_
  refine r_sld (pc := 1038) X dL_law_1038 LLX (fun x1 => ?_)
  refine r_aload_n (pc := 1039) X dL_law_1039 0 rfl rfl ?_
  refine r_iload_n (pc := 1040) X dL_law_1040 3 rfl rfl ?_
  refine r_iconst (pc := 1041) X dL_law_1041 kc_2 ?_
  refine r_iadd (pc := 1042) X dL_law_1042 ?_
  refine r_sld (pc := 1043) X dL_law_1043 LLX (fun x2 => ?_)
  refine r_callvI (pc := 1044) X dL_law_1044 cf_X2_whose ml_L_117 (rfL rfl rfl) hy oc_0.1 hc_2 (fun b hb => m_X2_whose hb) rfl rfl (Nat.le_of_ble_eq_true rfl) (fun x3 σ4 => ?_)
  refine r_aload_n (pc := 1047) X dL_law_1047 2 rfl rfl ?_
  refine r_aload_n (pc := 1048) X dL_law_1048 0 rfl rfl ?_
  refine r_iload_n (pc := 1049) X dL_law_1049 3 rfl rfl ?_
  refine r_iconst (pc := 1050) X dL_law_1050 kc_1 ?_
  refine r_iadd (pc := 1051) X dL_law_1051 ?_
  refine r_sld (pc := 1052) X dL_law_1052 LLX (fun x5 => ?_)
  refine r_aload_n (pc := 1053) X dL_law_1053 0 rfl rfl ?_
  refine r_iload_n (pc := 1054) X dL_law_1054 3 rfl rfl ?_
  refine r_iconst (pc := 1055) X dL_law_1055 kc_2 ?_
  refine r_iadd (pc := 1056) X dL_law_1056 ?_
  refine r_sld (pc := 1057) X dL_law_1057 LLX (fun x6 => ?_)
  refine r_callvI (pc := 1058) X dL_law_1058 cf_X3_whose ml_L_120 (rfL rfl rfl) hy oc_13.1 hc_3 (fun b hb => m_X3_whose hb) rfl rfl (Nat.le_of_ble_eq_true rfl) (fun x7 σ8 => ?_)
  refine r_icmp_eq (pc := 1061) (tgt := 1749) X dL_law_1061 (by decide) ?_ ?_
  · refine r_iinc (pc := 1749) (lv' := [(0, .ref _), (1, .ref _), (2, .ref _)]) X dL_law_1749 3 rfl (congrArg (fun z => v3 + z) kc_6) (by decide) rfl (fun x9 => ?_)
    refine r_goto (pc := 1752) (tgt := 18) X dL_law_1752 (by decide) ?_
    refine r_sub [1, 2, 3, 0] rfl ?_
    exact hK18 x9 σ8
  · refine r_iconst (pc := 1064) X dL_law_1064 kc_0 ?_
    exact r_none rfl

set_option maxRecDepth 100000 in
theorem s_L_law_j1066 {y : LY} {l : Launch} {E : ET} {b L : Nat} {xs : Nat → Int32} (X : CX y l E cL_law 4 RL room_1) (LLX : LX y E b L xs) (hy : y.1 ≤ (eS E).heap.size) {K18 : Int32 → ST → Option Unit} (hK18 : ∀ (v3 : Int32) (σ : ST), WW y l E 4 (fun _ : Unit => lw_Z (eB E) (eA E) (eS E)) 18 [(0, .ref b), (1, .ref (ad y 0)), (2, .ref (ad y 13)), (3, .int v3)] [] σ (K18 v3 σ)) (v3 : Int32) (σ : ST) : WW y l E 4 (fun _ : Unit => lw_Z (eB E) (eA E) (eS E)) 1066 [(0, .ref b), (1, .ref (ad y 0)), (2, .ref (ad y 13)), (3, .int v3)] [] σ (T_L_law_j1066 xs L K18 v3 σ) := by
  unfold T_L_law_j1066
  refine r_aload_n (pc := 1066) X dL_law_1066 1 rfl rfl ?_
  refine r_aload_n (pc := 1067) X dL_law_1067 0 rfl rfl ?_
  refine r_iload_n (pc := 1068) X dL_law_1068 3 rfl rfl ?_
  refine r_iconst (pc := 1069) X dL_law_1069 kc_1 ?_
  refine r_iadd (pc := 1070) X dL_law_1070 ?_
  refine r_sld (pc := 1071) X dL_law_1071 LLX (fun x1 => ?_)
  refine r_aload_n (pc := 1072) X dL_law_1072 0 rfl rfl ?_
  refine r_iload_n (pc := 1073) X dL_law_1073 3 rfl rfl ?_
  refine r_iconst (pc := 1074) X dL_law_1074 kc_2 ?_
  refine r_iadd (pc := 1075) X dL_law_1075 ?_
  refine r_sld (pc := 1076) X dL_law_1076 LLX (fun x2 => ?_)
  refine r_aload_n (pc := 1077) X dL_law_1077 0 rfl rfl ?_
  refine r_iload_n (pc := 1078) X dL_law_1078 3 rfl rfl ?_
  refine r_iconst (pc := 1079) X dL_law_1079 kc_3 ?_
  refine r_iadd (pc := 1080) X dL_law_1080 ?_
  refine r_sld (pc := 1081) X dL_law_1081 LLX (fun x3 => ?_)
  refine r_callvI (pc := 1082) X dL_law_1082 cf_X2_nextTell ml_L_121 (rfL rfl rfl) hy oc_0.1 hc_2 (fun b hb => m_X2_nextTell hb) rfl rfl (Nat.le_of_ble_eq_true rfl) (fun x4 σ5 => ?_)
  refine r_aload_n (pc := 1085) X dL_law_1085 2 rfl rfl ?_
  refine r_aload_n (pc := 1086) X dL_law_1086 0 rfl rfl ?_
  refine r_iload_n (pc := 1087) X dL_law_1087 3 rfl rfl ?_
  refine r_iconst (pc := 1088) X dL_law_1088 kc_1 ?_
  refine r_iadd (pc := 1089) X dL_law_1089 ?_
  refine r_sld (pc := 1090) X dL_law_1090 LLX (fun x6 => ?_)
  refine r_aload_n (pc := 1091) X dL_law_1091 0 rfl rfl ?_
  refine r_iload_n (pc := 1092) X dL_law_1092 3 rfl rfl ?_
  refine r_iconst (pc := 1093) X dL_law_1093 kc_2 ?_
  refine r_iadd (pc := 1094) X dL_law_1094 ?_
  refine r_sld (pc := 1095) X dL_law_1095 LLX (fun x7 => ?_)
  refine r_aload_n (pc := 1096) X dL_law_1096 0 rfl rfl ?_
  refine r_iload_n (pc := 1097) X dL_law_1097 3 rfl rfl ?_
  refine r_iconst (pc := 1098) X dL_law_1098 kc_3 ?_
  refine r_iadd (pc := 1099) X dL_law_1099 ?_
  refine r_sld (pc := 1100) X dL_law_1100 LLX (fun x8 => ?_)
  refine r_callvI (pc := 1101) X dL_law_1101 cf_X3_nextTell ml_L_124 (rfL rfl rfl) hy oc_13.1 hc_3 (fun b hb => m_X3_nextTell hb) rfl rfl (Nat.le_of_ble_eq_true rfl) (fun x9 σ10 => ?_)
  refine r_icmp_eq (pc := 1104) (tgt := 1749) X dL_law_1104 (by decide) ?_ ?_
  · refine r_iinc (pc := 1749) (lv' := [(0, .ref _), (1, .ref _), (2, .ref _)]) X dL_law_1749 3 rfl (congrArg (fun z => v3 + z) kc_6) (by decide) rfl (fun x11 => ?_)
    refine r_goto (pc := 1752) (tgt := 18) X dL_law_1752 (by decide) ?_
    refine r_sub [1, 2, 3, 0] rfl ?_
    exact hK18 x11 σ10
  · refine r_iconst (pc := 1107) X dL_law_1107 kc_0 ?_
    exact r_none rfl

set_option maxRecDepth 100000 in
theorem s_L_law_j1109 {y : LY} {l : Launch} {E : ET} {b L : Nat} {xs : Nat → Int32} (X : CX y l E cL_law 4 RL room_1) (LLX : LX y E b L xs) (hy : y.1 ≤ (eS E).heap.size) {K18 : Int32 → ST → Option Unit} (hK18 : ∀ (v3 : Int32) (σ : ST), WW y l E 4 (fun _ : Unit => lw_Z (eB E) (eA E) (eS E)) 18 [(0, .ref b), (1, .ref (ad y 0)), (2, .ref (ad y 13)), (3, .int v3)] [] σ (K18 v3 σ)) (v3 : Int32) (σ : ST) : WW y l E 4 (fun _ : Unit => lw_Z (eB E) (eA E) (eS E)) 1109 [(0, .ref b), (1, .ref (ad y 0)), (2, .ref (ad y 13)), (3, .int v3)] [] σ (T_L_law_j1109 xs L K18 v3 σ) := by
  unfold T_L_law_j1109
  refine r_aload_n (pc := 1109) X dL_law_1109 1 rfl rfl ?_
  refine r_aload_n (pc := 1110) X dL_law_1110 0 rfl rfl ?_
  refine r_iload_n (pc := 1111) X dL_law_1111 3 rfl rfl ?_
  refine r_iconst (pc := 1112) X dL_law_1112 kc_1 ?_
  refine r_iadd (pc := 1113) X dL_law_1113 ?_
  refine r_sld (pc := 1114) X dL_law_1114 LLX (fun x1 => ?_)
  refine r_aload_n (pc := 1115) X dL_law_1115 0 rfl rfl ?_
  refine r_iload_n (pc := 1116) X dL_law_1116 3 rfl rfl ?_
  refine r_iconst (pc := 1117) X dL_law_1117 kc_2 ?_
  refine r_iadd (pc := 1118) X dL_law_1118 ?_
  refine r_sld (pc := 1119) X dL_law_1119 LLX (fun x2 => ?_)
  refine r_aload_n (pc := 1120) X dL_law_1120 0 rfl rfl ?_
  refine r_iload_n (pc := 1121) X dL_law_1121 3 rfl rfl ?_
  refine r_iconst (pc := 1122) X dL_law_1122 kc_3 ?_
  refine r_iadd (pc := 1123) X dL_law_1123 ?_
  refine r_sld (pc := 1124) X dL_law_1124 LLX (fun x3 => ?_)
  refine r_callvI (pc := 1125) X dL_law_1125 cf_X2_arm ml_L_125 (rfL rfl rfl) hy oc_0.1 hc_2 (fun b hb => m_X2_arm hb) rfl rfl (Nat.le_of_ble_eq_true rfl) (fun x4 σ5 => ?_)
  refine r_aload_n (pc := 1128) X dL_law_1128 2 rfl rfl ?_
  refine r_aload_n (pc := 1129) X dL_law_1129 0 rfl rfl ?_
  refine r_iload_n (pc := 1130) X dL_law_1130 3 rfl rfl ?_
  refine r_iconst (pc := 1131) X dL_law_1131 kc_1 ?_
  refine r_iadd (pc := 1132) X dL_law_1132 ?_
  refine r_sld (pc := 1133) X dL_law_1133 LLX (fun x6 => ?_)
  refine r_aload_n (pc := 1134) X dL_law_1134 0 rfl rfl ?_
  refine r_iload_n (pc := 1135) X dL_law_1135 3 rfl rfl ?_
  refine r_iconst (pc := 1136) X dL_law_1136 kc_2 ?_
  refine r_iadd (pc := 1137) X dL_law_1137 ?_
  refine r_sld (pc := 1138) X dL_law_1138 LLX (fun x7 => ?_)
  refine r_aload_n (pc := 1139) X dL_law_1139 0 rfl rfl ?_
  refine r_iload_n (pc := 1140) X dL_law_1140 3 rfl rfl ?_
  refine r_iconst (pc := 1141) X dL_law_1141 kc_3 ?_
  refine r_iadd (pc := 1142) X dL_law_1142 ?_
  refine r_sld (pc := 1143) X dL_law_1143 LLX (fun x8 => ?_)
  refine r_callvI (pc := 1144) X dL_law_1144 cf_X3_arm ml_L_128 (rfL rfl rfl) hy oc_13.1 hc_3 (fun b hb => m_X3_arm hb) rfl rfl (Nat.le_of_ble_eq_true rfl) (fun x9 σ10 => ?_)
  refine r_icmp_eq (pc := 1147) (tgt := 1749) X dL_law_1147 (by decide) ?_ ?_
  · refine r_iinc (pc := 1749) (lv' := [(0, .ref _), (1, .ref _), (2, .ref _)]) X dL_law_1749 3 rfl (congrArg (fun z => v3 + z) kc_6) (by decide) rfl (fun x11 => ?_)
    refine r_goto (pc := 1752) (tgt := 18) X dL_law_1752 (by decide) ?_
    refine r_sub [1, 2, 3, 0] rfl ?_
    exact hK18 x11 σ10
  · refine r_iconst (pc := 1150) X dL_law_1150 kc_0 ?_
    exact r_none rfl

set_option maxRecDepth 100000 in
theorem s_L_law_j1152 {y : LY} {l : Launch} {E : ET} {b L : Nat} {xs : Nat → Int32} (X : CX y l E cL_law 4 RL room_1) (LLX : LX y E b L xs) (hy : y.1 ≤ (eS E).heap.size) {K18 : Int32 → ST → Option Unit} (hK18 : ∀ (v3 : Int32) (σ : ST), WW y l E 4 (fun _ : Unit => lw_Z (eB E) (eA E) (eS E)) 18 [(0, .ref b), (1, .ref (ad y 0)), (2, .ref (ad y 13)), (3, .int v3)] [] σ (K18 v3 σ)) (v3 : Int32) (σ : ST) : WW y l E 4 (fun _ : Unit => lw_Z (eB E) (eA E) (eS E)) 1152 [(0, .ref b), (1, .ref (ad y 0)), (2, .ref (ad y 13)), (3, .int v3)] [] σ (T_L_law_j1152 xs L K18 v3 σ) := by
  unfold T_L_law_j1152
  refine r_aload_n (pc := 1152) X dL_law_1152 1 rfl rfl ?_
  refine r_aload_n (pc := 1153) X dL_law_1153 0 rfl rfl ?_
  refine r_iload_n (pc := 1154) X dL_law_1154 3 rfl rfl ?_
  refine r_iconst (pc := 1155) X dL_law_1155 kc_1 ?_
  refine r_iadd (pc := 1156) X dL_law_1156 ?_
  refine r_sld (pc := 1157) X dL_law_1157 LLX (fun x1 => ?_)
  refine r_aload_n (pc := 1158) X dL_law_1158 0 rfl rfl ?_
  refine r_iload_n (pc := 1159) X dL_law_1159 3 rfl rfl ?_
  refine r_iconst (pc := 1160) X dL_law_1160 kc_2 ?_
  refine r_iadd (pc := 1161) X dL_law_1161 ?_
  refine r_sld (pc := 1162) X dL_law_1162 LLX (fun x2 => ?_)
  refine r_aload_n (pc := 1163) X dL_law_1163 0 rfl rfl ?_
  refine r_iload_n (pc := 1164) X dL_law_1164 3 rfl rfl ?_
  refine r_iconst (pc := 1165) X dL_law_1165 kc_3 ?_
  refine r_iadd (pc := 1166) X dL_law_1166 ?_
  refine r_sld (pc := 1167) X dL_law_1167 LLX (fun x3 => ?_)
  refine r_aload_n (pc := 1168) X dL_law_1168 0 rfl rfl ?_
  refine r_iload_n (pc := 1169) X dL_law_1169 3 rfl rfl ?_
  refine r_iconst (pc := 1170) X dL_law_1170 kc_4 ?_
  refine r_iadd (pc := 1171) X dL_law_1171 ?_
  refine r_sld (pc := 1172) X dL_law_1172 LLX (fun x4 => ?_)
  refine r_aload_n (pc := 1173) X dL_law_1173 0 rfl rfl ?_
  refine r_iload_n (pc := 1174) X dL_law_1174 3 rfl rfl ?_
  refine r_iconst (pc := 1175) X dL_law_1175 kc_5 ?_
  refine r_iadd (pc := 1176) X dL_law_1176 ?_
  refine r_sld (pc := 1177) X dL_law_1177 LLX (fun x5 => ?_)
  refine r_callvJ (pc := 1178) X dL_law_1178 cf_X2_sleep ml_L_129 (rfL rfl rfl) hy oc_0.1 hc_2 (fun b hb => m_X2_sleep hb) rfl rfl (Nat.le_of_ble_eq_true rfl) (fun x6 σ7 => ?_)
  refine r_aload_n (pc := 1181) X dL_law_1181 2 rfl rfl ?_
  refine r_aload_n (pc := 1182) X dL_law_1182 0 rfl rfl ?_
  refine r_iload_n (pc := 1183) X dL_law_1183 3 rfl rfl ?_
  refine r_iconst (pc := 1184) X dL_law_1184 kc_1 ?_
  refine r_iadd (pc := 1185) X dL_law_1185 ?_
  refine r_sld (pc := 1186) X dL_law_1186 LLX (fun x8 => ?_)
  refine r_aload_n (pc := 1187) X dL_law_1187 0 rfl rfl ?_
  refine r_iload_n (pc := 1188) X dL_law_1188 3 rfl rfl ?_
  refine r_iconst (pc := 1189) X dL_law_1189 kc_2 ?_
  refine r_iadd (pc := 1190) X dL_law_1190 ?_
  refine r_sld (pc := 1191) X dL_law_1191 LLX (fun x9 => ?_)
  refine r_aload_n (pc := 1192) X dL_law_1192 0 rfl rfl ?_
  refine r_iload_n (pc := 1193) X dL_law_1193 3 rfl rfl ?_
  refine r_iconst (pc := 1194) X dL_law_1194 kc_3 ?_
  refine r_iadd (pc := 1195) X dL_law_1195 ?_
  refine r_sld (pc := 1196) X dL_law_1196 LLX (fun x10 => ?_)
  refine r_aload_n (pc := 1197) X dL_law_1197 0 rfl rfl ?_
  refine r_iload_n (pc := 1198) X dL_law_1198 3 rfl rfl ?_
  refine r_iconst (pc := 1199) X dL_law_1199 kc_4 ?_
  refine r_iadd (pc := 1200) X dL_law_1200 ?_
  refine r_sld (pc := 1201) X dL_law_1201 LLX (fun x11 => ?_)
  refine r_aload_n (pc := 1202) X dL_law_1202 0 rfl rfl ?_
  refine r_iload_n (pc := 1203) X dL_law_1203 3 rfl rfl ?_
  refine r_iconst (pc := 1204) X dL_law_1204 kc_5 ?_
  refine r_iadd (pc := 1205) X dL_law_1205 ?_
  refine r_sld (pc := 1206) X dL_law_1206 LLX (fun x12 => ?_)
  refine r_callvJ (pc := 1207) X dL_law_1207 cf_X3_sleep ml_L_133 (rfL rfl rfl) hy oc_13.1 hc_3 (fun b hb => m_X3_sleep hb) rfl rfl (Nat.le_of_ble_eq_true rfl) (fun x13 σ14 => ?_)
  refine r_lcmp (pc := 1210) X dL_law_1210 ?_
  refine r_if_eq (pc := 1211) (tgt := 1749) X dL_law_1211 (by decide) ?_ ?_
  · refine r_iinc (pc := 1749) (lv' := [(0, .ref _), (1, .ref _), (2, .ref _)]) X dL_law_1749 3 rfl (congrArg (fun z => v3 + z) kc_6) (by decide) rfl (fun x15 => ?_)
    refine r_goto (pc := 1752) (tgt := 18) X dL_law_1752 (by decide) ?_
    refine r_sub [1, 2, 3, 0] rfl ?_
    exact hK18 x15 σ14
  · refine r_iconst (pc := 1214) X dL_law_1214 kc_0 ?_
    exact r_none rfl

set_option maxRecDepth 100000 in
theorem s_L_law_j1216 {y : LY} {l : Launch} {E : ET} {b L : Nat} {xs : Nat → Int32} (X : CX y l E cL_law 4 RL room_1) (LLX : LX y E b L xs) (hy : y.1 ≤ (eS E).heap.size) {K18 : Int32 → ST → Option Unit} (hK18 : ∀ (v3 : Int32) (σ : ST), WW y l E 4 (fun _ : Unit => lw_Z (eB E) (eA E) (eS E)) 18 [(0, .ref b), (1, .ref (ad y 0)), (2, .ref (ad y 13)), (3, .int v3)] [] σ (K18 v3 σ)) (v3 : Int32) (σ : ST) : WW y l E 4 (fun _ : Unit => lw_Z (eB E) (eA E) (eS E)) 1216 [(0, .ref b), (1, .ref (ad y 0)), (2, .ref (ad y 13)), (3, .int v3)] [] σ (T_L_law_j1216 xs L K18 v3 σ) := by
  unfold T_L_law_j1216
  refine r_aload_n (pc := 1216) X dL_law_1216 1 rfl rfl ?_
  refine r_aload_n (pc := 1217) X dL_law_1217 0 rfl rfl ?_
  refine r_iload_n (pc := 1218) X dL_law_1218 3 rfl rfl ?_
  refine r_iconst (pc := 1219) X dL_law_1219 kc_1 ?_
  refine r_iadd (pc := 1220) X dL_law_1220 ?_
  refine r_sld (pc := 1221) X dL_law_1221 LLX (fun x1 => ?_)
  refine r_callvI (pc := 1222) X dL_law_1222 cf_X2_swap ml_L_134 (rfL rfl rfl) hy oc_0.1 hc_2 (fun b hb => m_X2_swap hb) rfl rfl (Nat.le_of_ble_eq_true rfl) (fun x2 σ3 => ?_)
  refine r_aload_n (pc := 1225) X dL_law_1225 2 rfl rfl ?_
  refine r_aload_n (pc := 1226) X dL_law_1226 0 rfl rfl ?_
  refine r_iload_n (pc := 1227) X dL_law_1227 3 rfl rfl ?_
  refine r_iconst (pc := 1228) X dL_law_1228 kc_1 ?_
  refine r_iadd (pc := 1229) X dL_law_1229 ?_
  refine r_sld (pc := 1230) X dL_law_1230 LLX (fun x4 => ?_)
  refine r_callvI (pc := 1231) X dL_law_1231 cf_X3_swap ml_L_137 (rfL rfl rfl) hy oc_13.1 hc_3 (fun b hb => m_X3_swap hb) rfl rfl (Nat.le_of_ble_eq_true rfl) (fun x5 σ6 => ?_)
  refine r_icmp_eq (pc := 1234) (tgt := 1749) X dL_law_1234 (by decide) ?_ ?_
  · refine r_iinc (pc := 1749) (lv' := [(0, .ref _), (1, .ref _), (2, .ref _)]) X dL_law_1749 3 rfl (congrArg (fun z => v3 + z) kc_6) (by decide) rfl (fun x7 => ?_)
    refine r_goto (pc := 1752) (tgt := 18) X dL_law_1752 (by decide) ?_
    refine r_sub [1, 2, 3, 0] rfl ?_
    exact hK18 x7 σ6
  · refine r_iconst (pc := 1237) X dL_law_1237 kc_0 ?_
    exact r_none rfl

set_option maxRecDepth 100000 in
theorem s_L_law_j1239 {y : LY} {l : Launch} {E : ET} {b L : Nat} {xs : Nat → Int32} (X : CX y l E cL_law 4 RL room_1) (LLX : LX y E b L xs) (hy : y.1 ≤ (eS E).heap.size) {K18 : Int32 → ST → Option Unit} (hK18 : ∀ (v3 : Int32) (σ : ST), WW y l E 4 (fun _ : Unit => lw_Z (eB E) (eA E) (eS E)) 18 [(0, .ref b), (1, .ref (ad y 0)), (2, .ref (ad y 13)), (3, .int v3)] [] σ (K18 v3 σ)) (v3 : Int32) (σ : ST) : WW y l E 4 (fun _ : Unit => lw_Z (eB E) (eA E) (eS E)) 1239 [(0, .ref b), (1, .ref (ad y 0)), (2, .ref (ad y 13)), (3, .int v3)] [] σ (T_L_law_j1239 xs L K18 v3 σ) := by
  unfold T_L_law_j1239
  refine r_aload_n (pc := 1239) X dL_law_1239 1 rfl rfl ?_
  refine r_aload_n (pc := 1240) X dL_law_1240 0 rfl rfl ?_
  refine r_iload_n (pc := 1241) X dL_law_1241 3 rfl rfl ?_
  refine r_iconst (pc := 1242) X dL_law_1242 kc_1 ?_
  refine r_iadd (pc := 1243) X dL_law_1243 ?_
  refine r_sld (pc := 1244) X dL_law_1244 LLX (fun x1 => ?_)
  refine r_callvI (pc := 1245) X dL_law_1245 cf_X2_heir ml_L_138 (rfL rfl rfl) hy oc_0.1 hc_2 (fun b hb => m_X2_heir hb) rfl rfl (Nat.le_of_ble_eq_true rfl) (fun x2 σ3 => ?_)
  refine r_aload_n (pc := 1248) X dL_law_1248 2 rfl rfl ?_
  refine r_aload_n (pc := 1249) X dL_law_1249 0 rfl rfl ?_
  refine r_iload_n (pc := 1250) X dL_law_1250 3 rfl rfl ?_
  refine r_iconst (pc := 1251) X dL_law_1251 kc_1 ?_
  refine r_iadd (pc := 1252) X dL_law_1252 ?_
  refine r_sld (pc := 1253) X dL_law_1253 LLX (fun x4 => ?_)
  refine r_callvI (pc := 1254) X dL_law_1254 cf_X3_heir ml_L_141 (rfL rfl rfl) hy oc_13.1 hc_3 (fun b hb => m_X3_heir hb) rfl rfl (Nat.le_of_ble_eq_true rfl) (fun x5 σ6 => ?_)
  refine r_icmp_eq (pc := 1257) (tgt := 1749) X dL_law_1257 (by decide) ?_ ?_
  · refine r_iinc (pc := 1749) (lv' := [(0, .ref _), (1, .ref _), (2, .ref _)]) X dL_law_1749 3 rfl (congrArg (fun z => v3 + z) kc_6) (by decide) rfl (fun x7 => ?_)
    refine r_goto (pc := 1752) (tgt := 18) X dL_law_1752 (by decide) ?_
    refine r_sub [1, 2, 3, 0] rfl ?_
    exact hK18 x7 σ6
  · refine r_iconst (pc := 1260) X dL_law_1260 kc_0 ?_
    exact r_none rfl

set_option maxRecDepth 100000 in
theorem s_L_law_j1262 {y : LY} {l : Launch} {E : ET} {b L : Nat} {xs : Nat → Int32} (X : CX y l E cL_law 4 RL room_1) (LLX : LX y E b L xs) (hy : y.1 ≤ (eS E).heap.size) {K18 : Int32 → ST → Option Unit} (hK18 : ∀ (v3 : Int32) (σ : ST), WW y l E 4 (fun _ : Unit => lw_Z (eB E) (eA E) (eS E)) 18 [(0, .ref b), (1, .ref (ad y 0)), (2, .ref (ad y 13)), (3, .int v3)] [] σ (K18 v3 σ)) (v3 : Int32) (σ : ST) : WW y l E 4 (fun _ : Unit => lw_Z (eB E) (eA E) (eS E)) 1262 [(0, .ref b), (1, .ref (ad y 0)), (2, .ref (ad y 13)), (3, .int v3)] [] σ (T_L_law_j1262 xs L K18 v3 σ) := by
  unfold T_L_law_j1262
  refine r_aload_n (pc := 1262) X dL_law_1262 1 rfl rfl ?_
  refine r_aload_n (pc := 1263) X dL_law_1263 0 rfl rfl ?_
  refine r_iload_n (pc := 1264) X dL_law_1264 3 rfl rfl ?_
  refine r_iconst (pc := 1265) X dL_law_1265 kc_1 ?_
  refine r_iadd (pc := 1266) X dL_law_1266 ?_
  refine r_sld (pc := 1267) X dL_law_1267 LLX (fun x1 => ?_)
  refine r_aload_n (pc := 1268) X dL_law_1268 0 rfl rfl ?_
  refine r_iload_n (pc := 1269) X dL_law_1269 3 rfl rfl ?_
  refine r_iconst (pc := 1270) X dL_law_1270 kc_2 ?_
  refine r_iadd (pc := 1271) X dL_law_1271 ?_
  refine r_sld (pc := 1272) X dL_law_1272 LLX (fun x2 => ?_)
  refine r_callvI (pc := 1273) X dL_law_1273 cf_X2_far ml_L_142 (rfL rfl rfl) hy oc_0.1 hc_2 (fun b hb => m_X2_far hb) rfl rfl (Nat.le_of_ble_eq_true rfl) (fun x3 σ4 => ?_)
  refine r_aload_n (pc := 1276) X dL_law_1276 2 rfl rfl ?_
  refine r_aload_n (pc := 1277) X dL_law_1277 0 rfl rfl ?_
  refine r_iload_n (pc := 1278) X dL_law_1278 3 rfl rfl ?_
  refine r_iconst (pc := 1279) X dL_law_1279 kc_1 ?_
  refine r_iadd (pc := 1280) X dL_law_1280 ?_
  refine r_sld (pc := 1281) X dL_law_1281 LLX (fun x5 => ?_)
  refine r_aload_n (pc := 1282) X dL_law_1282 0 rfl rfl ?_
  refine r_iload_n (pc := 1283) X dL_law_1283 3 rfl rfl ?_
  refine r_iconst (pc := 1284) X dL_law_1284 kc_2 ?_
  refine r_iadd (pc := 1285) X dL_law_1285 ?_
  refine r_sld (pc := 1286) X dL_law_1286 LLX (fun x6 => ?_)
  refine r_callvI (pc := 1287) X dL_law_1287 cf_X3_far ml_L_145 (rfL rfl rfl) hy oc_13.1 hc_3 (fun b hb => m_X3_far hb) rfl rfl (Nat.le_of_ble_eq_true rfl) (fun x7 σ8 => ?_)
  refine r_icmp_eq (pc := 1290) (tgt := 1749) X dL_law_1290 (by decide) ?_ ?_
  · refine r_iinc (pc := 1749) (lv' := [(0, .ref _), (1, .ref _), (2, .ref _)]) X dL_law_1749 3 rfl (congrArg (fun z => v3 + z) kc_6) (by decide) rfl (fun x9 => ?_)
    refine r_goto (pc := 1752) (tgt := 18) X dL_law_1752 (by decide) ?_
    refine r_sub [1, 2, 3, 0] rfl ?_
    exact hK18 x9 σ8
  · refine r_iconst (pc := 1293) X dL_law_1293 kc_0 ?_
    exact r_none rfl

set_option maxRecDepth 100000 in
theorem s_L_law_j1295 {y : LY} {l : Launch} {E : ET} {b L : Nat} {xs : Nat → Int32} (X : CX y l E cL_law 4 RL room_1) (LLX : LX y E b L xs) (hy : y.1 ≤ (eS E).heap.size) {K18 : Int32 → ST → Option Unit} (hK18 : ∀ (v3 : Int32) (σ : ST), WW y l E 4 (fun _ : Unit => lw_Z (eB E) (eA E) (eS E)) 18 [(0, .ref b), (1, .ref (ad y 0)), (2, .ref (ad y 13)), (3, .int v3)] [] σ (K18 v3 σ)) (v3 : Int32) (σ : ST) : WW y l E 4 (fun _ : Unit => lw_Z (eB E) (eA E) (eS E)) 1295 [(0, .ref b), (1, .ref (ad y 0)), (2, .ref (ad y 13)), (3, .int v3)] [] σ (T_L_law_j1295 xs L K18 v3 σ) := by
  unfold T_L_law_j1295
  refine r_aload_n (pc := 1295) X dL_law_1295 1 rfl rfl ?_
  refine r_aload_n (pc := 1296) X dL_law_1296 0 rfl rfl ?_
  refine r_iload_n (pc := 1297) X dL_law_1297 3 rfl rfl ?_
  refine r_iconst (pc := 1298) X dL_law_1298 kc_1 ?_
  refine r_iadd (pc := 1299) X dL_law_1299 ?_
  refine r_sld (pc := 1300) X dL_law_1300 LLX (fun x1 => ?_)
  refine r_callvI (pc := 1301) X dL_law_1301 cf_X2_tired ml_L_146 (rfL rfl rfl) hy oc_0.1 hc_2 (fun b hb => m_X2_tired hb) rfl rfl (Nat.le_of_ble_eq_true rfl) (fun x2 σ3 => ?_)
  refine r_aload_n (pc := 1304) X dL_law_1304 2 rfl rfl ?_
  refine r_aload_n (pc := 1305) X dL_law_1305 0 rfl rfl ?_
  refine r_iload_n (pc := 1306) X dL_law_1306 3 rfl rfl ?_
  refine r_iconst (pc := 1307) X dL_law_1307 kc_1 ?_
  refine r_iadd (pc := 1308) X dL_law_1308 ?_
  refine r_sld (pc := 1309) X dL_law_1309 LLX (fun x4 => ?_)
  refine r_callvI (pc := 1310) X dL_law_1310 cf_X3_tired ml_L_149 (rfL rfl rfl) hy oc_13.1 hc_3 (fun b hb => m_X3_tired hb) rfl rfl (Nat.le_of_ble_eq_true rfl) (fun x5 σ6 => ?_)
  refine r_icmp_eq (pc := 1313) (tgt := 1749) X dL_law_1313 (by decide) ?_ ?_
  · refine r_iinc (pc := 1749) (lv' := [(0, .ref _), (1, .ref _), (2, .ref _)]) X dL_law_1749 3 rfl (congrArg (fun z => v3 + z) kc_6) (by decide) rfl (fun x7 => ?_)
    refine r_goto (pc := 1752) (tgt := 18) X dL_law_1752 (by decide) ?_
    refine r_sub [1, 2, 3, 0] rfl ?_
    exact hK18 x7 σ6
  · refine r_iconst (pc := 1316) X dL_law_1316 kc_0 ?_
    exact r_none rfl

set_option maxRecDepth 100000 in
theorem s_L_law_j1318 {y : LY} {l : Launch} {E : ET} {b L : Nat} {xs : Nat → Int32} (X : CX y l E cL_law 4 RL room_1) (LLX : LX y E b L xs) (hy : y.1 ≤ (eS E).heap.size) {K18 : Int32 → ST → Option Unit} (hK18 : ∀ (v3 : Int32) (σ : ST), WW y l E 4 (fun _ : Unit => lw_Z (eB E) (eA E) (eS E)) 18 [(0, .ref b), (1, .ref (ad y 0)), (2, .ref (ad y 13)), (3, .int v3)] [] σ (K18 v3 σ)) (v3 : Int32) (σ : ST) : WW y l E 4 (fun _ : Unit => lw_Z (eB E) (eA E) (eS E)) 1318 [(0, .ref b), (1, .ref (ad y 0)), (2, .ref (ad y 13)), (3, .int v3)] [] σ (T_L_law_j1318 xs L K18 v3 σ) := by
  unfold T_L_law_j1318
  refine r_aload_n (pc := 1318) X dL_law_1318 1 rfl rfl ?_
  refine r_aload_n (pc := 1319) X dL_law_1319 0 rfl rfl ?_
  refine r_iload_n (pc := 1320) X dL_law_1320 3 rfl rfl ?_
  refine r_iconst (pc := 1321) X dL_law_1321 kc_1 ?_
  refine r_iadd (pc := 1322) X dL_law_1322 ?_
  refine r_sld (pc := 1323) X dL_law_1323 LLX (fun x1 => ?_)
  refine r_aload_n (pc := 1324) X dL_law_1324 0 rfl rfl ?_
  refine r_iload_n (pc := 1325) X dL_law_1325 3 rfl rfl ?_
  refine r_iconst (pc := 1326) X dL_law_1326 kc_2 ?_
  refine r_iadd (pc := 1327) X dL_law_1327 ?_
  refine r_sld (pc := 1328) X dL_law_1328 LLX (fun x2 => ?_)
  refine r_aload_n (pc := 1329) X dL_law_1329 0 rfl rfl ?_
  refine r_iload_n (pc := 1330) X dL_law_1330 3 rfl rfl ?_
  refine r_iconst (pc := 1331) X dL_law_1331 kc_3 ?_
  refine r_iadd (pc := 1332) X dL_law_1332 ?_
  refine r_sld (pc := 1333) X dL_law_1333 LLX (fun x3 => ?_)
  refine r_callvI (pc := 1334) X dL_law_1334 cf_X2_visits ml_L_150 (rfL rfl rfl) hy oc_0.1 hc_2 (fun b hb => m_X2_visits hb) rfl rfl (Nat.le_of_ble_eq_true rfl) (fun x4 σ5 => ?_)
  refine r_aload_n (pc := 1337) X dL_law_1337 2 rfl rfl ?_
  refine r_aload_n (pc := 1338) X dL_law_1338 0 rfl rfl ?_
  refine r_iload_n (pc := 1339) X dL_law_1339 3 rfl rfl ?_
  refine r_iconst (pc := 1340) X dL_law_1340 kc_1 ?_
  refine r_iadd (pc := 1341) X dL_law_1341 ?_
  refine r_sld (pc := 1342) X dL_law_1342 LLX (fun x6 => ?_)
  refine r_aload_n (pc := 1343) X dL_law_1343 0 rfl rfl ?_
  refine r_iload_n (pc := 1344) X dL_law_1344 3 rfl rfl ?_
  refine r_iconst (pc := 1345) X dL_law_1345 kc_2 ?_
  refine r_iadd (pc := 1346) X dL_law_1346 ?_
  refine r_sld (pc := 1347) X dL_law_1347 LLX (fun x7 => ?_)
  refine r_aload_n (pc := 1348) X dL_law_1348 0 rfl rfl ?_
  refine r_iload_n (pc := 1349) X dL_law_1349 3 rfl rfl ?_
  refine r_iconst (pc := 1350) X dL_law_1350 kc_3 ?_
  refine r_iadd (pc := 1351) X dL_law_1351 ?_
  refine r_sld (pc := 1352) X dL_law_1352 LLX (fun x8 => ?_)
  refine r_callvI (pc := 1353) X dL_law_1353 cf_X3_visits ml_L_153 (rfL rfl rfl) hy oc_13.1 hc_3 (fun b hb => m_X3_visits hb) rfl rfl (Nat.le_of_ble_eq_true rfl) (fun x9 σ10 => ?_)
  refine r_icmp_eq (pc := 1356) (tgt := 1749) X dL_law_1356 (by decide) ?_ ?_
  · refine r_iinc (pc := 1749) (lv' := [(0, .ref _), (1, .ref _), (2, .ref _)]) X dL_law_1749 3 rfl (congrArg (fun z => v3 + z) kc_6) (by decide) rfl (fun x11 => ?_)
    refine r_goto (pc := 1752) (tgt := 18) X dL_law_1752 (by decide) ?_
    refine r_sub [1, 2, 3, 0] rfl ?_
    exact hK18 x11 σ10
  · refine r_iconst (pc := 1359) X dL_law_1359 kc_0 ?_
    exact r_none rfl

set_option maxRecDepth 100000 in
theorem s_L_law_j1361 {y : LY} {l : Launch} {E : ET} {b L : Nat} {xs : Nat → Int32} (X : CX y l E cL_law 4 RL room_1) (LLX : LX y E b L xs) (hy : y.1 ≤ (eS E).heap.size) {K18 : Int32 → ST → Option Unit} (hK18 : ∀ (v3 : Int32) (σ : ST), WW y l E 4 (fun _ : Unit => lw_Z (eB E) (eA E) (eS E)) 18 [(0, .ref b), (1, .ref (ad y 0)), (2, .ref (ad y 13)), (3, .int v3)] [] σ (K18 v3 σ)) (v3 : Int32) (σ : ST) : WW y l E 4 (fun _ : Unit => lw_Z (eB E) (eA E) (eS E)) 1361 [(0, .ref b), (1, .ref (ad y 0)), (2, .ref (ad y 13)), (3, .int v3)] [] σ (T_L_law_j1361 xs L K18 v3 σ) := by
  unfold T_L_law_j1361
  refine r_aload_n (pc := 1361) X dL_law_1361 1 rfl rfl ?_
  refine r_aload_n (pc := 1362) X dL_law_1362 0 rfl rfl ?_
  refine r_iload_n (pc := 1363) X dL_law_1363 3 rfl rfl ?_
  refine r_iconst (pc := 1364) X dL_law_1364 kc_1 ?_
  refine r_iadd (pc := 1365) X dL_law_1365 ?_
  refine r_sld (pc := 1366) X dL_law_1366 LLX (fun x1 => ?_)
  refine r_aload_n (pc := 1367) X dL_law_1367 0 rfl rfl ?_
  refine r_iload_n (pc := 1368) X dL_law_1368 3 rfl rfl ?_
  refine r_iconst (pc := 1369) X dL_law_1369 kc_2 ?_
  refine r_iadd (pc := 1370) X dL_law_1370 ?_
  refine r_sld (pc := 1371) X dL_law_1371 LLX (fun x2 => ?_)
  refine r_aload_n (pc := 1372) X dL_law_1372 0 rfl rfl ?_
  refine r_iload_n (pc := 1373) X dL_law_1373 3 rfl rfl ?_
  refine r_iconst (pc := 1374) X dL_law_1374 kc_3 ?_
  refine r_iadd (pc := 1375) X dL_law_1375 ?_
  refine r_sld (pc := 1376) X dL_law_1376 LLX (fun x3 => ?_)
  refine r_callvI (pc := 1377) X dL_law_1377 cf_X2_together ml_L_154 (rfL rfl rfl) hy oc_0.1 hc_2 (fun b hb => m_X2_together hb) rfl rfl (Nat.le_of_ble_eq_true rfl) (fun x4 σ5 => ?_)
  refine r_aload_n (pc := 1380) X dL_law_1380 2 rfl rfl ?_
  refine r_aload_n (pc := 1381) X dL_law_1381 0 rfl rfl ?_
  refine r_iload_n (pc := 1382) X dL_law_1382 3 rfl rfl ?_
  refine r_iconst (pc := 1383) X dL_law_1383 kc_1 ?_
  refine r_iadd (pc := 1384) X dL_law_1384 ?_
  refine r_sld (pc := 1385) X dL_law_1385 LLX (fun x6 => ?_)
  refine r_aload_n (pc := 1386) X dL_law_1386 0 rfl rfl ?_
  refine r_iload_n (pc := 1387) X dL_law_1387 3 rfl rfl ?_
  refine r_iconst (pc := 1388) X dL_law_1388 kc_2 ?_
  refine r_iadd (pc := 1389) X dL_law_1389 ?_
  refine r_sld (pc := 1390) X dL_law_1390 LLX (fun x7 => ?_)
  refine r_aload_n (pc := 1391) X dL_law_1391 0 rfl rfl ?_
  refine r_iload_n (pc := 1392) X dL_law_1392 3 rfl rfl ?_
  refine r_iconst (pc := 1393) X dL_law_1393 kc_3 ?_
  refine r_iadd (pc := 1394) X dL_law_1394 ?_
  refine r_sld (pc := 1395) X dL_law_1395 LLX (fun x8 => ?_)
  refine r_callvI (pc := 1396) X dL_law_1396 cf_X3_together ml_L_157 (rfL rfl rfl) hy oc_13.1 hc_3 (fun b hb => m_X3_together hb) rfl rfl (Nat.le_of_ble_eq_true rfl) (fun x9 σ10 => ?_)
  refine r_icmp_eq (pc := 1399) (tgt := 1749) X dL_law_1399 (by decide) ?_ ?_
  · refine r_iinc (pc := 1749) (lv' := [(0, .ref _), (1, .ref _), (2, .ref _)]) X dL_law_1749 3 rfl (congrArg (fun z => v3 + z) kc_6) (by decide) rfl (fun x11 => ?_)
    refine r_goto (pc := 1752) (tgt := 18) X dL_law_1752 (by decide) ?_
    refine r_sub [1, 2, 3, 0] rfl ?_
    exact hK18 x11 σ10
  · refine r_iconst (pc := 1402) X dL_law_1402 kc_0 ?_
    exact r_none rfl

set_option maxRecDepth 100000 in
theorem s_L_law_j1404 {y : LY} {l : Launch} {E : ET} {b L : Nat} {xs : Nat → Int32} (X : CX y l E cL_law 4 RL room_1) (LLX : LX y E b L xs) (hy : y.1 ≤ (eS E).heap.size) {K18 : Int32 → ST → Option Unit} (hK18 : ∀ (v3 : Int32) (σ : ST), WW y l E 4 (fun _ : Unit => lw_Z (eB E) (eA E) (eS E)) 18 [(0, .ref b), (1, .ref (ad y 0)), (2, .ref (ad y 13)), (3, .int v3)] [] σ (K18 v3 σ)) (v3 : Int32) (σ : ST) : WW y l E 4 (fun _ : Unit => lw_Z (eB E) (eA E) (eS E)) 1404 [(0, .ref b), (1, .ref (ad y 0)), (2, .ref (ad y 13)), (3, .int v3)] [] σ (T_L_law_j1404 xs L K18 v3 σ) := by
  unfold T_L_law_j1404
  refine r_aload_n (pc := 1404) X dL_law_1404 1 rfl rfl ?_
  refine r_aload_n (pc := 1405) X dL_law_1405 0 rfl rfl ?_
  refine r_iload_n (pc := 1406) X dL_law_1406 3 rfl rfl ?_
  refine r_iconst (pc := 1407) X dL_law_1407 kc_1 ?_
  refine r_iadd (pc := 1408) X dL_law_1408 ?_
  refine r_sld (pc := 1409) X dL_law_1409 LLX (fun x1 => ?_)
  refine r_aload_n (pc := 1410) X dL_law_1410 0 rfl rfl ?_
  refine r_iload_n (pc := 1411) X dL_law_1411 3 rfl rfl ?_
  refine r_iconst (pc := 1412) X dL_law_1412 kc_2 ?_
  refine r_iadd (pc := 1413) X dL_law_1413 ?_
  refine r_sld (pc := 1414) X dL_law_1414 LLX (fun x2 => ?_)
  refine r_callvI (pc := 1415) X dL_law_1415 cf_X2_rests ml_L_158 (rfL rfl rfl) hy oc_0.1 hc_2 (fun b hb => m_X2_rests hb) rfl rfl (Nat.le_of_ble_eq_true rfl) (fun x3 σ4 => ?_)
  refine r_aload_n (pc := 1418) X dL_law_1418 2 rfl rfl ?_
  refine r_aload_n (pc := 1419) X dL_law_1419 0 rfl rfl ?_
  refine r_iload_n (pc := 1420) X dL_law_1420 3 rfl rfl ?_
  refine r_iconst (pc := 1421) X dL_law_1421 kc_1 ?_
  refine r_iadd (pc := 1422) X dL_law_1422 ?_
  refine r_sld (pc := 1423) X dL_law_1423 LLX (fun x5 => ?_)
  refine r_aload_n (pc := 1424) X dL_law_1424 0 rfl rfl ?_
  refine r_iload_n (pc := 1425) X dL_law_1425 3 rfl rfl ?_
  refine r_iconst (pc := 1426) X dL_law_1426 kc_2 ?_
  refine r_iadd (pc := 1427) X dL_law_1427 ?_
  refine r_sld (pc := 1428) X dL_law_1428 LLX (fun x6 => ?_)
  refine r_callvI (pc := 1429) X dL_law_1429 cf_X3_rests ml_L_161 (rfL rfl rfl) hy oc_13.1 hc_3 (fun b hb => m_X3_rests hb) rfl rfl (Nat.le_of_ble_eq_true rfl) (fun x7 σ8 => ?_)
  refine r_icmp_eq (pc := 1432) (tgt := 1749) X dL_law_1432 (by decide) ?_ ?_
  · refine r_iinc (pc := 1749) (lv' := [(0, .ref _), (1, .ref _), (2, .ref _)]) X dL_law_1749 3 rfl (congrArg (fun z => v3 + z) kc_6) (by decide) rfl (fun x9 => ?_)
    refine r_goto (pc := 1752) (tgt := 18) X dL_law_1752 (by decide) ?_
    refine r_sub [1, 2, 3, 0] rfl ?_
    exact hK18 x9 σ8
  · refine r_iconst (pc := 1435) X dL_law_1435 kc_0 ?_
    exact r_none rfl

set_option maxRecDepth 100000 in
theorem s_L_law_j1437 {y : LY} {l : Launch} {E : ET} {b L : Nat} {xs : Nat → Int32} (X : CX y l E cL_law 4 RL room_1) (LLX : LX y E b L xs) (hy : y.1 ≤ (eS E).heap.size) {K18 : Int32 → ST → Option Unit} (hK18 : ∀ (v3 : Int32) (σ : ST), WW y l E 4 (fun _ : Unit => lw_Z (eB E) (eA E) (eS E)) 18 [(0, .ref b), (1, .ref (ad y 0)), (2, .ref (ad y 13)), (3, .int v3)] [] σ (K18 v3 σ)) (v3 : Int32) (σ : ST) : WW y l E 4 (fun _ : Unit => lw_Z (eB E) (eA E) (eS E)) 1437 [(0, .ref b), (1, .ref (ad y 0)), (2, .ref (ad y 13)), (3, .int v3)] [] σ (T_L_law_j1437 xs L K18 v3 σ) := by
  unfold T_L_law_j1437
  refine r_aload_n (pc := 1437) X dL_law_1437 1 rfl rfl ?_
  refine r_callvI (pc := 1438) X dL_law_1438 cf_X2_firstSnap ml_L_162 (rfL rfl rfl) hy oc_0.1 hc_2 (fun b hb => m_X2_firstSnap hb) rfl rfl (Nat.le_of_ble_eq_true rfl) (fun x1 σ2 => ?_)
  refine r_aload_n (pc := 1441) X dL_law_1441 2 rfl rfl ?_
  refine r_callvI (pc := 1442) X dL_law_1442 cf_X3_firstSnap ml_L_165 (rfL rfl rfl) hy oc_13.1 hc_3 (fun b hb => m_X3_firstSnap hb) rfl rfl (Nat.le_of_ble_eq_true rfl) (fun x3 σ4 => ?_)
  refine r_icmp_eq (pc := 1445) (tgt := 1749) X dL_law_1445 (by decide) ?_ ?_
  · refine r_iinc (pc := 1749) (lv' := [(0, .ref _), (1, .ref _), (2, .ref _)]) X dL_law_1749 3 rfl (congrArg (fun z => v3 + z) kc_6) (by decide) rfl (fun x5 => ?_)
    refine r_goto (pc := 1752) (tgt := 18) X dL_law_1752 (by decide) ?_
    refine r_sub [1, 2, 3, 0] rfl ?_
    exact hK18 x5 σ4
  · refine r_iconst (pc := 1448) X dL_law_1448 kc_0 ?_
    exact r_none rfl

set_option maxRecDepth 100000 in
theorem s_L_law_j1450 {y : LY} {l : Launch} {E : ET} {b L : Nat} {xs : Nat → Int32} (X : CX y l E cL_law 4 RL room_1) (LLX : LX y E b L xs) (hy : y.1 ≤ (eS E).heap.size) {K18 : Int32 → ST → Option Unit} (hK18 : ∀ (v3 : Int32) (σ : ST), WW y l E 4 (fun _ : Unit => lw_Z (eB E) (eA E) (eS E)) 18 [(0, .ref b), (1, .ref (ad y 0)), (2, .ref (ad y 13)), (3, .int v3)] [] σ (K18 v3 σ)) (v3 : Int32) (σ : ST) : WW y l E 4 (fun _ : Unit => lw_Z (eB E) (eA E) (eS E)) 1450 [(0, .ref b), (1, .ref (ad y 0)), (2, .ref (ad y 13)), (3, .int v3)] [] σ (T_L_law_j1450 xs L K18 v3 σ) := by
  unfold T_L_law_j1450
  refine r_aload_n (pc := 1450) X dL_law_1450 1 rfl rfl ?_
  refine r_aload_n (pc := 1451) X dL_law_1451 0 rfl rfl ?_
  refine r_iload_n (pc := 1452) X dL_law_1452 3 rfl rfl ?_
  refine r_iconst (pc := 1453) X dL_law_1453 kc_1 ?_
  refine r_iadd (pc := 1454) X dL_law_1454 ?_
  refine r_sld (pc := 1455) X dL_law_1455 LLX (fun x1 => ?_)
  refine r_aload_n (pc := 1456) X dL_law_1456 0 rfl rfl ?_
  refine r_iload_n (pc := 1457) X dL_law_1457 3 rfl rfl ?_
  refine r_iconst (pc := 1458) X dL_law_1458 kc_2 ?_
  refine r_iadd (pc := 1459) X dL_law_1459 ?_
  refine r_sld (pc := 1460) X dL_law_1460 LLX (fun x2 => ?_)
  refine r_callvI (pc := 1461) X dL_law_1461 cf_X2_busy ml_L_166 (rfL rfl rfl) hy oc_0.1 hc_2 (fun b hb => m_X2_busy hb) rfl rfl (Nat.le_of_ble_eq_true rfl) (fun x3 σ4 => ?_)
  refine r_aload_n (pc := 1464) X dL_law_1464 2 rfl rfl ?_
  refine r_aload_n (pc := 1465) X dL_law_1465 0 rfl rfl ?_
  refine r_iload_n (pc := 1466) X dL_law_1466 3 rfl rfl ?_
  refine r_iconst (pc := 1467) X dL_law_1467 kc_1 ?_
  refine r_iadd (pc := 1468) X dL_law_1468 ?_
  refine r_sld (pc := 1469) X dL_law_1469 LLX (fun x5 => ?_)
  refine r_aload_n (pc := 1470) X dL_law_1470 0 rfl rfl ?_
  refine r_iload_n (pc := 1471) X dL_law_1471 3 rfl rfl ?_
  refine r_iconst (pc := 1472) X dL_law_1472 kc_2 ?_
  refine r_iadd (pc := 1473) X dL_law_1473 ?_
  refine r_sld (pc := 1474) X dL_law_1474 LLX (fun x6 => ?_)
  refine r_callvI (pc := 1475) X dL_law_1475 cf_X3_busy ml_L_169 (rfL rfl rfl) hy oc_13.1 hc_3 (fun b hb => m_X3_busy hb) rfl rfl (Nat.le_of_ble_eq_true rfl) (fun x7 σ8 => ?_)
  refine r_icmp_eq (pc := 1478) (tgt := 1749) X dL_law_1478 (by decide) ?_ ?_
  · refine r_iinc (pc := 1749) (lv' := [(0, .ref _), (1, .ref _), (2, .ref _)]) X dL_law_1749 3 rfl (congrArg (fun z => v3 + z) kc_6) (by decide) rfl (fun x9 => ?_)
    refine r_goto (pc := 1752) (tgt := 18) X dL_law_1752 (by decide) ?_
    refine r_sub [1, 2, 3, 0] rfl ?_
    exact hK18 x9 σ8
  · refine r_iconst (pc := 1481) X dL_law_1481 kc_0 ?_
    exact r_none rfl

set_option maxRecDepth 100000 in
theorem s_L_law_j1483 {y : LY} {l : Launch} {E : ET} {b L : Nat} {xs : Nat → Int32} (X : CX y l E cL_law 4 RL room_1) (LLX : LX y E b L xs) (hy : y.1 ≤ (eS E).heap.size) {K18 : Int32 → ST → Option Unit} (hK18 : ∀ (v3 : Int32) (σ : ST), WW y l E 4 (fun _ : Unit => lw_Z (eB E) (eA E) (eS E)) 18 [(0, .ref b), (1, .ref (ad y 0)), (2, .ref (ad y 13)), (3, .int v3)] [] σ (K18 v3 σ)) (v3 : Int32) (σ : ST) : WW y l E 4 (fun _ : Unit => lw_Z (eB E) (eA E) (eS E)) 1483 [(0, .ref b), (1, .ref (ad y 0)), (2, .ref (ad y 13)), (3, .int v3)] [] σ (T_L_law_j1483 xs L K18 v3 σ) := by
  unfold T_L_law_j1483
  refine r_aload_n (pc := 1483) X dL_law_1483 1 rfl rfl ?_
  refine r_aload_n (pc := 1484) X dL_law_1484 0 rfl rfl ?_
  refine r_iload_n (pc := 1485) X dL_law_1485 3 rfl rfl ?_
  refine r_iconst (pc := 1486) X dL_law_1486 kc_1 ?_
  refine r_iadd (pc := 1487) X dL_law_1487 ?_
  refine r_sld (pc := 1488) X dL_law_1488 LLX (fun x1 => ?_)
  refine r_callvI (pc := 1489) X dL_law_1489 cf_X2_tamed ml_L_170 (rfL rfl rfl) hy oc_0.1 hc_2 (fun b hb => m_X2_tamed hb) rfl rfl (Nat.le_of_ble_eq_true rfl) (fun x2 σ3 => ?_)
  refine r_aload_n (pc := 1492) X dL_law_1492 2 rfl rfl ?_
  refine r_aload_n (pc := 1493) X dL_law_1493 0 rfl rfl ?_
  refine r_iload_n (pc := 1494) X dL_law_1494 3 rfl rfl ?_
  refine r_iconst (pc := 1495) X dL_law_1495 kc_1 ?_
  refine r_iadd (pc := 1496) X dL_law_1496 ?_
  refine r_sld (pc := 1497) X dL_law_1497 LLX (fun x4 => ?_)
  refine r_callvI (pc := 1498) X dL_law_1498 cf_X3_tamed ml_L_173 (rfL rfl rfl) hy oc_13.1 hc_3 (fun b hb => m_X3_tamed hb) rfl rfl (Nat.le_of_ble_eq_true rfl) (fun x5 σ6 => ?_)
  refine r_icmp_eq (pc := 1501) (tgt := 1749) X dL_law_1501 (by decide) ?_ ?_
  · refine r_iinc (pc := 1749) (lv' := [(0, .ref _), (1, .ref _), (2, .ref _)]) X dL_law_1749 3 rfl (congrArg (fun z => v3 + z) kc_6) (by decide) rfl (fun x7 => ?_)
    refine r_goto (pc := 1752) (tgt := 18) X dL_law_1752 (by decide) ?_
    refine r_sub [1, 2, 3, 0] rfl ?_
    exact hK18 x7 σ6
  · refine r_iconst (pc := 1504) X dL_law_1504 kc_0 ?_
    exact r_none rfl

set_option maxRecDepth 100000 in
theorem s_L_law_j1506 {y : LY} {l : Launch} {E : ET} {b L : Nat} {xs : Nat → Int32} (X : CX y l E cL_law 4 RL room_1) (LLX : LX y E b L xs) (hy : y.1 ≤ (eS E).heap.size) {K18 : Int32 → ST → Option Unit} (hK18 : ∀ (v3 : Int32) (σ : ST), WW y l E 4 (fun _ : Unit => lw_Z (eB E) (eA E) (eS E)) 18 [(0, .ref b), (1, .ref (ad y 0)), (2, .ref (ad y 13)), (3, .int v3)] [] σ (K18 v3 σ)) (v3 : Int32) (σ : ST) : WW y l E 4 (fun _ : Unit => lw_Z (eB E) (eA E) (eS E)) 1506 [(0, .ref b), (1, .ref (ad y 0)), (2, .ref (ad y 13)), (3, .int v3)] [] σ (T_L_law_j1506 xs L K18 v3 σ) := by
  unfold T_L_law_j1506
  refine r_aload_n (pc := 1506) X dL_law_1506 1 rfl rfl ?_
  refine r_callvp (pc := 1507) X dL_law_1507 cf_X2_unled ml_L_174 (rfL rfl rfl) hy oc_0.1 hc_2 (fun b hb => m_X2_unled hb) rfl rfl (Nat.le_of_ble_eq_true rfl) (fun x1 => ?_)
  refine r_aload_n (pc := 1510) X dL_law_1510 2 rfl rfl ?_
  refine r_callvI (pc := 1511) X dL_law_1511 cf_X3_unled ml_L_177 (rfL rfl rfl) hy oc_13.1 hc_3 (fun b hb => m_X3_unled hb) rfl rfl (Nat.le_of_ble_eq_true rfl) (fun x3 σ4 => ?_)
  refine r_icmp_eq (pc := 1514) (tgt := 1749) X dL_law_1514 (by decide) ?_ ?_
  · refine r_iinc (pc := 1749) (lv' := [(0, .ref _), (1, .ref _), (2, .ref _)]) X dL_law_1749 3 rfl (congrArg (fun z => v3 + z) kc_6) (by decide) rfl (fun x5 => ?_)
    refine r_goto (pc := 1752) (tgt := 18) X dL_law_1752 (by decide) ?_
    refine r_sub [1, 2, 3, 0] rfl ?_
    exact hK18 x5 σ4
  · refine r_iconst (pc := 1517) X dL_law_1517 kc_0 ?_
    exact r_none rfl

set_option maxRecDepth 100000 in
theorem s_L_law_j1519 {y : LY} {l : Launch} {E : ET} {b L : Nat} {xs : Nat → Int32} (X : CX y l E cL_law 4 RL room_1) (LLX : LX y E b L xs) (hy : y.1 ≤ (eS E).heap.size) {K18 : Int32 → ST → Option Unit} (hK18 : ∀ (v3 : Int32) (σ : ST), WW y l E 4 (fun _ : Unit => lw_Z (eB E) (eA E) (eS E)) 18 [(0, .ref b), (1, .ref (ad y 0)), (2, .ref (ad y 13)), (3, .int v3)] [] σ (K18 v3 σ)) (v3 : Int32) (σ : ST) : WW y l E 4 (fun _ : Unit => lw_Z (eB E) (eA E) (eS E)) 1519 [(0, .ref b), (1, .ref (ad y 0)), (2, .ref (ad y 13)), (3, .int v3)] [] σ (T_L_law_j1519 xs L K18 v3 σ) := by
  unfold T_L_law_j1519
  refine r_aload_n (pc := 1519) X dL_law_1519 1 rfl rfl ?_
  refine r_callvI (pc := 1520) X dL_law_1520 cf_X2_gathering ml_L_178 (rfL rfl rfl) hy oc_0.1 hc_2 (fun b hb => m_X2_gathering hb) rfl rfl (Nat.le_of_ble_eq_true rfl) (fun x1 σ2 => ?_)
  refine r_aload_n (pc := 1523) X dL_law_1523 2 rfl rfl ?_
  refine r_callvI (pc := 1524) X dL_law_1524 cf_X3_gathering ml_L_181 (rfL rfl rfl) hy oc_13.1 hc_3 (fun b hb => m_X3_gathering hb) rfl rfl (Nat.le_of_ble_eq_true rfl) (fun x3 σ4 => ?_)
  refine r_icmp_eq (pc := 1527) (tgt := 1749) X dL_law_1527 (by decide) ?_ ?_
  · refine r_iinc (pc := 1749) (lv' := [(0, .ref _), (1, .ref _), (2, .ref _)]) X dL_law_1749 3 rfl (congrArg (fun z => v3 + z) kc_6) (by decide) rfl (fun x5 => ?_)
    refine r_goto (pc := 1752) (tgt := 18) X dL_law_1752 (by decide) ?_
    refine r_sub [1, 2, 3, 0] rfl ?_
    exact hK18 x5 σ4
  · refine r_iconst (pc := 1530) X dL_law_1530 kc_0 ?_
    exact r_none rfl

set_option maxRecDepth 100000 in
theorem s_L_law_j1532 {y : LY} {l : Launch} {E : ET} {b L : Nat} {xs : Nat → Int32} (X : CX y l E cL_law 4 RL room_1) (LLX : LX y E b L xs) (hy : y.1 ≤ (eS E).heap.size) {K18 : Int32 → ST → Option Unit} (hK18 : ∀ (v3 : Int32) (σ : ST), WW y l E 4 (fun _ : Unit => lw_Z (eB E) (eA E) (eS E)) 18 [(0, .ref b), (1, .ref (ad y 0)), (2, .ref (ad y 13)), (3, .int v3)] [] σ (K18 v3 σ)) (v3 : Int32) (σ : ST) : WW y l E 4 (fun _ : Unit => lw_Z (eB E) (eA E) (eS E)) 1532 [(0, .ref b), (1, .ref (ad y 0)), (2, .ref (ad y 13)), (3, .int v3)] [] σ (T_L_law_j1532 xs L K18 v3 σ) := by
  unfold T_L_law_j1532
  refine r_aload_n (pc := 1532) X dL_law_1532 1 rfl rfl ?_
  refine r_aload_n (pc := 1533) X dL_law_1533 0 rfl rfl ?_
  refine r_iload_n (pc := 1534) X dL_law_1534 3 rfl rfl ?_
  refine r_iconst (pc := 1535) X dL_law_1535 kc_1 ?_
  refine r_iadd (pc := 1536) X dL_law_1536 ?_
  refine r_sld (pc := 1537) X dL_law_1537 LLX (fun x1 => ?_)
  refine r_aload_n (pc := 1538) X dL_law_1538 0 rfl rfl ?_
  refine r_iload_n (pc := 1539) X dL_law_1539 3 rfl rfl ?_
  refine r_iconst (pc := 1540) X dL_law_1540 kc_2 ?_
  refine r_iadd (pc := 1541) X dL_law_1541 ?_
  refine r_sld (pc := 1542) X dL_law_1542 LLX (fun x2 => ?_)
  refine r_callvI (pc := 1543) X dL_law_1543 cf_X2_bestHabit ml_L_182 (rfL rfl rfl) hy oc_0.1 hc_2 (fun b hb => m_X2_bestHabit hb) rfl rfl (Nat.le_of_ble_eq_true rfl) (fun x3 σ4 => ?_)
  refine r_aload_n (pc := 1546) X dL_law_1546 2 rfl rfl ?_
  refine r_aload_n (pc := 1547) X dL_law_1547 0 rfl rfl ?_
  refine r_iload_n (pc := 1548) X dL_law_1548 3 rfl rfl ?_
  refine r_iconst (pc := 1549) X dL_law_1549 kc_1 ?_
  refine r_iadd (pc := 1550) X dL_law_1550 ?_
  refine r_sld (pc := 1551) X dL_law_1551 LLX (fun x5 => ?_)
  refine r_aload_n (pc := 1552) X dL_law_1552 0 rfl rfl ?_
  refine r_iload_n (pc := 1553) X dL_law_1553 3 rfl rfl ?_
  refine r_iconst (pc := 1554) X dL_law_1554 kc_2 ?_
  refine r_iadd (pc := 1555) X dL_law_1555 ?_
  refine r_sld (pc := 1556) X dL_law_1556 LLX (fun x6 => ?_)
  refine r_callvI (pc := 1557) X dL_law_1557 cf_X3_bestHabit ml_L_185 (rfL rfl rfl) hy oc_13.1 hc_3 (fun b hb => m_X3_bestHabit hb) rfl rfl (Nat.le_of_ble_eq_true rfl) (fun x7 σ8 => ?_)
  refine r_icmp_eq (pc := 1560) (tgt := 1749) X dL_law_1560 (by decide) ?_ ?_
  · refine r_iinc (pc := 1749) (lv' := [(0, .ref _), (1, .ref _), (2, .ref _)]) X dL_law_1749 3 rfl (congrArg (fun z => v3 + z) kc_6) (by decide) rfl (fun x9 => ?_)
    refine r_goto (pc := 1752) (tgt := 18) X dL_law_1752 (by decide) ?_
    refine r_sub [1, 2, 3, 0] rfl ?_
    exact hK18 x9 σ8
  · refine r_iconst (pc := 1563) X dL_law_1563 kc_0 ?_
    exact r_none rfl

set_option maxRecDepth 100000 in
theorem s_L_law_j1565 {y : LY} {l : Launch} {E : ET} {b L : Nat} {xs : Nat → Int32} (X : CX y l E cL_law 4 RL room_1) (LLX : LX y E b L xs) (hy : y.1 ≤ (eS E).heap.size) {K18 : Int32 → ST → Option Unit} (hK18 : ∀ (v3 : Int32) (σ : ST), WW y l E 4 (fun _ : Unit => lw_Z (eB E) (eA E) (eS E)) 18 [(0, .ref b), (1, .ref (ad y 0)), (2, .ref (ad y 13)), (3, .int v3)] [] σ (K18 v3 σ)) (v3 : Int32) (σ : ST) : WW y l E 4 (fun _ : Unit => lw_Z (eB E) (eA E) (eS E)) 1565 [(0, .ref b), (1, .ref (ad y 0)), (2, .ref (ad y 13)), (3, .int v3)] [] σ (T_L_law_j1565 xs L K18 v3 σ) := by
  unfold T_L_law_j1565
  refine r_aload_n (pc := 1565) X dL_law_1565 1 rfl rfl ?_
  refine r_aload_n (pc := 1566) X dL_law_1566 0 rfl rfl ?_
  refine r_iload_n (pc := 1567) X dL_law_1567 3 rfl rfl ?_
  refine r_iconst (pc := 1568) X dL_law_1568 kc_1 ?_
  refine r_iadd (pc := 1569) X dL_law_1569 ?_
  refine r_sld (pc := 1570) X dL_law_1570 LLX (fun x1 => ?_)
  refine r_aload_n (pc := 1571) X dL_law_1571 0 rfl rfl ?_
  refine r_iload_n (pc := 1572) X dL_law_1572 3 rfl rfl ?_
  refine r_iconst (pc := 1573) X dL_law_1573 kc_2 ?_
  refine r_iadd (pc := 1574) X dL_law_1574 ?_
  refine r_sld (pc := 1575) X dL_law_1575 LLX (fun x2 => ?_)
  refine r_callvI (pc := 1576) X dL_law_1576 cf_X2_farthest ml_L_186 (rfL rfl rfl) hy oc_0.1 hc_2 (fun b hb => m_X2_farthest hb) rfl rfl (Nat.le_of_ble_eq_true rfl) (fun x3 σ4 => ?_)
  refine r_aload_n (pc := 1579) X dL_law_1579 2 rfl rfl ?_
  refine r_aload_n (pc := 1580) X dL_law_1580 0 rfl rfl ?_
  refine r_iload_n (pc := 1581) X dL_law_1581 3 rfl rfl ?_
  refine r_iconst (pc := 1582) X dL_law_1582 kc_1 ?_
  refine r_iadd (pc := 1583) X dL_law_1583 ?_
  refine r_sld (pc := 1584) X dL_law_1584 LLX (fun x5 => ?_)
  refine r_aload_n (pc := 1585) X dL_law_1585 0 rfl rfl ?_
  refine r_iload_n (pc := 1586) X dL_law_1586 3 rfl rfl ?_
  refine r_iconst (pc := 1587) X dL_law_1587 kc_2 ?_
  refine r_iadd (pc := 1588) X dL_law_1588 ?_
  refine r_sld (pc := 1589) X dL_law_1589 LLX (fun x6 => ?_)
  refine r_callvI (pc := 1590) X dL_law_1590 cf_X3_farthest ml_L_189 (rfL rfl rfl) hy oc_13.1 hc_3 (fun b hb => m_X3_farthest hb) rfl rfl (Nat.le_of_ble_eq_true rfl) (fun x7 σ8 => ?_)
  refine r_icmp_eq (pc := 1593) (tgt := 1749) X dL_law_1593 (by decide) ?_ ?_
  · refine r_iinc (pc := 1749) (lv' := [(0, .ref _), (1, .ref _), (2, .ref _)]) X dL_law_1749 3 rfl (congrArg (fun z => v3 + z) kc_6) (by decide) rfl (fun x9 => ?_)
    refine r_goto (pc := 1752) (tgt := 18) X dL_law_1752 (by decide) ?_
    refine r_sub [1, 2, 3, 0] rfl ?_
    exact hK18 x9 σ8
  · refine r_iconst (pc := 1596) X dL_law_1596 kc_0 ?_
    exact r_none rfl

set_option maxRecDepth 100000 in
theorem s_L_law_j1598 {y : LY} {l : Launch} {E : ET} {b L : Nat} {xs : Nat → Int32} (X : CX y l E cL_law 4 RL room_1) (LLX : LX y E b L xs) (hy : y.1 ≤ (eS E).heap.size) {K18 : Int32 → ST → Option Unit} (hK18 : ∀ (v3 : Int32) (σ : ST), WW y l E 4 (fun _ : Unit => lw_Z (eB E) (eA E) (eS E)) 18 [(0, .ref b), (1, .ref (ad y 0)), (2, .ref (ad y 13)), (3, .int v3)] [] σ (K18 v3 σ)) (v3 : Int32) (σ : ST) : WW y l E 4 (fun _ : Unit => lw_Z (eB E) (eA E) (eS E)) 1598 [(0, .ref b), (1, .ref (ad y 0)), (2, .ref (ad y 13)), (3, .int v3)] [] σ (T_L_law_j1598 xs L K18 v3 σ) := by
  unfold T_L_law_j1598
  refine r_aload_n (pc := 1598) X dL_law_1598 1 rfl rfl ?_
  refine r_aload_n (pc := 1599) X dL_law_1599 0 rfl rfl ?_
  refine r_iload_n (pc := 1600) X dL_law_1600 3 rfl rfl ?_
  refine r_iconst (pc := 1601) X dL_law_1601 kc_1 ?_
  refine r_iadd (pc := 1602) X dL_law_1602 ?_
  refine r_sld (pc := 1603) X dL_law_1603 LLX (fun x1 => ?_)
  refine r_callvI (pc := 1604) X dL_law_1604 cf_X2_row ml_L_190 (rfL rfl rfl) hy oc_0.1 hc_2 (fun b hb => m_X2_row hb) rfl rfl (Nat.le_of_ble_eq_true rfl) (fun x2 σ3 => ?_)
  refine r_aload_n (pc := 1607) X dL_law_1607 2 rfl rfl ?_
  refine r_aload_n (pc := 1608) X dL_law_1608 0 rfl rfl ?_
  refine r_iload_n (pc := 1609) X dL_law_1609 3 rfl rfl ?_
  refine r_iconst (pc := 1610) X dL_law_1610 kc_1 ?_
  refine r_iadd (pc := 1611) X dL_law_1611 ?_
  refine r_sld (pc := 1612) X dL_law_1612 LLX (fun x4 => ?_)
  refine r_callvI (pc := 1613) X dL_law_1613 cf_X3_row ml_L_193 (rfL rfl rfl) hy oc_13.1 hc_3 (fun b hb => m_X3_row hb) rfl rfl (Nat.le_of_ble_eq_true rfl) (fun x5 σ6 => ?_)
  refine r_icmp_eq (pc := 1616) (tgt := 1749) X dL_law_1616 (by decide) ?_ ?_
  · refine r_iinc (pc := 1749) (lv' := [(0, .ref _), (1, .ref _), (2, .ref _)]) X dL_law_1749 3 rfl (congrArg (fun z => v3 + z) kc_6) (by decide) rfl (fun x7 => ?_)
    refine r_goto (pc := 1752) (tgt := 18) X dL_law_1752 (by decide) ?_
    refine r_sub [1, 2, 3, 0] rfl ?_
    exact hK18 x7 σ6
  · refine r_iconst (pc := 1619) X dL_law_1619 kc_0 ?_
    exact r_none rfl

set_option maxRecDepth 100000 in
theorem s_L_law_j1621 {y : LY} {l : Launch} {E : ET} {b L : Nat} {xs : Nat → Int32} (X : CX y l E cL_law 4 RL room_1) (LLX : LX y E b L xs) (hy : y.1 ≤ (eS E).heap.size) {K18 : Int32 → ST → Option Unit} (hK18 : ∀ (v3 : Int32) (σ : ST), WW y l E 4 (fun _ : Unit => lw_Z (eB E) (eA E) (eS E)) 18 [(0, .ref b), (1, .ref (ad y 0)), (2, .ref (ad y 13)), (3, .int v3)] [] σ (K18 v3 σ)) (v3 : Int32) (σ : ST) : WW y l E 4 (fun _ : Unit => lw_Z (eB E) (eA E) (eS E)) 1621 [(0, .ref b), (1, .ref (ad y 0)), (2, .ref (ad y 13)), (3, .int v3)] [] σ (T_L_law_j1621 xs L K18 v3 σ) := by
  unfold T_L_law_j1621
  refine r_aload_n (pc := 1621) X dL_law_1621 1 rfl rfl ?_
  refine r_aload_n (pc := 1622) X dL_law_1622 0 rfl rfl ?_
  refine r_iload_n (pc := 1623) X dL_law_1623 3 rfl rfl ?_
  refine r_iconst (pc := 1624) X dL_law_1624 kc_1 ?_
  refine r_iadd (pc := 1625) X dL_law_1625 ?_
  refine r_sld (pc := 1626) X dL_law_1626 LLX (fun x1 => ?_)
  refine r_callvI (pc := 1627) X dL_law_1627 cf_X2_judge ml_L_194 (rfL rfl rfl) hy oc_0.1 hc_2 (fun b hb => m_X2_judge hb) rfl rfl (Nat.le_of_ble_eq_true rfl) (fun x2 σ3 => ?_)
  refine r_aload_n (pc := 1630) X dL_law_1630 2 rfl rfl ?_
  refine r_aload_n (pc := 1631) X dL_law_1631 0 rfl rfl ?_
  refine r_iload_n (pc := 1632) X dL_law_1632 3 rfl rfl ?_
  refine r_iconst (pc := 1633) X dL_law_1633 kc_1 ?_
  refine r_iadd (pc := 1634) X dL_law_1634 ?_
  refine r_sld (pc := 1635) X dL_law_1635 LLX (fun x4 => ?_)
  refine r_callvI (pc := 1636) X dL_law_1636 cf_X3_judge ml_L_197 (rfL rfl rfl) hy oc_13.1 hc_3 (fun b hb => m_X3_judge hb) rfl rfl (Nat.le_of_ble_eq_true rfl) (fun x5 σ6 => ?_)
  refine r_icmp_eq (pc := 1639) (tgt := 1749) X dL_law_1639 (by decide) ?_ ?_
  · refine r_iinc (pc := 1749) (lv' := [(0, .ref _), (1, .ref _), (2, .ref _)]) X dL_law_1749 3 rfl (congrArg (fun z => v3 + z) kc_6) (by decide) rfl (fun x7 => ?_)
    refine r_goto (pc := 1752) (tgt := 18) X dL_law_1752 (by decide) ?_
    refine r_sub [1, 2, 3, 0] rfl ?_
    exact hK18 x7 σ6
  · refine r_iconst (pc := 1642) X dL_law_1642 kc_0 ?_
    exact r_none rfl

set_option maxRecDepth 100000 in
theorem s_L_law_j1644 {y : LY} {l : Launch} {E : ET} {b L : Nat} {xs : Nat → Int32} (X : CX y l E cL_law 4 RL room_1) (LLX : LX y E b L xs) (hy : y.1 ≤ (eS E).heap.size) {K18 : Int32 → ST → Option Unit} (hK18 : ∀ (v3 : Int32) (σ : ST), WW y l E 4 (fun _ : Unit => lw_Z (eB E) (eA E) (eS E)) 18 [(0, .ref b), (1, .ref (ad y 0)), (2, .ref (ad y 13)), (3, .int v3)] [] σ (K18 v3 σ)) (v3 : Int32) (σ : ST) : WW y l E 4 (fun _ : Unit => lw_Z (eB E) (eA E) (eS E)) 1644 [(0, .ref b), (1, .ref (ad y 0)), (2, .ref (ad y 13)), (3, .int v3)] [] σ (T_L_law_j1644 xs L K18 v3 σ) := by
  unfold T_L_law_j1644
  refine r_aload_n (pc := 1644) X dL_law_1644 1 rfl rfl ?_
  refine r_callvI (pc := 1645) X dL_law_1645 cf_X2_clear ml_L_198 (rfL rfl rfl) hy oc_0.1 hc_2 (fun b hb => m_X2_clear hb) rfl rfl (Nat.le_of_ble_eq_true rfl) (fun x1 σ2 => ?_)
  refine r_aload_n (pc := 1648) X dL_law_1648 2 rfl rfl ?_
  refine r_callvI (pc := 1649) X dL_law_1649 cf_X3_clear ml_L_201 (rfL rfl rfl) hy oc_13.1 hc_3 (fun b hb => m_X3_clear hb) rfl rfl (Nat.le_of_ble_eq_true rfl) (fun x3 σ4 => ?_)
  refine r_icmp_eq (pc := 1652) (tgt := 1749) X dL_law_1652 (by decide) ?_ ?_
  · refine r_iinc (pc := 1749) (lv' := [(0, .ref _), (1, .ref _), (2, .ref _)]) X dL_law_1749 3 rfl (congrArg (fun z => v3 + z) kc_6) (by decide) rfl (fun x5 => ?_)
    refine r_goto (pc := 1752) (tgt := 18) X dL_law_1752 (by decide) ?_
    refine r_sub [1, 2, 3, 0] rfl ?_
    exact hK18 x5 σ4
  · refine r_iconst (pc := 1655) X dL_law_1655 kc_0 ?_
    exact r_none rfl

set_option maxRecDepth 100000 in
theorem s_L_law_j1657 {y : LY} {l : Launch} {E : ET} {b L : Nat} {xs : Nat → Int32} (X : CX y l E cL_law 4 RL room_1) (LLX : LX y E b L xs) (hy : y.1 ≤ (eS E).heap.size) {K18 : Int32 → ST → Option Unit} (hK18 : ∀ (v3 : Int32) (σ : ST), WW y l E 4 (fun _ : Unit => lw_Z (eB E) (eA E) (eS E)) 18 [(0, .ref b), (1, .ref (ad y 0)), (2, .ref (ad y 13)), (3, .int v3)] [] σ (K18 v3 σ)) (v3 : Int32) (σ : ST) : WW y l E 4 (fun _ : Unit => lw_Z (eB E) (eA E) (eS E)) 1657 [(0, .ref b), (1, .ref (ad y 0)), (2, .ref (ad y 13)), (3, .int v3)] [] σ (T_L_law_j1657 xs L K18 v3 σ) := by
  unfold T_L_law_j1657
  refine r_aload_n (pc := 1657) X dL_law_1657 1 rfl rfl ?_
  refine r_aload_n (pc := 1658) X dL_law_1658 0 rfl rfl ?_
  refine r_iload_n (pc := 1659) X dL_law_1659 3 rfl rfl ?_
  refine r_iconst (pc := 1660) X dL_law_1660 kc_1 ?_
  refine r_iadd (pc := 1661) X dL_law_1661 ?_
  refine r_sld (pc := 1662) X dL_law_1662 LLX (fun x1 => ?_)
  refine r_aload_n (pc := 1663) X dL_law_1663 0 rfl rfl ?_
  refine r_iload_n (pc := 1664) X dL_law_1664 3 rfl rfl ?_
  refine r_iconst (pc := 1665) X dL_law_1665 kc_2 ?_
  refine r_iadd (pc := 1666) X dL_law_1666 ?_
  refine r_sld (pc := 1667) X dL_law_1667 LLX (fun x2 => ?_)
  refine r_aload_n (pc := 1668) X dL_law_1668 0 rfl rfl ?_
  refine r_iload_n (pc := 1669) X dL_law_1669 3 rfl rfl ?_
  refine r_iconst (pc := 1670) X dL_law_1670 kc_3 ?_
  refine r_iadd (pc := 1671) X dL_law_1671 ?_
  refine r_sld (pc := 1672) X dL_law_1672 LLX (fun x3 => ?_)
  refine r_callvI (pc := 1673) X dL_law_1673 cf_X2_lots ml_L_202 (rfL rfl rfl) hy oc_0.1 hc_2 (fun b hb => m_X2_lots hb) rfl rfl (Nat.le_of_ble_eq_true rfl) (fun x4 σ5 => ?_)
  refine r_aload_n (pc := 1676) X dL_law_1676 2 rfl rfl ?_
  refine r_aload_n (pc := 1677) X dL_law_1677 0 rfl rfl ?_
  refine r_iload_n (pc := 1678) X dL_law_1678 3 rfl rfl ?_
  refine r_iconst (pc := 1679) X dL_law_1679 kc_1 ?_
  refine r_iadd (pc := 1680) X dL_law_1680 ?_
  refine r_sld (pc := 1681) X dL_law_1681 LLX (fun x6 => ?_)
  refine r_aload_n (pc := 1682) X dL_law_1682 0 rfl rfl ?_
  refine r_iload_n (pc := 1683) X dL_law_1683 3 rfl rfl ?_
  refine r_iconst (pc := 1684) X dL_law_1684 kc_2 ?_
  refine r_iadd (pc := 1685) X dL_law_1685 ?_
  refine r_sld (pc := 1686) X dL_law_1686 LLX (fun x7 => ?_)
  refine r_aload_n (pc := 1687) X dL_law_1687 0 rfl rfl ?_
  refine r_iload_n (pc := 1688) X dL_law_1688 3 rfl rfl ?_
  refine r_iconst (pc := 1689) X dL_law_1689 kc_3 ?_
  refine r_iadd (pc := 1690) X dL_law_1690 ?_
  refine r_sld (pc := 1691) X dL_law_1691 LLX (fun x8 => ?_)
  refine r_callvI (pc := 1692) X dL_law_1692 cf_X3_lots ml_L_205 (rfL rfl rfl) hy oc_13.1 hc_3 (fun b hb => m_X3_lots hb) rfl rfl (Nat.le_of_ble_eq_true rfl) (fun x9 σ10 => ?_)
  refine r_icmp_eq (pc := 1695) (tgt := 1749) X dL_law_1695 (by decide) ?_ ?_
  · refine r_iinc (pc := 1749) (lv' := [(0, .ref _), (1, .ref _), (2, .ref _)]) X dL_law_1749 3 rfl (congrArg (fun z => v3 + z) kc_6) (by decide) rfl (fun x11 => ?_)
    refine r_goto (pc := 1752) (tgt := 18) X dL_law_1752 (by decide) ?_
    refine r_sub [1, 2, 3, 0] rfl ?_
    exact hK18 x11 σ10
  · refine r_iconst (pc := 1698) X dL_law_1698 kc_0 ?_
    exact r_none rfl

set_option maxRecDepth 100000 in
theorem s_L_law_j1700 {y : LY} {l : Launch} {E : ET} {b L : Nat} {xs : Nat → Int32} (X : CX y l E cL_law 4 RL room_1) (LLX : LX y E b L xs) (hy : y.1 ≤ (eS E).heap.size) {K18 : Int32 → ST → Option Unit} (hK18 : ∀ (v3 : Int32) (σ : ST), WW y l E 4 (fun _ : Unit => lw_Z (eB E) (eA E) (eS E)) 18 [(0, .ref b), (1, .ref (ad y 0)), (2, .ref (ad y 13)), (3, .int v3)] [] σ (K18 v3 σ)) (v3 : Int32) (σ : ST) : WW y l E 4 (fun _ : Unit => lw_Z (eB E) (eA E) (eS E)) 1700 [(0, .ref b), (1, .ref (ad y 0)), (2, .ref (ad y 13)), (3, .int v3)] [] σ (T_L_law_j1700 xs L K18 v3 σ) := by
  unfold T_L_law_j1700
  refine r_aload_n (pc := 1700) X dL_law_1700 1 rfl rfl ?_
  refine r_callvI (pc := 1701) X dL_law_1701 cf_X2_image ml_L_206 (rfL rfl rfl) hy oc_0.1 hc_2 (fun b hb => m_X2_image hb) rfl rfl (Nat.le_of_ble_eq_true rfl) (fun x1 σ2 => ?_)
  refine r_aload_n (pc := 1704) X dL_law_1704 2 rfl rfl ?_
  refine r_callvI (pc := 1705) X dL_law_1705 cf_X3_image ml_L_209 (rfL rfl rfl) hy oc_13.1 hc_3 (fun b hb => m_X3_image hb) rfl rfl (Nat.le_of_ble_eq_true rfl) (fun x3 σ4 => ?_)
  refine r_icmp_eq (pc := 1708) (tgt := 1749) X dL_law_1708 (by decide) ?_ ?_
  · refine r_iinc (pc := 1749) (lv' := [(0, .ref _), (1, .ref _), (2, .ref _)]) X dL_law_1749 3 rfl (congrArg (fun z => v3 + z) kc_6) (by decide) rfl (fun x5 => ?_)
    refine r_goto (pc := 1752) (tgt := 18) X dL_law_1752 (by decide) ?_
    refine r_sub [1, 2, 3, 0] rfl ?_
    exact hK18 x5 σ4
  · refine r_iconst (pc := 1711) X dL_law_1711 kc_0 ?_
    exact r_none rfl

set_option maxRecDepth 100000 in
theorem s_L_law_j1713 {y : LY} {l : Launch} {E : ET} {b L : Nat} {xs : Nat → Int32} (X : CX y l E cL_law 4 RL room_1) (LLX : LX y E b L xs) (hy : y.1 ≤ (eS E).heap.size) {K18 : Int32 → ST → Option Unit} (hK18 : ∀ (v3 : Int32) (σ : ST), WW y l E 4 (fun _ : Unit => lw_Z (eB E) (eA E) (eS E)) 18 [(0, .ref b), (1, .ref (ad y 0)), (2, .ref (ad y 13)), (3, .int v3)] [] σ (K18 v3 σ)) (v3 : Int32) (σ : ST) : WW y l E 4 (fun _ : Unit => lw_Z (eB E) (eA E) (eS E)) 1713 [(0, .ref b), (1, .ref (ad y 0)), (2, .ref (ad y 13)), (3, .int v3)] [] σ (T_L_law_j1713 xs L K18 v3 σ) := by
  unfold T_L_law_j1713
  refine r_aload_n (pc := 1713) X dL_law_1713 1 rfl rfl ?_
  refine r_callvI (pc := 1714) X dL_law_1714 cf_X2_restore ml_L_210 (rfL rfl rfl) hy oc_0.1 hc_2 (fun b hb => m_X2_restore hb) rfl rfl (Nat.le_of_ble_eq_true rfl) (fun x1 σ2 => ?_)
  refine r_aload_n (pc := 1717) X dL_law_1717 2 rfl rfl ?_
  refine r_callvI (pc := 1718) X dL_law_1718 cf_X3_restore ml_L_213 (rfL rfl rfl) hy oc_13.1 hc_3 (fun b hb => m_X3_restore hb) rfl rfl (Nat.le_of_ble_eq_true rfl) (fun x3 σ4 => ?_)
  refine r_icmp_eq (pc := 1721) (tgt := 1749) X dL_law_1721 (by decide) ?_ ?_
  · refine r_iinc (pc := 1749) (lv' := [(0, .ref _), (1, .ref _), (2, .ref _)]) X dL_law_1749 3 rfl (congrArg (fun z => v3 + z) kc_6) (by decide) rfl (fun x5 => ?_)
    refine r_goto (pc := 1752) (tgt := 18) X dL_law_1752 (by decide) ?_
    refine r_sub [1, 2, 3, 0] rfl ?_
    exact hK18 x5 σ4
  · refine r_iconst (pc := 1724) X dL_law_1724 kc_0 ?_
    exact r_none rfl

set_option maxRecDepth 100000 in
theorem s_L_law_j1726 {y : LY} {l : Launch} {E : ET} {b L : Nat} {xs : Nat → Int32} (X : CX y l E cL_law 4 RL room_1) (LLX : LX y E b L xs) (hy : y.1 ≤ (eS E).heap.size) {K18 : Int32 → ST → Option Unit} (hK18 : ∀ (v3 : Int32) (σ : ST), WW y l E 4 (fun _ : Unit => lw_Z (eB E) (eA E) (eS E)) 18 [(0, .ref b), (1, .ref (ad y 0)), (2, .ref (ad y 13)), (3, .int v3)] [] σ (K18 v3 σ)) (v3 : Int32) (σ : ST) : WW y l E 4 (fun _ : Unit => lw_Z (eB E) (eA E) (eS E)) 1726 [(0, .ref b), (1, .ref (ad y 0)), (2, .ref (ad y 13)), (3, .int v3)] [] σ (T_L_law_j1726 xs L K18 v3 σ) := by
  unfold T_L_law_j1726
  refine r_aload_n (pc := 1726) X dL_law_1726 1 rfl rfl ?_
  refine r_aload_n (pc := 1727) X dL_law_1727 0 rfl rfl ?_
  refine r_iload_n (pc := 1728) X dL_law_1728 3 rfl rfl ?_
  refine r_iconst (pc := 1729) X dL_law_1729 kc_1 ?_
  refine r_iadd (pc := 1730) X dL_law_1730 ?_
  refine r_sld (pc := 1731) X dL_law_1731 LLX (fun x1 => ?_)
  refine r_callvp (pc := 1732) X dL_law_1732 cf_X2_count ml_L_214 (rfL rfl rfl) hy oc_0.1 hc_2 (fun b hb => m_X2_count hb) rfl rfl (Nat.le_of_ble_eq_true rfl) (fun x2 => ?_)
  refine r_aload_n (pc := 1735) X dL_law_1735 2 rfl rfl ?_
  refine r_aload_n (pc := 1736) X dL_law_1736 0 rfl rfl ?_
  refine r_iload_n (pc := 1737) X dL_law_1737 3 rfl rfl ?_
  refine r_iconst (pc := 1738) X dL_law_1738 kc_1 ?_
  refine r_iadd (pc := 1739) X dL_law_1739 ?_
  refine r_sld (pc := 1740) X dL_law_1740 LLX (fun x4 => ?_)
  refine r_callvp (pc := 1741) X dL_law_1741 cf_X3_count ml_L_217 (rfL rfl rfl) hy oc_13.1 hc_3 (fun b hb => m_X3_count hb) rfl rfl (Nat.le_of_ble_eq_true rfl) (fun x5 => ?_)
  refine r_icmp_eq (pc := 1744) (tgt := 1749) X dL_law_1744 (by decide) ?_ ?_
  · refine r_iinc (pc := 1749) (lv' := [(0, .ref _), (1, .ref _), (2, .ref _)]) X dL_law_1749 3 rfl (congrArg (fun z => v3 + z) kc_6) (by decide) rfl (fun x7 => ?_)
    refine r_goto (pc := 1752) (tgt := 18) X dL_law_1752 (by decide) ?_
    refine r_sub [1, 2, 3, 0] rfl ?_
    exact hK18 x7 σ
  · refine r_iconst (pc := 1747) X dL_law_1747 kc_0 ?_
    exact r_none rfl

set_option maxRecDepth 100000 in
set_option maxHeartbeats 4000000 in
theorem s_L_law_L18 {y : LY} {l : Launch} {E : ET} {b L : Nat} {xs : Nat → Int32} (X : CX y l E cL_law 4 RL room_1) (LLX : LX y E b L xs) (hy : y.1 ≤ (eS E).heap.size) (n : Nat) : ∀ (v3 : Int32) (σ : ST), WW y l E 4 (fun _ : Unit => lw_Z (eB E) (eA E) (eS E)) 18 [(0, .ref b), (1, .ref (ad y 0)), (2, .ref (ad y 13)), (3, .int v3)] [] σ (T_L_law_L18 xs L n v3 σ) := by
  induction n with
  | zero => intros; exact r_none rfl
  | succ n ih =>
    intro v3 σ
    unfold T_L_law_L18
    refine r_iload_n (pc := 18) X dL_law_18 3 rfl rfl ?_
    refine r_aload_n (pc := 19) X dL_law_19 0 rfl rfl ?_
    refine r_slen (pc := 20) X dL_law_20 LLX ?_
    refine r_bipush (pc := 21) X dL_law_21 kb_6 ?_
    refine r_isub (pc := 23) X dL_law_23 ?_
    refine r_icmp_gt (pc := 24) (tgt := 1755) X dL_law_24 (by decide) ?_ ?_
    · refine r_iconst (pc := 1755) X dL_law_1755 kc_1 ?_
      exact r_lawret (pc := 1756) X LLX dL_law_1756
    · refine r_aload_n (pc := 27) X dL_law_27 0 rfl rfl ?_
      refine r_iload_n (pc := 28) X dL_law_28 3 rfl rfl ?_
      refine r_sld (pc := 29) X dL_law_29 LLX (fun x1 => ?_)
      refine r_bipush (pc := 30) X dL_law_30 kb_63 ?_
      refine r_iand (pc := 32) X dL_law_32 ?_
      refine r_ite (fun h0 => ?_) (fun h0 => ?_)
      · refine r_tabIn (pc := 33) (tgt := 248) (off := 215) X dL_law_33 h0 (by decide) (by decide) (by decide) (by decide) ?_
        exact s_L_law_j248 X LLX hy (fun v3 s => ih v3 s) v3 σ
      · refine r_ite (fun h1 => ?_) (fun h1 => ?_)
        · refine r_tabIn (pc := 33) (tgt := 271) (off := 238) X dL_law_33 h1 (by decide) (by decide) (by decide) (by decide) ?_
          exact s_L_law_j271 X LLX hy (fun v3 s => ih v3 s) v3 σ
        · refine r_ite (fun h2 => ?_) (fun h2 => ?_)
          · refine r_tabIn (pc := 33) (tgt := 284) (off := 251) X dL_law_33 h2 (by decide) (by decide) (by decide) (by decide) ?_
            exact s_L_law_j284 X LLX hy (fun v3 s => ih v3 s) v3 σ
          · refine r_ite (fun h3 => ?_) (fun h3 => ?_)
            · refine r_tabIn (pc := 33) (tgt := 317) (off := 284) X dL_law_33 h3 (by decide) (by decide) (by decide) (by decide) ?_
              exact s_L_law_j317 X LLX hy (fun v3 s => ih v3 s) v3 σ
            · refine r_ite (fun h4 => ?_) (fun h4 => ?_)
              · refine r_tabIn (pc := 33) (tgt := 350) (off := 317) X dL_law_33 h4 (by decide) (by decide) (by decide) (by decide) ?_
                exact s_L_law_j350 X LLX hy (fun v3 s => ih v3 s) v3 σ
              · refine r_ite (fun h5 => ?_) (fun h5 => ?_)
                · refine r_tabIn (pc := 33) (tgt := 393) (off := 360) X dL_law_33 h5 (by decide) (by decide) (by decide) (by decide) ?_
                  exact s_L_law_j393 X LLX hy (fun v3 s => ih v3 s) v3 σ
                · refine r_ite (fun h6 => ?_) (fun h6 => ?_)
                  · refine r_tabIn (pc := 33) (tgt := 436) (off := 403) X dL_law_33 h6 (by decide) (by decide) (by decide) (by decide) ?_
                    exact s_L_law_j436 X LLX hy (fun v3 s => ih v3 s) v3 σ
                  · refine r_ite (fun h7 => ?_) (fun h7 => ?_)
                    · refine r_tabIn (pc := 33) (tgt := 469) (off := 436) X dL_law_33 h7 (by decide) (by decide) (by decide) (by decide) ?_
                      exact s_L_law_j469 X LLX hy (fun v3 s => ih v3 s) v3 σ
                    · refine r_ite (fun h8 => ?_) (fun h8 => ?_)
                      · refine r_tabIn (pc := 33) (tgt := 502) (off := 469) X dL_law_33 h8 (by decide) (by decide) (by decide) (by decide) ?_
                        exact s_L_law_j502 X LLX hy (fun v3 s => ih v3 s) v3 σ
                      · refine r_ite (fun h9 => ?_) (fun h9 => ?_)
                        · refine r_tabIn (pc := 33) (tgt := 535) (off := 502) X dL_law_33 h9 (by decide) (by decide) (by decide) (by decide) ?_
                          exact s_L_law_j535 X LLX hy (fun v3 s => ih v3 s) v3 σ
                        · refine r_ite (fun h10 => ?_) (fun h10 => ?_)
                          · refine r_tabIn (pc := 33) (tgt := 568) (off := 535) X dL_law_33 h10 (by decide) (by decide) (by decide) (by decide) ?_
                            exact s_L_law_j568 X LLX hy (fun v3 s => ih v3 s) v3 σ
                          · refine r_ite (fun h11 => ?_) (fun h11 => ?_)
                            · refine r_tabIn (pc := 33) (tgt := 591) (off := 558) X dL_law_33 h11 (by decide) (by decide) (by decide) (by decide) ?_
                              exact s_L_law_j591 X LLX hy (fun v3 s => ih v3 s) v3 σ
                            · refine r_ite (fun h12 => ?_) (fun h12 => ?_)
                              · refine r_tabIn (pc := 33) (tgt := 614) (off := 581) X dL_law_33 h12 (by decide) (by decide) (by decide) (by decide) ?_
                                exact s_L_law_j614 X LLX hy (fun v3 s => ih v3 s) v3 σ
                              · refine r_ite (fun h13 => ?_) (fun h13 => ?_)
                                · refine r_tabIn (pc := 33) (tgt := 627) (off := 594) X dL_law_33 h13 (by decide) (by decide) (by decide) (by decide) ?_
                                  exact s_L_law_j627 X LLX hy (fun v3 s => ih v3 s) v3 σ
                                · refine r_ite (fun h14 => ?_) (fun h14 => ?_)
                                  · refine r_tabIn (pc := 33) (tgt := 670) (off := 637) X dL_law_33 h14 (by decide) (by decide) (by decide) (by decide) ?_
                                    exact s_L_law_j670 X LLX hy (fun v3 s => ih v3 s) v3 σ
                                  · refine r_ite (fun h15 => ?_) (fun h15 => ?_)
                                    · refine r_tabIn (pc := 33) (tgt := 703) (off := 670) X dL_law_33 h15 (by decide) (by decide) (by decide) (by decide) ?_
                                      exact s_L_law_j703 X LLX hy (fun v3 s => ih v3 s) v3 σ
                                    · refine r_ite (fun h16 => ?_) (fun h16 => ?_)
                                      · refine r_tabIn (pc := 33) (tgt := 736) (off := 703) X dL_law_33 h16 (by decide) (by decide) (by decide) (by decide) ?_
                                        exact s_L_law_j736 X LLX hy (fun v3 s => ih v3 s) v3 σ
                                      · refine r_ite (fun h17 => ?_) (fun h17 => ?_)
                                        · refine r_tabIn (pc := 33) (tgt := 759) (off := 726) X dL_law_33 h17 (by decide) (by decide) (by decide) (by decide) ?_
                                          exact s_L_law_j759 X LLX hy (fun v3 s => ih v3 s) v3 σ
                                        · refine r_ite (fun h18 => ?_) (fun h18 => ?_)
                                          · refine r_tabIn (pc := 33) (tgt := 792) (off := 759) X dL_law_33 h18 (by decide) (by decide) (by decide) (by decide) ?_
                                            exact s_L_law_j792 X LLX hy (fun v3 s => ih v3 s) v3 σ
                                          · refine r_ite (fun h19 => ?_) (fun h19 => ?_)
                                            · refine r_tabIn (pc := 33) (tgt := 835) (off := 802) X dL_law_33 h19 (by decide) (by decide) (by decide) (by decide) ?_
                                              exact s_L_law_j835 X LLX hy (fun v3 s => ih v3 s) v3 σ
                                            · refine r_ite (fun h20 => ?_) (fun h20 => ?_)
                                              · refine r_tabIn (pc := 33) (tgt := 858) (off := 825) X dL_law_33 h20 (by decide) (by decide) (by decide) (by decide) ?_
                                                exact s_L_law_j858 X LLX hy (fun v3 s => ih v3 s) v3 σ
                                              · refine r_ite (fun h21 => ?_) (fun h21 => ?_)
                                                · refine r_tabIn (pc := 33) (tgt := 891) (off := 858) X dL_law_33 h21 (by decide) (by decide) (by decide) (by decide) ?_
                                                  exact s_L_law_j891 X LLX hy (fun v3 s => ih v3 s) v3 σ
                                                · refine r_ite (fun h22 => ?_) (fun h22 => ?_)
                                                  · refine r_tabIn (pc := 33) (tgt := 934) (off := 901) X dL_law_33 h22 (by decide) (by decide) (by decide) (by decide) ?_
                                                    exact s_L_law_j934 X LLX hy (fun v3 s => ih v3 s) v3 σ
                                                  · refine r_ite (fun h23 => ?_) (fun h23 => ?_)
                                                    · refine r_tabIn (pc := 33) (tgt := 977) (off := 944) X dL_law_33 h23 (by decide) (by decide) (by decide) (by decide) ?_
                                                      exact s_L_law_j977 X LLX hy (fun v3 s => ih v3 s) v3 σ
                                                    · refine r_ite (fun h24 => ?_) (fun h24 => ?_)
                                                      · refine r_tabIn (pc := 33) (tgt := 1010) (off := 977) X dL_law_33 h24 (by decide) (by decide) (by decide) (by decide) ?_
                                                        exact s_L_law_j1010 X LLX hy (fun v3 s => ih v3 s) v3 σ
                                                      · refine r_ite (fun h25 => ?_) (fun h25 => ?_)
                                                        · refine r_tabIn (pc := 33) (tgt := 1033) (off := 1000) X dL_law_33 h25 (by decide) (by decide) (by decide) (by decide) ?_
                                                          exact s_L_law_j1033 X LLX hy (fun v3 s => ih v3 s) v3 σ
                                                        · refine r_ite (fun h26 => ?_) (fun h26 => ?_)
                                                          · refine r_tabIn (pc := 33) (tgt := 1066) (off := 1033) X dL_law_33 h26 (by decide) (by decide) (by decide) (by decide) ?_
                                                            exact s_L_law_j1066 X LLX hy (fun v3 s => ih v3 s) v3 σ
                                                          · refine r_ite (fun h27 => ?_) (fun h27 => ?_)
                                                            · refine r_tabIn (pc := 33) (tgt := 1109) (off := 1076) X dL_law_33 h27 (by decide) (by decide) (by decide) (by decide) ?_
                                                              exact s_L_law_j1109 X LLX hy (fun v3 s => ih v3 s) v3 σ
                                                            · refine r_ite (fun h28 => ?_) (fun h28 => ?_)
                                                              · refine r_tabIn (pc := 33) (tgt := 1152) (off := 1119) X dL_law_33 h28 (by decide) (by decide) (by decide) (by decide) ?_
                                                                exact s_L_law_j1152 X LLX hy (fun v3 s => ih v3 s) v3 σ
                                                              · refine r_ite (fun h29 => ?_) (fun h29 => ?_)
                                                                · refine r_tabIn (pc := 33) (tgt := 1216) (off := 1183) X dL_law_33 h29 (by decide) (by decide) (by decide) (by decide) ?_
                                                                  exact s_L_law_j1216 X LLX hy (fun v3 s => ih v3 s) v3 σ
                                                                · refine r_ite (fun h30 => ?_) (fun h30 => ?_)
                                                                  · refine r_tabIn (pc := 33) (tgt := 1239) (off := 1206) X dL_law_33 h30 (by decide) (by decide) (by decide) (by decide) ?_
                                                                    exact s_L_law_j1239 X LLX hy (fun v3 s => ih v3 s) v3 σ
                                                                  · refine r_ite (fun h31 => ?_) (fun h31 => ?_)
                                                                    · refine r_tabIn (pc := 33) (tgt := 1262) (off := 1229) X dL_law_33 h31 (by decide) (by decide) (by decide) (by decide) ?_
                                                                      exact s_L_law_j1262 X LLX hy (fun v3 s => ih v3 s) v3 σ
                                                                    · refine r_ite (fun h32 => ?_) (fun h32 => ?_)
                                                                      · refine r_tabIn (pc := 33) (tgt := 1295) (off := 1262) X dL_law_33 h32 (by decide) (by decide) (by decide) (by decide) ?_
                                                                        exact s_L_law_j1295 X LLX hy (fun v3 s => ih v3 s) v3 σ
                                                                      · refine r_ite (fun h33 => ?_) (fun h33 => ?_)
                                                                        · refine r_tabIn (pc := 33) (tgt := 1318) (off := 1285) X dL_law_33 h33 (by decide) (by decide) (by decide) (by decide) ?_
                                                                          exact s_L_law_j1318 X LLX hy (fun v3 s => ih v3 s) v3 σ
                                                                        · refine r_ite (fun h34 => ?_) (fun h34 => ?_)
                                                                          · refine r_tabIn (pc := 33) (tgt := 1361) (off := 1328) X dL_law_33 h34 (by decide) (by decide) (by decide) (by decide) ?_
                                                                            exact s_L_law_j1361 X LLX hy (fun v3 s => ih v3 s) v3 σ
                                                                          · refine r_ite (fun h35 => ?_) (fun h35 => ?_)
                                                                            · refine r_tabIn (pc := 33) (tgt := 1404) (off := 1371) X dL_law_33 h35 (by decide) (by decide) (by decide) (by decide) ?_
                                                                              exact s_L_law_j1404 X LLX hy (fun v3 s => ih v3 s) v3 σ
                                                                            · refine r_ite (fun h36 => ?_) (fun h36 => ?_)
                                                                              · refine r_tabIn (pc := 33) (tgt := 1437) (off := 1404) X dL_law_33 h36 (by decide) (by decide) (by decide) (by decide) ?_
                                                                                exact s_L_law_j1437 X LLX hy (fun v3 s => ih v3 s) v3 σ
                                                                              · refine r_ite (fun h37 => ?_) (fun h37 => ?_)
                                                                                · refine r_tabIn (pc := 33) (tgt := 1450) (off := 1417) X dL_law_33 h37 (by decide) (by decide) (by decide) (by decide) ?_
                                                                                  exact s_L_law_j1450 X LLX hy (fun v3 s => ih v3 s) v3 σ
                                                                                · refine r_ite (fun h38 => ?_) (fun h38 => ?_)
                                                                                  · refine r_tabIn (pc := 33) (tgt := 1483) (off := 1450) X dL_law_33 h38 (by decide) (by decide) (by decide) (by decide) ?_
                                                                                    exact s_L_law_j1483 X LLX hy (fun v3 s => ih v3 s) v3 σ
                                                                                  · refine r_ite (fun h39 => ?_) (fun h39 => ?_)
                                                                                    · refine r_tabIn (pc := 33) (tgt := 1506) (off := 1473) X dL_law_33 h39 (by decide) (by decide) (by decide) (by decide) ?_
                                                                                      exact s_L_law_j1506 X LLX hy (fun v3 s => ih v3 s) v3 σ
                                                                                    · refine r_ite (fun h40 => ?_) (fun h40 => ?_)
                                                                                      · refine r_tabIn (pc := 33) (tgt := 1519) (off := 1486) X dL_law_33 h40 (by decide) (by decide) (by decide) (by decide) ?_
                                                                                        exact s_L_law_j1519 X LLX hy (fun v3 s => ih v3 s) v3 σ
                                                                                      · refine r_ite (fun h41 => ?_) (fun h41 => ?_)
                                                                                        · refine r_tabIn (pc := 33) (tgt := 1532) (off := 1499) X dL_law_33 h41 (by decide) (by decide) (by decide) (by decide) ?_
                                                                                          exact s_L_law_j1532 X LLX hy (fun v3 s => ih v3 s) v3 σ
                                                                                        · refine r_ite (fun h42 => ?_) (fun h42 => ?_)
                                                                                          · refine r_tabIn (pc := 33) (tgt := 1565) (off := 1532) X dL_law_33 h42 (by decide) (by decide) (by decide) (by decide) ?_
                                                                                            exact s_L_law_j1565 X LLX hy (fun v3 s => ih v3 s) v3 σ
                                                                                          · refine r_ite (fun h43 => ?_) (fun h43 => ?_)
                                                                                            · refine r_tabIn (pc := 33) (tgt := 1598) (off := 1565) X dL_law_33 h43 (by decide) (by decide) (by decide) (by decide) ?_
                                                                                              exact s_L_law_j1598 X LLX hy (fun v3 s => ih v3 s) v3 σ
                                                                                            · refine r_ite (fun h44 => ?_) (fun h44 => ?_)
                                                                                              · refine r_tabIn (pc := 33) (tgt := 1621) (off := 1588) X dL_law_33 h44 (by decide) (by decide) (by decide) (by decide) ?_
                                                                                                exact s_L_law_j1621 X LLX hy (fun v3 s => ih v3 s) v3 σ
                                                                                              · refine r_ite (fun h45 => ?_) (fun h45 => ?_)
                                                                                                · refine r_tabIn (pc := 33) (tgt := 1644) (off := 1611) X dL_law_33 h45 (by decide) (by decide) (by decide) (by decide) ?_
                                                                                                  exact s_L_law_j1644 X LLX hy (fun v3 s => ih v3 s) v3 σ
                                                                                                · refine r_ite (fun h46 => ?_) (fun h46 => ?_)
                                                                                                  · refine r_tabIn (pc := 33) (tgt := 1657) (off := 1624) X dL_law_33 h46 (by decide) (by decide) (by decide) (by decide) ?_
                                                                                                    exact s_L_law_j1657 X LLX hy (fun v3 s => ih v3 s) v3 σ
                                                                                                  · refine r_ite (fun h47 => ?_) (fun h47 => ?_)
                                                                                                    · refine r_tabIn (pc := 33) (tgt := 1700) (off := 1667) X dL_law_33 h47 (by decide) (by decide) (by decide) (by decide) ?_
                                                                                                      exact s_L_law_j1700 X LLX hy (fun v3 s => ih v3 s) v3 σ
                                                                                                    · refine r_ite (fun h48 => ?_) (fun h48 => ?_)
                                                                                                      · refine r_tabIn (pc := 33) (tgt := 1713) (off := 1680) X dL_law_33 h48 (by decide) (by decide) (by decide) (by decide) ?_
                                                                                                        exact s_L_law_j1713 X LLX hy (fun v3 s => ih v3 s) v3 σ
                                                                                                      · refine r_ite (fun h49 => ?_) (fun h49 => ?_)
                                                                                                        · refine r_tabIn (pc := 33) (tgt := 1726) (off := 1693) X dL_law_33 h49 (by decide) (by decide) (by decide) (by decide) ?_
                                                                                                          exact s_L_law_j1726 X LLX hy (fun v3 s => ih v3 s) v3 σ
                                                                                                        · refine r_tabOut (pc := 33) (tgt := 1749) X dL_law_33 (tab_out [(0 : Int32), (1 : Int32), (2 : Int32), (3 : Int32), (4 : Int32), (5 : Int32), (6 : Int32), (7 : Int32), (8 : Int32), (9 : Int32), (10 : Int32), (11 : Int32), (12 : Int32), (13 : Int32), (14 : Int32), (15 : Int32), (16 : Int32), (17 : Int32), (18 : Int32), (19 : Int32), (20 : Int32), (21 : Int32), (22 : Int32), (23 : Int32), (24 : Int32), (25 : Int32), (26 : Int32), (27 : Int32), (28 : Int32), (29 : Int32), (30 : Int32), (31 : Int32), (32 : Int32), (33 : Int32), (34 : Int32), (35 : Int32), (36 : Int32), (37 : Int32), (38 : Int32), (39 : Int32), (40 : Int32), (41 : Int32), (42 : Int32), (43 : Int32), (44 : Int32), (45 : Int32), (46 : Int32), (47 : Int32), (48 : Int32), (49 : Int32)] (List.forall_mem_cons.mpr ⟨h0, List.forall_mem_cons.mpr ⟨h1, List.forall_mem_cons.mpr ⟨h2, List.forall_mem_cons.mpr ⟨h3, List.forall_mem_cons.mpr ⟨h4, List.forall_mem_cons.mpr ⟨h5, List.forall_mem_cons.mpr ⟨h6, List.forall_mem_cons.mpr ⟨h7, List.forall_mem_cons.mpr ⟨h8, List.forall_mem_cons.mpr ⟨h9, List.forall_mem_cons.mpr ⟨h10, List.forall_mem_cons.mpr ⟨h11, List.forall_mem_cons.mpr ⟨h12, List.forall_mem_cons.mpr ⟨h13, List.forall_mem_cons.mpr ⟨h14, List.forall_mem_cons.mpr ⟨h15, List.forall_mem_cons.mpr ⟨h16, List.forall_mem_cons.mpr ⟨h17, List.forall_mem_cons.mpr ⟨h18, List.forall_mem_cons.mpr ⟨h19, List.forall_mem_cons.mpr ⟨h20, List.forall_mem_cons.mpr ⟨h21, List.forall_mem_cons.mpr ⟨h22, List.forall_mem_cons.mpr ⟨h23, List.forall_mem_cons.mpr ⟨h24, List.forall_mem_cons.mpr ⟨h25, List.forall_mem_cons.mpr ⟨h26, List.forall_mem_cons.mpr ⟨h27, List.forall_mem_cons.mpr ⟨h28, List.forall_mem_cons.mpr ⟨h29, List.forall_mem_cons.mpr ⟨h30, List.forall_mem_cons.mpr ⟨h31, List.forall_mem_cons.mpr ⟨h32, List.forall_mem_cons.mpr ⟨h33, List.forall_mem_cons.mpr ⟨h34, List.forall_mem_cons.mpr ⟨h35, List.forall_mem_cons.mpr ⟨h36, List.forall_mem_cons.mpr ⟨h37, List.forall_mem_cons.mpr ⟨h38, List.forall_mem_cons.mpr ⟨h39, List.forall_mem_cons.mpr ⟨h40, List.forall_mem_cons.mpr ⟨h41, List.forall_mem_cons.mpr ⟨h42, List.forall_mem_cons.mpr ⟨h43, List.forall_mem_cons.mpr ⟨h44, List.forall_mem_cons.mpr ⟨h45, List.forall_mem_cons.mpr ⟨h46, List.forall_mem_cons.mpr ⟨h47, List.forall_mem_cons.mpr ⟨h48, List.forall_mem_cons.mpr ⟨h49, List.forall_mem_nil _⟩⟩⟩⟩⟩⟩⟩⟩⟩⟩⟩⟩⟩⟩⟩⟩⟩⟩⟩⟩⟩⟩⟩⟩⟩⟩⟩⟩⟩⟩⟩⟩⟩⟩⟩⟩⟩⟩⟩⟩⟩⟩⟩⟩⟩⟩⟩⟩⟩⟩) (by decide)) (by decide) ?_
                                                                                                          refine r_iinc (pc := 1749) (lv' := [(0, .ref _), (1, .ref _), (2, .ref _)]) X dL_law_1749 3 rfl (congrArg (fun z => v3 + z) kc_6) (by decide) rfl (fun x2 => ?_)
                                                                                                          refine r_goto (pc := 1752) (tgt := 18) X dL_law_1752 (by decide) ?_
                                                                                                          refine r_sub [1, 2, 3, 0] rfl ?_
                                                                                                          exact ih x2 σ

/-! the constructors, by program -/
theorem dX0_init_0 : decode cX0_init 0 = .ok (.aload_n 0, 1) := by decide +kernel
theorem dX0_init_1 : decode cX0_init 1 = .ok (.invokespecial 3, 3) := by decide +kernel
theorem dX0_init_4 : decode cX0_init 4 = .ok (.aload_n 0, 1) := by decide +kernel
theorem dX0_init_5 : decode cX0_init 5 = .ok (.iconst 0, 1) := by decide +kernel
theorem dX0_init_6 : decode cX0_init 6 = .ok (.putfield 9, 3) := by decide +kernel
theorem dX0_init_9 : decode cX0_init 9 = .ok (.aload_n 0, 1) := by decide +kernel
theorem dX0_init_10 : decode cX0_init 10 = .ok (.bipush 6, 2) := by decide +kernel
theorem dX0_init_12 : decode cX0_init 12 = .ok (.newarray .int, 2) := by decide +kernel
theorem dX0_init_14 : decode cX0_init 14 = .ok (.putfield 15, 3) := by decide +kernel
theorem dX0_init_17 : decode cX0_init 17 = .ok (.aload_n 0, 1) := by decide +kernel
theorem dX0_init_18 : decode cX0_init 18 = .ok (.bipush 6, 2) := by decide +kernel
theorem dX0_init_20 : decode cX0_init 20 = .ok (.newarray .int, 2) := by decide +kernel
theorem dX0_init_22 : decode cX0_init 22 = .ok (.putfield 19, 3) := by decide +kernel
theorem dX0_init_25 : decode cX0_init 25 = .ok (.aload_n 0, 1) := by decide +kernel
theorem dX0_init_26 : decode cX0_init 26 = .ok (.bipush 6, 2) := by decide +kernel
theorem dX0_init_28 : decode cX0_init 28 = .ok (.newarray .int, 2) := by decide +kernel
theorem dX0_init_30 : decode cX0_init 30 = .ok (.putfield 22, 3) := by decide +kernel
theorem dX0_init_33 : decode cX0_init 33 = .ok (.aload_n 0, 1) := by decide +kernel
theorem dX0_init_34 : decode cX0_init 34 = .ok (.bipush 6, 2) := by decide +kernel
theorem dX0_init_36 : decode cX0_init 36 = .ok (.newarray .int, 2) := by decide +kernel
theorem dX0_init_38 : decode cX0_init 38 = .ok (.putfield 25, 3) := by decide +kernel
theorem dX0_init_41 : decode cX0_init 41 = .ok (.aload_n 0, 1) := by decide +kernel
theorem dX0_init_42 : decode cX0_init 42 = .ok (.bipush 6, 2) := by decide +kernel
theorem dX0_init_44 : decode cX0_init 44 = .ok (.newarray .int, 2) := by decide +kernel
theorem dX0_init_46 : decode cX0_init 46 = .ok (.putfield 28, 3) := by decide +kernel
theorem dX0_init_49 : decode cX0_init 49 = .ok (.aload_n 0, 1) := by decide +kernel
theorem dX0_init_50 : decode cX0_init 50 = .ok (.bipush 6, 2) := by decide +kernel
theorem dX0_init_52 : decode cX0_init 52 = .ok (.newarray .int, 2) := by decide +kernel
theorem dX0_init_54 : decode cX0_init 54 = .ok (.putfield 31, 3) := by decide +kernel
theorem dX0_init_57 : decode cX0_init 57 = .ok (.aload_n 0, 1) := by decide +kernel
theorem dX0_init_58 : decode cX0_init 58 = .ok (.iconst 0, 1) := by decide +kernel
theorem dX0_init_59 : decode cX0_init 59 = .ok (.putfield 34, 3) := by decide +kernel
theorem dX0_init_62 : decode cX0_init 62 = .ok (.aload_n 0, 1) := by decide +kernel
theorem dX0_init_63 : decode cX0_init 63 = .ok (.iconst 5, 1) := by decide +kernel
theorem dX0_init_64 : decode cX0_init 64 = .ok (.newarray .int, 2) := by decide +kernel
theorem dX0_init_66 : decode cX0_init 66 = .ok (.putfield 37, 3) := by decide +kernel
theorem dX0_init_69 : decode cX0_init 69 = .ok (.aload_n 0, 1) := by decide +kernel
theorem dX0_init_70 : decode cX0_init 70 = .ok (.iconst 5, 1) := by decide +kernel
theorem dX0_init_71 : decode cX0_init 71 = .ok (.newarray .int, 2) := by decide +kernel
theorem dX0_init_73 : decode cX0_init 73 = .ok (.putfield 40, 3) := by decide +kernel
theorem dX0_init_76 : decode cX0_init 76 = .ok (.aload_n 0, 1) := by decide +kernel
theorem dX0_init_77 : decode cX0_init 77 = .ok (.iconst 5, 1) := by decide +kernel
theorem dX0_init_78 : decode cX0_init 78 = .ok (.newarray .int, 2) := by decide +kernel
theorem dX0_init_80 : decode cX0_init 80 = .ok (.putfield 43, 3) := by decide +kernel
theorem dX0_init_83 : decode cX0_init 83 = .ok (.aload_n 0, 1) := by decide +kernel
theorem dX0_init_84 : decode cX0_init 84 = .ok (.iconst 5, 1) := by decide +kernel
theorem dX0_init_85 : decode cX0_init 85 = .ok (.newarray .int, 2) := by decide +kernel
theorem dX0_init_87 : decode cX0_init 87 = .ok (.putfield 46, 3) := by decide +kernel
theorem dX0_init_90 : decode cX0_init 90 = .ok (.aload_n 0, 1) := by decide +kernel
theorem dX0_init_91 : decode cX0_init 91 = .ok (.iconst 5, 1) := by decide +kernel
theorem dX0_init_92 : decode cX0_init 92 = .ok (.newarray .int, 2) := by decide +kernel
theorem dX0_init_94 : decode cX0_init 94 = .ok (.putfield 49, 3) := by decide +kernel
theorem dX0_init_97 : decode cX0_init 97 = .ok (.aload_n 0, 1) := by decide +kernel
theorem dX0_init_98 : decode cX0_init 98 = .ok (.iconst 0, 1) := by decide +kernel
theorem dX0_init_99 : decode cX0_init 99 = .ok (.putfield 52, 3) := by decide +kernel
theorem dX0_init_102 : decode cX0_init 102 = .ok (.aload_n 0, 1) := by decide +kernel
theorem dX0_init_103 : decode cX0_init 103 = .ok (.iconst 0, 1) := by decide +kernel
theorem dX0_init_104 : decode cX0_init 104 = .ok (.putfield 55, 3) := by decide +kernel
theorem dX0_init_107 : decode cX0_init 107 = .ok (.aload_n 0, 1) := by decide +kernel
theorem dX0_init_108 : decode cX0_init 108 = .ok (.iconst 5, 1) := by decide +kernel
theorem dX0_init_109 : decode cX0_init 109 = .ok (.newarray .int, 2) := by decide +kernel
theorem dX0_init_111 : decode cX0_init 111 = .ok (.putfield 58, 3) := by decide +kernel
theorem dX0_init_114 : decode cX0_init 114 = .ok (.aload_n 0, 1) := by decide +kernel
theorem dX0_init_115 : decode cX0_init 115 = .ok (.iconst 5, 1) := by decide +kernel
theorem dX0_init_116 : decode cX0_init 116 = .ok (.newarray .int, 2) := by decide +kernel
theorem dX0_init_118 : decode cX0_init 118 = .ok (.putfield 61, 3) := by decide +kernel
theorem dX0_init_121 : decode cX0_init 121 = .ok (.aload_n 0, 1) := by decide +kernel
theorem dX0_init_122 : decode cX0_init 122 = .ok (.iconst 0, 1) := by decide +kernel
theorem dX0_init_123 : decode cX0_init 123 = .ok (.putfield 64, 3) := by decide +kernel
theorem dX0_init_126 : decode cX0_init 126 = .ok (.aload_n 0, 1) := by decide +kernel
theorem dX0_init_127 : decode cX0_init 127 = .ok (.bipush (-9), 2) := by decide +kernel
theorem dX0_init_129 : decode cX0_init 129 = .ok (.putfield 67, 3) := by decide +kernel
theorem dX0_init_132 : decode cX0_init 132 = .ok (.return_, 1) := by decide +kernel
theorem dX1_init_0 : decode cX1_init 0 = .ok (.aload_n 0, 1) := by decide +kernel
theorem dX1_init_1 : decode cX1_init 1 = .ok (.invokespecial 3, 3) := by decide +kernel
theorem dX1_init_4 : decode cX1_init 4 = .ok (.aload_n 0, 1) := by decide +kernel
theorem dX1_init_5 : decode cX1_init 5 = .ok (.iconst 4, 1) := by decide +kernel
theorem dX1_init_6 : decode cX1_init 6 = .ok (.newarray .int, 2) := by decide +kernel
theorem dX1_init_8 : decode cX1_init 8 = .ok (.putfield 9, 3) := by decide +kernel
theorem dX1_init_11 : decode cX1_init 11 = .ok (.aload_n 0, 1) := by decide +kernel
theorem dX1_init_12 : decode cX1_init 12 = .ok (.iconst 4, 1) := by decide +kernel
theorem dX1_init_13 : decode cX1_init 13 = .ok (.newarray .int, 2) := by decide +kernel
theorem dX1_init_15 : decode cX1_init 15 = .ok (.putfield 15, 3) := by decide +kernel
theorem dX1_init_18 : decode cX1_init 18 = .ok (.aload_n 0, 1) := by decide +kernel
theorem dX1_init_19 : decode cX1_init 19 = .ok (.iconst 0, 1) := by decide +kernel
theorem dX1_init_20 : decode cX1_init 20 = .ok (.putfield 18, 3) := by decide +kernel
theorem dX1_init_23 : decode cX1_init 23 = .ok (.aload_n 0, 1) := by decide +kernel
theorem dX1_init_24 : decode cX1_init 24 = .ok (.iconst 0, 1) := by decide +kernel
theorem dX1_init_25 : decode cX1_init 25 = .ok (.putfield 22, 3) := by decide +kernel
theorem dX1_init_28 : decode cX1_init 28 = .ok (.aload_n 0, 1) := by decide +kernel
theorem dX1_init_29 : decode cX1_init 29 = .ok (.iconst 0, 1) := by decide +kernel
theorem dX1_init_30 : decode cX1_init 30 = .ok (.putfield 25, 3) := by decide +kernel
theorem dX1_init_33 : decode cX1_init 33 = .ok (.return_, 1) := by decide +kernel
theorem dX2_init_0 : decode cX2_init 0 = .ok (.aload_n 0, 1) := by decide +kernel
theorem dX2_init_1 : decode cX2_init 1 = .ok (.invokespecial 3, 3) := by decide +kernel
theorem dX2_init_4 : decode cX2_init 4 = .ok (.aload_n 0, 1) := by decide +kernel
theorem dX2_init_5 : decode cX2_init 5 = .ok (.new 9, 3) := by decide +kernel
theorem dX2_init_8 : decode cX2_init 8 = .ok (.dup, 1) := by decide +kernel
theorem dX2_init_9 : decode cX2_init 9 = .ok (.invokespecial 11, 3) := by decide +kernel
theorem dX2_init_12 : decode cX2_init 12 = .ok (.putfield 12, 3) := by decide +kernel
theorem dX2_init_15 : decode cX2_init 15 = .ok (.aload_n 0, 1) := by decide +kernel
theorem dX2_init_16 : decode cX2_init 16 = .ok (.new 9, 3) := by decide +kernel
theorem dX2_init_19 : decode cX2_init 19 = .ok (.dup, 1) := by decide +kernel
theorem dX2_init_20 : decode cX2_init 20 = .ok (.invokespecial 11, 3) := by decide +kernel
theorem dX2_init_23 : decode cX2_init 23 = .ok (.putfield 16, 3) := by decide +kernel
theorem dX2_init_26 : decode cX2_init 26 = .ok (.aload_n 0, 1) := by decide +kernel
theorem dX2_init_27 : decode cX2_init 27 = .ok (.new 9, 3) := by decide +kernel
theorem dX2_init_30 : decode cX2_init 30 = .ok (.dup, 1) := by decide +kernel
theorem dX2_init_31 : decode cX2_init 31 = .ok (.invokespecial 11, 3) := by decide +kernel
theorem dX2_init_34 : decode cX2_init 34 = .ok (.putfield 19, 3) := by decide +kernel
theorem dX2_init_37 : decode cX2_init 37 = .ok (.aload_n 0, 1) := by decide +kernel
theorem dX2_init_38 : decode cX2_init 38 = .ok (.iconst 0, 1) := by decide +kernel
theorem dX2_init_39 : decode cX2_init 39 = .ok (.putfield 22, 3) := by decide +kernel
theorem dX2_init_42 : decode cX2_init 42 = .ok (.aload_n 0, 1) := by decide +kernel
theorem dX2_init_43 : decode cX2_init 43 = .ok (.bipush 8, 2) := by decide +kernel
theorem dX2_init_45 : decode cX2_init 45 = .ok (.anewarray 9, 3) := by decide +kernel
theorem dX2_init_48 : decode cX2_init 48 = .ok (.putfield 26, 3) := by decide +kernel
theorem dX2_init_51 : decode cX2_init 51 = .ok (.aload_n 0, 1) := by decide +kernel
theorem dX2_init_52 : decode cX2_init 52 = .ok (.iconst 0, 1) := by decide +kernel
theorem dX2_init_53 : decode cX2_init 53 = .ok (.putfield 30, 3) := by decide +kernel
theorem dX2_init_56 : decode cX2_init 56 = .ok (.aload_n 0, 1) := by decide +kernel
theorem dX2_init_57 : decode cX2_init 57 = .ok (.bipush 96, 2) := by decide +kernel
theorem dX2_init_59 : decode cX2_init 59 = .ok (.newarray .int, 2) := by decide +kernel
theorem dX2_init_61 : decode cX2_init 61 = .ok (.putfield 34, 3) := by decide +kernel
theorem dX2_init_64 : decode cX2_init 64 = .ok (.aload_n 0, 1) := by decide +kernel
theorem dX2_init_65 : decode cX2_init 65 = .ok (.iconst 0, 1) := by decide +kernel
theorem dX2_init_66 : decode cX2_init 66 = .ok (.putfield 38, 3) := by decide +kernel
theorem dX2_init_69 : decode cX2_init 69 = .ok (.aload_n 0, 1) := by decide +kernel
theorem dX2_init_70 : decode cX2_init 70 = .ok (.bipush 12, 2) := by decide +kernel
theorem dX2_init_72 : decode cX2_init 72 = .ok (.newarray .int, 2) := by decide +kernel
theorem dX2_init_74 : decode cX2_init 74 = .ok (.putfield 41, 3) := by decide +kernel
theorem dX2_init_77 : decode cX2_init 77 = .ok (.aload_n 0, 1) := by decide +kernel
theorem dX2_init_78 : decode cX2_init 78 = .ok (.iconst 0, 1) := by decide +kernel
theorem dX2_init_79 : decode cX2_init 79 = .ok (.putfield 44, 3) := by decide +kernel
theorem dX2_init_82 : decode cX2_init 82 = .ok (.aload_n 0, 1) := by decide +kernel
theorem dX2_init_83 : decode cX2_init 83 = .ok (.bipush 7, 2) := by decide +kernel
theorem dX2_init_85 : decode cX2_init 85 = .ok (.newarray .int, 2) := by decide +kernel
theorem dX2_init_87 : decode cX2_init 87 = .ok (.putfield 47, 3) := by decide +kernel
theorem dX2_init_90 : decode cX2_init 90 = .ok (.aload_n 0, 1) := by decide +kernel
theorem dX2_init_91 : decode cX2_init 91 = .ok (.bipush 10, 2) := by decide +kernel
theorem dX2_init_93 : decode cX2_init 93 = .ok (.newarray .int, 2) := by decide +kernel
theorem dX2_init_95 : decode cX2_init 95 = .ok (.putfield 50, 3) := by decide +kernel
theorem dX2_init_98 : decode cX2_init 98 = .ok (.aload_n 0, 1) := by decide +kernel
theorem dX2_init_99 : decode cX2_init 99 = .ok (.new 53, 3) := by decide +kernel
theorem dX2_init_102 : decode cX2_init 102 = .ok (.dup, 1) := by decide +kernel
theorem dX2_init_103 : decode cX2_init 103 = .ok (.invokespecial 55, 3) := by decide +kernel
theorem dX2_init_106 : decode cX2_init 106 = .ok (.putfield 56, 3) := by decide +kernel
theorem dX2_init_109 : decode cX2_init 109 = .ok (.iconst 0, 1) := by decide +kernel
theorem dX2_init_110 : decode cX2_init 110 = .ok (.istore_n 1, 1) := by decide +kernel
theorem dX2_init_111 : decode cX2_init 111 = .ok (.iload_n 1, 1) := by decide +kernel
theorem dX2_init_112 : decode cX2_init 112 = .ok (.bipush 8, 2) := by decide +kernel
theorem dX2_init_114 : decode cX2_init 114 = .ok (.if_icmp .ge 22, 3) := by decide +kernel
theorem dX2_init_117 : decode cX2_init 117 = .ok (.aload_n 0, 1) := by decide +kernel
theorem dX2_init_118 : decode cX2_init 118 = .ok (.getfield 26, 3) := by decide +kernel
theorem dX2_init_121 : decode cX2_init 121 = .ok (.iload_n 1, 1) := by decide +kernel
theorem dX2_init_122 : decode cX2_init 122 = .ok (.new 9, 3) := by decide +kernel
theorem dX2_init_125 : decode cX2_init 125 = .ok (.dup, 1) := by decide +kernel
theorem dX2_init_126 : decode cX2_init 126 = .ok (.invokespecial 11, 3) := by decide +kernel
theorem dX2_init_129 : decode cX2_init 129 = .ok (.aastore, 1) := by decide +kernel
theorem dX2_init_130 : decode cX2_init 130 = .ok (.iinc 1 1, 3) := by decide +kernel
theorem dX2_init_133 : decode cX2_init 133 = .ok (.goto (-22), 3) := by decide +kernel
theorem dX2_init_136 : decode cX2_init 136 = .ok (.return_, 1) := by decide +kernel
theorem dX3_init_0 : decode cX3_init 0 = .ok (.aload_n 0, 1) := by decide +kernel
theorem dX3_init_1 : decode cX3_init 1 = .ok (.invokespecial 1, 3) := by decide +kernel
theorem dX3_init_4 : decode cX3_init 4 = .ok (.aload_n 0, 1) := by decide +kernel
theorem dX3_init_5 : decode cX3_init 5 = .ok (.bipush 7, 2) := by decide +kernel
theorem dX3_init_7 : decode cX3_init 7 = .ok (.newarray .int, 2) := by decide +kernel
theorem dX3_init_9 : decode cX3_init 9 = .ok (.putfield 7, 3) := by decide +kernel
theorem dX3_init_12 : decode cX3_init 12 = .ok (.aload_n 0, 1) := by decide +kernel
theorem dX3_init_13 : decode cX3_init 13 = .ok (.bipush 6, 2) := by decide +kernel
theorem dX3_init_15 : decode cX3_init 15 = .ok (.newarray .int, 2) := by decide +kernel
theorem dX3_init_17 : decode cX3_init 17 = .ok (.putfield 13, 3) := by decide +kernel
theorem dX3_init_20 : decode cX3_init 20 = .ok (.aload_n 0, 1) := by decide +kernel
theorem dX3_init_21 : decode cX3_init 21 = .ok (.bipush 6, 2) := by decide +kernel
theorem dX3_init_23 : decode cX3_init 23 = .ok (.newarray .int, 2) := by decide +kernel
theorem dX3_init_25 : decode cX3_init 25 = .ok (.putfield 16, 3) := by decide +kernel
theorem dX3_init_28 : decode cX3_init 28 = .ok (.aload_n 0, 1) := by decide +kernel
theorem dX3_init_29 : decode cX3_init 29 = .ok (.bipush 6, 2) := by decide +kernel
theorem dX3_init_31 : decode cX3_init 31 = .ok (.newarray .int, 2) := by decide +kernel
theorem dX3_init_33 : decode cX3_init 33 = .ok (.putfield 19, 3) := by decide +kernel
theorem dX3_init_36 : decode cX3_init 36 = .ok (.aload_n 0, 1) := by decide +kernel
theorem dX3_init_37 : decode cX3_init 37 = .ok (.bipush 6, 2) := by decide +kernel
theorem dX3_init_39 : decode cX3_init 39 = .ok (.newarray .int, 2) := by decide +kernel
theorem dX3_init_41 : decode cX3_init 41 = .ok (.putfield 22, 3) := by decide +kernel
theorem dX3_init_44 : decode cX3_init 44 = .ok (.aload_n 0, 1) := by decide +kernel
theorem dX3_init_45 : decode cX3_init 45 = .ok (.bipush 6, 2) := by decide +kernel
theorem dX3_init_47 : decode cX3_init 47 = .ok (.newarray .int, 2) := by decide +kernel
theorem dX3_init_49 : decode cX3_init 49 = .ok (.putfield 25, 3) := by decide +kernel
theorem dX3_init_52 : decode cX3_init 52 = .ok (.aload_n 0, 1) := by decide +kernel
theorem dX3_init_53 : decode cX3_init 53 = .ok (.iconst 5, 1) := by decide +kernel
theorem dX3_init_54 : decode cX3_init 54 = .ok (.newarray .int, 2) := by decide +kernel
theorem dX3_init_56 : decode cX3_init 56 = .ok (.putfield 28, 3) := by decide +kernel
theorem dX3_init_59 : decode cX3_init 59 = .ok (.aload_n 0, 1) := by decide +kernel
theorem dX3_init_60 : decode cX3_init 60 = .ok (.iconst 5, 1) := by decide +kernel
theorem dX3_init_61 : decode cX3_init 61 = .ok (.newarray .int, 2) := by decide +kernel
theorem dX3_init_63 : decode cX3_init 63 = .ok (.putfield 31, 3) := by decide +kernel
theorem dX3_init_66 : decode cX3_init 66 = .ok (.aload_n 0, 1) := by decide +kernel
theorem dX3_init_67 : decode cX3_init 67 = .ok (.iconst 5, 1) := by decide +kernel
theorem dX3_init_68 : decode cX3_init 68 = .ok (.newarray .int, 2) := by decide +kernel
theorem dX3_init_70 : decode cX3_init 70 = .ok (.putfield 34, 3) := by decide +kernel
theorem dX3_init_73 : decode cX3_init 73 = .ok (.aload_n 0, 1) := by decide +kernel
theorem dX3_init_74 : decode cX3_init 74 = .ok (.iconst 5, 1) := by decide +kernel
theorem dX3_init_75 : decode cX3_init 75 = .ok (.newarray .int, 2) := by decide +kernel
theorem dX3_init_77 : decode cX3_init 77 = .ok (.putfield 37, 3) := by decide +kernel
theorem dX3_init_80 : decode cX3_init 80 = .ok (.aload_n 0, 1) := by decide +kernel
theorem dX3_init_81 : decode cX3_init 81 = .ok (.iconst 5, 1) := by decide +kernel
theorem dX3_init_82 : decode cX3_init 82 = .ok (.newarray .int, 2) := by decide +kernel
theorem dX3_init_84 : decode cX3_init 84 = .ok (.putfield 40, 3) := by decide +kernel
theorem dX3_init_87 : decode cX3_init 87 = .ok (.aload_n 0, 1) := by decide +kernel
theorem dX3_init_88 : decode cX3_init 88 = .ok (.bipush 96, 2) := by decide +kernel
theorem dX3_init_90 : decode cX3_init 90 = .ok (.newarray .int, 2) := by decide +kernel
theorem dX3_init_92 : decode cX3_init 92 = .ok (.putfield 43, 3) := by decide +kernel
theorem dX3_init_95 : decode cX3_init 95 = .ok (.aload_n 0, 1) := by decide +kernel
theorem dX3_init_96 : decode cX3_init 96 = .ok (.bipush 48, 2) := by decide +kernel
theorem dX3_init_98 : decode cX3_init 98 = .ok (.newarray .int, 2) := by decide +kernel
theorem dX3_init_100 : decode cX3_init 100 = .ok (.putfield 46, 3) := by decide +kernel
theorem dX3_init_103 : decode cX3_init 103 = .ok (.aload_n 0, 1) := by decide +kernel
theorem dX3_init_104 : decode cX3_init 104 = .ok (.bipush 48, 2) := by decide +kernel
theorem dX3_init_106 : decode cX3_init 106 = .ok (.newarray .int, 2) := by decide +kernel
theorem dX3_init_108 : decode cX3_init 108 = .ok (.putfield 49, 3) := by decide +kernel
theorem dX3_init_111 : decode cX3_init 111 = .ok (.aload_n 0, 1) := by decide +kernel
theorem dX3_init_112 : decode cX3_init 112 = .ok (.sipush 144, 3) := by decide +kernel
theorem dX3_init_115 : decode cX3_init 115 = .ok (.newarray .int, 2) := by decide +kernel
theorem dX3_init_117 : decode cX3_init 117 = .ok (.putfield 52, 3) := by decide +kernel
theorem dX3_init_120 : decode cX3_init 120 = .ok (.aload_n 0, 1) := by decide +kernel
theorem dX3_init_121 : decode cX3_init 121 = .ok (.sipush 660, 3) := by decide +kernel
theorem dX3_init_124 : decode cX3_init 124 = .ok (.newarray .int, 2) := by decide +kernel
theorem dX3_init_126 : decode cX3_init 126 = .ok (.putfield 55, 3) := by decide +kernel
theorem dX3_init_129 : decode cX3_init 129 = .ok (.aload_n 0, 1) := by decide +kernel
theorem dX3_init_130 : decode cX3_init 130 = .ok (.iconst 5, 1) := by decide +kernel
theorem dX3_init_131 : decode cX3_init 131 = .ok (.newarray .int, 2) := by decide +kernel
theorem dX3_init_133 : decode cX3_init 133 = .ok (.putfield 58, 3) := by decide +kernel
theorem dX3_init_136 : decode cX3_init 136 = .ok (.aload_n 0, 1) := by decide +kernel
theorem dX3_init_137 : decode cX3_init 137 = .ok (.iconst 5, 1) := by decide +kernel
theorem dX3_init_138 : decode cX3_init 138 = .ok (.newarray .int, 2) := by decide +kernel
theorem dX3_init_140 : decode cX3_init 140 = .ok (.putfield 61, 3) := by decide +kernel
theorem dX3_init_143 : decode cX3_init 143 = .ok (.aload_n 0, 1) := by decide +kernel
theorem dX3_init_144 : decode cX3_init 144 = .ok (.bipush 9, 2) := by decide +kernel
theorem dX3_init_146 : decode cX3_init 146 = .ok (.putfield 64, 3) := by decide +kernel
theorem dX3_init_149 : decode cX3_init 149 = .ok (.aload_n 0, 1) := by decide +kernel
theorem dX3_init_150 : decode cX3_init 150 = .ok (.iconst 5, 1) := by decide +kernel
theorem dX3_init_151 : decode cX3_init 151 = .ok (.newarray .int, 2) := by decide +kernel
theorem dX3_init_153 : decode cX3_init 153 = .ok (.putfield 68, 3) := by decide +kernel
theorem dX3_init_156 : decode cX3_init 156 = .ok (.aload_n 0, 1) := by decide +kernel
theorem dX3_init_157 : decode cX3_init 157 = .ok (.bipush 6, 2) := by decide +kernel
theorem dX3_init_159 : decode cX3_init 159 = .ok (.newarray .int, 2) := by decide +kernel
theorem dX3_init_161 : decode cX3_init 161 = .ok (.putfield 71, 3) := by decide +kernel
theorem dX3_init_164 : decode cX3_init 164 = .ok (.aload_n 0, 1) := by decide +kernel
theorem dX3_init_165 : decode cX3_init 165 = .ok (.bipush 12, 2) := by decide +kernel
theorem dX3_init_167 : decode cX3_init 167 = .ok (.newarray .int, 2) := by decide +kernel
theorem dX3_init_169 : decode cX3_init 169 = .ok (.putfield 74, 3) := by decide +kernel
theorem dX3_init_172 : decode cX3_init 172 = .ok (.aload_n 0, 1) := by decide +kernel
theorem dX3_init_173 : decode cX3_init 173 = .ok (.bipush 10, 2) := by decide +kernel
theorem dX3_init_175 : decode cX3_init 175 = .ok (.newarray .int, 2) := by decide +kernel
theorem dX3_init_177 : decode cX3_init 177 = .ok (.putfield 77, 3) := by decide +kernel
theorem dX3_init_180 : decode cX3_init 180 = .ok (.aload_n 0, 1) := by decide +kernel
theorem dX3_init_181 : decode cX3_init 181 = .ok (.bipush 64, 2) := by decide +kernel
theorem dX3_init_183 : decode cX3_init 183 = .ok (.newarray .int, 2) := by decide +kernel
theorem dX3_init_185 : decode cX3_init 185 = .ok (.putfield 80, 3) := by decide +kernel
theorem dX3_init_188 : decode cX3_init 188 = .ok (.aload_n 0, 1) := by decide +kernel
theorem dX3_init_189 : decode cX3_init 189 = .ok (.iconst 0, 1) := by decide +kernel
theorem dX3_init_190 : decode cX3_init 190 = .ok (.putfield 83, 3) := by decide +kernel
theorem dX3_init_193 : decode cX3_init 193 = .ok (.return_, 1) := by decide +kernel
def stF (b m : Nat) : List Value := [.int 0, .ref (b + (m + 0)), .ref (b + (m + 1)), .ref (b + (m + 2)), .ref (b + (m + 3)), .ref (b + (m + 4)), .ref (b + (m + 5)), .int 0, .ref (b + (m + 6)), .ref (b + (m + 7)), .ref (b + (m + 8)), .ref (b + (m + 9)), .ref (b + (m + 10)), .int 0, .int 0, .ref (b + (m + 11)), .ref (b + (m + 12)), .int 0, .int (-9)]
def stA (cA : ClassId) : List va_E := [.inl (cA, 6, .inl (fun _ => 0)), .inl (cA, 6, .inl (fun _ => 0)), .inl (cA, 6, .inl (fun _ => 0)), .inl (cA, 6, .inl (fun _ => 0)), .inl (cA, 6, .inl (fun _ => 0)), .inl (cA, 6, .inl (fun _ => 0)), .inl (cA, 5, .inl (fun _ => 0)), .inl (cA, 5, .inl (fun _ => 0)), .inl (cA, 5, .inl (fun _ => 0)), .inl (cA, 5, .inl (fun _ => 0)), .inl (cA, 5, .inl (fun _ => 0)), .inl (cA, 5, .inl (fun _ => 0)), .inl (cA, 5, .inl (fun _ => 0))]
def stB : List Value := [.int 0, .null, .null, .null, .null, .null, .null, .int 0, .null, .null, .null, .null, .null, .int 0, .int 0, .null, .null, .int 0, .int 0]
def wyF (b m : Nat) : List Value := [.ref (b + (m + 0)), .ref (b + (m + 1)), .int 0, .int 0, .int 0]
def wyA (cA : ClassId) : List va_E := [.inl (cA, 4, .inl (fun _ => 0)), .inl (cA, 4, .inl (fun _ => 0))]
def wyB : List Value := [.null, .null, .int 0, .int 0, .int 0]
def moF (b m : Nat) : List Value := [.ref (b + (m + 0)), .ref (b + (m + 1)), .ref (b + (m + 2)), .ref (b + (m + 3)), .ref (b + (m + 4)), .ref (b + (m + 5)), .ref (b + (m + 6)), .ref (b + (m + 7)), .ref (b + (m + 8)), .ref (b + (m + 9)), .ref (b + (m + 10)), .int 0, .int 0, .int 0, .int 0, .ref (b + (m + 11)), .ref (b + (m + 12)), .ref (b + (m + 13)), .ref (b + (m + 14)), .int 0, .int 0, .int 0, .ref (b + (m + 15)), .int 0, .int 0, .int 0, .int 0, .ref (b + (m + 16)), .ref (b + (m + 17)), .int 0, .int 9, .int 0, .ref (b + (m + 18)), .ref (b + (m + 19)), .ref (b + (m + 20)), .int 0, .ref (b + (m + 21)), .ref (b + (m + 22))]
def moA (cA : ClassId) : List va_E := [.inl (cA, 7, .inl (fun _ => 0)), .inl (cA, 6, .inl (fun _ => 0)), .inl (cA, 6, .inl (fun _ => 0)), .inl (cA, 6, .inl (fun _ => 0)), .inl (cA, 6, .inl (fun _ => 0)), .inl (cA, 6, .inl (fun _ => 0)), .inl (cA, 5, .inl (fun _ => 0)), .inl (cA, 5, .inl (fun _ => 0)), .inl (cA, 5, .inl (fun _ => 0)), .inl (cA, 5, .inl (fun _ => 0)), .inl (cA, 5, .inl (fun _ => 0)), .inl (cA, 96, .inl (fun _ => 0)), .inl (cA, 48, .inl (fun _ => 0)), .inl (cA, 48, .inl (fun _ => 0)), .inl (cA, 144, .inl (fun _ => 0)), .inl (cA, 660, .inl (fun _ => 0)), .inl (cA, 5, .inl (fun _ => 0)), .inl (cA, 5, .inl (fun _ => 0)), .inl (cA, 5, .inl (fun _ => 0)), .inl (cA, 6, .inl (fun _ => 0)), .inl (cA, 12, .inl (fun _ => 0)), .inl (cA, 10, .inl (fun _ => 0)), .inl (cA, 64, .inl (fun _ => 0))]
def moB : List Value := [.null, .null, .null, .null, .null, .null, .null, .null, .null, .null, .null, .int 0, .int 0, .int 0, .int 0, .null, .null, .null, .null, .int 0, .int 0, .int 0, .null, .int 0, .int 0, .int 0, .int 0, .null, .null, .int 0, .int 0, .int 0, .null, .null, .null, .int 0, .null, .null]
def hlB : List Value := [.null, .null, .null, .int 0, .null, .int 0, .null, .int 0, .null, .int 0, .null, .null, .null]
theorem blk_X0 : ∀ j, j < 19 → defaultValue (tyX0 j) = vp_V stB j := fun j hj => match j, hj with
  | 0, _ => rfl
  | 1, _ => rfl
  | 2, _ => rfl
  | 3, _ => rfl
  | 4, _ => rfl
  | 5, _ => rfl
  | 6, _ => rfl
  | 7, _ => rfl
  | 8, _ => rfl
  | 9, _ => rfl
  | 10, _ => rfl
  | 11, _ => rfl
  | 12, _ => rfl
  | 13, _ => rfl
  | 14, _ => rfl
  | 15, _ => rfl
  | 16, _ => rfl
  | 17, _ => rfl
  | 18, _ => rfl
  | k + 19, h => absurd h (by omega)
theorem blk_X1 : ∀ j, j < 5 → defaultValue (tyX1 j) = vp_V wyB j := fun j hj => match j, hj with
  | 0, _ => rfl
  | 1, _ => rfl
  | 2, _ => rfl
  | 3, _ => rfl
  | 4, _ => rfl
  | k + 5, h => absurd h (by omega)
theorem blk_X2 : ∀ j, j < 13 → defaultValue (tyX2 j) = vp_V hlB j := fun j hj => match j, hj with
  | 0, _ => rfl
  | 1, _ => rfl
  | 2, _ => rfl
  | 3, _ => rfl
  | 4, _ => rfl
  | 5, _ => rfl
  | 6, _ => rfl
  | 7, _ => rfl
  | 8, _ => rfl
  | 9, _ => rfl
  | 10, _ => rfl
  | 11, _ => rfl
  | 12, _ => rfl
  | k + 13, h => absurd h (by omega)
theorem blk_X3 : ∀ j, j < 38 → defaultValue (tyX3 j) = vp_V moB j := fun j hj => match j, hj with
  | 0, _ => rfl
  | 1, _ => rfl
  | 2, _ => rfl
  | 3, _ => rfl
  | 4, _ => rfl
  | 5, _ => rfl
  | 6, _ => rfl
  | 7, _ => rfl
  | 8, _ => rfl
  | 9, _ => rfl
  | 10, _ => rfl
  | 11, _ => rfl
  | 12, _ => rfl
  | 13, _ => rfl
  | 14, _ => rfl
  | 15, _ => rfl
  | 16, _ => rfl
  | 17, _ => rfl
  | 18, _ => rfl
  | 19, _ => rfl
  | 20, _ => rfl
  | 21, _ => rfl
  | 22, _ => rfl
  | 23, _ => rfl
  | 24, _ => rfl
  | 25, _ => rfl
  | 26, _ => rfl
  | 27, _ => rfl
  | 28, _ => rfl
  | 29, _ => rfl
  | 30, _ => rfl
  | 31, _ => rfl
  | 32, _ => rfl
  | 33, _ => rfl
  | 34, _ => rfl
  | 35, _ => rfl
  | 36, _ => rfl
  | 37, _ => rfl
  | k + 38, h => absurd h (by omega)
def hlA (y : LY) : List va_E := (.inr (0, stF y.1 2) :: stA y.2.2.2.1) ++ (.inr (0, stF y.1 16) :: stA y.2.2.2.1) ++ (.inr (0, stF y.1 30) :: stA y.2.2.2.1)
def hlC (y : LY) : List va_E := ([.inl (y.2.2.2.1, 96, .inl (fun _ => 0))]) ++ ([.inl (y.2.2.2.1, 12, .inl (fun _ => 0))]) ++ ([.inl (y.2.2.2.1, 7, .inl (fun _ => 0))]) ++ ([.inl (y.2.2.2.1, 10, .inl (fun _ => 0))]) ++ (.inr (1, wyF y.1 49) :: wyA y.2.2.2.1)
def hlF (y : LY) : List Value := [.ref (y.1 + 1), .ref (y.1 + 15), .ref (y.1 + 29), .int 0, .ref (y.1 + (1 + 42)), .int 0, .ref (y.1 + (1 + 43)), .int 0, .ref (y.1 + (1 + 44)), .int 0, .ref (y.1 + (1 + 45)), .ref (y.1 + (1 + 46)), .ref (y.1 + 48)]
theorem hlA_len (y : LY) : (hlA y).length = 42 := rfl
theorem hlC_len (y : LY) : (hlC y).length = 7 := rfl
def hlS (y : LY) : Nat → List va_E
  | 0 => []
  | k + 1 => hlS y k ++ (.inr (0, stF y.1 (51 + 14 * k + 1)) :: stA y.2.2.2.1)
def hlR (y : LY) : Nat → Nat → Option Nat
  | 0 => fun _ => none
  | k + 1 => va_up (hlR y k) k (some (y.1 + (51 + 14 * k)))
theorem hlS_len (y : LY) : ∀ k, (hlS y k).length = 14 * k
  | 0 => rfl
  | k + 1 => by
    show (hlS y k ++ _).length = _
    rw [List.length_append, hlS_len y k]
    show 14 * k + 14 = 14 * (k + 1)
    omega
def hlX (y : LY) (k : Nat) : List va_E := OB1 [.inr (2, hlB)] 0 2 (hlF y) (hlA y ++ .inl (y.2.2.2.2, 8, .inr (.inr (.inr (.inr (hlR y k))))) :: (hlC y ++ hlS y k))
def hlW (y : LY) : List va_E := hlX y 8
theorem lo_X0 : Cond.methodLink RX0 3 objectInit ∈ lw_gd := (in_gd (List.mem_of_getElem? (i := 21) (by decide +kernel)) rfl)
theorem cl_X0_9 : Cond.fieldLink RX0 9 (TX0 0).1 (TX0 0).2.1 (TX0 0).2.2.1 ∈ lw_gd := (in_gd (List.mem_of_getElem? (i := 22) (by decide +kernel)) rfl)
theorem cl_X0_15 : Cond.fieldLink RX0 15 (TX0 1).1 (TX0 1).2.1 (TX0 1).2.2.1 ∈ lw_gd := (in_gd (List.mem_of_getElem? (i := 24) (by decide +kernel)) rfl)
theorem cl_X0_19 : Cond.fieldLink RX0 19 (TX0 2).1 (TX0 2).2.1 (TX0 2).2.2.1 ∈ lw_gd := (in_gd (List.mem_of_getElem? (i := 26) (by decide +kernel)) rfl)
theorem cl_X0_22 : Cond.fieldLink RX0 22 (TX0 3).1 (TX0 3).2.1 (TX0 3).2.2.1 ∈ lw_gd := (in_gd (List.mem_of_getElem? (i := 28) (by decide +kernel)) rfl)
theorem cl_X0_25 : Cond.fieldLink RX0 25 (TX0 4).1 (TX0 4).2.1 (TX0 4).2.2.1 ∈ lw_gd := (in_gd (List.mem_of_getElem? (i := 30) (by decide +kernel)) rfl)
theorem cl_X0_28 : Cond.fieldLink RX0 28 (TX0 5).1 (TX0 5).2.1 (TX0 5).2.2.1 ∈ lw_gd := (in_gd (List.mem_of_getElem? (i := 32) (by decide +kernel)) rfl)
theorem cl_X0_31 : Cond.fieldLink RX0 31 (TX0 6).1 (TX0 6).2.1 (TX0 6).2.2.1 ∈ lw_gd := (in_gd (List.mem_of_getElem? (i := 34) (by decide +kernel)) rfl)
theorem cl_X0_34 : Cond.fieldLink RX0 34 (TX0 7).1 (TX0 7).2.1 (TX0 7).2.2.1 ∈ lw_gd := (in_gd (List.mem_of_getElem? (i := 36) (by decide +kernel)) rfl)
theorem cl_X0_37 : Cond.fieldLink RX0 37 (TX0 8).1 (TX0 8).2.1 (TX0 8).2.2.1 ∈ lw_gd := (in_gd (List.mem_of_getElem? (i := 38) (by decide +kernel)) rfl)
theorem cl_X0_40 : Cond.fieldLink RX0 40 (TX0 9).1 (TX0 9).2.1 (TX0 9).2.2.1 ∈ lw_gd := (in_gd (List.mem_of_getElem? (i := 40) (by decide +kernel)) rfl)
theorem cl_X0_43 : Cond.fieldLink RX0 43 (TX0 10).1 (TX0 10).2.1 (TX0 10).2.2.1 ∈ lw_gd := (in_gd (List.mem_of_getElem? (i := 42) (by decide +kernel)) rfl)
theorem cl_X0_46 : Cond.fieldLink RX0 46 (TX0 11).1 (TX0 11).2.1 (TX0 11).2.2.1 ∈ lw_gd := (in_gd (List.mem_of_getElem? (i := 44) (by decide +kernel)) rfl)
theorem cl_X0_49 : Cond.fieldLink RX0 49 (TX0 12).1 (TX0 12).2.1 (TX0 12).2.2.1 ∈ lw_gd := (in_gd (List.mem_of_getElem? (i := 46) (by decide +kernel)) rfl)
theorem cl_X0_52 : Cond.fieldLink RX0 52 (TX0 13).1 (TX0 13).2.1 (TX0 13).2.2.1 ∈ lw_gd := (in_gd (List.mem_of_getElem? (i := 48) (by decide +kernel)) rfl)
theorem cl_X0_55 : Cond.fieldLink RX0 55 (TX0 14).1 (TX0 14).2.1 (TX0 14).2.2.1 ∈ lw_gd := (in_gd (List.mem_of_getElem? (i := 50) (by decide +kernel)) rfl)
theorem cl_X0_58 : Cond.fieldLink RX0 58 (TX0 15).1 (TX0 15).2.1 (TX0 15).2.2.1 ∈ lw_gd := (in_gd (List.mem_of_getElem? (i := 52) (by decide +kernel)) rfl)
theorem cl_X0_61 : Cond.fieldLink RX0 61 (TX0 16).1 (TX0 16).2.1 (TX0 16).2.2.1 ∈ lw_gd := (in_gd (List.mem_of_getElem? (i := 54) (by decide +kernel)) rfl)
theorem cl_X0_64 : Cond.fieldLink RX0 64 (TX0 17).1 (TX0 17).2.1 (TX0 17).2.2.1 ∈ lw_gd := (in_gd (List.mem_of_getElem? (i := 56) (by decide +kernel)) rfl)
theorem cl_X0_67 : Cond.fieldLink RX0 67 (TX0 18).1 (TX0 18).2.1 (TX0 18).2.2.1 ∈ lw_gd := (in_gd (List.mem_of_getElem? (i := 58) (by decide +kernel)) rfl)
theorem lo_X1 : Cond.methodLink RX1 3 objectInit ∈ lw_gd := (in_gd (List.mem_of_getElem? (i := 106) (by decide +kernel)) rfl)
theorem cl_X1_9 : Cond.fieldLink RX1 9 (TX1 0).1 (TX1 0).2.1 (TX1 0).2.2.1 ∈ lw_gd := (in_gd (List.mem_of_getElem? (i := 107) (by decide +kernel)) rfl)
theorem cl_X1_15 : Cond.fieldLink RX1 15 (TX1 1).1 (TX1 1).2.1 (TX1 1).2.2.1 ∈ lw_gd := (in_gd (List.mem_of_getElem? (i := 108) (by decide +kernel)) rfl)
theorem cl_X1_18 : Cond.fieldLink RX1 18 (TX1 2).1 (TX1 2).2.1 (TX1 2).2.2.1 ∈ lw_gd := (in_gd (List.mem_of_getElem? (i := 109) (by decide +kernel)) rfl)
theorem cl_X1_22 : Cond.fieldLink RX1 22 (TX1 3).1 (TX1 3).2.1 (TX1 3).2.2.1 ∈ lw_gd := (in_gd (List.mem_of_getElem? (i := 110) (by decide +kernel)) rfl)
theorem cl_X1_25 : Cond.fieldLink RX1 25 (TX1 4).1 (TX1 4).2.1 (TX1 4).2.2.1 ∈ lw_gd := (in_gd (List.mem_of_getElem? (i := 111) (by decide +kernel)) rfl)
theorem lo_X3 : Cond.methodLink RX3 1 objectInit ∈ lw_gd := (in_gd (List.mem_of_getElem? (i := 689) (by decide +kernel)) rfl)
theorem cl_X3_7 : Cond.fieldLink RX3 7 (TX3 0).1 (TX3 0).2.1 (TX3 0).2.2.1 ∈ lw_gd := (in_gd (List.mem_of_getElem? (i := 690) (by decide +kernel)) rfl)
theorem cl_X3_13 : Cond.fieldLink RX3 13 (TX3 1).1 (TX3 1).2.1 (TX3 1).2.2.1 ∈ lw_gd := (in_gd (List.mem_of_getElem? (i := 691) (by decide +kernel)) rfl)
theorem cl_X3_16 : Cond.fieldLink RX3 16 (TX3 2).1 (TX3 2).2.1 (TX3 2).2.2.1 ∈ lw_gd := (in_gd (List.mem_of_getElem? (i := 692) (by decide +kernel)) rfl)
theorem cl_X3_19 : Cond.fieldLink RX3 19 (TX3 3).1 (TX3 3).2.1 (TX3 3).2.2.1 ∈ lw_gd := (in_gd (List.mem_of_getElem? (i := 693) (by decide +kernel)) rfl)
theorem cl_X3_22 : Cond.fieldLink RX3 22 (TX3 4).1 (TX3 4).2.1 (TX3 4).2.2.1 ∈ lw_gd := (in_gd (List.mem_of_getElem? (i := 694) (by decide +kernel)) rfl)
theorem cl_X3_25 : Cond.fieldLink RX3 25 (TX3 5).1 (TX3 5).2.1 (TX3 5).2.2.1 ∈ lw_gd := (in_gd (List.mem_of_getElem? (i := 695) (by decide +kernel)) rfl)
theorem cl_X3_28 : Cond.fieldLink RX3 28 (TX3 6).1 (TX3 6).2.1 (TX3 6).2.2.1 ∈ lw_gd := (in_gd (List.mem_of_getElem? (i := 696) (by decide +kernel)) rfl)
theorem cl_X3_31 : Cond.fieldLink RX3 31 (TX3 7).1 (TX3 7).2.1 (TX3 7).2.2.1 ∈ lw_gd := (in_gd (List.mem_of_getElem? (i := 697) (by decide +kernel)) rfl)
theorem cl_X3_34 : Cond.fieldLink RX3 34 (TX3 8).1 (TX3 8).2.1 (TX3 8).2.2.1 ∈ lw_gd := (in_gd (List.mem_of_getElem? (i := 698) (by decide +kernel)) rfl)
theorem cl_X3_37 : Cond.fieldLink RX3 37 (TX3 9).1 (TX3 9).2.1 (TX3 9).2.2.1 ∈ lw_gd := (in_gd (List.mem_of_getElem? (i := 699) (by decide +kernel)) rfl)
theorem cl_X3_40 : Cond.fieldLink RX3 40 (TX3 10).1 (TX3 10).2.1 (TX3 10).2.2.1 ∈ lw_gd := (in_gd (List.mem_of_getElem? (i := 700) (by decide +kernel)) rfl)
theorem cl_X3_43 : Cond.fieldLink RX3 43 (TX3 15).1 (TX3 15).2.1 (TX3 15).2.2.1 ∈ lw_gd := (in_gd (List.mem_of_getElem? (i := 705) (by decide +kernel)) rfl)
theorem cl_X3_46 : Cond.fieldLink RX3 46 (TX3 16).1 (TX3 16).2.1 (TX3 16).2.2.1 ∈ lw_gd := (in_gd (List.mem_of_getElem? (i := 706) (by decide +kernel)) rfl)
theorem cl_X3_49 : Cond.fieldLink RX3 49 (TX3 17).1 (TX3 17).2.1 (TX3 17).2.2.1 ∈ lw_gd := (in_gd (List.mem_of_getElem? (i := 707) (by decide +kernel)) rfl)
theorem ks_144 : (Int16.ofInt 144).toInt32 = 144 := by decide
theorem cl_X3_52 : Cond.fieldLink RX3 52 (TX3 18).1 (TX3 18).2.1 (TX3 18).2.2.1 ∈ lw_gd := (in_gd (List.mem_of_getElem? (i := 708) (by decide +kernel)) rfl)
theorem ks_660 : (Int16.ofInt 660).toInt32 = 660 := by decide
theorem cl_X3_55 : Cond.fieldLink RX3 55 (TX3 22).1 (TX3 22).2.1 (TX3 22).2.2.1 ∈ lw_gd := (in_gd (List.mem_of_getElem? (i := 712) (by decide +kernel)) rfl)
theorem cl_X3_58 : Cond.fieldLink RX3 58 (TX3 27).1 (TX3 27).2.1 (TX3 27).2.2.1 ∈ lw_gd := (in_gd (List.mem_of_getElem? (i := 717) (by decide +kernel)) rfl)
theorem cl_X3_61 : Cond.fieldLink RX3 61 (TX3 28).1 (TX3 28).2.1 (TX3 28).2.2.1 ∈ lw_gd := (in_gd (List.mem_of_getElem? (i := 718) (by decide +kernel)) rfl)
theorem cl_X3_64 : Cond.fieldLink RX3 64 (TX3 30).1 (TX3 30).2.1 (TX3 30).2.2.1 ∈ lw_gd := (in_gd (List.mem_of_getElem? (i := 720) (by decide +kernel)) rfl)
theorem cl_X3_68 : Cond.fieldLink RX3 68 (TX3 32).1 (TX3 32).2.1 (TX3 32).2.2.1 ∈ lw_gd := (in_gd (List.mem_of_getElem? (i := 722) (by decide +kernel)) rfl)
theorem cl_X3_71 : Cond.fieldLink RX3 71 (TX3 33).1 (TX3 33).2.1 (TX3 33).2.2.1 ∈ lw_gd := (in_gd (List.mem_of_getElem? (i := 723) (by decide +kernel)) rfl)
theorem cl_X3_74 : Cond.fieldLink RX3 74 (TX3 34).1 (TX3 34).2.1 (TX3 34).2.2.1 ∈ lw_gd := (in_gd (List.mem_of_getElem? (i := 724) (by decide +kernel)) rfl)
theorem cl_X3_77 : Cond.fieldLink RX3 77 (TX3 36).1 (TX3 36).2.1 (TX3 36).2.2.1 ∈ lw_gd := (in_gd (List.mem_of_getElem? (i := 726) (by decide +kernel)) rfl)
theorem cl_X3_80 : Cond.fieldLink RX3 80 (TX3 37).1 (TX3 37).2.1 (TX3 37).2.2.1 ∈ lw_gd := (in_gd (List.mem_of_getElem? (i := 727) (by decide +kernel)) rfl)
theorem cl_X3_83 : Cond.fieldLink RX3 83 (TX3 11).1 (TX3 11).2.1 (TX3 11).2.2.1 ∈ lw_gd := (in_gd (List.mem_of_getElem? (i := 701) (by decide +kernel)) rfl)
theorem ci_X0 : Cond.instantiable RX0 19 ∈ lw_gd := (in_gd (List.mem_of_getElem? (i := 17) (by decide +kernel)) rfl)
theorem cn_X0 : Cond.initialized RX0 ∈ lw_gd := (in_gd (List.mem_of_getElem? (i := 2) (by decide +kernel)) rfl)
theorem ci_X1 : Cond.instantiable RX1 5 ∈ lw_gd := (in_gd (List.mem_of_getElem? (i := 102) (by decide +kernel)) rfl)
theorem cn_X1 : Cond.initialized RX1 ∈ lw_gd := (in_gd (List.mem_of_getElem? (i := 3) (by decide +kernel)) rfl)
theorem ci_X2 : Cond.instantiable RX2 13 ∈ lw_gd := (in_gd (List.mem_of_getElem? (i := 9) (by decide +kernel)) rfl)
theorem cn_X2 : Cond.initialized RX2 ∈ lw_gd := (in_gd (List.mem_of_getElem? (i := 1) (by decide +kernel)) rfl)
theorem ci_X3 : Cond.instantiable RX3 38 ∈ lw_gd := (in_gd (List.mem_of_getElem? (i := 685) (by decide +kernel)) rfl)
theorem cn_X3 : Cond.initialized RX3 ∈ lw_gd := (in_gd (List.mem_of_getElem? (i := 4) (by decide +kernel)) rfl)
theorem cx_X0 : Cond.instanceMethod yX0_init ∈ lw_gd ∧ Cond.code yX0_init cX0_init 1 none ∈ lw_gd := ⟨(in_gd (List.mem_of_getElem? (i := 19) (by decide +kernel)) rfl), (in_gd (List.mem_of_getElem? (i := 20) (by decide +kernel)) rfl)⟩
theorem cx_X1 : Cond.instanceMethod yX1_init ∈ lw_gd ∧ Cond.code yX1_init cX1_init 1 none ∈ lw_gd := ⟨(in_gd (List.mem_of_getElem? (i := 104) (by decide +kernel)) rfl), (in_gd (List.mem_of_getElem? (i := 105) (by decide +kernel)) rfl)⟩
theorem cx_X2 : Cond.instanceMethod yX2_init ∈ lw_gd ∧ Cond.code yX2_init cX2_init 2 none ∈ lw_gd := ⟨(in_gd (List.mem_of_getElem? (i := 11) (by decide +kernel)) rfl), (in_gd (List.mem_of_getElem? (i := 12) (by decide +kernel)) rfl)⟩
theorem cx_X3 : Cond.instanceMethod yX3_init ∈ lw_gd ∧ Cond.code yX3_init cX3_init 1 none ∈ lw_gd := ⟨(in_gd (List.mem_of_getElem? (i := 687) (by decide +kernel)) rfl), (in_gd (List.mem_of_getElem? (i := 688) (by decide +kernel)) rfl)⟩
theorem lo_X2 : Cond.methodLink RX2 3 objectInit ∈ lw_gd := (in_gd (List.mem_of_getElem? (i := 13) (by decide +kernel)) rfl)
theorem ck_X2_9 : Cond.classLink RX2 9 RX0 ∈ lw_gd := (in_gd (List.mem_of_getElem? (i := 16) (by decide +kernel)) rfl)
theorem mi_X2_11 : ML RX2 11 yX0_init := Or.inr ⟨"HandbagLady", in_ns (List.mem_of_getElem? (i := 18) (by decide +kernel)) rfl⟩
theorem cl_X2_12 : Cond.fieldLink RX2 12 (TX2 0).1 (TX2 0).2.1 (TX2 0).2.2.1 ∈ lw_gd := (in_gd (List.mem_of_getElem? (i := 124) (by decide +kernel)) rfl)
theorem cl_X2_16 : Cond.fieldLink RX2 16 (TX2 1).1 (TX2 1).2.1 (TX2 1).2.2.1 ∈ lw_gd := (in_gd (List.mem_of_getElem? (i := 125) (by decide +kernel)) rfl)
theorem cl_X2_19 : Cond.fieldLink RX2 19 (TX2 2).1 (TX2 2).2.1 (TX2 2).2.2.1 ∈ lw_gd := (in_gd (List.mem_of_getElem? (i := 126) (by decide +kernel)) rfl)
theorem cl_X2_22 : Cond.fieldLink RX2 22 (TX2 3).1 (TX2 3).2.1 (TX2 3).2.2.1 ∈ lw_gd := (in_gd (List.mem_of_getElem? (i := 127) (by decide +kernel)) rfl)
theorem cl_X2_26 : Cond.fieldLink RX2 26 (TX2 4).1 (TX2 4).2.1 (TX2 4).2.2.1 ∈ lw_gd := (in_gd (List.mem_of_getElem? (i := 128) (by decide +kernel)) rfl)
theorem cl_X2_30 : Cond.fieldLink RX2 30 (TX2 5).1 (TX2 5).2.1 (TX2 5).2.2.1 ∈ lw_gd := (in_gd (List.mem_of_getElem? (i := 129) (by decide +kernel)) rfl)
theorem cl_X2_34 : Cond.fieldLink RX2 34 (TX2 6).1 (TX2 6).2.1 (TX2 6).2.2.1 ∈ lw_gd := (in_gd (List.mem_of_getElem? (i := 130) (by decide +kernel)) rfl)
theorem cl_X2_38 : Cond.fieldLink RX2 38 (TX2 7).1 (TX2 7).2.1 (TX2 7).2.2.1 ∈ lw_gd := (in_gd (List.mem_of_getElem? (i := 131) (by decide +kernel)) rfl)
theorem cl_X2_41 : Cond.fieldLink RX2 41 (TX2 8).1 (TX2 8).2.1 (TX2 8).2.2.1 ∈ lw_gd := (in_gd (List.mem_of_getElem? (i := 132) (by decide +kernel)) rfl)
theorem cl_X2_44 : Cond.fieldLink RX2 44 (TX2 9).1 (TX2 9).2.1 (TX2 9).2.2.1 ∈ lw_gd := (in_gd (List.mem_of_getElem? (i := 133) (by decide +kernel)) rfl)
theorem cl_X2_47 : Cond.fieldLink RX2 47 (TX2 10).1 (TX2 10).2.1 (TX2 10).2.2.1 ∈ lw_gd := (in_gd (List.mem_of_getElem? (i := 134) (by decide +kernel)) rfl)
theorem cl_X2_50 : Cond.fieldLink RX2 50 (TX2 11).1 (TX2 11).2.1 (TX2 11).2.2.1 ∈ lw_gd := (in_gd (List.mem_of_getElem? (i := 135) (by decide +kernel)) rfl)
theorem ck_X2_53 : Cond.classLink RX2 53 RX1 ∈ lw_gd := (in_gd (List.mem_of_getElem? (i := 101) (by decide +kernel)) rfl)
theorem mi_X2_55 : ML RX2 55 yX1_init := Or.inr ⟨"HandbagLady", in_ns (List.mem_of_getElem? (i := 103) (by decide +kernel)) rfl⟩
theorem cl_X2_56 : Cond.fieldLink RX2 56 (TX2 12).1 (TX2 12).2.1 (TX2 12).2.2.1 ∈ lw_gd := (in_gd (List.mem_of_getElem? (i := 136) (by decide +kernel)) rfl)
set_option maxRecDepth 100000 in
set_option maxHeartbeats 4000000 in
theorem k_X0 {y : LY} {l : Launch} {ws0 : List va_E} {j : Nat} (hw : ws0[j]? = some (.inr (0, stB))) : MC y l yX0_init cX0_init 1 ({ frames := 1, cells := 13, slots := 71, locals := 40 }) 13 71 j ws0 (OB1 ws0 j 0 (stF y.1 ws0.length) (stA y.2.2.2.1)) := by
  have hj : j < ws0.length := (List.getElem?_eq_some_iff.mp hw).1
  refine MC.of (by decide +kernel) rfl rfl (fun E X z1 z2 hnm hy hAO => ?_)
  have X : CX y l E cX0_init 1 RX0 ({ frames := 1, cells := 13, slots := 71, locals := 40 }) := X
  refine c_aload_n (pc := 0) X dX0_init_0 0 rfl rfl ?_
  refine c_obj (pc := 1) X dX0_init_1 lo_X0 ⟨by decide, by decide⟩ (Nat.le_of_ble_eq_true rfl) ?_
  refine c_eq (OB1.self hw).symm ?_
  refine c_aload_n (pc := 4) X dX0_init_4 0 rfl rfl ?_
  refine c_iconst (pc := 5) X dX0_init_5 kc_0 ?_
  refine c_putU (pc := 6) (k := 0) (ty := .int) (fs' := [.int 0, .null, .null, .null, .null, .null, .null, .int 0, .null, .null, .null, .null, .null, .int 0, .int 0, .null, .null, .int 0, .int 0]) (C := RX0) (T := TX0) (N := 19) X dX0_init_6 hj rfl (by decide) rfl cl_X0_9 (Or.inl rfl) (by decide +kernel) rfl rfl rfl ?_
  refine c_aload_n (pc := 9) X dX0_init_9 0 rfl rfl ?_
  refine c_bipush (pc := 10) X dX0_init_10 kb_6 ?_
  refine c_newa (pc := 12) (N := 6) (k0 := 0) (ap' := [.inl (y.2.2.2.1, 6, .inl (fun _ => 0))]) X dX0_init_12 (by decide) (by decide) (by decide) (by decide) (by decide) rfl rfl ?_
  refine c_putU (pc := 14) (k := 1) (ty := (.array .int)) (fs' := [.int 0, .ref (y.1 + (ws0.length + 0)), .null, .null, .null, .null, .null, .int 0, .null, .null, .null, .null, .null, .int 0, .int 0, .null, .null, .int 0, .int 0]) (C := RX0) (T := TX0) (N := 19) X dX0_init_14 hj rfl (by decide) rfl cl_X0_15 (Or.inr ⟨hnm, rfl⟩) (by decide +kernel) rfl rfl rfl ?_
  refine c_aload_n (pc := 17) X dX0_init_17 0 rfl rfl ?_
  refine c_bipush (pc := 18) X dX0_init_18 kb_6 ?_
  refine c_newa (pc := 20) (N := 6) (k0 := 1) (ap' := [.inl (y.2.2.2.1, 6, .inl (fun _ => 0)), .inl (y.2.2.2.1, 6, .inl (fun _ => 0))]) X dX0_init_20 (by decide) (by decide) (by decide) (by decide) (by decide) rfl rfl ?_
  refine c_putU (pc := 22) (k := 2) (ty := (.array .int)) (fs' := [.int 0, .ref (y.1 + (ws0.length + 0)), .ref (y.1 + (ws0.length + 1)), .null, .null, .null, .null, .int 0, .null, .null, .null, .null, .null, .int 0, .int 0, .null, .null, .int 0, .int 0]) (C := RX0) (T := TX0) (N := 19) X dX0_init_22 hj rfl (by decide) rfl cl_X0_19 (Or.inr ⟨hnm, rfl⟩) (by decide +kernel) rfl rfl rfl ?_
  refine c_aload_n (pc := 25) X dX0_init_25 0 rfl rfl ?_
  refine c_bipush (pc := 26) X dX0_init_26 kb_6 ?_
  refine c_newa (pc := 28) (N := 6) (k0 := 2) (ap' := [.inl (y.2.2.2.1, 6, .inl (fun _ => 0)), .inl (y.2.2.2.1, 6, .inl (fun _ => 0)), .inl (y.2.2.2.1, 6, .inl (fun _ => 0))]) X dX0_init_28 (by decide) (by decide) (by decide) (by decide) (by decide) rfl rfl ?_
  refine c_putU (pc := 30) (k := 3) (ty := (.array .int)) (fs' := [.int 0, .ref (y.1 + (ws0.length + 0)), .ref (y.1 + (ws0.length + 1)), .ref (y.1 + (ws0.length + 2)), .null, .null, .null, .int 0, .null, .null, .null, .null, .null, .int 0, .int 0, .null, .null, .int 0, .int 0]) (C := RX0) (T := TX0) (N := 19) X dX0_init_30 hj rfl (by decide) rfl cl_X0_22 (Or.inr ⟨hnm, rfl⟩) (by decide +kernel) rfl rfl rfl ?_
  refine c_aload_n (pc := 33) X dX0_init_33 0 rfl rfl ?_
  refine c_bipush (pc := 34) X dX0_init_34 kb_6 ?_
  refine c_newa (pc := 36) (N := 6) (k0 := 3) (ap' := [.inl (y.2.2.2.1, 6, .inl (fun _ => 0)), .inl (y.2.2.2.1, 6, .inl (fun _ => 0)), .inl (y.2.2.2.1, 6, .inl (fun _ => 0)), .inl (y.2.2.2.1, 6, .inl (fun _ => 0))]) X dX0_init_36 (by decide) (by decide) (by decide) (by decide) (by decide) rfl rfl ?_
  refine c_putU (pc := 38) (k := 4) (ty := (.array .int)) (fs' := [.int 0, .ref (y.1 + (ws0.length + 0)), .ref (y.1 + (ws0.length + 1)), .ref (y.1 + (ws0.length + 2)), .ref (y.1 + (ws0.length + 3)), .null, .null, .int 0, .null, .null, .null, .null, .null, .int 0, .int 0, .null, .null, .int 0, .int 0]) (C := RX0) (T := TX0) (N := 19) X dX0_init_38 hj rfl (by decide) rfl cl_X0_25 (Or.inr ⟨hnm, rfl⟩) (by decide +kernel) rfl rfl rfl ?_
  refine c_aload_n (pc := 41) X dX0_init_41 0 rfl rfl ?_
  refine c_bipush (pc := 42) X dX0_init_42 kb_6 ?_
  refine c_newa (pc := 44) (N := 6) (k0 := 4) (ap' := [.inl (y.2.2.2.1, 6, .inl (fun _ => 0)), .inl (y.2.2.2.1, 6, .inl (fun _ => 0)), .inl (y.2.2.2.1, 6, .inl (fun _ => 0)), .inl (y.2.2.2.1, 6, .inl (fun _ => 0)), .inl (y.2.2.2.1, 6, .inl (fun _ => 0))]) X dX0_init_44 (by decide) (by decide) (by decide) (by decide) (by decide) rfl rfl ?_
  refine c_putU (pc := 46) (k := 5) (ty := (.array .int)) (fs' := [.int 0, .ref (y.1 + (ws0.length + 0)), .ref (y.1 + (ws0.length + 1)), .ref (y.1 + (ws0.length + 2)), .ref (y.1 + (ws0.length + 3)), .ref (y.1 + (ws0.length + 4)), .null, .int 0, .null, .null, .null, .null, .null, .int 0, .int 0, .null, .null, .int 0, .int 0]) (C := RX0) (T := TX0) (N := 19) X dX0_init_46 hj rfl (by decide) rfl cl_X0_28 (Or.inr ⟨hnm, rfl⟩) (by decide +kernel) rfl rfl rfl ?_
  refine c_aload_n (pc := 49) X dX0_init_49 0 rfl rfl ?_
  refine c_bipush (pc := 50) X dX0_init_50 kb_6 ?_
  refine c_newa (pc := 52) (N := 6) (k0 := 5) (ap' := [.inl (y.2.2.2.1, 6, .inl (fun _ => 0)), .inl (y.2.2.2.1, 6, .inl (fun _ => 0)), .inl (y.2.2.2.1, 6, .inl (fun _ => 0)), .inl (y.2.2.2.1, 6, .inl (fun _ => 0)), .inl (y.2.2.2.1, 6, .inl (fun _ => 0)), .inl (y.2.2.2.1, 6, .inl (fun _ => 0))]) X dX0_init_52 (by decide) (by decide) (by decide) (by decide) (by decide) rfl rfl ?_
  refine c_putU (pc := 54) (k := 6) (ty := (.array .int)) (fs' := [.int 0, .ref (y.1 + (ws0.length + 0)), .ref (y.1 + (ws0.length + 1)), .ref (y.1 + (ws0.length + 2)), .ref (y.1 + (ws0.length + 3)), .ref (y.1 + (ws0.length + 4)), .ref (y.1 + (ws0.length + 5)), .int 0, .null, .null, .null, .null, .null, .int 0, .int 0, .null, .null, .int 0, .int 0]) (C := RX0) (T := TX0) (N := 19) X dX0_init_54 hj rfl (by decide) rfl cl_X0_31 (Or.inr ⟨hnm, rfl⟩) (by decide +kernel) rfl rfl rfl ?_
  refine c_aload_n (pc := 57) X dX0_init_57 0 rfl rfl ?_
  refine c_iconst (pc := 58) X dX0_init_58 kc_0 ?_
  refine c_putU (pc := 59) (k := 7) (ty := .int) (fs' := [.int 0, .ref (y.1 + (ws0.length + 0)), .ref (y.1 + (ws0.length + 1)), .ref (y.1 + (ws0.length + 2)), .ref (y.1 + (ws0.length + 3)), .ref (y.1 + (ws0.length + 4)), .ref (y.1 + (ws0.length + 5)), .int 0, .null, .null, .null, .null, .null, .int 0, .int 0, .null, .null, .int 0, .int 0]) (C := RX0) (T := TX0) (N := 19) X dX0_init_59 hj rfl (by decide) rfl cl_X0_34 (Or.inl rfl) (by decide +kernel) rfl rfl rfl ?_
  refine c_aload_n (pc := 62) X dX0_init_62 0 rfl rfl ?_
  refine c_iconst (pc := 63) X dX0_init_63 kc_5 ?_
  refine c_newa (pc := 64) (N := 5) (k0 := 6) (ap' := [.inl (y.2.2.2.1, 6, .inl (fun _ => 0)), .inl (y.2.2.2.1, 6, .inl (fun _ => 0)), .inl (y.2.2.2.1, 6, .inl (fun _ => 0)), .inl (y.2.2.2.1, 6, .inl (fun _ => 0)), .inl (y.2.2.2.1, 6, .inl (fun _ => 0)), .inl (y.2.2.2.1, 6, .inl (fun _ => 0)), .inl (y.2.2.2.1, 5, .inl (fun _ => 0))]) X dX0_init_64 (by decide) (by decide) (by decide) (by decide) (by decide) rfl rfl ?_
  refine c_putU (pc := 66) (k := 8) (ty := (.array .int)) (fs' := [.int 0, .ref (y.1 + (ws0.length + 0)), .ref (y.1 + (ws0.length + 1)), .ref (y.1 + (ws0.length + 2)), .ref (y.1 + (ws0.length + 3)), .ref (y.1 + (ws0.length + 4)), .ref (y.1 + (ws0.length + 5)), .int 0, .ref (y.1 + (ws0.length + 6)), .null, .null, .null, .null, .int 0, .int 0, .null, .null, .int 0, .int 0]) (C := RX0) (T := TX0) (N := 19) X dX0_init_66 hj rfl (by decide) rfl cl_X0_37 (Or.inr ⟨hnm, rfl⟩) (by decide +kernel) rfl rfl rfl ?_
  refine c_aload_n (pc := 69) X dX0_init_69 0 rfl rfl ?_
  refine c_iconst (pc := 70) X dX0_init_70 kc_5 ?_
  refine c_newa (pc := 71) (N := 5) (k0 := 7) (ap' := [.inl (y.2.2.2.1, 6, .inl (fun _ => 0)), .inl (y.2.2.2.1, 6, .inl (fun _ => 0)), .inl (y.2.2.2.1, 6, .inl (fun _ => 0)), .inl (y.2.2.2.1, 6, .inl (fun _ => 0)), .inl (y.2.2.2.1, 6, .inl (fun _ => 0)), .inl (y.2.2.2.1, 6, .inl (fun _ => 0)), .inl (y.2.2.2.1, 5, .inl (fun _ => 0)), .inl (y.2.2.2.1, 5, .inl (fun _ => 0))]) X dX0_init_71 (by decide) (by decide) (by decide) (by decide) (by decide) rfl rfl ?_
  refine c_putU (pc := 73) (k := 9) (ty := (.array .int)) (fs' := [.int 0, .ref (y.1 + (ws0.length + 0)), .ref (y.1 + (ws0.length + 1)), .ref (y.1 + (ws0.length + 2)), .ref (y.1 + (ws0.length + 3)), .ref (y.1 + (ws0.length + 4)), .ref (y.1 + (ws0.length + 5)), .int 0, .ref (y.1 + (ws0.length + 6)), .ref (y.1 + (ws0.length + 7)), .null, .null, .null, .int 0, .int 0, .null, .null, .int 0, .int 0]) (C := RX0) (T := TX0) (N := 19) X dX0_init_73 hj rfl (by decide) rfl cl_X0_40 (Or.inr ⟨hnm, rfl⟩) (by decide +kernel) rfl rfl rfl ?_
  refine c_aload_n (pc := 76) X dX0_init_76 0 rfl rfl ?_
  refine c_iconst (pc := 77) X dX0_init_77 kc_5 ?_
  refine c_newa (pc := 78) (N := 5) (k0 := 8) (ap' := [.inl (y.2.2.2.1, 6, .inl (fun _ => 0)), .inl (y.2.2.2.1, 6, .inl (fun _ => 0)), .inl (y.2.2.2.1, 6, .inl (fun _ => 0)), .inl (y.2.2.2.1, 6, .inl (fun _ => 0)), .inl (y.2.2.2.1, 6, .inl (fun _ => 0)), .inl (y.2.2.2.1, 6, .inl (fun _ => 0)), .inl (y.2.2.2.1, 5, .inl (fun _ => 0)), .inl (y.2.2.2.1, 5, .inl (fun _ => 0)), .inl (y.2.2.2.1, 5, .inl (fun _ => 0))]) X dX0_init_78 (by decide) (by decide) (by decide) (by decide) (by decide) rfl rfl ?_
  refine c_putU (pc := 80) (k := 10) (ty := (.array .int)) (fs' := [.int 0, .ref (y.1 + (ws0.length + 0)), .ref (y.1 + (ws0.length + 1)), .ref (y.1 + (ws0.length + 2)), .ref (y.1 + (ws0.length + 3)), .ref (y.1 + (ws0.length + 4)), .ref (y.1 + (ws0.length + 5)), .int 0, .ref (y.1 + (ws0.length + 6)), .ref (y.1 + (ws0.length + 7)), .ref (y.1 + (ws0.length + 8)), .null, .null, .int 0, .int 0, .null, .null, .int 0, .int 0]) (C := RX0) (T := TX0) (N := 19) X dX0_init_80 hj rfl (by decide) rfl cl_X0_43 (Or.inr ⟨hnm, rfl⟩) (by decide +kernel) rfl rfl rfl ?_
  refine c_aload_n (pc := 83) X dX0_init_83 0 rfl rfl ?_
  refine c_iconst (pc := 84) X dX0_init_84 kc_5 ?_
  refine c_newa (pc := 85) (N := 5) (k0 := 9) (ap' := [.inl (y.2.2.2.1, 6, .inl (fun _ => 0)), .inl (y.2.2.2.1, 6, .inl (fun _ => 0)), .inl (y.2.2.2.1, 6, .inl (fun _ => 0)), .inl (y.2.2.2.1, 6, .inl (fun _ => 0)), .inl (y.2.2.2.1, 6, .inl (fun _ => 0)), .inl (y.2.2.2.1, 6, .inl (fun _ => 0)), .inl (y.2.2.2.1, 5, .inl (fun _ => 0)), .inl (y.2.2.2.1, 5, .inl (fun _ => 0)), .inl (y.2.2.2.1, 5, .inl (fun _ => 0)), .inl (y.2.2.2.1, 5, .inl (fun _ => 0))]) X dX0_init_85 (by decide) (by decide) (by decide) (by decide) (by decide) rfl rfl ?_
  refine c_putU (pc := 87) (k := 11) (ty := (.array .int)) (fs' := [.int 0, .ref (y.1 + (ws0.length + 0)), .ref (y.1 + (ws0.length + 1)), .ref (y.1 + (ws0.length + 2)), .ref (y.1 + (ws0.length + 3)), .ref (y.1 + (ws0.length + 4)), .ref (y.1 + (ws0.length + 5)), .int 0, .ref (y.1 + (ws0.length + 6)), .ref (y.1 + (ws0.length + 7)), .ref (y.1 + (ws0.length + 8)), .ref (y.1 + (ws0.length + 9)), .null, .int 0, .int 0, .null, .null, .int 0, .int 0]) (C := RX0) (T := TX0) (N := 19) X dX0_init_87 hj rfl (by decide) rfl cl_X0_46 (Or.inr ⟨hnm, rfl⟩) (by decide +kernel) rfl rfl rfl ?_
  refine c_aload_n (pc := 90) X dX0_init_90 0 rfl rfl ?_
  refine c_iconst (pc := 91) X dX0_init_91 kc_5 ?_
  refine c_newa (pc := 92) (N := 5) (k0 := 10) (ap' := [.inl (y.2.2.2.1, 6, .inl (fun _ => 0)), .inl (y.2.2.2.1, 6, .inl (fun _ => 0)), .inl (y.2.2.2.1, 6, .inl (fun _ => 0)), .inl (y.2.2.2.1, 6, .inl (fun _ => 0)), .inl (y.2.2.2.1, 6, .inl (fun _ => 0)), .inl (y.2.2.2.1, 6, .inl (fun _ => 0)), .inl (y.2.2.2.1, 5, .inl (fun _ => 0)), .inl (y.2.2.2.1, 5, .inl (fun _ => 0)), .inl (y.2.2.2.1, 5, .inl (fun _ => 0)), .inl (y.2.2.2.1, 5, .inl (fun _ => 0)), .inl (y.2.2.2.1, 5, .inl (fun _ => 0))]) X dX0_init_92 (by decide) (by decide) (by decide) (by decide) (by decide) rfl rfl ?_
  refine c_putU (pc := 94) (k := 12) (ty := (.array .int)) (fs' := [.int 0, .ref (y.1 + (ws0.length + 0)), .ref (y.1 + (ws0.length + 1)), .ref (y.1 + (ws0.length + 2)), .ref (y.1 + (ws0.length + 3)), .ref (y.1 + (ws0.length + 4)), .ref (y.1 + (ws0.length + 5)), .int 0, .ref (y.1 + (ws0.length + 6)), .ref (y.1 + (ws0.length + 7)), .ref (y.1 + (ws0.length + 8)), .ref (y.1 + (ws0.length + 9)), .ref (y.1 + (ws0.length + 10)), .int 0, .int 0, .null, .null, .int 0, .int 0]) (C := RX0) (T := TX0) (N := 19) X dX0_init_94 hj rfl (by decide) rfl cl_X0_49 (Or.inr ⟨hnm, rfl⟩) (by decide +kernel) rfl rfl rfl ?_
  refine c_aload_n (pc := 97) X dX0_init_97 0 rfl rfl ?_
  refine c_iconst (pc := 98) X dX0_init_98 kc_0 ?_
  refine c_putU (pc := 99) (k := 13) (ty := .int) (fs' := [.int 0, .ref (y.1 + (ws0.length + 0)), .ref (y.1 + (ws0.length + 1)), .ref (y.1 + (ws0.length + 2)), .ref (y.1 + (ws0.length + 3)), .ref (y.1 + (ws0.length + 4)), .ref (y.1 + (ws0.length + 5)), .int 0, .ref (y.1 + (ws0.length + 6)), .ref (y.1 + (ws0.length + 7)), .ref (y.1 + (ws0.length + 8)), .ref (y.1 + (ws0.length + 9)), .ref (y.1 + (ws0.length + 10)), .int 0, .int 0, .null, .null, .int 0, .int 0]) (C := RX0) (T := TX0) (N := 19) X dX0_init_99 hj rfl (by decide) rfl cl_X0_52 (Or.inl rfl) (by decide +kernel) rfl rfl rfl ?_
  refine c_aload_n (pc := 102) X dX0_init_102 0 rfl rfl ?_
  refine c_iconst (pc := 103) X dX0_init_103 kc_0 ?_
  refine c_putU (pc := 104) (k := 14) (ty := .int) (fs' := [.int 0, .ref (y.1 + (ws0.length + 0)), .ref (y.1 + (ws0.length + 1)), .ref (y.1 + (ws0.length + 2)), .ref (y.1 + (ws0.length + 3)), .ref (y.1 + (ws0.length + 4)), .ref (y.1 + (ws0.length + 5)), .int 0, .ref (y.1 + (ws0.length + 6)), .ref (y.1 + (ws0.length + 7)), .ref (y.1 + (ws0.length + 8)), .ref (y.1 + (ws0.length + 9)), .ref (y.1 + (ws0.length + 10)), .int 0, .int 0, .null, .null, .int 0, .int 0]) (C := RX0) (T := TX0) (N := 19) X dX0_init_104 hj rfl (by decide) rfl cl_X0_55 (Or.inl rfl) (by decide +kernel) rfl rfl rfl ?_
  refine c_aload_n (pc := 107) X dX0_init_107 0 rfl rfl ?_
  refine c_iconst (pc := 108) X dX0_init_108 kc_5 ?_
  refine c_newa (pc := 109) (N := 5) (k0 := 11) (ap' := [.inl (y.2.2.2.1, 6, .inl (fun _ => 0)), .inl (y.2.2.2.1, 6, .inl (fun _ => 0)), .inl (y.2.2.2.1, 6, .inl (fun _ => 0)), .inl (y.2.2.2.1, 6, .inl (fun _ => 0)), .inl (y.2.2.2.1, 6, .inl (fun _ => 0)), .inl (y.2.2.2.1, 6, .inl (fun _ => 0)), .inl (y.2.2.2.1, 5, .inl (fun _ => 0)), .inl (y.2.2.2.1, 5, .inl (fun _ => 0)), .inl (y.2.2.2.1, 5, .inl (fun _ => 0)), .inl (y.2.2.2.1, 5, .inl (fun _ => 0)), .inl (y.2.2.2.1, 5, .inl (fun _ => 0)), .inl (y.2.2.2.1, 5, .inl (fun _ => 0))]) X dX0_init_109 (by decide) (by decide) (by decide) (by decide) (by decide) rfl rfl ?_
  refine c_putU (pc := 111) (k := 15) (ty := (.array .int)) (fs' := [.int 0, .ref (y.1 + (ws0.length + 0)), .ref (y.1 + (ws0.length + 1)), .ref (y.1 + (ws0.length + 2)), .ref (y.1 + (ws0.length + 3)), .ref (y.1 + (ws0.length + 4)), .ref (y.1 + (ws0.length + 5)), .int 0, .ref (y.1 + (ws0.length + 6)), .ref (y.1 + (ws0.length + 7)), .ref (y.1 + (ws0.length + 8)), .ref (y.1 + (ws0.length + 9)), .ref (y.1 + (ws0.length + 10)), .int 0, .int 0, .ref (y.1 + (ws0.length + 11)), .null, .int 0, .int 0]) (C := RX0) (T := TX0) (N := 19) X dX0_init_111 hj rfl (by decide) rfl cl_X0_58 (Or.inr ⟨hnm, rfl⟩) (by decide +kernel) rfl rfl rfl ?_
  refine c_aload_n (pc := 114) X dX0_init_114 0 rfl rfl ?_
  refine c_iconst (pc := 115) X dX0_init_115 kc_5 ?_
  refine c_newa (pc := 116) (N := 5) (k0 := 12) (ap' := [.inl (y.2.2.2.1, 6, .inl (fun _ => 0)), .inl (y.2.2.2.1, 6, .inl (fun _ => 0)), .inl (y.2.2.2.1, 6, .inl (fun _ => 0)), .inl (y.2.2.2.1, 6, .inl (fun _ => 0)), .inl (y.2.2.2.1, 6, .inl (fun _ => 0)), .inl (y.2.2.2.1, 6, .inl (fun _ => 0)), .inl (y.2.2.2.1, 5, .inl (fun _ => 0)), .inl (y.2.2.2.1, 5, .inl (fun _ => 0)), .inl (y.2.2.2.1, 5, .inl (fun _ => 0)), .inl (y.2.2.2.1, 5, .inl (fun _ => 0)), .inl (y.2.2.2.1, 5, .inl (fun _ => 0)), .inl (y.2.2.2.1, 5, .inl (fun _ => 0)), .inl (y.2.2.2.1, 5, .inl (fun _ => 0))]) X dX0_init_116 (by decide) (by decide) (by decide) (by decide) (by decide) rfl rfl ?_
  refine c_putU (pc := 118) (k := 16) (ty := (.array .int)) (fs' := [.int 0, .ref (y.1 + (ws0.length + 0)), .ref (y.1 + (ws0.length + 1)), .ref (y.1 + (ws0.length + 2)), .ref (y.1 + (ws0.length + 3)), .ref (y.1 + (ws0.length + 4)), .ref (y.1 + (ws0.length + 5)), .int 0, .ref (y.1 + (ws0.length + 6)), .ref (y.1 + (ws0.length + 7)), .ref (y.1 + (ws0.length + 8)), .ref (y.1 + (ws0.length + 9)), .ref (y.1 + (ws0.length + 10)), .int 0, .int 0, .ref (y.1 + (ws0.length + 11)), .ref (y.1 + (ws0.length + 12)), .int 0, .int 0]) (C := RX0) (T := TX0) (N := 19) X dX0_init_118 hj rfl (by decide) rfl cl_X0_61 (Or.inr ⟨hnm, rfl⟩) (by decide +kernel) rfl rfl rfl ?_
  refine c_aload_n (pc := 121) X dX0_init_121 0 rfl rfl ?_
  refine c_iconst (pc := 122) X dX0_init_122 kc_0 ?_
  refine c_putU (pc := 123) (k := 17) (ty := .int) (fs' := [.int 0, .ref (y.1 + (ws0.length + 0)), .ref (y.1 + (ws0.length + 1)), .ref (y.1 + (ws0.length + 2)), .ref (y.1 + (ws0.length + 3)), .ref (y.1 + (ws0.length + 4)), .ref (y.1 + (ws0.length + 5)), .int 0, .ref (y.1 + (ws0.length + 6)), .ref (y.1 + (ws0.length + 7)), .ref (y.1 + (ws0.length + 8)), .ref (y.1 + (ws0.length + 9)), .ref (y.1 + (ws0.length + 10)), .int 0, .int 0, .ref (y.1 + (ws0.length + 11)), .ref (y.1 + (ws0.length + 12)), .int 0, .int 0]) (C := RX0) (T := TX0) (N := 19) X dX0_init_123 hj rfl (by decide) rfl cl_X0_64 (Or.inl rfl) (by decide +kernel) rfl rfl rfl ?_
  refine c_aload_n (pc := 126) X dX0_init_126 0 rfl rfl ?_
  refine c_bipush (pc := 127) X dX0_init_127 kb_m9 ?_
  refine c_putU (pc := 129) (k := 18) (ty := .int) (fs' := [.int 0, .ref (y.1 + (ws0.length + 0)), .ref (y.1 + (ws0.length + 1)), .ref (y.1 + (ws0.length + 2)), .ref (y.1 + (ws0.length + 3)), .ref (y.1 + (ws0.length + 4)), .ref (y.1 + (ws0.length + 5)), .int 0, .ref (y.1 + (ws0.length + 6)), .ref (y.1 + (ws0.length + 7)), .ref (y.1 + (ws0.length + 8)), .ref (y.1 + (ws0.length + 9)), .ref (y.1 + (ws0.length + 10)), .int 0, .int 0, .ref (y.1 + (ws0.length + 11)), .ref (y.1 + (ws0.length + 12)), .int 0, .int (-9)]) (C := RX0) (T := TX0) (N := 19) X dX0_init_129 hj rfl (by decide) rfl cl_X0_67 (Or.inl rfl) (by decide +kernel) rfl rfl rfl ?_
  exact c_ret (pc := 132) X z1 z2 dX0_init_132 rfl rfl rfl

set_option maxRecDepth 100000 in
set_option maxHeartbeats 4000000 in
theorem k_X1 {y : LY} {l : Launch} {ws0 : List va_E} {j : Nat} (hw : ws0[j]? = some (.inr (1, wyB))) : MC y l yX1_init cX1_init 1 ({ frames := 1, cells := 2, slots := 8, locals := 40 }) 2 8 j ws0 (OB1 ws0 j 1 (wyF y.1 ws0.length) (wyA y.2.2.2.1)) := by
  have hj : j < ws0.length := (List.getElem?_eq_some_iff.mp hw).1
  refine MC.of (by decide +kernel) rfl rfl (fun E X z1 z2 hnm hy hAO => ?_)
  have X : CX y l E cX1_init 1 RX1 ({ frames := 1, cells := 2, slots := 8, locals := 40 }) := X
  refine c_aload_n (pc := 0) X dX1_init_0 0 rfl rfl ?_
  refine c_obj (pc := 1) X dX1_init_1 lo_X1 ⟨by decide, by decide⟩ (Nat.le_of_ble_eq_true rfl) ?_
  refine c_eq (OB1.self hw).symm ?_
  refine c_aload_n (pc := 4) X dX1_init_4 0 rfl rfl ?_
  refine c_iconst (pc := 5) X dX1_init_5 kc_4 ?_
  refine c_newa (pc := 6) (N := 4) (k0 := 0) (ap' := [.inl (y.2.2.2.1, 4, .inl (fun _ => 0))]) X dX1_init_6 (by decide) (by decide) (by decide) (by decide) (by decide) rfl rfl ?_
  refine c_putU (pc := 8) (k := 0) (ty := (.array .int)) (fs' := [.ref (y.1 + (ws0.length + 0)), .null, .int 0, .int 0, .int 0]) (C := RX1) (T := TX1) (N := 5) X dX1_init_8 hj rfl (by decide) rfl cl_X1_9 (Or.inr ⟨hnm, rfl⟩) (by decide +kernel) rfl rfl rfl ?_
  refine c_aload_n (pc := 11) X dX1_init_11 0 rfl rfl ?_
  refine c_iconst (pc := 12) X dX1_init_12 kc_4 ?_
  refine c_newa (pc := 13) (N := 4) (k0 := 1) (ap' := [.inl (y.2.2.2.1, 4, .inl (fun _ => 0)), .inl (y.2.2.2.1, 4, .inl (fun _ => 0))]) X dX1_init_13 (by decide) (by decide) (by decide) (by decide) (by decide) rfl rfl ?_
  refine c_putU (pc := 15) (k := 1) (ty := (.array .int)) (fs' := [.ref (y.1 + (ws0.length + 0)), .ref (y.1 + (ws0.length + 1)), .int 0, .int 0, .int 0]) (C := RX1) (T := TX1) (N := 5) X dX1_init_15 hj rfl (by decide) rfl cl_X1_15 (Or.inr ⟨hnm, rfl⟩) (by decide +kernel) rfl rfl rfl ?_
  refine c_aload_n (pc := 18) X dX1_init_18 0 rfl rfl ?_
  refine c_iconst (pc := 19) X dX1_init_19 kc_0 ?_
  refine c_putU (pc := 20) (k := 2) (ty := .int) (fs' := [.ref (y.1 + (ws0.length + 0)), .ref (y.1 + (ws0.length + 1)), .int 0, .int 0, .int 0]) (C := RX1) (T := TX1) (N := 5) X dX1_init_20 hj rfl (by decide) rfl cl_X1_18 (Or.inl rfl) (by decide +kernel) rfl rfl rfl ?_
  refine c_aload_n (pc := 23) X dX1_init_23 0 rfl rfl ?_
  refine c_iconst (pc := 24) X dX1_init_24 kc_0 ?_
  refine c_putU (pc := 25) (k := 3) (ty := .int) (fs' := [.ref (y.1 + (ws0.length + 0)), .ref (y.1 + (ws0.length + 1)), .int 0, .int 0, .int 0]) (C := RX1) (T := TX1) (N := 5) X dX1_init_25 hj rfl (by decide) rfl cl_X1_22 (Or.inl rfl) (by decide +kernel) rfl rfl rfl ?_
  refine c_aload_n (pc := 28) X dX1_init_28 0 rfl rfl ?_
  refine c_iconst (pc := 29) X dX1_init_29 kc_0 ?_
  refine c_putU (pc := 30) (k := 4) (ty := .int) (fs' := [.ref (y.1 + (ws0.length + 0)), .ref (y.1 + (ws0.length + 1)), .int 0, .int 0, .int 0]) (C := RX1) (T := TX1) (N := 5) X dX1_init_30 hj rfl (by decide) rfl cl_X1_25 (Or.inl rfl) (by decide +kernel) rfl rfl rfl ?_
  exact c_ret (pc := 33) X z1 z2 dX1_init_33 rfl rfl rfl

set_option maxRecDepth 100000 in
set_option maxHeartbeats 4000000 in
theorem k_X3 {y : LY} {l : Launch} {ws0 : List va_E} {j : Nat} (hw : ws0[j]? = some (.inr (3, moB))) : MC y l yX3_init cX3_init 1 ({ frames := 1, cells := 23, slots := 1165, locals := 40 }) 23 1165 j ws0 (OB1 ws0 j 3 (moF y.1 ws0.length) (moA y.2.2.2.1)) := by
  have hj : j < ws0.length := (List.getElem?_eq_some_iff.mp hw).1
  refine MC.of (by decide +kernel) rfl rfl (fun E X z1 z2 hnm hy hAO => ?_)
  have X : CX y l E cX3_init 1 RX3 ({ frames := 1, cells := 23, slots := 1165, locals := 40 }) := X
  refine c_aload_n (pc := 0) X dX3_init_0 0 rfl rfl ?_
  refine c_obj (pc := 1) X dX3_init_1 lo_X3 ⟨by decide, by decide⟩ (Nat.le_of_ble_eq_true rfl) ?_
  refine c_eq (OB1.self hw).symm ?_
  refine c_aload_n (pc := 4) X dX3_init_4 0 rfl rfl ?_
  refine c_bipush (pc := 5) X dX3_init_5 kb_7 ?_
  refine c_newa (pc := 7) (N := 7) (k0 := 0) (ap' := [.inl (y.2.2.2.1, 7, .inl (fun _ => 0))]) X dX3_init_7 (by decide) (by decide) (by decide) (by decide) (by decide) rfl rfl ?_
  refine c_putU (pc := 9) (k := 0) (ty := (.array .int)) (fs' := [.ref (y.1 + (ws0.length + 0)), .null, .null, .null, .null, .null, .null, .null, .null, .null, .null, .int 0, .int 0, .int 0, .int 0, .null, .null, .null, .null, .int 0, .int 0, .int 0, .null, .int 0, .int 0, .int 0, .int 0, .null, .null, .int 0, .int 0, .int 0, .null, .null, .null, .int 0, .null, .null]) (C := RX3) (T := TX3) (N := 38) X dX3_init_9 hj rfl (by decide) rfl cl_X3_7 (Or.inr ⟨hnm, rfl⟩) (by decide +kernel) rfl rfl rfl ?_
  refine c_aload_n (pc := 12) X dX3_init_12 0 rfl rfl ?_
  refine c_bipush (pc := 13) X dX3_init_13 kb_6 ?_
  refine c_newa (pc := 15) (N := 6) (k0 := 1) (ap' := [.inl (y.2.2.2.1, 7, .inl (fun _ => 0)), .inl (y.2.2.2.1, 6, .inl (fun _ => 0))]) X dX3_init_15 (by decide) (by decide) (by decide) (by decide) (by decide) rfl rfl ?_
  refine c_putU (pc := 17) (k := 1) (ty := (.array .int)) (fs' := [.ref (y.1 + (ws0.length + 0)), .ref (y.1 + (ws0.length + 1)), .null, .null, .null, .null, .null, .null, .null, .null, .null, .int 0, .int 0, .int 0, .int 0, .null, .null, .null, .null, .int 0, .int 0, .int 0, .null, .int 0, .int 0, .int 0, .int 0, .null, .null, .int 0, .int 0, .int 0, .null, .null, .null, .int 0, .null, .null]) (C := RX3) (T := TX3) (N := 38) X dX3_init_17 hj rfl (by decide) rfl cl_X3_13 (Or.inr ⟨hnm, rfl⟩) (by decide +kernel) rfl rfl rfl ?_
  refine c_aload_n (pc := 20) X dX3_init_20 0 rfl rfl ?_
  refine c_bipush (pc := 21) X dX3_init_21 kb_6 ?_
  refine c_newa (pc := 23) (N := 6) (k0 := 2) (ap' := [.inl (y.2.2.2.1, 7, .inl (fun _ => 0)), .inl (y.2.2.2.1, 6, .inl (fun _ => 0)), .inl (y.2.2.2.1, 6, .inl (fun _ => 0))]) X dX3_init_23 (by decide) (by decide) (by decide) (by decide) (by decide) rfl rfl ?_
  refine c_putU (pc := 25) (k := 2) (ty := (.array .int)) (fs' := [.ref (y.1 + (ws0.length + 0)), .ref (y.1 + (ws0.length + 1)), .ref (y.1 + (ws0.length + 2)), .null, .null, .null, .null, .null, .null, .null, .null, .int 0, .int 0, .int 0, .int 0, .null, .null, .null, .null, .int 0, .int 0, .int 0, .null, .int 0, .int 0, .int 0, .int 0, .null, .null, .int 0, .int 0, .int 0, .null, .null, .null, .int 0, .null, .null]) (C := RX3) (T := TX3) (N := 38) X dX3_init_25 hj rfl (by decide) rfl cl_X3_16 (Or.inr ⟨hnm, rfl⟩) (by decide +kernel) rfl rfl rfl ?_
  refine c_aload_n (pc := 28) X dX3_init_28 0 rfl rfl ?_
  refine c_bipush (pc := 29) X dX3_init_29 kb_6 ?_
  refine c_newa (pc := 31) (N := 6) (k0 := 3) (ap' := [.inl (y.2.2.2.1, 7, .inl (fun _ => 0)), .inl (y.2.2.2.1, 6, .inl (fun _ => 0)), .inl (y.2.2.2.1, 6, .inl (fun _ => 0)), .inl (y.2.2.2.1, 6, .inl (fun _ => 0))]) X dX3_init_31 (by decide) (by decide) (by decide) (by decide) (by decide) rfl rfl ?_
  refine c_putU (pc := 33) (k := 3) (ty := (.array .int)) (fs' := [.ref (y.1 + (ws0.length + 0)), .ref (y.1 + (ws0.length + 1)), .ref (y.1 + (ws0.length + 2)), .ref (y.1 + (ws0.length + 3)), .null, .null, .null, .null, .null, .null, .null, .int 0, .int 0, .int 0, .int 0, .null, .null, .null, .null, .int 0, .int 0, .int 0, .null, .int 0, .int 0, .int 0, .int 0, .null, .null, .int 0, .int 0, .int 0, .null, .null, .null, .int 0, .null, .null]) (C := RX3) (T := TX3) (N := 38) X dX3_init_33 hj rfl (by decide) rfl cl_X3_19 (Or.inr ⟨hnm, rfl⟩) (by decide +kernel) rfl rfl rfl ?_
  refine c_aload_n (pc := 36) X dX3_init_36 0 rfl rfl ?_
  refine c_bipush (pc := 37) X dX3_init_37 kb_6 ?_
  refine c_newa (pc := 39) (N := 6) (k0 := 4) (ap' := [.inl (y.2.2.2.1, 7, .inl (fun _ => 0)), .inl (y.2.2.2.1, 6, .inl (fun _ => 0)), .inl (y.2.2.2.1, 6, .inl (fun _ => 0)), .inl (y.2.2.2.1, 6, .inl (fun _ => 0)), .inl (y.2.2.2.1, 6, .inl (fun _ => 0))]) X dX3_init_39 (by decide) (by decide) (by decide) (by decide) (by decide) rfl rfl ?_
  refine c_putU (pc := 41) (k := 4) (ty := (.array .int)) (fs' := [.ref (y.1 + (ws0.length + 0)), .ref (y.1 + (ws0.length + 1)), .ref (y.1 + (ws0.length + 2)), .ref (y.1 + (ws0.length + 3)), .ref (y.1 + (ws0.length + 4)), .null, .null, .null, .null, .null, .null, .int 0, .int 0, .int 0, .int 0, .null, .null, .null, .null, .int 0, .int 0, .int 0, .null, .int 0, .int 0, .int 0, .int 0, .null, .null, .int 0, .int 0, .int 0, .null, .null, .null, .int 0, .null, .null]) (C := RX3) (T := TX3) (N := 38) X dX3_init_41 hj rfl (by decide) rfl cl_X3_22 (Or.inr ⟨hnm, rfl⟩) (by decide +kernel) rfl rfl rfl ?_
  refine c_aload_n (pc := 44) X dX3_init_44 0 rfl rfl ?_
  refine c_bipush (pc := 45) X dX3_init_45 kb_6 ?_
  refine c_newa (pc := 47) (N := 6) (k0 := 5) (ap' := [.inl (y.2.2.2.1, 7, .inl (fun _ => 0)), .inl (y.2.2.2.1, 6, .inl (fun _ => 0)), .inl (y.2.2.2.1, 6, .inl (fun _ => 0)), .inl (y.2.2.2.1, 6, .inl (fun _ => 0)), .inl (y.2.2.2.1, 6, .inl (fun _ => 0)), .inl (y.2.2.2.1, 6, .inl (fun _ => 0))]) X dX3_init_47 (by decide) (by decide) (by decide) (by decide) (by decide) rfl rfl ?_
  refine c_putU (pc := 49) (k := 5) (ty := (.array .int)) (fs' := [.ref (y.1 + (ws0.length + 0)), .ref (y.1 + (ws0.length + 1)), .ref (y.1 + (ws0.length + 2)), .ref (y.1 + (ws0.length + 3)), .ref (y.1 + (ws0.length + 4)), .ref (y.1 + (ws0.length + 5)), .null, .null, .null, .null, .null, .int 0, .int 0, .int 0, .int 0, .null, .null, .null, .null, .int 0, .int 0, .int 0, .null, .int 0, .int 0, .int 0, .int 0, .null, .null, .int 0, .int 0, .int 0, .null, .null, .null, .int 0, .null, .null]) (C := RX3) (T := TX3) (N := 38) X dX3_init_49 hj rfl (by decide) rfl cl_X3_25 (Or.inr ⟨hnm, rfl⟩) (by decide +kernel) rfl rfl rfl ?_
  refine c_aload_n (pc := 52) X dX3_init_52 0 rfl rfl ?_
  refine c_iconst (pc := 53) X dX3_init_53 kc_5 ?_
  refine c_newa (pc := 54) (N := 5) (k0 := 6) (ap' := [.inl (y.2.2.2.1, 7, .inl (fun _ => 0)), .inl (y.2.2.2.1, 6, .inl (fun _ => 0)), .inl (y.2.2.2.1, 6, .inl (fun _ => 0)), .inl (y.2.2.2.1, 6, .inl (fun _ => 0)), .inl (y.2.2.2.1, 6, .inl (fun _ => 0)), .inl (y.2.2.2.1, 6, .inl (fun _ => 0)), .inl (y.2.2.2.1, 5, .inl (fun _ => 0))]) X dX3_init_54 (by decide) (by decide) (by decide) (by decide) (by decide) rfl rfl ?_
  refine c_putU (pc := 56) (k := 6) (ty := (.array .int)) (fs' := [.ref (y.1 + (ws0.length + 0)), .ref (y.1 + (ws0.length + 1)), .ref (y.1 + (ws0.length + 2)), .ref (y.1 + (ws0.length + 3)), .ref (y.1 + (ws0.length + 4)), .ref (y.1 + (ws0.length + 5)), .ref (y.1 + (ws0.length + 6)), .null, .null, .null, .null, .int 0, .int 0, .int 0, .int 0, .null, .null, .null, .null, .int 0, .int 0, .int 0, .null, .int 0, .int 0, .int 0, .int 0, .null, .null, .int 0, .int 0, .int 0, .null, .null, .null, .int 0, .null, .null]) (C := RX3) (T := TX3) (N := 38) X dX3_init_56 hj rfl (by decide) rfl cl_X3_28 (Or.inr ⟨hnm, rfl⟩) (by decide +kernel) rfl rfl rfl ?_
  refine c_aload_n (pc := 59) X dX3_init_59 0 rfl rfl ?_
  refine c_iconst (pc := 60) X dX3_init_60 kc_5 ?_
  refine c_newa (pc := 61) (N := 5) (k0 := 7) (ap' := [.inl (y.2.2.2.1, 7, .inl (fun _ => 0)), .inl (y.2.2.2.1, 6, .inl (fun _ => 0)), .inl (y.2.2.2.1, 6, .inl (fun _ => 0)), .inl (y.2.2.2.1, 6, .inl (fun _ => 0)), .inl (y.2.2.2.1, 6, .inl (fun _ => 0)), .inl (y.2.2.2.1, 6, .inl (fun _ => 0)), .inl (y.2.2.2.1, 5, .inl (fun _ => 0)), .inl (y.2.2.2.1, 5, .inl (fun _ => 0))]) X dX3_init_61 (by decide) (by decide) (by decide) (by decide) (by decide) rfl rfl ?_
  refine c_putU (pc := 63) (k := 7) (ty := (.array .int)) (fs' := [.ref (y.1 + (ws0.length + 0)), .ref (y.1 + (ws0.length + 1)), .ref (y.1 + (ws0.length + 2)), .ref (y.1 + (ws0.length + 3)), .ref (y.1 + (ws0.length + 4)), .ref (y.1 + (ws0.length + 5)), .ref (y.1 + (ws0.length + 6)), .ref (y.1 + (ws0.length + 7)), .null, .null, .null, .int 0, .int 0, .int 0, .int 0, .null, .null, .null, .null, .int 0, .int 0, .int 0, .null, .int 0, .int 0, .int 0, .int 0, .null, .null, .int 0, .int 0, .int 0, .null, .null, .null, .int 0, .null, .null]) (C := RX3) (T := TX3) (N := 38) X dX3_init_63 hj rfl (by decide) rfl cl_X3_31 (Or.inr ⟨hnm, rfl⟩) (by decide +kernel) rfl rfl rfl ?_
  refine c_aload_n (pc := 66) X dX3_init_66 0 rfl rfl ?_
  refine c_iconst (pc := 67) X dX3_init_67 kc_5 ?_
  refine c_newa (pc := 68) (N := 5) (k0 := 8) (ap' := [.inl (y.2.2.2.1, 7, .inl (fun _ => 0)), .inl (y.2.2.2.1, 6, .inl (fun _ => 0)), .inl (y.2.2.2.1, 6, .inl (fun _ => 0)), .inl (y.2.2.2.1, 6, .inl (fun _ => 0)), .inl (y.2.2.2.1, 6, .inl (fun _ => 0)), .inl (y.2.2.2.1, 6, .inl (fun _ => 0)), .inl (y.2.2.2.1, 5, .inl (fun _ => 0)), .inl (y.2.2.2.1, 5, .inl (fun _ => 0)), .inl (y.2.2.2.1, 5, .inl (fun _ => 0))]) X dX3_init_68 (by decide) (by decide) (by decide) (by decide) (by decide) rfl rfl ?_
  refine c_putU (pc := 70) (k := 8) (ty := (.array .int)) (fs' := [.ref (y.1 + (ws0.length + 0)), .ref (y.1 + (ws0.length + 1)), .ref (y.1 + (ws0.length + 2)), .ref (y.1 + (ws0.length + 3)), .ref (y.1 + (ws0.length + 4)), .ref (y.1 + (ws0.length + 5)), .ref (y.1 + (ws0.length + 6)), .ref (y.1 + (ws0.length + 7)), .ref (y.1 + (ws0.length + 8)), .null, .null, .int 0, .int 0, .int 0, .int 0, .null, .null, .null, .null, .int 0, .int 0, .int 0, .null, .int 0, .int 0, .int 0, .int 0, .null, .null, .int 0, .int 0, .int 0, .null, .null, .null, .int 0, .null, .null]) (C := RX3) (T := TX3) (N := 38) X dX3_init_70 hj rfl (by decide) rfl cl_X3_34 (Or.inr ⟨hnm, rfl⟩) (by decide +kernel) rfl rfl rfl ?_
  refine c_aload_n (pc := 73) X dX3_init_73 0 rfl rfl ?_
  refine c_iconst (pc := 74) X dX3_init_74 kc_5 ?_
  refine c_newa (pc := 75) (N := 5) (k0 := 9) (ap' := [.inl (y.2.2.2.1, 7, .inl (fun _ => 0)), .inl (y.2.2.2.1, 6, .inl (fun _ => 0)), .inl (y.2.2.2.1, 6, .inl (fun _ => 0)), .inl (y.2.2.2.1, 6, .inl (fun _ => 0)), .inl (y.2.2.2.1, 6, .inl (fun _ => 0)), .inl (y.2.2.2.1, 6, .inl (fun _ => 0)), .inl (y.2.2.2.1, 5, .inl (fun _ => 0)), .inl (y.2.2.2.1, 5, .inl (fun _ => 0)), .inl (y.2.2.2.1, 5, .inl (fun _ => 0)), .inl (y.2.2.2.1, 5, .inl (fun _ => 0))]) X dX3_init_75 (by decide) (by decide) (by decide) (by decide) (by decide) rfl rfl ?_
  refine c_putU (pc := 77) (k := 9) (ty := (.array .int)) (fs' := [.ref (y.1 + (ws0.length + 0)), .ref (y.1 + (ws0.length + 1)), .ref (y.1 + (ws0.length + 2)), .ref (y.1 + (ws0.length + 3)), .ref (y.1 + (ws0.length + 4)), .ref (y.1 + (ws0.length + 5)), .ref (y.1 + (ws0.length + 6)), .ref (y.1 + (ws0.length + 7)), .ref (y.1 + (ws0.length + 8)), .ref (y.1 + (ws0.length + 9)), .null, .int 0, .int 0, .int 0, .int 0, .null, .null, .null, .null, .int 0, .int 0, .int 0, .null, .int 0, .int 0, .int 0, .int 0, .null, .null, .int 0, .int 0, .int 0, .null, .null, .null, .int 0, .null, .null]) (C := RX3) (T := TX3) (N := 38) X dX3_init_77 hj rfl (by decide) rfl cl_X3_37 (Or.inr ⟨hnm, rfl⟩) (by decide +kernel) rfl rfl rfl ?_
  refine c_aload_n (pc := 80) X dX3_init_80 0 rfl rfl ?_
  refine c_iconst (pc := 81) X dX3_init_81 kc_5 ?_
  refine c_newa (pc := 82) (N := 5) (k0 := 10) (ap' := [.inl (y.2.2.2.1, 7, .inl (fun _ => 0)), .inl (y.2.2.2.1, 6, .inl (fun _ => 0)), .inl (y.2.2.2.1, 6, .inl (fun _ => 0)), .inl (y.2.2.2.1, 6, .inl (fun _ => 0)), .inl (y.2.2.2.1, 6, .inl (fun _ => 0)), .inl (y.2.2.2.1, 6, .inl (fun _ => 0)), .inl (y.2.2.2.1, 5, .inl (fun _ => 0)), .inl (y.2.2.2.1, 5, .inl (fun _ => 0)), .inl (y.2.2.2.1, 5, .inl (fun _ => 0)), .inl (y.2.2.2.1, 5, .inl (fun _ => 0)), .inl (y.2.2.2.1, 5, .inl (fun _ => 0))]) X dX3_init_82 (by decide) (by decide) (by decide) (by decide) (by decide) rfl rfl ?_
  refine c_putU (pc := 84) (k := 10) (ty := (.array .int)) (fs' := [.ref (y.1 + (ws0.length + 0)), .ref (y.1 + (ws0.length + 1)), .ref (y.1 + (ws0.length + 2)), .ref (y.1 + (ws0.length + 3)), .ref (y.1 + (ws0.length + 4)), .ref (y.1 + (ws0.length + 5)), .ref (y.1 + (ws0.length + 6)), .ref (y.1 + (ws0.length + 7)), .ref (y.1 + (ws0.length + 8)), .ref (y.1 + (ws0.length + 9)), .ref (y.1 + (ws0.length + 10)), .int 0, .int 0, .int 0, .int 0, .null, .null, .null, .null, .int 0, .int 0, .int 0, .null, .int 0, .int 0, .int 0, .int 0, .null, .null, .int 0, .int 0, .int 0, .null, .null, .null, .int 0, .null, .null]) (C := RX3) (T := TX3) (N := 38) X dX3_init_84 hj rfl (by decide) rfl cl_X3_40 (Or.inr ⟨hnm, rfl⟩) (by decide +kernel) rfl rfl rfl ?_
  refine c_aload_n (pc := 87) X dX3_init_87 0 rfl rfl ?_
  refine c_bipush (pc := 88) X dX3_init_88 kb_96 ?_
  refine c_newa (pc := 90) (N := 96) (k0 := 11) (ap' := [.inl (y.2.2.2.1, 7, .inl (fun _ => 0)), .inl (y.2.2.2.1, 6, .inl (fun _ => 0)), .inl (y.2.2.2.1, 6, .inl (fun _ => 0)), .inl (y.2.2.2.1, 6, .inl (fun _ => 0)), .inl (y.2.2.2.1, 6, .inl (fun _ => 0)), .inl (y.2.2.2.1, 6, .inl (fun _ => 0)), .inl (y.2.2.2.1, 5, .inl (fun _ => 0)), .inl (y.2.2.2.1, 5, .inl (fun _ => 0)), .inl (y.2.2.2.1, 5, .inl (fun _ => 0)), .inl (y.2.2.2.1, 5, .inl (fun _ => 0)), .inl (y.2.2.2.1, 5, .inl (fun _ => 0)), .inl (y.2.2.2.1, 96, .inl (fun _ => 0))]) X dX3_init_90 (by decide) (by decide) (by decide) (by decide) (by decide) rfl rfl ?_
  refine c_putU (pc := 92) (k := 15) (ty := (.array .int)) (fs' := [.ref (y.1 + (ws0.length + 0)), .ref (y.1 + (ws0.length + 1)), .ref (y.1 + (ws0.length + 2)), .ref (y.1 + (ws0.length + 3)), .ref (y.1 + (ws0.length + 4)), .ref (y.1 + (ws0.length + 5)), .ref (y.1 + (ws0.length + 6)), .ref (y.1 + (ws0.length + 7)), .ref (y.1 + (ws0.length + 8)), .ref (y.1 + (ws0.length + 9)), .ref (y.1 + (ws0.length + 10)), .int 0, .int 0, .int 0, .int 0, .ref (y.1 + (ws0.length + 11)), .null, .null, .null, .int 0, .int 0, .int 0, .null, .int 0, .int 0, .int 0, .int 0, .null, .null, .int 0, .int 0, .int 0, .null, .null, .null, .int 0, .null, .null]) (C := RX3) (T := TX3) (N := 38) X dX3_init_92 hj rfl (by decide) rfl cl_X3_43 (Or.inr ⟨hnm, rfl⟩) (by decide +kernel) rfl rfl rfl ?_
  refine c_aload_n (pc := 95) X dX3_init_95 0 rfl rfl ?_
  refine c_bipush (pc := 96) X dX3_init_96 kb_48 ?_
  refine c_newa (pc := 98) (N := 48) (k0 := 12) (ap' := [.inl (y.2.2.2.1, 7, .inl (fun _ => 0)), .inl (y.2.2.2.1, 6, .inl (fun _ => 0)), .inl (y.2.2.2.1, 6, .inl (fun _ => 0)), .inl (y.2.2.2.1, 6, .inl (fun _ => 0)), .inl (y.2.2.2.1, 6, .inl (fun _ => 0)), .inl (y.2.2.2.1, 6, .inl (fun _ => 0)), .inl (y.2.2.2.1, 5, .inl (fun _ => 0)), .inl (y.2.2.2.1, 5, .inl (fun _ => 0)), .inl (y.2.2.2.1, 5, .inl (fun _ => 0)), .inl (y.2.2.2.1, 5, .inl (fun _ => 0)), .inl (y.2.2.2.1, 5, .inl (fun _ => 0)), .inl (y.2.2.2.1, 96, .inl (fun _ => 0)), .inl (y.2.2.2.1, 48, .inl (fun _ => 0))]) X dX3_init_98 (by decide) (by decide) (by decide) (by decide) (by decide) rfl rfl ?_
  refine c_putU (pc := 100) (k := 16) (ty := (.array .int)) (fs' := [.ref (y.1 + (ws0.length + 0)), .ref (y.1 + (ws0.length + 1)), .ref (y.1 + (ws0.length + 2)), .ref (y.1 + (ws0.length + 3)), .ref (y.1 + (ws0.length + 4)), .ref (y.1 + (ws0.length + 5)), .ref (y.1 + (ws0.length + 6)), .ref (y.1 + (ws0.length + 7)), .ref (y.1 + (ws0.length + 8)), .ref (y.1 + (ws0.length + 9)), .ref (y.1 + (ws0.length + 10)), .int 0, .int 0, .int 0, .int 0, .ref (y.1 + (ws0.length + 11)), .ref (y.1 + (ws0.length + 12)), .null, .null, .int 0, .int 0, .int 0, .null, .int 0, .int 0, .int 0, .int 0, .null, .null, .int 0, .int 0, .int 0, .null, .null, .null, .int 0, .null, .null]) (C := RX3) (T := TX3) (N := 38) X dX3_init_100 hj rfl (by decide) rfl cl_X3_46 (Or.inr ⟨hnm, rfl⟩) (by decide +kernel) rfl rfl rfl ?_
  refine c_aload_n (pc := 103) X dX3_init_103 0 rfl rfl ?_
  refine c_bipush (pc := 104) X dX3_init_104 kb_48 ?_
  refine c_newa (pc := 106) (N := 48) (k0 := 13) (ap' := [.inl (y.2.2.2.1, 7, .inl (fun _ => 0)), .inl (y.2.2.2.1, 6, .inl (fun _ => 0)), .inl (y.2.2.2.1, 6, .inl (fun _ => 0)), .inl (y.2.2.2.1, 6, .inl (fun _ => 0)), .inl (y.2.2.2.1, 6, .inl (fun _ => 0)), .inl (y.2.2.2.1, 6, .inl (fun _ => 0)), .inl (y.2.2.2.1, 5, .inl (fun _ => 0)), .inl (y.2.2.2.1, 5, .inl (fun _ => 0)), .inl (y.2.2.2.1, 5, .inl (fun _ => 0)), .inl (y.2.2.2.1, 5, .inl (fun _ => 0)), .inl (y.2.2.2.1, 5, .inl (fun _ => 0)), .inl (y.2.2.2.1, 96, .inl (fun _ => 0)), .inl (y.2.2.2.1, 48, .inl (fun _ => 0)), .inl (y.2.2.2.1, 48, .inl (fun _ => 0))]) X dX3_init_106 (by decide) (by decide) (by decide) (by decide) (by decide) rfl rfl ?_
  refine c_putU (pc := 108) (k := 17) (ty := (.array .int)) (fs' := [.ref (y.1 + (ws0.length + 0)), .ref (y.1 + (ws0.length + 1)), .ref (y.1 + (ws0.length + 2)), .ref (y.1 + (ws0.length + 3)), .ref (y.1 + (ws0.length + 4)), .ref (y.1 + (ws0.length + 5)), .ref (y.1 + (ws0.length + 6)), .ref (y.1 + (ws0.length + 7)), .ref (y.1 + (ws0.length + 8)), .ref (y.1 + (ws0.length + 9)), .ref (y.1 + (ws0.length + 10)), .int 0, .int 0, .int 0, .int 0, .ref (y.1 + (ws0.length + 11)), .ref (y.1 + (ws0.length + 12)), .ref (y.1 + (ws0.length + 13)), .null, .int 0, .int 0, .int 0, .null, .int 0, .int 0, .int 0, .int 0, .null, .null, .int 0, .int 0, .int 0, .null, .null, .null, .int 0, .null, .null]) (C := RX3) (T := TX3) (N := 38) X dX3_init_108 hj rfl (by decide) rfl cl_X3_49 (Or.inr ⟨hnm, rfl⟩) (by decide +kernel) rfl rfl rfl ?_
  refine c_aload_n (pc := 111) X dX3_init_111 0 rfl rfl ?_
  refine c_sipush (pc := 112) X dX3_init_112 ks_144 ?_
  refine c_newa (pc := 115) (N := 144) (k0 := 14) (ap' := [.inl (y.2.2.2.1, 7, .inl (fun _ => 0)), .inl (y.2.2.2.1, 6, .inl (fun _ => 0)), .inl (y.2.2.2.1, 6, .inl (fun _ => 0)), .inl (y.2.2.2.1, 6, .inl (fun _ => 0)), .inl (y.2.2.2.1, 6, .inl (fun _ => 0)), .inl (y.2.2.2.1, 6, .inl (fun _ => 0)), .inl (y.2.2.2.1, 5, .inl (fun _ => 0)), .inl (y.2.2.2.1, 5, .inl (fun _ => 0)), .inl (y.2.2.2.1, 5, .inl (fun _ => 0)), .inl (y.2.2.2.1, 5, .inl (fun _ => 0)), .inl (y.2.2.2.1, 5, .inl (fun _ => 0)), .inl (y.2.2.2.1, 96, .inl (fun _ => 0)), .inl (y.2.2.2.1, 48, .inl (fun _ => 0)), .inl (y.2.2.2.1, 48, .inl (fun _ => 0)), .inl (y.2.2.2.1, 144, .inl (fun _ => 0))]) X dX3_init_115 (by decide) (by decide) (by decide) (by decide) (by decide) rfl rfl ?_
  refine c_putU (pc := 117) (k := 18) (ty := (.array .int)) (fs' := [.ref (y.1 + (ws0.length + 0)), .ref (y.1 + (ws0.length + 1)), .ref (y.1 + (ws0.length + 2)), .ref (y.1 + (ws0.length + 3)), .ref (y.1 + (ws0.length + 4)), .ref (y.1 + (ws0.length + 5)), .ref (y.1 + (ws0.length + 6)), .ref (y.1 + (ws0.length + 7)), .ref (y.1 + (ws0.length + 8)), .ref (y.1 + (ws0.length + 9)), .ref (y.1 + (ws0.length + 10)), .int 0, .int 0, .int 0, .int 0, .ref (y.1 + (ws0.length + 11)), .ref (y.1 + (ws0.length + 12)), .ref (y.1 + (ws0.length + 13)), .ref (y.1 + (ws0.length + 14)), .int 0, .int 0, .int 0, .null, .int 0, .int 0, .int 0, .int 0, .null, .null, .int 0, .int 0, .int 0, .null, .null, .null, .int 0, .null, .null]) (C := RX3) (T := TX3) (N := 38) X dX3_init_117 hj rfl (by decide) rfl cl_X3_52 (Or.inr ⟨hnm, rfl⟩) (by decide +kernel) rfl rfl rfl ?_
  refine c_aload_n (pc := 120) X dX3_init_120 0 rfl rfl ?_
  refine c_sipush (pc := 121) X dX3_init_121 ks_660 ?_
  refine c_newa (pc := 124) (N := 660) (k0 := 15) (ap' := [.inl (y.2.2.2.1, 7, .inl (fun _ => 0)), .inl (y.2.2.2.1, 6, .inl (fun _ => 0)), .inl (y.2.2.2.1, 6, .inl (fun _ => 0)), .inl (y.2.2.2.1, 6, .inl (fun _ => 0)), .inl (y.2.2.2.1, 6, .inl (fun _ => 0)), .inl (y.2.2.2.1, 6, .inl (fun _ => 0)), .inl (y.2.2.2.1, 5, .inl (fun _ => 0)), .inl (y.2.2.2.1, 5, .inl (fun _ => 0)), .inl (y.2.2.2.1, 5, .inl (fun _ => 0)), .inl (y.2.2.2.1, 5, .inl (fun _ => 0)), .inl (y.2.2.2.1, 5, .inl (fun _ => 0)), .inl (y.2.2.2.1, 96, .inl (fun _ => 0)), .inl (y.2.2.2.1, 48, .inl (fun _ => 0)), .inl (y.2.2.2.1, 48, .inl (fun _ => 0)), .inl (y.2.2.2.1, 144, .inl (fun _ => 0)), .inl (y.2.2.2.1, 660, .inl (fun _ => 0))]) X dX3_init_124 (by decide) (by decide) (by decide) (by decide) (by decide) rfl rfl ?_
  refine c_putU (pc := 126) (k := 22) (ty := (.array .int)) (fs' := [.ref (y.1 + (ws0.length + 0)), .ref (y.1 + (ws0.length + 1)), .ref (y.1 + (ws0.length + 2)), .ref (y.1 + (ws0.length + 3)), .ref (y.1 + (ws0.length + 4)), .ref (y.1 + (ws0.length + 5)), .ref (y.1 + (ws0.length + 6)), .ref (y.1 + (ws0.length + 7)), .ref (y.1 + (ws0.length + 8)), .ref (y.1 + (ws0.length + 9)), .ref (y.1 + (ws0.length + 10)), .int 0, .int 0, .int 0, .int 0, .ref (y.1 + (ws0.length + 11)), .ref (y.1 + (ws0.length + 12)), .ref (y.1 + (ws0.length + 13)), .ref (y.1 + (ws0.length + 14)), .int 0, .int 0, .int 0, .ref (y.1 + (ws0.length + 15)), .int 0, .int 0, .int 0, .int 0, .null, .null, .int 0, .int 0, .int 0, .null, .null, .null, .int 0, .null, .null]) (C := RX3) (T := TX3) (N := 38) X dX3_init_126 hj rfl (by decide) rfl cl_X3_55 (Or.inr ⟨hnm, rfl⟩) (by decide +kernel) rfl rfl rfl ?_
  refine c_aload_n (pc := 129) X dX3_init_129 0 rfl rfl ?_
  refine c_iconst (pc := 130) X dX3_init_130 kc_5 ?_
  refine c_newa (pc := 131) (N := 5) (k0 := 16) (ap' := [.inl (y.2.2.2.1, 7, .inl (fun _ => 0)), .inl (y.2.2.2.1, 6, .inl (fun _ => 0)), .inl (y.2.2.2.1, 6, .inl (fun _ => 0)), .inl (y.2.2.2.1, 6, .inl (fun _ => 0)), .inl (y.2.2.2.1, 6, .inl (fun _ => 0)), .inl (y.2.2.2.1, 6, .inl (fun _ => 0)), .inl (y.2.2.2.1, 5, .inl (fun _ => 0)), .inl (y.2.2.2.1, 5, .inl (fun _ => 0)), .inl (y.2.2.2.1, 5, .inl (fun _ => 0)), .inl (y.2.2.2.1, 5, .inl (fun _ => 0)), .inl (y.2.2.2.1, 5, .inl (fun _ => 0)), .inl (y.2.2.2.1, 96, .inl (fun _ => 0)), .inl (y.2.2.2.1, 48, .inl (fun _ => 0)), .inl (y.2.2.2.1, 48, .inl (fun _ => 0)), .inl (y.2.2.2.1, 144, .inl (fun _ => 0)), .inl (y.2.2.2.1, 660, .inl (fun _ => 0)), .inl (y.2.2.2.1, 5, .inl (fun _ => 0))]) X dX3_init_131 (by decide) (by decide) (by decide) (by decide) (by decide) rfl rfl ?_
  refine c_putU (pc := 133) (k := 27) (ty := (.array .int)) (fs' := [.ref (y.1 + (ws0.length + 0)), .ref (y.1 + (ws0.length + 1)), .ref (y.1 + (ws0.length + 2)), .ref (y.1 + (ws0.length + 3)), .ref (y.1 + (ws0.length + 4)), .ref (y.1 + (ws0.length + 5)), .ref (y.1 + (ws0.length + 6)), .ref (y.1 + (ws0.length + 7)), .ref (y.1 + (ws0.length + 8)), .ref (y.1 + (ws0.length + 9)), .ref (y.1 + (ws0.length + 10)), .int 0, .int 0, .int 0, .int 0, .ref (y.1 + (ws0.length + 11)), .ref (y.1 + (ws0.length + 12)), .ref (y.1 + (ws0.length + 13)), .ref (y.1 + (ws0.length + 14)), .int 0, .int 0, .int 0, .ref (y.1 + (ws0.length + 15)), .int 0, .int 0, .int 0, .int 0, .ref (y.1 + (ws0.length + 16)), .null, .int 0, .int 0, .int 0, .null, .null, .null, .int 0, .null, .null]) (C := RX3) (T := TX3) (N := 38) X dX3_init_133 hj rfl (by decide) rfl cl_X3_58 (Or.inr ⟨hnm, rfl⟩) (by decide +kernel) rfl rfl rfl ?_
  refine c_aload_n (pc := 136) X dX3_init_136 0 rfl rfl ?_
  refine c_iconst (pc := 137) X dX3_init_137 kc_5 ?_
  refine c_newa (pc := 138) (N := 5) (k0 := 17) (ap' := [.inl (y.2.2.2.1, 7, .inl (fun _ => 0)), .inl (y.2.2.2.1, 6, .inl (fun _ => 0)), .inl (y.2.2.2.1, 6, .inl (fun _ => 0)), .inl (y.2.2.2.1, 6, .inl (fun _ => 0)), .inl (y.2.2.2.1, 6, .inl (fun _ => 0)), .inl (y.2.2.2.1, 6, .inl (fun _ => 0)), .inl (y.2.2.2.1, 5, .inl (fun _ => 0)), .inl (y.2.2.2.1, 5, .inl (fun _ => 0)), .inl (y.2.2.2.1, 5, .inl (fun _ => 0)), .inl (y.2.2.2.1, 5, .inl (fun _ => 0)), .inl (y.2.2.2.1, 5, .inl (fun _ => 0)), .inl (y.2.2.2.1, 96, .inl (fun _ => 0)), .inl (y.2.2.2.1, 48, .inl (fun _ => 0)), .inl (y.2.2.2.1, 48, .inl (fun _ => 0)), .inl (y.2.2.2.1, 144, .inl (fun _ => 0)), .inl (y.2.2.2.1, 660, .inl (fun _ => 0)), .inl (y.2.2.2.1, 5, .inl (fun _ => 0)), .inl (y.2.2.2.1, 5, .inl (fun _ => 0))]) X dX3_init_138 (by decide) (by decide) (by decide) (by decide) (by decide) rfl rfl ?_
  refine c_putU (pc := 140) (k := 28) (ty := (.array .int)) (fs' := [.ref (y.1 + (ws0.length + 0)), .ref (y.1 + (ws0.length + 1)), .ref (y.1 + (ws0.length + 2)), .ref (y.1 + (ws0.length + 3)), .ref (y.1 + (ws0.length + 4)), .ref (y.1 + (ws0.length + 5)), .ref (y.1 + (ws0.length + 6)), .ref (y.1 + (ws0.length + 7)), .ref (y.1 + (ws0.length + 8)), .ref (y.1 + (ws0.length + 9)), .ref (y.1 + (ws0.length + 10)), .int 0, .int 0, .int 0, .int 0, .ref (y.1 + (ws0.length + 11)), .ref (y.1 + (ws0.length + 12)), .ref (y.1 + (ws0.length + 13)), .ref (y.1 + (ws0.length + 14)), .int 0, .int 0, .int 0, .ref (y.1 + (ws0.length + 15)), .int 0, .int 0, .int 0, .int 0, .ref (y.1 + (ws0.length + 16)), .ref (y.1 + (ws0.length + 17)), .int 0, .int 0, .int 0, .null, .null, .null, .int 0, .null, .null]) (C := RX3) (T := TX3) (N := 38) X dX3_init_140 hj rfl (by decide) rfl cl_X3_61 (Or.inr ⟨hnm, rfl⟩) (by decide +kernel) rfl rfl rfl ?_
  refine c_aload_n (pc := 143) X dX3_init_143 0 rfl rfl ?_
  refine c_bipush (pc := 144) X dX3_init_144 kb_9 ?_
  refine c_putU (pc := 146) (k := 30) (ty := .int) (fs' := [.ref (y.1 + (ws0.length + 0)), .ref (y.1 + (ws0.length + 1)), .ref (y.1 + (ws0.length + 2)), .ref (y.1 + (ws0.length + 3)), .ref (y.1 + (ws0.length + 4)), .ref (y.1 + (ws0.length + 5)), .ref (y.1 + (ws0.length + 6)), .ref (y.1 + (ws0.length + 7)), .ref (y.1 + (ws0.length + 8)), .ref (y.1 + (ws0.length + 9)), .ref (y.1 + (ws0.length + 10)), .int 0, .int 0, .int 0, .int 0, .ref (y.1 + (ws0.length + 11)), .ref (y.1 + (ws0.length + 12)), .ref (y.1 + (ws0.length + 13)), .ref (y.1 + (ws0.length + 14)), .int 0, .int 0, .int 0, .ref (y.1 + (ws0.length + 15)), .int 0, .int 0, .int 0, .int 0, .ref (y.1 + (ws0.length + 16)), .ref (y.1 + (ws0.length + 17)), .int 0, .int 9, .int 0, .null, .null, .null, .int 0, .null, .null]) (C := RX3) (T := TX3) (N := 38) X dX3_init_146 hj rfl (by decide) rfl cl_X3_64 (Or.inl rfl) (by decide +kernel) rfl rfl rfl ?_
  refine c_aload_n (pc := 149) X dX3_init_149 0 rfl rfl ?_
  refine c_iconst (pc := 150) X dX3_init_150 kc_5 ?_
  refine c_newa (pc := 151) (N := 5) (k0 := 18) (ap' := [.inl (y.2.2.2.1, 7, .inl (fun _ => 0)), .inl (y.2.2.2.1, 6, .inl (fun _ => 0)), .inl (y.2.2.2.1, 6, .inl (fun _ => 0)), .inl (y.2.2.2.1, 6, .inl (fun _ => 0)), .inl (y.2.2.2.1, 6, .inl (fun _ => 0)), .inl (y.2.2.2.1, 6, .inl (fun _ => 0)), .inl (y.2.2.2.1, 5, .inl (fun _ => 0)), .inl (y.2.2.2.1, 5, .inl (fun _ => 0)), .inl (y.2.2.2.1, 5, .inl (fun _ => 0)), .inl (y.2.2.2.1, 5, .inl (fun _ => 0)), .inl (y.2.2.2.1, 5, .inl (fun _ => 0)), .inl (y.2.2.2.1, 96, .inl (fun _ => 0)), .inl (y.2.2.2.1, 48, .inl (fun _ => 0)), .inl (y.2.2.2.1, 48, .inl (fun _ => 0)), .inl (y.2.2.2.1, 144, .inl (fun _ => 0)), .inl (y.2.2.2.1, 660, .inl (fun _ => 0)), .inl (y.2.2.2.1, 5, .inl (fun _ => 0)), .inl (y.2.2.2.1, 5, .inl (fun _ => 0)), .inl (y.2.2.2.1, 5, .inl (fun _ => 0))]) X dX3_init_151 (by decide) (by decide) (by decide) (by decide) (by decide) rfl rfl ?_
  refine c_putU (pc := 153) (k := 32) (ty := (.array .int)) (fs' := [.ref (y.1 + (ws0.length + 0)), .ref (y.1 + (ws0.length + 1)), .ref (y.1 + (ws0.length + 2)), .ref (y.1 + (ws0.length + 3)), .ref (y.1 + (ws0.length + 4)), .ref (y.1 + (ws0.length + 5)), .ref (y.1 + (ws0.length + 6)), .ref (y.1 + (ws0.length + 7)), .ref (y.1 + (ws0.length + 8)), .ref (y.1 + (ws0.length + 9)), .ref (y.1 + (ws0.length + 10)), .int 0, .int 0, .int 0, .int 0, .ref (y.1 + (ws0.length + 11)), .ref (y.1 + (ws0.length + 12)), .ref (y.1 + (ws0.length + 13)), .ref (y.1 + (ws0.length + 14)), .int 0, .int 0, .int 0, .ref (y.1 + (ws0.length + 15)), .int 0, .int 0, .int 0, .int 0, .ref (y.1 + (ws0.length + 16)), .ref (y.1 + (ws0.length + 17)), .int 0, .int 9, .int 0, .ref (y.1 + (ws0.length + 18)), .null, .null, .int 0, .null, .null]) (C := RX3) (T := TX3) (N := 38) X dX3_init_153 hj rfl (by decide) rfl cl_X3_68 (Or.inr ⟨hnm, rfl⟩) (by decide +kernel) rfl rfl rfl ?_
  refine c_aload_n (pc := 156) X dX3_init_156 0 rfl rfl ?_
  refine c_bipush (pc := 157) X dX3_init_157 kb_6 ?_
  refine c_newa (pc := 159) (N := 6) (k0 := 19) (ap' := [.inl (y.2.2.2.1, 7, .inl (fun _ => 0)), .inl (y.2.2.2.1, 6, .inl (fun _ => 0)), .inl (y.2.2.2.1, 6, .inl (fun _ => 0)), .inl (y.2.2.2.1, 6, .inl (fun _ => 0)), .inl (y.2.2.2.1, 6, .inl (fun _ => 0)), .inl (y.2.2.2.1, 6, .inl (fun _ => 0)), .inl (y.2.2.2.1, 5, .inl (fun _ => 0)), .inl (y.2.2.2.1, 5, .inl (fun _ => 0)), .inl (y.2.2.2.1, 5, .inl (fun _ => 0)), .inl (y.2.2.2.1, 5, .inl (fun _ => 0)), .inl (y.2.2.2.1, 5, .inl (fun _ => 0)), .inl (y.2.2.2.1, 96, .inl (fun _ => 0)), .inl (y.2.2.2.1, 48, .inl (fun _ => 0)), .inl (y.2.2.2.1, 48, .inl (fun _ => 0)), .inl (y.2.2.2.1, 144, .inl (fun _ => 0)), .inl (y.2.2.2.1, 660, .inl (fun _ => 0)), .inl (y.2.2.2.1, 5, .inl (fun _ => 0)), .inl (y.2.2.2.1, 5, .inl (fun _ => 0)), .inl (y.2.2.2.1, 5, .inl (fun _ => 0)), .inl (y.2.2.2.1, 6, .inl (fun _ => 0))]) X dX3_init_159 (by decide) (by decide) (by decide) (by decide) (by decide) rfl rfl ?_
  refine c_putU (pc := 161) (k := 33) (ty := (.array .int)) (fs' := [.ref (y.1 + (ws0.length + 0)), .ref (y.1 + (ws0.length + 1)), .ref (y.1 + (ws0.length + 2)), .ref (y.1 + (ws0.length + 3)), .ref (y.1 + (ws0.length + 4)), .ref (y.1 + (ws0.length + 5)), .ref (y.1 + (ws0.length + 6)), .ref (y.1 + (ws0.length + 7)), .ref (y.1 + (ws0.length + 8)), .ref (y.1 + (ws0.length + 9)), .ref (y.1 + (ws0.length + 10)), .int 0, .int 0, .int 0, .int 0, .ref (y.1 + (ws0.length + 11)), .ref (y.1 + (ws0.length + 12)), .ref (y.1 + (ws0.length + 13)), .ref (y.1 + (ws0.length + 14)), .int 0, .int 0, .int 0, .ref (y.1 + (ws0.length + 15)), .int 0, .int 0, .int 0, .int 0, .ref (y.1 + (ws0.length + 16)), .ref (y.1 + (ws0.length + 17)), .int 0, .int 9, .int 0, .ref (y.1 + (ws0.length + 18)), .ref (y.1 + (ws0.length + 19)), .null, .int 0, .null, .null]) (C := RX3) (T := TX3) (N := 38) X dX3_init_161 hj rfl (by decide) rfl cl_X3_71 (Or.inr ⟨hnm, rfl⟩) (by decide +kernel) rfl rfl rfl ?_
  refine c_aload_n (pc := 164) X dX3_init_164 0 rfl rfl ?_
  refine c_bipush (pc := 165) X dX3_init_165 kb_12 ?_
  refine c_newa (pc := 167) (N := 12) (k0 := 20) (ap' := [.inl (y.2.2.2.1, 7, .inl (fun _ => 0)), .inl (y.2.2.2.1, 6, .inl (fun _ => 0)), .inl (y.2.2.2.1, 6, .inl (fun _ => 0)), .inl (y.2.2.2.1, 6, .inl (fun _ => 0)), .inl (y.2.2.2.1, 6, .inl (fun _ => 0)), .inl (y.2.2.2.1, 6, .inl (fun _ => 0)), .inl (y.2.2.2.1, 5, .inl (fun _ => 0)), .inl (y.2.2.2.1, 5, .inl (fun _ => 0)), .inl (y.2.2.2.1, 5, .inl (fun _ => 0)), .inl (y.2.2.2.1, 5, .inl (fun _ => 0)), .inl (y.2.2.2.1, 5, .inl (fun _ => 0)), .inl (y.2.2.2.1, 96, .inl (fun _ => 0)), .inl (y.2.2.2.1, 48, .inl (fun _ => 0)), .inl (y.2.2.2.1, 48, .inl (fun _ => 0)), .inl (y.2.2.2.1, 144, .inl (fun _ => 0)), .inl (y.2.2.2.1, 660, .inl (fun _ => 0)), .inl (y.2.2.2.1, 5, .inl (fun _ => 0)), .inl (y.2.2.2.1, 5, .inl (fun _ => 0)), .inl (y.2.2.2.1, 5, .inl (fun _ => 0)), .inl (y.2.2.2.1, 6, .inl (fun _ => 0)), .inl (y.2.2.2.1, 12, .inl (fun _ => 0))]) X dX3_init_167 (by decide) (by decide) (by decide) (by decide) (by decide) rfl rfl ?_
  refine c_putU (pc := 169) (k := 34) (ty := (.array .int)) (fs' := [.ref (y.1 + (ws0.length + 0)), .ref (y.1 + (ws0.length + 1)), .ref (y.1 + (ws0.length + 2)), .ref (y.1 + (ws0.length + 3)), .ref (y.1 + (ws0.length + 4)), .ref (y.1 + (ws0.length + 5)), .ref (y.1 + (ws0.length + 6)), .ref (y.1 + (ws0.length + 7)), .ref (y.1 + (ws0.length + 8)), .ref (y.1 + (ws0.length + 9)), .ref (y.1 + (ws0.length + 10)), .int 0, .int 0, .int 0, .int 0, .ref (y.1 + (ws0.length + 11)), .ref (y.1 + (ws0.length + 12)), .ref (y.1 + (ws0.length + 13)), .ref (y.1 + (ws0.length + 14)), .int 0, .int 0, .int 0, .ref (y.1 + (ws0.length + 15)), .int 0, .int 0, .int 0, .int 0, .ref (y.1 + (ws0.length + 16)), .ref (y.1 + (ws0.length + 17)), .int 0, .int 9, .int 0, .ref (y.1 + (ws0.length + 18)), .ref (y.1 + (ws0.length + 19)), .ref (y.1 + (ws0.length + 20)), .int 0, .null, .null]) (C := RX3) (T := TX3) (N := 38) X dX3_init_169 hj rfl (by decide) rfl cl_X3_74 (Or.inr ⟨hnm, rfl⟩) (by decide +kernel) rfl rfl rfl ?_
  refine c_aload_n (pc := 172) X dX3_init_172 0 rfl rfl ?_
  refine c_bipush (pc := 173) X dX3_init_173 kb_10 ?_
  refine c_newa (pc := 175) (N := 10) (k0 := 21) (ap' := [.inl (y.2.2.2.1, 7, .inl (fun _ => 0)), .inl (y.2.2.2.1, 6, .inl (fun _ => 0)), .inl (y.2.2.2.1, 6, .inl (fun _ => 0)), .inl (y.2.2.2.1, 6, .inl (fun _ => 0)), .inl (y.2.2.2.1, 6, .inl (fun _ => 0)), .inl (y.2.2.2.1, 6, .inl (fun _ => 0)), .inl (y.2.2.2.1, 5, .inl (fun _ => 0)), .inl (y.2.2.2.1, 5, .inl (fun _ => 0)), .inl (y.2.2.2.1, 5, .inl (fun _ => 0)), .inl (y.2.2.2.1, 5, .inl (fun _ => 0)), .inl (y.2.2.2.1, 5, .inl (fun _ => 0)), .inl (y.2.2.2.1, 96, .inl (fun _ => 0)), .inl (y.2.2.2.1, 48, .inl (fun _ => 0)), .inl (y.2.2.2.1, 48, .inl (fun _ => 0)), .inl (y.2.2.2.1, 144, .inl (fun _ => 0)), .inl (y.2.2.2.1, 660, .inl (fun _ => 0)), .inl (y.2.2.2.1, 5, .inl (fun _ => 0)), .inl (y.2.2.2.1, 5, .inl (fun _ => 0)), .inl (y.2.2.2.1, 5, .inl (fun _ => 0)), .inl (y.2.2.2.1, 6, .inl (fun _ => 0)), .inl (y.2.2.2.1, 12, .inl (fun _ => 0)), .inl (y.2.2.2.1, 10, .inl (fun _ => 0))]) X dX3_init_175 (by decide) (by decide) (by decide) (by decide) (by decide) rfl rfl ?_
  refine c_putU (pc := 177) (k := 36) (ty := (.array .int)) (fs' := [.ref (y.1 + (ws0.length + 0)), .ref (y.1 + (ws0.length + 1)), .ref (y.1 + (ws0.length + 2)), .ref (y.1 + (ws0.length + 3)), .ref (y.1 + (ws0.length + 4)), .ref (y.1 + (ws0.length + 5)), .ref (y.1 + (ws0.length + 6)), .ref (y.1 + (ws0.length + 7)), .ref (y.1 + (ws0.length + 8)), .ref (y.1 + (ws0.length + 9)), .ref (y.1 + (ws0.length + 10)), .int 0, .int 0, .int 0, .int 0, .ref (y.1 + (ws0.length + 11)), .ref (y.1 + (ws0.length + 12)), .ref (y.1 + (ws0.length + 13)), .ref (y.1 + (ws0.length + 14)), .int 0, .int 0, .int 0, .ref (y.1 + (ws0.length + 15)), .int 0, .int 0, .int 0, .int 0, .ref (y.1 + (ws0.length + 16)), .ref (y.1 + (ws0.length + 17)), .int 0, .int 9, .int 0, .ref (y.1 + (ws0.length + 18)), .ref (y.1 + (ws0.length + 19)), .ref (y.1 + (ws0.length + 20)), .int 0, .ref (y.1 + (ws0.length + 21)), .null]) (C := RX3) (T := TX3) (N := 38) X dX3_init_177 hj rfl (by decide) rfl cl_X3_77 (Or.inr ⟨hnm, rfl⟩) (by decide +kernel) rfl rfl rfl ?_
  refine c_aload_n (pc := 180) X dX3_init_180 0 rfl rfl ?_
  refine c_bipush (pc := 181) X dX3_init_181 kb_64 ?_
  refine c_newa (pc := 183) (N := 64) (k0 := 22) (ap' := [.inl (y.2.2.2.1, 7, .inl (fun _ => 0)), .inl (y.2.2.2.1, 6, .inl (fun _ => 0)), .inl (y.2.2.2.1, 6, .inl (fun _ => 0)), .inl (y.2.2.2.1, 6, .inl (fun _ => 0)), .inl (y.2.2.2.1, 6, .inl (fun _ => 0)), .inl (y.2.2.2.1, 6, .inl (fun _ => 0)), .inl (y.2.2.2.1, 5, .inl (fun _ => 0)), .inl (y.2.2.2.1, 5, .inl (fun _ => 0)), .inl (y.2.2.2.1, 5, .inl (fun _ => 0)), .inl (y.2.2.2.1, 5, .inl (fun _ => 0)), .inl (y.2.2.2.1, 5, .inl (fun _ => 0)), .inl (y.2.2.2.1, 96, .inl (fun _ => 0)), .inl (y.2.2.2.1, 48, .inl (fun _ => 0)), .inl (y.2.2.2.1, 48, .inl (fun _ => 0)), .inl (y.2.2.2.1, 144, .inl (fun _ => 0)), .inl (y.2.2.2.1, 660, .inl (fun _ => 0)), .inl (y.2.2.2.1, 5, .inl (fun _ => 0)), .inl (y.2.2.2.1, 5, .inl (fun _ => 0)), .inl (y.2.2.2.1, 5, .inl (fun _ => 0)), .inl (y.2.2.2.1, 6, .inl (fun _ => 0)), .inl (y.2.2.2.1, 12, .inl (fun _ => 0)), .inl (y.2.2.2.1, 10, .inl (fun _ => 0)), .inl (y.2.2.2.1, 64, .inl (fun _ => 0))]) X dX3_init_183 (by decide) (by decide) (by decide) (by decide) (by decide) rfl rfl ?_
  refine c_putU (pc := 185) (k := 37) (ty := (.array .int)) (fs' := [.ref (y.1 + (ws0.length + 0)), .ref (y.1 + (ws0.length + 1)), .ref (y.1 + (ws0.length + 2)), .ref (y.1 + (ws0.length + 3)), .ref (y.1 + (ws0.length + 4)), .ref (y.1 + (ws0.length + 5)), .ref (y.1 + (ws0.length + 6)), .ref (y.1 + (ws0.length + 7)), .ref (y.1 + (ws0.length + 8)), .ref (y.1 + (ws0.length + 9)), .ref (y.1 + (ws0.length + 10)), .int 0, .int 0, .int 0, .int 0, .ref (y.1 + (ws0.length + 11)), .ref (y.1 + (ws0.length + 12)), .ref (y.1 + (ws0.length + 13)), .ref (y.1 + (ws0.length + 14)), .int 0, .int 0, .int 0, .ref (y.1 + (ws0.length + 15)), .int 0, .int 0, .int 0, .int 0, .ref (y.1 + (ws0.length + 16)), .ref (y.1 + (ws0.length + 17)), .int 0, .int 9, .int 0, .ref (y.1 + (ws0.length + 18)), .ref (y.1 + (ws0.length + 19)), .ref (y.1 + (ws0.length + 20)), .int 0, .ref (y.1 + (ws0.length + 21)), .ref (y.1 + (ws0.length + 22))]) (C := RX3) (T := TX3) (N := 38) X dX3_init_185 hj rfl (by decide) rfl cl_X3_80 (Or.inr ⟨hnm, rfl⟩) (by decide +kernel) rfl rfl rfl ?_
  refine c_aload_n (pc := 188) X dX3_init_188 0 rfl rfl ?_
  refine c_iconst (pc := 189) X dX3_init_189 kc_0 ?_
  refine c_putU (pc := 190) (k := 11) (ty := .int) (fs' := [.ref (y.1 + (ws0.length + 0)), .ref (y.1 + (ws0.length + 1)), .ref (y.1 + (ws0.length + 2)), .ref (y.1 + (ws0.length + 3)), .ref (y.1 + (ws0.length + 4)), .ref (y.1 + (ws0.length + 5)), .ref (y.1 + (ws0.length + 6)), .ref (y.1 + (ws0.length + 7)), .ref (y.1 + (ws0.length + 8)), .ref (y.1 + (ws0.length + 9)), .ref (y.1 + (ws0.length + 10)), .int 0, .int 0, .int 0, .int 0, .ref (y.1 + (ws0.length + 11)), .ref (y.1 + (ws0.length + 12)), .ref (y.1 + (ws0.length + 13)), .ref (y.1 + (ws0.length + 14)), .int 0, .int 0, .int 0, .ref (y.1 + (ws0.length + 15)), .int 0, .int 0, .int 0, .int 0, .ref (y.1 + (ws0.length + 16)), .ref (y.1 + (ws0.length + 17)), .int 0, .int 9, .int 0, .ref (y.1 + (ws0.length + 18)), .ref (y.1 + (ws0.length + 19)), .ref (y.1 + (ws0.length + 20)), .int 0, .ref (y.1 + (ws0.length + 21)), .ref (y.1 + (ws0.length + 22))]) (C := RX3) (T := TX3) (N := 38) X dX3_init_190 hj rfl (by decide) rfl cl_X3_83 (Or.inl rfl) (by decide +kernel) rfl rfl rfl ?_
  exact c_ret (pc := 193) X z1 z2 dX3_init_193 rfl rfl rfl
theorem c_cs {y : LY} {l : Launch} {E : ET} {nL : Nat} {Q : State → Prop} {pc : Nat} {lv : List (Nat × Value)} {st : List Value} {ws : List va_E} {ce sl ce' sl' : Nat} (h1 : ce = ce') (h2 : sl = sl') (k : WC y l E nL Q pc lv st ws ce' sl') : WC y l E nL Q pc lv st ws ce sl := by rw [h1, h2]; exact k
set_option maxRecDepth 100000 in
set_option maxHeartbeats 4000000 in
theorem hl_iter {y : LY} {l : Launch} {E : ET} {Q : State → Prop} (X : CX y l E cX2_init 2 RX2 ({ frames := 2, cells := 162, slots := 1136, locals := 80 })) (hy : y.1 ≤ (eS E).heap.size) (hAO : va_AO RX0 (eS E)) (k : Nat) (hk : k < 8) (kk : WC y l E 2 Q 111 [(1, .int (nI (k + 1))), (0, .ref (y.1 + 0))] [] (hlX y (k + 1)) (50 + 14 * (k + 1)) (416 + 90 * (k + 1))) : WC y l E 2 Q 111 [(1, .int (nI k)), (0, .ref (y.1 + 0))] [] (hlX y k) (50 + 14 * k) (416 + 90 * k) := by
  have e8 : (8 : Int32) = nI 8 := rfl
  have hlA1 := hlA_len y
  have hlC1 := hlC_len y
  have hS1 := hlS_len y k
  refine c_iload_n (pc := 111) X dX2_init_111 0 rfl rfl ?_
  refine c_bipush (pc := 112) X dX2_init_112 kb_8 ?_
  refine c_geF (pc := 114) (tgt := 136) X dX2_init_114 (by decide) (by rw [e8]; exact nI_ge hk (by decide)) ?_
  refine c_aload_n (pc := 117) X dX2_init_117 1 rfl rfl ?_
  unfold hlX
  refine c_get (pc := 118) (k := 4) (C := RX2) (T := TX2) (N := 13) (v := .ref (y.1 + 43)) X dX2_init_118 (Nat.lt_succ_self 0) rfl (by decide) cl_X2_26 rfl ?_
  refine c_iload_n (pc := 121) X dX2_init_121 0 rfl rfl ?_
  have hz : (OB1 [.inr (2, hlB)] 0 2 (hlF y) (hlA y ++ .inl (y.2.2.2.2, 8, .inr (.inr (.inr (.inr (hlR y k))))) :: (hlC y ++ hlS y k))).length = 51 + 14 * k := by
    rw [OB1.len]
    simp only [List.length_append, List.length_cons, hlA1, hlC1, hS1, List.length_nil]
    omega
  refine c_new (pc := 122) (k0 := 51 + 14 * k) (c2 := 0) (f2 := stB) (C := RX0) (T := TX0) (N := 19) (ap' := OB1 [.inr (2, hlB)] 0 2 (hlF y) ((hlA y ++ .inl (y.2.2.2.2, 8, .inr (.inr (.inr (.inr (hlR y k))))) :: (hlC y ++ hlS y k)) ++ [.inr (0, stB)])) tyX0 X dX2_init_122 rfl tyX0_ok ck_X2_9 ci_X0 cn_X0 (blk_X0) (by show _ ≤ 162; omega) (by show _ ≤ 1136; omega) hz OB1.app ?_
  refine c_dup (pc := 125) X dX2_init_125 rfl ?_
  have hz2 : ([.inr (2, hlB)] : List va_E).length + (hlA y ++ .inl (y.2.2.2.2, 8, .inr (.inr (.inr (.inr (hlR y k))))) :: (hlC y ++ hlS y k)).length = 51 + 14 * k := by rw [← OB1.len]; exact hz
  have hlast := OB1.last (ws0 := [.inr (2, hlB)]) (i := 0) (ci := 2) (c2 := 0) (fs := hlF y) (f1 := stB) (ap := hlA y ++ .inl (y.2.2.2.2, 8, .inr (.inr (.inr (.inr (hlR y k))))) :: (hlC y ++ hlS y k))
  rw [hz2] at hlast
  refine c_call (pc := 126) (ym := yX0_init) (c' := cX0_init) (n' := 1) (mc := 13) (ms := 71) (rm' := { frames := 1, cells := 13, slots := 71, locals := 40 }) X dX2_init_126 rfl cx_X0.1 cn_X0 cx_X0.2 ⟨by decide +kernel, by decide +kernel⟩ (by decide +kernel) mi_X2_11 ⟨rfl, rfl, by decide, by decide⟩ (by show _ ≤ 162; omega) (by show _ ≤ 1136; omega) hy hAO (k_X0 hlast) (Nat.le_of_ble_eq_true rfl) ?_
  have hsub := OB1.sub (ws0 := [.inr (2, hlB)]) (i := 0) (ci := 2) (c2 := 0) (fs := hlF y) (f1 := stB) (f2 := stF y.1 (51 + 14 * k + 1)) (ap := hlA y ++ .inl (y.2.2.2.2, 8, .inr (.inr (.inr (.inr (hlR y k))))) :: (hlC y ++ hlS y k)) (b := stA y.2.2.2.1) (Nat.lt_succ_self 0)
  rw [hz2] at hsub
  refine c_eq (ws' := OB1 [.inr (2, hlB)] 0 2 (hlF y) (hlA y ++ .inl (y.2.2.2.2, 8, .inr (.inr (.inr (.inr (hlR y k))))) :: (hlC y ++ hlS y (k + 1)))) ?_ ?_
  · have hlen : (OB1 [.inr (2, hlB)] 0 2 (hlF y) ((hlA y ++ .inl (y.2.2.2.2, 8, .inr (.inr (.inr (.inr (hlR y k))))) :: (hlC y ++ hlS y k)) ++ [.inr (0, stB)])).length = 51 + 14 * k + 1 := by
      rw [← OB1.app, List.length_append, hz]; rfl
    rw [hlen, hsub]
    show OB1 _ 0 2 (hlF y) _ = OB1 _ 0 2 (hlF y) (hlA y ++ _ :: (hlC y ++ (hlS y k ++ _)))
    simp only [List.append_assoc, List.cons_append]
  have hst : (OB1 [.inr (2, hlB)] 0 2 (hlF y) (hlA y ++ .inl (y.2.2.2.2, 8, .inr (.inr (.inr (.inr (hlR y k))))) :: (hlC y ++ hlS y (k + 1))))[51 + 14 * k]? = some (.inr (0, stF y.1 (51 + 14 * k + 1))) := by
    have h := OB1.getA (ws0 := [.inr (2, hlB)]) (i := 0) (ci := 2) (fs := hlF y) (A := hlA y ++ .inl (y.2.2.2.2, 8, .inr (.inr (.inr (.inr (hlR y k))))) :: (hlC y ++ hlS y k)) (x := .inr (0, stF y.1 (51 + 14 * k + 1))) (B := stA y.2.2.2.1)
    rw [hz2] at h
    rw [← h]
    show _ = (OB1 _ 0 2 (hlF y) _)[_]?
    simp only [hlS, List.append_assoc, List.cons_append]
  have hpa := OB1.getA (ws0 := [.inr (2, hlB)]) (i := 0) (ci := 2) (fs := hlF y) (A := hlA y) (x := .inl (y.2.2.2.2, 8, .inr (.inr (.inr (.inr (hlR y k)))))) (B := hlC y ++ hlS y (k + 1))
  have hps := OB1.setA (ws0 := [.inr (2, hlB)]) (i := 0) (ci := 2) (fs := hlF y) (A := hlA y) (x := .inl (y.2.2.2.2, 8, .inr (.inr (.inr (.inr (hlR y k)))))) (x' := .inl (y.2.2.2.2, 8, .inr (.inr (.inr (.inr (hlR y (k + 1))))))) (B := hlC y ++ hlS y (k + 1))
  rw [hlA1] at hpa hps
  refine c_aast (pc := 129) (a := 43) (b := 51 + 14 * k) (k0 := k) (ws' := hlX y (k + 1)) X dX2_init_129 hpa hst (nI_pos (by omega)) (nI_clamp (by omega)) hk hps ?_
  refine c_iinc (pc := 130) (v := nI (k + 1)) (lv' := [(1, .int (nI (k + 1))), (0, .ref (y.1 + 0))]) X dX2_init_130 0 rfl (nI_succ k).symm (by decide) rfl ?_
  refine c_goto (pc := 133) (tgt := 111) X dX2_init_133 (by decide) ?_
  refine c_cs (ce' := 50 + 14 * (k + 1)) (sl' := 416 + 90 * (k + 1)) (by omega) (by omega) ?_
  exact kk
set_option maxRecDepth 100000 in
set_option maxHeartbeats 8000000 in
theorem k_X2 {y : LY} {l : Launch} : MC y l yX2_init cX2_init 2 ({ frames := 2, cells := 162, slots := 1136, locals := 80 }) 162 1136 0 [.inr (2, hlB)] (hlW y) := by
  refine MC.of (by decide +kernel) rfl rfl (fun E X z1 z2 hnm hy hAO => ?_)
  have X : CX y l E cX2_init 2 RX2 ({ frames := 2, cells := 162, slots := 1136, locals := 80 }) := X
  refine c_aload_n (pc := 0) X dX2_init_0 0 rfl rfl ?_
  refine c_obj (pc := 1) X dX2_init_1 lo_X2 ⟨by decide, by decide⟩ (Nat.le_of_ble_eq_true rfl) ?_
  refine c_eq (ws' := OB1 [.inr (2, hlB)] 0 2 [.null, .null, .null, .int 0, .null, .int 0, .null, .int 0, .null, .int 0, .null, .null, .null] ([])) rfl ?_
  refine c_aload_n (pc := 4) X dX2_init_4 0 rfl rfl ?_
  refine c_new (pc := 5) (k0 := 1) (c2 := 0) (f2 := stB) (C := RX0) (T := TX0) (N := 19) (ap' := OB1 [.inr (2, hlB)] 0 2 [.null, .null, .null, .int 0, .null, .int 0, .null, .int 0, .null, .int 0, .null, .null, .null] (([]) ++ [.inr (0, stB)])) tyX0 X dX2_init_5 rfl tyX0_ok ck_X2_9 ci_X0 cn_X0 (blk_X0) (by decide) (by decide) rfl OB1.app ?_
  refine c_dup (pc := 8) X dX2_init_8 rfl ?_
  refine c_call (pc := 9) (ym := yX0_init) (c' := cX0_init) (n' := 1) (mc := 13) (ms := 71) (rm' := { frames := 1, cells := 13, slots := 71, locals := 40 }) X dX2_init_9 rfl cx_X0.1 cn_X0 cx_X0.2 ⟨by decide +kernel, by decide +kernel⟩ (by decide +kernel) mi_X2_11 ⟨rfl, rfl, by decide, by decide⟩ (by decide) (by decide) hy hAO (k_X0 (j := 1) rfl) (Nat.le_of_ble_eq_true rfl) ?_
  refine c_eq (ws' := OB1 [.inr (2, hlB)] 0 2 [.null, .null, .null, .int 0, .null, .int 0, .null, .int 0, .null, .int 0, .null, .null, .null] ((.inr (0, stF y.1 2) :: stA y.2.2.2.1))) (OB1.sub (ws0 := [.inr (2, hlB)]) (Nat.lt_succ_self 0)) ?_
  refine c_putU (pc := 12) (k := 0) (ty := (.object "HandbagLady$Street")) (fs' := [.ref (y.1 + 1), .null, .null, .int 0, .null, .int 0, .null, .int 0, .null, .int 0, .null, .null, .null]) (C := RX2) (T := TX2) (N := 13) X dX2_init_12 (Nat.lt_succ_self 0) rfl (by decide) rfl cl_X2_12 (Or.inr ⟨hnm, rfl⟩) (by decide +kernel) rfl rfl rfl ?_
  refine c_aload_n (pc := 15) X dX2_init_15 0 rfl rfl ?_
  refine c_new (pc := 16) (k0 := 15) (c2 := 0) (f2 := stB) (C := RX0) (T := TX0) (N := 19) (ap' := OB1 [.inr (2, hlB)] 0 2 [.ref (y.1 + 1), .null, .null, .int 0, .null, .int 0, .null, .int 0, .null, .int 0, .null, .null, .null] (((.inr (0, stF y.1 2) :: stA y.2.2.2.1)) ++ [.inr (0, stB)])) tyX0 X dX2_init_16 rfl tyX0_ok ck_X2_9 ci_X0 cn_X0 (blk_X0) (by decide) (by decide) rfl OB1.app ?_
  refine c_dup (pc := 19) X dX2_init_19 rfl ?_
  refine c_call (pc := 20) (ym := yX0_init) (c' := cX0_init) (n' := 1) (mc := 13) (ms := 71) (rm' := { frames := 1, cells := 13, slots := 71, locals := 40 }) X dX2_init_20 rfl cx_X0.1 cn_X0 cx_X0.2 ⟨by decide +kernel, by decide +kernel⟩ (by decide +kernel) mi_X2_11 ⟨rfl, rfl, by decide, by decide⟩ (by decide) (by decide) hy hAO (k_X0 (j := 15) rfl) (Nat.le_of_ble_eq_true rfl) ?_
  refine c_eq (ws' := OB1 [.inr (2, hlB)] 0 2 [.ref (y.1 + 1), .null, .null, .int 0, .null, .int 0, .null, .int 0, .null, .int 0, .null, .null, .null] ((.inr (0, stF y.1 2) :: stA y.2.2.2.1) ++ (.inr (0, stF y.1 16) :: stA y.2.2.2.1))) (OB1.sub (ws0 := [.inr (2, hlB)]) (Nat.lt_succ_self 0)) ?_
  refine c_putU (pc := 23) (k := 1) (ty := (.object "HandbagLady$Street")) (fs' := [.ref (y.1 + 1), .ref (y.1 + 15), .null, .int 0, .null, .int 0, .null, .int 0, .null, .int 0, .null, .null, .null]) (C := RX2) (T := TX2) (N := 13) X dX2_init_23 (Nat.lt_succ_self 0) rfl (by decide) rfl cl_X2_16 (Or.inr ⟨hnm, rfl⟩) (by decide +kernel) rfl rfl rfl ?_
  refine c_aload_n (pc := 26) X dX2_init_26 0 rfl rfl ?_
  refine c_new (pc := 27) (k0 := 29) (c2 := 0) (f2 := stB) (C := RX0) (T := TX0) (N := 19) (ap' := OB1 [.inr (2, hlB)] 0 2 [.ref (y.1 + 1), .ref (y.1 + 15), .null, .int 0, .null, .int 0, .null, .int 0, .null, .int 0, .null, .null, .null] (((.inr (0, stF y.1 2) :: stA y.2.2.2.1) ++ (.inr (0, stF y.1 16) :: stA y.2.2.2.1)) ++ [.inr (0, stB)])) tyX0 X dX2_init_27 rfl tyX0_ok ck_X2_9 ci_X0 cn_X0 (blk_X0) (by decide) (by decide) rfl OB1.app ?_
  refine c_dup (pc := 30) X dX2_init_30 rfl ?_
  refine c_call (pc := 31) (ym := yX0_init) (c' := cX0_init) (n' := 1) (mc := 13) (ms := 71) (rm' := { frames := 1, cells := 13, slots := 71, locals := 40 }) X dX2_init_31 rfl cx_X0.1 cn_X0 cx_X0.2 ⟨by decide +kernel, by decide +kernel⟩ (by decide +kernel) mi_X2_11 ⟨rfl, rfl, by decide, by decide⟩ (by decide) (by decide) hy hAO (k_X0 (j := 29) rfl) (Nat.le_of_ble_eq_true rfl) ?_
  refine c_eq (ws' := OB1 [.inr (2, hlB)] 0 2 [.ref (y.1 + 1), .ref (y.1 + 15), .null, .int 0, .null, .int 0, .null, .int 0, .null, .int 0, .null, .null, .null] ((.inr (0, stF y.1 2) :: stA y.2.2.2.1) ++ (.inr (0, stF y.1 16) :: stA y.2.2.2.1) ++ (.inr (0, stF y.1 30) :: stA y.2.2.2.1))) (OB1.sub (ws0 := [.inr (2, hlB)]) (Nat.lt_succ_self 0)) ?_
  refine c_putU (pc := 34) (k := 2) (ty := (.object "HandbagLady$Street")) (fs' := [.ref (y.1 + 1), .ref (y.1 + 15), .ref (y.1 + 29), .int 0, .null, .int 0, .null, .int 0, .null, .int 0, .null, .null, .null]) (C := RX2) (T := TX2) (N := 13) X dX2_init_34 (Nat.lt_succ_self 0) rfl (by decide) rfl cl_X2_19 (Or.inr ⟨hnm, rfl⟩) (by decide +kernel) rfl rfl rfl ?_
  refine c_aload_n (pc := 37) X dX2_init_37 0 rfl rfl ?_
  refine c_iconst (pc := 38) X dX2_init_38 kc_0 ?_
  refine c_putU (pc := 39) (k := 3) (ty := .boolean) (fs' := [.ref (y.1 + 1), .ref (y.1 + 15), .ref (y.1 + 29), .int 0, .null, .int 0, .null, .int 0, .null, .int 0, .null, .null, .null]) (C := RX2) (T := TX2) (N := 13) X dX2_init_39 (Nat.lt_succ_self 0) rfl (by decide) rfl cl_X2_22 (Or.inl rfl) (by decide +kernel) rfl rfl rfl ?_
  refine c_aload_n (pc := 42) X dX2_init_42 0 rfl rfl ?_
  refine c_bipush (pc := 43) X dX2_init_43 kb_8 ?_
  refine c_newq (pc := 45) (k0 := 42) (ap' := (.inr (0, stF y.1 2) :: stA y.2.2.2.1) ++ (.inr (0, stF y.1 16) :: stA y.2.2.2.1) ++ (.inr (0, stF y.1 30) :: stA y.2.2.2.1) ++ ([.inl (y.2.2.2.2, 8, .inr (.inr (.inr (.inr (fun _ => none)))))])) X dX2_init_45 ck_X2_9 hAO rfl (by decide) (by decide) rfl rfl ?_
  refine c_putU (pc := 48) (k := 4) (ty := (.array (.object "HandbagLady$Street"))) (fs' := [.ref (y.1 + 1), .ref (y.1 + 15), .ref (y.1 + 29), .int 0, .ref (y.1 + (1 + 42)), .int 0, .null, .int 0, .null, .int 0, .null, .null, .null]) (C := RX2) (T := TX2) (N := 13) X dX2_init_48 (Nat.lt_succ_self 0) rfl (by decide) rfl cl_X2_26 (Or.inr ⟨hnm, rfl⟩) (by decide +kernel) rfl rfl rfl ?_
  refine c_aload_n (pc := 51) X dX2_init_51 0 rfl rfl ?_
  refine c_iconst (pc := 52) X dX2_init_52 kc_0 ?_
  refine c_putU (pc := 53) (k := 5) (ty := .int) (fs' := [.ref (y.1 + 1), .ref (y.1 + 15), .ref (y.1 + 29), .int 0, .ref (y.1 + (1 + 42)), .int 0, .null, .int 0, .null, .int 0, .null, .null, .null]) (C := RX2) (T := TX2) (N := 13) X dX2_init_53 (Nat.lt_succ_self 0) rfl (by decide) rfl cl_X2_30 (Or.inl rfl) (by decide +kernel) rfl rfl rfl ?_
  refine c_aload_n (pc := 56) X dX2_init_56 0 rfl rfl ?_
  refine c_bipush (pc := 57) X dX2_init_57 kb_96 ?_
  refine c_newa (pc := 59) (N := 96) (k0 := 43) (ap' := (.inr (0, stF y.1 2) :: stA y.2.2.2.1) ++ (.inr (0, stF y.1 16) :: stA y.2.2.2.1) ++ (.inr (0, stF y.1 30) :: stA y.2.2.2.1) ++ ([.inl (y.2.2.2.2, 8, .inr (.inr (.inr (.inr (fun _ => none)))))]) ++ ([.inl (y.2.2.2.1, 96, .inl (fun _ => 0))])) X dX2_init_59 (by decide) (by decide) (by decide) (by decide) (by decide) rfl rfl ?_
  refine c_putU (pc := 61) (k := 6) (ty := (.array .int)) (fs' := [.ref (y.1 + 1), .ref (y.1 + 15), .ref (y.1 + 29), .int 0, .ref (y.1 + (1 + 42)), .int 0, .ref (y.1 + (1 + 43)), .int 0, .null, .int 0, .null, .null, .null]) (C := RX2) (T := TX2) (N := 13) X dX2_init_61 (Nat.lt_succ_self 0) rfl (by decide) rfl cl_X2_34 (Or.inr ⟨hnm, rfl⟩) (by decide +kernel) rfl rfl rfl ?_
  refine c_aload_n (pc := 64) X dX2_init_64 0 rfl rfl ?_
  refine c_iconst (pc := 65) X dX2_init_65 kc_0 ?_
  refine c_putU (pc := 66) (k := 7) (ty := .int) (fs' := [.ref (y.1 + 1), .ref (y.1 + 15), .ref (y.1 + 29), .int 0, .ref (y.1 + (1 + 42)), .int 0, .ref (y.1 + (1 + 43)), .int 0, .null, .int 0, .null, .null, .null]) (C := RX2) (T := TX2) (N := 13) X dX2_init_66 (Nat.lt_succ_self 0) rfl (by decide) rfl cl_X2_38 (Or.inl rfl) (by decide +kernel) rfl rfl rfl ?_
  refine c_aload_n (pc := 69) X dX2_init_69 0 rfl rfl ?_
  refine c_bipush (pc := 70) X dX2_init_70 kb_12 ?_
  refine c_newa (pc := 72) (N := 12) (k0 := 44) (ap' := (.inr (0, stF y.1 2) :: stA y.2.2.2.1) ++ (.inr (0, stF y.1 16) :: stA y.2.2.2.1) ++ (.inr (0, stF y.1 30) :: stA y.2.2.2.1) ++ ([.inl (y.2.2.2.2, 8, .inr (.inr (.inr (.inr (fun _ => none)))))]) ++ ([.inl (y.2.2.2.1, 96, .inl (fun _ => 0))]) ++ ([.inl (y.2.2.2.1, 12, .inl (fun _ => 0))])) X dX2_init_72 (by decide) (by decide) (by decide) (by decide) (by decide) rfl rfl ?_
  refine c_putU (pc := 74) (k := 8) (ty := (.array .int)) (fs' := [.ref (y.1 + 1), .ref (y.1 + 15), .ref (y.1 + 29), .int 0, .ref (y.1 + (1 + 42)), .int 0, .ref (y.1 + (1 + 43)), .int 0, .ref (y.1 + (1 + 44)), .int 0, .null, .null, .null]) (C := RX2) (T := TX2) (N := 13) X dX2_init_74 (Nat.lt_succ_self 0) rfl (by decide) rfl cl_X2_41 (Or.inr ⟨hnm, rfl⟩) (by decide +kernel) rfl rfl rfl ?_
  refine c_aload_n (pc := 77) X dX2_init_77 0 rfl rfl ?_
  refine c_iconst (pc := 78) X dX2_init_78 kc_0 ?_
  refine c_putU (pc := 79) (k := 9) (ty := .int) (fs' := [.ref (y.1 + 1), .ref (y.1 + 15), .ref (y.1 + 29), .int 0, .ref (y.1 + (1 + 42)), .int 0, .ref (y.1 + (1 + 43)), .int 0, .ref (y.1 + (1 + 44)), .int 0, .null, .null, .null]) (C := RX2) (T := TX2) (N := 13) X dX2_init_79 (Nat.lt_succ_self 0) rfl (by decide) rfl cl_X2_44 (Or.inl rfl) (by decide +kernel) rfl rfl rfl ?_
  refine c_aload_n (pc := 82) X dX2_init_82 0 rfl rfl ?_
  refine c_bipush (pc := 83) X dX2_init_83 kb_7 ?_
  refine c_newa (pc := 85) (N := 7) (k0 := 45) (ap' := (.inr (0, stF y.1 2) :: stA y.2.2.2.1) ++ (.inr (0, stF y.1 16) :: stA y.2.2.2.1) ++ (.inr (0, stF y.1 30) :: stA y.2.2.2.1) ++ ([.inl (y.2.2.2.2, 8, .inr (.inr (.inr (.inr (fun _ => none)))))]) ++ ([.inl (y.2.2.2.1, 96, .inl (fun _ => 0))]) ++ ([.inl (y.2.2.2.1, 12, .inl (fun _ => 0))]) ++ ([.inl (y.2.2.2.1, 7, .inl (fun _ => 0))])) X dX2_init_85 (by decide) (by decide) (by decide) (by decide) (by decide) rfl rfl ?_
  refine c_putU (pc := 87) (k := 10) (ty := (.array .int)) (fs' := [.ref (y.1 + 1), .ref (y.1 + 15), .ref (y.1 + 29), .int 0, .ref (y.1 + (1 + 42)), .int 0, .ref (y.1 + (1 + 43)), .int 0, .ref (y.1 + (1 + 44)), .int 0, .ref (y.1 + (1 + 45)), .null, .null]) (C := RX2) (T := TX2) (N := 13) X dX2_init_87 (Nat.lt_succ_self 0) rfl (by decide) rfl cl_X2_47 (Or.inr ⟨hnm, rfl⟩) (by decide +kernel) rfl rfl rfl ?_
  refine c_aload_n (pc := 90) X dX2_init_90 0 rfl rfl ?_
  refine c_bipush (pc := 91) X dX2_init_91 kb_10 ?_
  refine c_newa (pc := 93) (N := 10) (k0 := 46) (ap' := (.inr (0, stF y.1 2) :: stA y.2.2.2.1) ++ (.inr (0, stF y.1 16) :: stA y.2.2.2.1) ++ (.inr (0, stF y.1 30) :: stA y.2.2.2.1) ++ ([.inl (y.2.2.2.2, 8, .inr (.inr (.inr (.inr (fun _ => none)))))]) ++ ([.inl (y.2.2.2.1, 96, .inl (fun _ => 0))]) ++ ([.inl (y.2.2.2.1, 12, .inl (fun _ => 0))]) ++ ([.inl (y.2.2.2.1, 7, .inl (fun _ => 0))]) ++ ([.inl (y.2.2.2.1, 10, .inl (fun _ => 0))])) X dX2_init_93 (by decide) (by decide) (by decide) (by decide) (by decide) rfl rfl ?_
  refine c_putU (pc := 95) (k := 11) (ty := (.array .int)) (fs' := [.ref (y.1 + 1), .ref (y.1 + 15), .ref (y.1 + 29), .int 0, .ref (y.1 + (1 + 42)), .int 0, .ref (y.1 + (1 + 43)), .int 0, .ref (y.1 + (1 + 44)), .int 0, .ref (y.1 + (1 + 45)), .ref (y.1 + (1 + 46)), .null]) (C := RX2) (T := TX2) (N := 13) X dX2_init_95 (Nat.lt_succ_self 0) rfl (by decide) rfl cl_X2_50 (Or.inr ⟨hnm, rfl⟩) (by decide +kernel) rfl rfl rfl ?_
  refine c_aload_n (pc := 98) X dX2_init_98 0 rfl rfl ?_
  refine c_new (pc := 99) (k0 := 48) (c2 := 1) (f2 := wyB) (C := RX1) (T := TX1) (N := 5) (ap' := OB1 [.inr (2, hlB)] 0 2 [.ref (y.1 + 1), .ref (y.1 + 15), .ref (y.1 + 29), .int 0, .ref (y.1 + (1 + 42)), .int 0, .ref (y.1 + (1 + 43)), .int 0, .ref (y.1 + (1 + 44)), .int 0, .ref (y.1 + (1 + 45)), .ref (y.1 + (1 + 46)), .null] (((.inr (0, stF y.1 2) :: stA y.2.2.2.1) ++ (.inr (0, stF y.1 16) :: stA y.2.2.2.1) ++ (.inr (0, stF y.1 30) :: stA y.2.2.2.1) ++ ([.inl (y.2.2.2.2, 8, .inr (.inr (.inr (.inr (fun _ => none)))))]) ++ ([.inl (y.2.2.2.1, 96, .inl (fun _ => 0))]) ++ ([.inl (y.2.2.2.1, 12, .inl (fun _ => 0))]) ++ ([.inl (y.2.2.2.1, 7, .inl (fun _ => 0))]) ++ ([.inl (y.2.2.2.1, 10, .inl (fun _ => 0))])) ++ [.inr (1, wyB)])) tyX1 X dX2_init_99 rfl tyX1_ok ck_X2_53 ci_X1 cn_X1 (blk_X1) (by decide) (by decide) rfl OB1.app ?_
  refine c_dup (pc := 102) X dX2_init_102 rfl ?_
  refine c_call (pc := 103) (ym := yX1_init) (c' := cX1_init) (n' := 1) (mc := 2) (ms := 8) (rm' := { frames := 1, cells := 2, slots := 8, locals := 40 }) X dX2_init_103 rfl cx_X1.1 cn_X1 cx_X1.2 ⟨by decide +kernel, by decide +kernel⟩ (by decide +kernel) mi_X2_55 ⟨rfl, rfl, by decide, by decide⟩ (by decide) (by decide) hy hAO (k_X1 (j := 48) rfl) (Nat.le_of_ble_eq_true rfl) ?_
  refine c_eq (ws' := OB1 [.inr (2, hlB)] 0 2 [.ref (y.1 + 1), .ref (y.1 + 15), .ref (y.1 + 29), .int 0, .ref (y.1 + (1 + 42)), .int 0, .ref (y.1 + (1 + 43)), .int 0, .ref (y.1 + (1 + 44)), .int 0, .ref (y.1 + (1 + 45)), .ref (y.1 + (1 + 46)), .null] ((.inr (0, stF y.1 2) :: stA y.2.2.2.1) ++ (.inr (0, stF y.1 16) :: stA y.2.2.2.1) ++ (.inr (0, stF y.1 30) :: stA y.2.2.2.1) ++ ([.inl (y.2.2.2.2, 8, .inr (.inr (.inr (.inr (fun _ => none)))))]) ++ ([.inl (y.2.2.2.1, 96, .inl (fun _ => 0))]) ++ ([.inl (y.2.2.2.1, 12, .inl (fun _ => 0))]) ++ ([.inl (y.2.2.2.1, 7, .inl (fun _ => 0))]) ++ ([.inl (y.2.2.2.1, 10, .inl (fun _ => 0))]) ++ (.inr (1, wyF y.1 49) :: wyA y.2.2.2.1))) (OB1.sub (ws0 := [.inr (2, hlB)]) (Nat.lt_succ_self 0)) ?_
  refine c_putU (pc := 106) (k := 12) (ty := (.object "HandbagLady$Ways")) (fs' := [.ref (y.1 + 1), .ref (y.1 + 15), .ref (y.1 + 29), .int 0, .ref (y.1 + (1 + 42)), .int 0, .ref (y.1 + (1 + 43)), .int 0, .ref (y.1 + (1 + 44)), .int 0, .ref (y.1 + (1 + 45)), .ref (y.1 + (1 + 46)), .ref (y.1 + 48)]) (C := RX2) (T := TX2) (N := 13) X dX2_init_106 (Nat.lt_succ_self 0) rfl (by decide) rfl cl_X2_56 (Or.inr ⟨hnm, rfl⟩) (by decide +kernel) rfl rfl rfl ?_
  refine c_iconst (pc := 109) X dX2_init_109 kc_0 ?_
  refine c_istore_n (pc := 110) (lv' := [(1, .int 0), (0, .ref (y.1 + 0))]) X dX2_init_110 rfl (by decide) rfl ?_
  refine c_eq (ws' := hlX y 0) rfl ?_
  refine c_cs (ce' := 50 + 14 * 0) (sl' := 416 + 90 * 0) rfl rfl ?_
  refine hl_iter X hy hAO 0 (by decide) ?_
  refine hl_iter X hy hAO 1 (by decide) ?_
  refine hl_iter X hy hAO 2 (by decide) ?_
  refine hl_iter X hy hAO 3 (by decide) ?_
  refine hl_iter X hy hAO 4 (by decide) ?_
  refine hl_iter X hy hAO 5 (by decide) ?_
  refine hl_iter X hy hAO 6 (by decide) ?_
  refine hl_iter X hy hAO 7 (by decide) ?_
  refine c_iload_n (pc := 111) (x := 8) X dX2_init_111 0 rfl rfl ?_
  refine c_bipush (pc := 112) X dX2_init_112 kb_8 ?_
  refine c_geT (pc := 114) (tgt := 136) X dX2_init_114 (by decide) (by decide) ?_
  exact c_ret (pc := 136) X z1 z2 dX2_init_136 rfl rfl rfl

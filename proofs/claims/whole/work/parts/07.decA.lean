theorem dX0_copyFrom_0 : decode cX0_copyFrom 0 = .ok (.aload_n 0, 1) := by decide +kernel
theorem dX0_copyFrom_1 : decode cX0_copyFrom 1 = .ok (.aload_n 1, 1) := by decide +kernel
theorem dX0_copyFrom_2 : decode cX0_copyFrom 2 = .ok (.getfield 9, 3) := by decide +kernel
theorem dX0_copyFrom_5 : decode cX0_copyFrom 5 = .ok (.putfield 9, 3) := by decide +kernel
theorem dX0_copyFrom_8 : decode cX0_copyFrom 8 = .ok (.aload_n 1, 1) := by decide +kernel
theorem dX0_copyFrom_9 : decode cX0_copyFrom 9 = .ok (.getfield 15, 3) := by decide +kernel
theorem dX0_copyFrom_12 : decode cX0_copyFrom 12 = .ok (.iconst 0, 1) := by decide +kernel
theorem dX0_copyFrom_13 : decode cX0_copyFrom 13 = .ok (.aload_n 0, 1) := by decide +kernel
theorem dX0_copyFrom_14 : decode cX0_copyFrom 14 = .ok (.getfield 15, 3) := by decide +kernel
theorem dX0_copyFrom_17 : decode cX0_copyFrom 17 = .ok (.iconst 0, 1) := by decide +kernel
theorem dX0_copyFrom_18 : decode cX0_copyFrom 18 = .ok (.bipush 6, 2) := by decide +kernel
theorem dX0_copyFrom_20 : decode cX0_copyFrom 20 = .ok (.invokestatic 70, 3) := by decide +kernel
theorem dX0_copyFrom_23 : decode cX0_copyFrom 23 = .ok (.aload_n 1, 1) := by decide +kernel
theorem dX0_copyFrom_24 : decode cX0_copyFrom 24 = .ok (.getfield 19, 3) := by decide +kernel
theorem dX0_copyFrom_27 : decode cX0_copyFrom 27 = .ok (.iconst 0, 1) := by decide +kernel
theorem dX0_copyFrom_28 : decode cX0_copyFrom 28 = .ok (.aload_n 0, 1) := by decide +kernel
theorem dX0_copyFrom_29 : decode cX0_copyFrom 29 = .ok (.getfield 19, 3) := by decide +kernel
theorem dX0_copyFrom_32 : decode cX0_copyFrom 32 = .ok (.iconst 0, 1) := by decide +kernel
theorem dX0_copyFrom_33 : decode cX0_copyFrom 33 = .ok (.bipush 6, 2) := by decide +kernel
theorem dX0_copyFrom_35 : decode cX0_copyFrom 35 = .ok (.invokestatic 70, 3) := by decide +kernel
theorem dX0_copyFrom_38 : decode cX0_copyFrom 38 = .ok (.aload_n 1, 1) := by decide +kernel
theorem dX0_copyFrom_39 : decode cX0_copyFrom 39 = .ok (.getfield 22, 3) := by decide +kernel
theorem dX0_copyFrom_42 : decode cX0_copyFrom 42 = .ok (.iconst 0, 1) := by decide +kernel
theorem dX0_copyFrom_43 : decode cX0_copyFrom 43 = .ok (.aload_n 0, 1) := by decide +kernel
theorem dX0_copyFrom_44 : decode cX0_copyFrom 44 = .ok (.getfield 22, 3) := by decide +kernel
theorem dX0_copyFrom_47 : decode cX0_copyFrom 47 = .ok (.iconst 0, 1) := by decide +kernel
theorem dX0_copyFrom_48 : decode cX0_copyFrom 48 = .ok (.bipush 6, 2) := by decide +kernel
theorem dX0_copyFrom_50 : decode cX0_copyFrom 50 = .ok (.invokestatic 70, 3) := by decide +kernel
theorem dX0_copyFrom_53 : decode cX0_copyFrom 53 = .ok (.aload_n 1, 1) := by decide +kernel
theorem dX0_copyFrom_54 : decode cX0_copyFrom 54 = .ok (.getfield 25, 3) := by decide +kernel
theorem dX0_copyFrom_57 : decode cX0_copyFrom 57 = .ok (.iconst 0, 1) := by decide +kernel
theorem dX0_copyFrom_58 : decode cX0_copyFrom 58 = .ok (.aload_n 0, 1) := by decide +kernel
theorem dX0_copyFrom_59 : decode cX0_copyFrom 59 = .ok (.getfield 25, 3) := by decide +kernel
theorem dX0_copyFrom_62 : decode cX0_copyFrom 62 = .ok (.iconst 0, 1) := by decide +kernel
theorem dX0_copyFrom_63 : decode cX0_copyFrom 63 = .ok (.bipush 6, 2) := by decide +kernel
theorem dX0_copyFrom_65 : decode cX0_copyFrom 65 = .ok (.invokestatic 70, 3) := by decide +kernel
theorem dX0_copyFrom_68 : decode cX0_copyFrom 68 = .ok (.aload_n 1, 1) := by decide +kernel
theorem dX0_copyFrom_69 : decode cX0_copyFrom 69 = .ok (.getfield 28, 3) := by decide +kernel
theorem dX0_copyFrom_72 : decode cX0_copyFrom 72 = .ok (.iconst 0, 1) := by decide +kernel
theorem dX0_copyFrom_73 : decode cX0_copyFrom 73 = .ok (.aload_n 0, 1) := by decide +kernel
theorem dX0_copyFrom_74 : decode cX0_copyFrom 74 = .ok (.getfield 28, 3) := by decide +kernel
theorem dX0_copyFrom_77 : decode cX0_copyFrom 77 = .ok (.iconst 0, 1) := by decide +kernel
theorem dX0_copyFrom_78 : decode cX0_copyFrom 78 = .ok (.bipush 6, 2) := by decide +kernel
theorem dX0_copyFrom_80 : decode cX0_copyFrom 80 = .ok (.invokestatic 70, 3) := by decide +kernel
theorem dX0_copyFrom_83 : decode cX0_copyFrom 83 = .ok (.aload_n 1, 1) := by decide +kernel
theorem dX0_copyFrom_84 : decode cX0_copyFrom 84 = .ok (.getfield 31, 3) := by decide +kernel
theorem dX0_copyFrom_87 : decode cX0_copyFrom 87 = .ok (.iconst 0, 1) := by decide +kernel
theorem dX0_copyFrom_88 : decode cX0_copyFrom 88 = .ok (.aload_n 0, 1) := by decide +kernel
theorem dX0_copyFrom_89 : decode cX0_copyFrom 89 = .ok (.getfield 31, 3) := by decide +kernel
theorem dX0_copyFrom_92 : decode cX0_copyFrom 92 = .ok (.iconst 0, 1) := by decide +kernel
theorem dX0_copyFrom_93 : decode cX0_copyFrom 93 = .ok (.bipush 6, 2) := by decide +kernel
theorem dX0_copyFrom_95 : decode cX0_copyFrom 95 = .ok (.invokestatic 70, 3) := by decide +kernel
theorem dX0_copyFrom_98 : decode cX0_copyFrom 98 = .ok (.aload_n 0, 1) := by decide +kernel
theorem dX0_copyFrom_99 : decode cX0_copyFrom 99 = .ok (.aload_n 1, 1) := by decide +kernel
theorem dX0_copyFrom_100 : decode cX0_copyFrom 100 = .ok (.getfield 34, 3) := by decide +kernel
theorem dX0_copyFrom_103 : decode cX0_copyFrom 103 = .ok (.putfield 34, 3) := by decide +kernel
theorem dX0_copyFrom_106 : decode cX0_copyFrom 106 = .ok (.aload_n 1, 1) := by decide +kernel
theorem dX0_copyFrom_107 : decode cX0_copyFrom 107 = .ok (.getfield 37, 3) := by decide +kernel
theorem dX0_copyFrom_110 : decode cX0_copyFrom 110 = .ok (.iconst 0, 1) := by decide +kernel
theorem dX0_copyFrom_111 : decode cX0_copyFrom 111 = .ok (.aload_n 0, 1) := by decide +kernel
theorem dX0_copyFrom_112 : decode cX0_copyFrom 112 = .ok (.getfield 37, 3) := by decide +kernel
theorem dX0_copyFrom_115 : decode cX0_copyFrom 115 = .ok (.iconst 0, 1) := by decide +kernel
theorem dX0_copyFrom_116 : decode cX0_copyFrom 116 = .ok (.iconst 5, 1) := by decide +kernel
theorem dX0_copyFrom_117 : decode cX0_copyFrom 117 = .ok (.invokestatic 70, 3) := by decide +kernel
theorem dX0_copyFrom_120 : decode cX0_copyFrom 120 = .ok (.aload_n 1, 1) := by decide +kernel
theorem dX0_copyFrom_121 : decode cX0_copyFrom 121 = .ok (.getfield 40, 3) := by decide +kernel
theorem dX0_copyFrom_124 : decode cX0_copyFrom 124 = .ok (.iconst 0, 1) := by decide +kernel
theorem dX0_copyFrom_125 : decode cX0_copyFrom 125 = .ok (.aload_n 0, 1) := by decide +kernel
theorem dX0_copyFrom_126 : decode cX0_copyFrom 126 = .ok (.getfield 40, 3) := by decide +kernel
theorem dX0_copyFrom_129 : decode cX0_copyFrom 129 = .ok (.iconst 0, 1) := by decide +kernel
theorem dX0_copyFrom_130 : decode cX0_copyFrom 130 = .ok (.iconst 5, 1) := by decide +kernel
theorem dX0_copyFrom_131 : decode cX0_copyFrom 131 = .ok (.invokestatic 70, 3) := by decide +kernel
theorem dX0_copyFrom_134 : decode cX0_copyFrom 134 = .ok (.aload_n 1, 1) := by decide +kernel
theorem dX0_copyFrom_135 : decode cX0_copyFrom 135 = .ok (.getfield 43, 3) := by decide +kernel
theorem dX0_copyFrom_138 : decode cX0_copyFrom 138 = .ok (.iconst 0, 1) := by decide +kernel
theorem dX0_copyFrom_139 : decode cX0_copyFrom 139 = .ok (.aload_n 0, 1) := by decide +kernel
theorem dX0_copyFrom_140 : decode cX0_copyFrom 140 = .ok (.getfield 43, 3) := by decide +kernel
theorem dX0_copyFrom_143 : decode cX0_copyFrom 143 = .ok (.iconst 0, 1) := by decide +kernel
theorem dX0_copyFrom_144 : decode cX0_copyFrom 144 = .ok (.iconst 5, 1) := by decide +kernel
theorem dX0_copyFrom_145 : decode cX0_copyFrom 145 = .ok (.invokestatic 70, 3) := by decide +kernel
theorem dX0_copyFrom_148 : decode cX0_copyFrom 148 = .ok (.aload_n 1, 1) := by decide +kernel
theorem dX0_copyFrom_149 : decode cX0_copyFrom 149 = .ok (.getfield 46, 3) := by decide +kernel
theorem dX0_copyFrom_152 : decode cX0_copyFrom 152 = .ok (.iconst 0, 1) := by decide +kernel
theorem dX0_copyFrom_153 : decode cX0_copyFrom 153 = .ok (.aload_n 0, 1) := by decide +kernel
theorem dX0_copyFrom_154 : decode cX0_copyFrom 154 = .ok (.getfield 46, 3) := by decide +kernel
theorem dX0_copyFrom_157 : decode cX0_copyFrom 157 = .ok (.iconst 0, 1) := by decide +kernel
theorem dX0_copyFrom_158 : decode cX0_copyFrom 158 = .ok (.iconst 5, 1) := by decide +kernel
theorem dX0_copyFrom_159 : decode cX0_copyFrom 159 = .ok (.invokestatic 70, 3) := by decide +kernel
theorem dX0_copyFrom_162 : decode cX0_copyFrom 162 = .ok (.aload_n 1, 1) := by decide +kernel
theorem dX0_copyFrom_163 : decode cX0_copyFrom 163 = .ok (.getfield 49, 3) := by decide +kernel
theorem dX0_copyFrom_166 : decode cX0_copyFrom 166 = .ok (.iconst 0, 1) := by decide +kernel
theorem dX0_copyFrom_167 : decode cX0_copyFrom 167 = .ok (.aload_n 0, 1) := by decide +kernel
theorem dX0_copyFrom_168 : decode cX0_copyFrom 168 = .ok (.getfield 49, 3) := by decide +kernel
theorem dX0_copyFrom_171 : decode cX0_copyFrom 171 = .ok (.iconst 0, 1) := by decide +kernel
theorem dX0_copyFrom_172 : decode cX0_copyFrom 172 = .ok (.iconst 5, 1) := by decide +kernel
theorem dX0_copyFrom_173 : decode cX0_copyFrom 173 = .ok (.invokestatic 70, 3) := by decide +kernel
theorem dX0_copyFrom_176 : decode cX0_copyFrom 176 = .ok (.aload_n 0, 1) := by decide +kernel
theorem dX0_copyFrom_177 : decode cX0_copyFrom 177 = .ok (.aload_n 1, 1) := by decide +kernel
theorem dX0_copyFrom_178 : decode cX0_copyFrom 178 = .ok (.getfield 52, 3) := by decide +kernel
theorem dX0_copyFrom_181 : decode cX0_copyFrom 181 = .ok (.putfield 52, 3) := by decide +kernel
theorem dX0_copyFrom_184 : decode cX0_copyFrom 184 = .ok (.aload_n 0, 1) := by decide +kernel
theorem dX0_copyFrom_185 : decode cX0_copyFrom 185 = .ok (.aload_n 1, 1) := by decide +kernel
theorem dX0_copyFrom_186 : decode cX0_copyFrom 186 = .ok (.getfield 55, 3) := by decide +kernel
theorem dX0_copyFrom_189 : decode cX0_copyFrom 189 = .ok (.putfield 55, 3) := by decide +kernel
theorem dX0_copyFrom_192 : decode cX0_copyFrom 192 = .ok (.aload_n 0, 1) := by decide +kernel
theorem dX0_copyFrom_193 : decode cX0_copyFrom 193 = .ok (.invokevirtual 76, 3) := by decide +kernel
theorem dX0_copyFrom_196 : decode cX0_copyFrom 196 = .ok (.return_, 1) := by decide +kernel
theorem dX0_startTallies_0 : decode cX0_startTallies 0 = .ok (.iconst 0, 1) := by decide +kernel
theorem dX0_startTallies_1 : decode cX0_startTallies 1 = .ok (.istore_n 1, 1) := by decide +kernel
theorem dX0_startTallies_2 : decode cX0_startTallies 2 = .ok (.iload_n 1, 1) := by decide +kernel
theorem dX0_startTallies_3 : decode cX0_startTallies 3 = .ok (.iconst 5, 1) := by decide +kernel
theorem dX0_startTallies_4 : decode cX0_startTallies 4 = .ok (.if_icmp .ge 23, 3) := by decide +kernel
theorem dX0_startTallies_7 : decode cX0_startTallies 7 = .ok (.aload_n 0, 1) := by decide +kernel
theorem dX0_startTallies_8 : decode cX0_startTallies 8 = .ok (.getfield 58, 3) := by decide +kernel
theorem dX0_startTallies_11 : decode cX0_startTallies 11 = .ok (.iload_n 1, 1) := by decide +kernel
theorem dX0_startTallies_12 : decode cX0_startTallies 12 = .ok (.iconst 0, 1) := by decide +kernel
theorem dX0_startTallies_13 : decode cX0_startTallies 13 = .ok (.iastore, 1) := by decide +kernel
theorem dX0_startTallies_14 : decode cX0_startTallies 14 = .ok (.aload_n 0, 1) := by decide +kernel
theorem dX0_startTallies_15 : decode cX0_startTallies 15 = .ok (.getfield 61, 3) := by decide +kernel
theorem dX0_startTallies_18 : decode cX0_startTallies 18 = .ok (.iload_n 1, 1) := by decide +kernel
theorem dX0_startTallies_19 : decode cX0_startTallies 19 = .ok (.iconst 0, 1) := by decide +kernel
theorem dX0_startTallies_20 : decode cX0_startTallies 20 = .ok (.iastore, 1) := by decide +kernel
theorem dX0_startTallies_21 : decode cX0_startTallies 21 = .ok (.iinc 1 1, 3) := by decide +kernel
theorem dX0_startTallies_24 : decode cX0_startTallies 24 = .ok (.goto (-22), 3) := by decide +kernel
theorem dX0_startTallies_27 : decode cX0_startTallies 27 = .ok (.aload_n 0, 1) := by decide +kernel
theorem dX0_startTallies_28 : decode cX0_startTallies 28 = .ok (.iconst 0, 1) := by decide +kernel
theorem dX0_startTallies_29 : decode cX0_startTallies 29 = .ok (.putfield 64, 3) := by decide +kernel
theorem dX0_startTallies_32 : decode cX0_startTallies 32 = .ok (.aload_n 0, 1) := by decide +kernel
theorem dX0_startTallies_33 : decode cX0_startTallies 33 = .ok (.bipush (-9), 2) := by decide +kernel
theorem dX0_startTallies_35 : decode cX0_startTallies 35 = .ok (.putfield 67, 3) := by decide +kernel
theorem dX0_startTallies_38 : decode cX0_startTallies 38 = .ok (.return_, 1) := by decide +kernel
theorem dX0_hasBag_0 : decode cX0_hasBag 0 = .ok (.iload_n 1, 1) := by decide +kernel
theorem dX0_hasBag_1 : decode cX0_hasBag 1 = .ok (.ifCond .lt 15, 3) := by decide +kernel
theorem dX0_hasBag_4 : decode cX0_hasBag 4 = .ok (.iload_n 1, 1) := by decide +kernel
theorem dX0_hasBag_5 : decode cX0_hasBag 5 = .ok (.aload_n 0, 1) := by decide +kernel
theorem dX0_hasBag_6 : decode cX0_hasBag 6 = .ok (.getfield 9, 3) := by decide +kernel
theorem dX0_hasBag_9 : decode cX0_hasBag 9 = .ok (.if_icmp .ge 7, 3) := by decide +kernel
theorem dX0_hasBag_12 : decode cX0_hasBag 12 = .ok (.iconst 1, 1) := by decide +kernel
theorem dX0_hasBag_13 : decode cX0_hasBag 13 = .ok (.goto 4, 3) := by decide +kernel
theorem dX0_hasBag_16 : decode cX0_hasBag 16 = .ok (.iconst 0, 1) := by decide +kernel
theorem dX0_hasBag_17 : decode cX0_hasBag 17 = .ok (.ireturn, 1) := by decide +kernel
theorem dX0_hasBearer_0 : decode cX0_hasBearer 0 = .ok (.iload_n 1, 1) := by decide +kernel
theorem dX0_hasBearer_1 : decode cX0_hasBearer 1 = .ok (.ifCond .lt 15, 3) := by decide +kernel
theorem dX0_hasBearer_4 : decode cX0_hasBearer 4 = .ok (.iload_n 1, 1) := by decide +kernel
theorem dX0_hasBearer_5 : decode cX0_hasBearer 5 = .ok (.aload_n 0, 1) := by decide +kernel
theorem dX0_hasBearer_6 : decode cX0_hasBearer 6 = .ok (.getfield 34, 3) := by decide +kernel
theorem dX0_hasBearer_9 : decode cX0_hasBearer 9 = .ok (.if_icmp .ge 7, 3) := by decide +kernel
theorem dX0_hasBearer_12 : decode cX0_hasBearer 12 = .ok (.iconst 1, 1) := by decide +kernel
theorem dX0_hasBearer_13 : decode cX0_hasBearer 13 = .ok (.goto 4, 3) := by decide +kernel
theorem dX0_hasBearer_16 : decode cX0_hasBearer 16 = .ok (.iconst 0, 1) := by decide +kernel
theorem dX0_hasBearer_17 : decode cX0_hasBearer 17 = .ok (.ireturn, 1) := by decide +kernel
theorem dX0_addBag_0 : decode cX0_addBag 0 = .ok (.aload_n 0, 1) := by decide +kernel
theorem dX0_addBag_1 : decode cX0_addBag 1 = .ok (.getfield 9, 3) := by decide +kernel
theorem dX0_addBag_4 : decode cX0_addBag 4 = .ok (.bipush 6, 2) := by decide +kernel
theorem dX0_addBag_6 : decode cX0_addBag 6 = .ok (.if_icmp .lt 6, 3) := by decide +kernel
theorem dX0_addBag_9 : decode cX0_addBag 9 = .ok (.bipush (-9), 2) := by decide +kernel
theorem dX0_addBag_11 : decode cX0_addBag 11 = .ok (.ireturn, 1) := by decide +kernel
theorem dX0_addBag_12 : decode cX0_addBag 12 = .ok (.aload_n 0, 1) := by decide +kernel
theorem dX0_addBag_13 : decode cX0_addBag 13 = .ok (.getfield 15, 3) := by decide +kernel
theorem dX0_addBag_16 : decode cX0_addBag 16 = .ok (.aload_n 0, 1) := by decide +kernel
theorem dX0_addBag_17 : decode cX0_addBag 17 = .ok (.getfield 9, 3) := by decide +kernel
theorem dX0_addBag_20 : decode cX0_addBag 20 = .ok (.iload_n 1, 1) := by decide +kernel
theorem dX0_addBag_21 : decode cX0_addBag 21 = .ok (.iastore, 1) := by decide +kernel
theorem dX0_addBag_22 : decode cX0_addBag 22 = .ok (.aload_n 0, 1) := by decide +kernel
theorem dX0_addBag_23 : decode cX0_addBag 23 = .ok (.getfield 19, 3) := by decide +kernel
theorem dX0_addBag_26 : decode cX0_addBag 26 = .ok (.aload_n 0, 1) := by decide +kernel
theorem dX0_addBag_27 : decode cX0_addBag 27 = .ok (.getfield 9, 3) := by decide +kernel
theorem dX0_addBag_30 : decode cX0_addBag 30 = .ok (.iload_n 2, 1) := by decide +kernel
theorem dX0_addBag_31 : decode cX0_addBag 31 = .ok (.iastore, 1) := by decide +kernel
theorem dX0_addBag_32 : decode cX0_addBag 32 = .ok (.aload_n 0, 1) := by decide +kernel
theorem dX0_addBag_33 : decode cX0_addBag 33 = .ok (.getfield 22, 3) := by decide +kernel
theorem dX0_addBag_36 : decode cX0_addBag 36 = .ok (.aload_n 0, 1) := by decide +kernel
theorem dX0_addBag_37 : decode cX0_addBag 37 = .ok (.getfield 9, 3) := by decide +kernel
theorem dX0_addBag_40 : decode cX0_addBag 40 = .ok (.iload_n 3, 1) := by decide +kernel
theorem dX0_addBag_41 : decode cX0_addBag 41 = .ok (.iastore, 1) := by decide +kernel
theorem dX0_addBag_42 : decode cX0_addBag 42 = .ok (.aload_n 0, 1) := by decide +kernel
theorem dX0_addBag_43 : decode cX0_addBag 43 = .ok (.getfield 25, 3) := by decide +kernel
theorem dX0_addBag_46 : decode cX0_addBag 46 = .ok (.aload_n 0, 1) := by decide +kernel
theorem dX0_addBag_47 : decode cX0_addBag 47 = .ok (.getfield 9, 3) := by decide +kernel
theorem dX0_addBag_50 : decode cX0_addBag 50 = .ok (.bipush (-9), 2) := by decide +kernel
theorem dX0_addBag_52 : decode cX0_addBag 52 = .ok (.iastore, 1) := by decide +kernel
theorem dX0_addBag_53 : decode cX0_addBag 53 = .ok (.aload_n 0, 1) := by decide +kernel
theorem dX0_addBag_54 : decode cX0_addBag 54 = .ok (.getfield 28, 3) := by decide +kernel
theorem dX0_addBag_57 : decode cX0_addBag 57 = .ok (.aload_n 0, 1) := by decide +kernel
theorem dX0_addBag_58 : decode cX0_addBag 58 = .ok (.getfield 9, 3) := by decide +kernel
theorem dX0_addBag_61 : decode cX0_addBag 61 = .ok (.iconst 0, 1) := by decide +kernel
theorem dX0_addBag_62 : decode cX0_addBag 62 = .ok (.iastore, 1) := by decide +kernel
theorem dX0_addBag_63 : decode cX0_addBag 63 = .ok (.aload_n 0, 1) := by decide +kernel
theorem dX0_addBag_64 : decode cX0_addBag 64 = .ok (.getfield 31, 3) := by decide +kernel
theorem dX0_addBag_67 : decode cX0_addBag 67 = .ok (.aload_n 0, 1) := by decide +kernel
theorem dX0_addBag_68 : decode cX0_addBag 68 = .ok (.getfield 9, 3) := by decide +kernel
theorem dX0_addBag_71 : decode cX0_addBag 71 = .ok (.bipush (-9), 2) := by decide +kernel
theorem dX0_addBag_73 : decode cX0_addBag 73 = .ok (.iastore, 1) := by decide +kernel
theorem dX0_addBag_74 : decode cX0_addBag 74 = .ok (.aload_n 0, 1) := by decide +kernel
theorem dX0_addBag_75 : decode cX0_addBag 75 = .ok (.dup, 1) := by decide +kernel
theorem dX0_addBag_76 : decode cX0_addBag 76 = .ok (.getfield 9, 3) := by decide +kernel
theorem dX0_addBag_79 : decode cX0_addBag 79 = .ok (.iconst 1, 1) := by decide +kernel
theorem dX0_addBag_80 : decode cX0_addBag 80 = .ok (.iadd, 1) := by decide +kernel
theorem dX0_addBag_81 : decode cX0_addBag 81 = .ok (.putfield 9, 3) := by decide +kernel
theorem dX0_addBag_84 : decode cX0_addBag 84 = .ok (.aload_n 0, 1) := by decide +kernel
theorem dX0_addBag_85 : decode cX0_addBag 85 = .ok (.getfield 9, 3) := by decide +kernel
theorem dX0_addBag_88 : decode cX0_addBag 88 = .ok (.iconst 1, 1) := by decide +kernel
theorem dX0_addBag_89 : decode cX0_addBag 89 = .ok (.isub, 1) := by decide +kernel
theorem dX0_addBag_90 : decode cX0_addBag 90 = .ok (.ireturn, 1) := by decide +kernel
theorem dX0_addBearer_0 : decode cX0_addBearer 0 = .ok (.aload_n 0, 1) := by decide +kernel
theorem dX0_addBearer_1 : decode cX0_addBearer 1 = .ok (.getfield 34, 3) := by decide +kernel
theorem dX0_addBearer_4 : decode cX0_addBearer 4 = .ok (.iconst 5, 1) := by decide +kernel
theorem dX0_addBearer_5 : decode cX0_addBearer 5 = .ok (.if_icmp .lt 6, 3) := by decide +kernel
theorem dX0_addBearer_8 : decode cX0_addBearer 8 = .ok (.bipush (-9), 2) := by decide +kernel
theorem dX0_addBearer_10 : decode cX0_addBearer 10 = .ok (.ireturn, 1) := by decide +kernel
theorem dX0_addBearer_11 : decode cX0_addBearer 11 = .ok (.aload_n 0, 1) := by decide +kernel
theorem dX0_addBearer_12 : decode cX0_addBearer 12 = .ok (.getfield 37, 3) := by decide +kernel
theorem dX0_addBearer_15 : decode cX0_addBearer 15 = .ok (.aload_n 0, 1) := by decide +kernel
theorem dX0_addBearer_16 : decode cX0_addBearer 16 = .ok (.getfield 34, 3) := by decide +kernel
theorem dX0_addBearer_19 : decode cX0_addBearer 19 = .ok (.iload_n 1, 1) := by decide +kernel
theorem dX0_addBearer_20 : decode cX0_addBearer 20 = .ok (.iastore, 1) := by decide +kernel
theorem dX0_addBearer_21 : decode cX0_addBearer 21 = .ok (.aload_n 0, 1) := by decide +kernel
theorem dX0_addBearer_22 : decode cX0_addBearer 22 = .ok (.getfield 40, 3) := by decide +kernel
theorem dX0_addBearer_25 : decode cX0_addBearer 25 = .ok (.aload_n 0, 1) := by decide +kernel
theorem dX0_addBearer_26 : decode cX0_addBearer 26 = .ok (.getfield 34, 3) := by decide +kernel
theorem dX0_addBearer_29 : decode cX0_addBearer 29 = .ok (.iload_n 2, 1) := by decide +kernel
theorem dX0_addBearer_30 : decode cX0_addBearer 30 = .ok (.iastore, 1) := by decide +kernel
theorem dX0_addBearer_31 : decode cX0_addBearer 31 = .ok (.aload_n 0, 1) := by decide +kernel
theorem dX0_addBearer_32 : decode cX0_addBearer 32 = .ok (.getfield 43, 3) := by decide +kernel
theorem dX0_addBearer_35 : decode cX0_addBearer 35 = .ok (.aload_n 0, 1) := by decide +kernel
theorem dX0_addBearer_36 : decode cX0_addBearer 36 = .ok (.getfield 34, 3) := by decide +kernel
theorem dX0_addBearer_39 : decode cX0_addBearer 39 = .ok (.iload_n 3, 1) := by decide +kernel
theorem dX0_addBearer_40 : decode cX0_addBearer 40 = .ok (.iastore, 1) := by decide +kernel
theorem dX0_addBearer_41 : decode cX0_addBearer 41 = .ok (.aload_n 0, 1) := by decide +kernel
theorem dX0_addBearer_42 : decode cX0_addBearer 42 = .ok (.getfield 46, 3) := by decide +kernel
theorem dX0_addBearer_45 : decode cX0_addBearer 45 = .ok (.aload_n 0, 1) := by decide +kernel
theorem dX0_addBearer_46 : decode cX0_addBearer 46 = .ok (.getfield 34, 3) := by decide +kernel
theorem dX0_addBearer_49 : decode cX0_addBearer 49 = .ok (.bipush (-9), 2) := by decide +kernel
theorem dX0_addBearer_51 : decode cX0_addBearer 51 = .ok (.iastore, 1) := by decide +kernel
theorem dX0_addBearer_52 : decode cX0_addBearer 52 = .ok (.aload_n 0, 1) := by decide +kernel
theorem dX0_addBearer_53 : decode cX0_addBearer 53 = .ok (.getfield 49, 3) := by decide +kernel
theorem dX0_addBearer_56 : decode cX0_addBearer 56 = .ok (.aload_n 0, 1) := by decide +kernel
theorem dX0_addBearer_57 : decode cX0_addBearer 57 = .ok (.getfield 34, 3) := by decide +kernel
theorem dX0_addBearer_60 : decode cX0_addBearer 60 = .ok (.bipush 9, 2) := by decide +kernel
theorem dX0_addBearer_62 : decode cX0_addBearer 62 = .ok (.iastore, 1) := by decide +kernel
theorem dX0_addBearer_63 : decode cX0_addBearer 63 = .ok (.aload_n 0, 1) := by decide +kernel
theorem dX0_addBearer_64 : decode cX0_addBearer 64 = .ok (.dup, 1) := by decide +kernel
theorem dX0_addBearer_65 : decode cX0_addBearer 65 = .ok (.getfield 34, 3) := by decide +kernel
theorem dX0_addBearer_68 : decode cX0_addBearer 68 = .ok (.iconst 1, 1) := by decide +kernel
theorem dX0_addBearer_69 : decode cX0_addBearer 69 = .ok (.iadd, 1) := by decide +kernel
theorem dX0_addBearer_70 : decode cX0_addBearer 70 = .ok (.putfield 34, 3) := by decide +kernel
theorem dX0_addBearer_73 : decode cX0_addBearer 73 = .ok (.aload_n 0, 1) := by decide +kernel
theorem dX0_addBearer_74 : decode cX0_addBearer 74 = .ok (.getfield 34, 3) := by decide +kernel
theorem dX0_addBearer_77 : decode cX0_addBearer 77 = .ok (.iconst 1, 1) := by decide +kernel
theorem dX0_addBearer_78 : decode cX0_addBearer 78 = .ok (.isub, 1) := by decide +kernel
theorem dX0_addBearer_79 : decode cX0_addBearer 79 = .ok (.ireturn, 1) := by decide +kernel
theorem dX0_hand_0 : decode cX0_hand 0 = .ok (.aload_n 0, 1) := by decide +kernel
theorem dX0_hand_1 : decode cX0_hand 1 = .ok (.iload_n 1, 1) := by decide +kernel
theorem dX0_hand_2 : decode cX0_hand 2 = .ok (.invokevirtual 79, 3) := by decide +kernel
theorem dX0_hand_5 : decode cX0_hand 5 = .ok (.ifCond .eq 11, 3) := by decide +kernel
theorem dX0_hand_8 : decode cX0_hand 8 = .ok (.aload_n 0, 1) := by decide +kernel
theorem dX0_hand_9 : decode cX0_hand 9 = .ok (.iload_n 2, 1) := by decide +kernel
theorem dX0_hand_10 : decode cX0_hand 10 = .ok (.invokevirtual 83, 3) := by decide +kernel
theorem dX0_hand_13 : decode cX0_hand 13 = .ok (.ifCond .ne 5, 3) := by decide +kernel
theorem dX0_hand_16 : decode cX0_hand 16 = .ok (.iconst 0, 1) := by decide +kernel
theorem dX0_hand_17 : decode cX0_hand 17 = .ok (.ireturn, 1) := by decide +kernel
theorem dX0_hand_18 : decode cX0_hand 18 = .ok (.aload_n 0, 1) := by decide +kernel
theorem dX0_hand_19 : decode cX0_hand 19 = .ok (.aload_n 0, 1) := by decide +kernel
theorem dX0_hand_20 : decode cX0_hand 20 = .ok (.getfield 31, 3) := by decide +kernel
theorem dX0_hand_23 : decode cX0_hand 23 = .ok (.iload_n 1, 1) := by decide +kernel
theorem dX0_hand_24 : decode cX0_hand 24 = .ok (.iaload, 1) := by decide +kernel
theorem dX0_hand_25 : decode cX0_hand 25 = .ok (.invokevirtual 83, 3) := by decide +kernel
theorem dX0_hand_28 : decode cX0_hand 28 = .ok (.ifCond .eq 16, 3) := by decide +kernel
theorem dX0_hand_31 : decode cX0_hand 31 = .ok (.aload_n 0, 1) := by decide +kernel
theorem dX0_hand_32 : decode cX0_hand 32 = .ok (.getfield 46, 3) := by decide +kernel
theorem dX0_hand_35 : decode cX0_hand 35 = .ok (.aload_n 0, 1) := by decide +kernel
theorem dX0_hand_36 : decode cX0_hand 36 = .ok (.getfield 31, 3) := by decide +kernel
theorem dX0_hand_39 : decode cX0_hand 39 = .ok (.iload_n 1, 1) := by decide +kernel
theorem dX0_hand_40 : decode cX0_hand 40 = .ok (.iaload, 1) := by decide +kernel
theorem dX0_hand_41 : decode cX0_hand 41 = .ok (.bipush (-9), 2) := by decide +kernel
theorem dX0_hand_43 : decode cX0_hand 43 = .ok (.iastore, 1) := by decide +kernel
theorem dX0_hand_44 : decode cX0_hand 44 = .ok (.aload_n 0, 1) := by decide +kernel
theorem dX0_hand_45 : decode cX0_hand 45 = .ok (.aload_n 0, 1) := by decide +kernel
theorem dX0_hand_46 : decode cX0_hand 46 = .ok (.getfield 46, 3) := by decide +kernel
theorem dX0_hand_49 : decode cX0_hand 49 = .ok (.iload_n 2, 1) := by decide +kernel
theorem dX0_hand_50 : decode cX0_hand 50 = .ok (.iaload, 1) := by decide +kernel
theorem dX0_hand_51 : decode cX0_hand 51 = .ok (.invokevirtual 79, 3) := by decide +kernel
theorem dX0_hand_54 : decode cX0_hand 54 = .ok (.ifCond .eq 16, 3) := by decide +kernel
theorem dX0_hand_57 : decode cX0_hand 57 = .ok (.aload_n 0, 1) := by decide +kernel
theorem dX0_hand_58 : decode cX0_hand 58 = .ok (.getfield 31, 3) := by decide +kernel
theorem dX0_hand_61 : decode cX0_hand 61 = .ok (.aload_n 0, 1) := by decide +kernel
theorem dX0_hand_62 : decode cX0_hand 62 = .ok (.getfield 46, 3) := by decide +kernel
theorem dX0_hand_65 : decode cX0_hand 65 = .ok (.iload_n 2, 1) := by decide +kernel
theorem dX0_hand_66 : decode cX0_hand 66 = .ok (.iaload, 1) := by decide +kernel
theorem dX0_hand_67 : decode cX0_hand 67 = .ok (.bipush (-9), 2) := by decide +kernel
theorem dX0_hand_69 : decode cX0_hand 69 = .ok (.iastore, 1) := by decide +kernel
theorem dX0_hand_70 : decode cX0_hand 70 = .ok (.aload_n 0, 1) := by decide +kernel
theorem dX0_hand_71 : decode cX0_hand 71 = .ok (.getfield 46, 3) := by decide +kernel
theorem dX0_hand_74 : decode cX0_hand 74 = .ok (.iload_n 2, 1) := by decide +kernel
theorem dX0_hand_75 : decode cX0_hand 75 = .ok (.iload_n 1, 1) := by decide +kernel
theorem dX0_hand_76 : decode cX0_hand 76 = .ok (.iastore, 1) := by decide +kernel
theorem dX0_hand_77 : decode cX0_hand 77 = .ok (.aload_n 0, 1) := by decide +kernel
theorem dX0_hand_78 : decode cX0_hand 78 = .ok (.getfield 31, 3) := by decide +kernel
theorem dX0_hand_81 : decode cX0_hand 81 = .ok (.iload_n 1, 1) := by decide +kernel
theorem dX0_hand_82 : decode cX0_hand 82 = .ok (.iload_n 2, 1) := by decide +kernel
theorem dX0_hand_83 : decode cX0_hand 83 = .ok (.iastore, 1) := by decide +kernel
theorem dX0_hand_84 : decode cX0_hand 84 = .ok (.aload_n 0, 1) := by decide +kernel
theorem dX0_hand_85 : decode cX0_hand 85 = .ok (.getfield 28, 3) := by decide +kernel
theorem dX0_hand_88 : decode cX0_hand 88 = .ok (.iload_n 1, 1) := by decide +kernel
theorem dX0_hand_89 : decode cX0_hand 89 = .ok (.iconst 0, 1) := by decide +kernel
theorem dX0_hand_90 : decode cX0_hand 90 = .ok (.iastore, 1) := by decide +kernel
theorem dX0_hand_91 : decode cX0_hand 91 = .ok (.iconst 1, 1) := by decide +kernel
theorem dX0_hand_92 : decode cX0_hand 92 = .ok (.ireturn, 1) := by decide +kernel
theorem dX0_befriend_0 : decode cX0_befriend 0 = .ok (.aload_n 0, 1) := by decide +kernel
theorem dX0_befriend_1 : decode cX0_befriend 1 = .ok (.iload_n 1, 1) := by decide +kernel
theorem dX0_befriend_2 : decode cX0_befriend 2 = .ok (.invokevirtual 79, 3) := by decide +kernel
theorem dX0_befriend_5 : decode cX0_befriend 5 = .ok (.ifCond .eq 11, 3) := by decide +kernel
theorem dX0_befriend_8 : decode cX0_befriend 8 = .ok (.aload_n 0, 1) := by decide +kernel
theorem dX0_befriend_9 : decode cX0_befriend 9 = .ok (.iload_n 2, 1) := by decide +kernel
theorem dX0_befriend_10 : decode cX0_befriend 10 = .ok (.invokevirtual 79, 3) := by decide +kernel
theorem dX0_befriend_13 : decode cX0_befriend 13 = .ok (.ifCond .ne 5, 3) := by decide +kernel
theorem dX0_befriend_16 : decode cX0_befriend 16 = .ok (.iconst 0, 1) := by decide +kernel
theorem dX0_befriend_17 : decode cX0_befriend 17 = .ok (.ireturn, 1) := by decide +kernel
theorem dX0_befriend_18 : decode cX0_befriend 18 = .ok (.aload_n 0, 1) := by decide +kernel
theorem dX0_befriend_19 : decode cX0_befriend 19 = .ok (.iload_n 1, 1) := by decide +kernel
theorem dX0_befriend_20 : decode cX0_befriend 20 = .ok (.invokevirtual 86, 3) := by decide +kernel
theorem dX0_befriend_23 : decode cX0_befriend 23 = .ok (.aload_n 0, 1) := by decide +kernel
theorem dX0_befriend_24 : decode cX0_befriend 24 = .ok (.iload_n 2, 1) := by decide +kernel
theorem dX0_befriend_25 : decode cX0_befriend 25 = .ok (.invokevirtual 86, 3) := by decide +kernel
theorem dX0_befriend_28 : decode cX0_befriend 28 = .ok (.iload_n 1, 1) := by decide +kernel
theorem dX0_befriend_29 : decode cX0_befriend 29 = .ok (.iload_n 2, 1) := by decide +kernel
theorem dX0_befriend_30 : decode cX0_befriend 30 = .ok (.if_icmp .eq 17, 3) := by decide +kernel
theorem dX0_befriend_33 : decode cX0_befriend 33 = .ok (.aload_n 0, 1) := by decide +kernel
theorem dX0_befriend_34 : decode cX0_befriend 34 = .ok (.getfield 25, 3) := by decide +kernel
theorem dX0_befriend_37 : decode cX0_befriend 37 = .ok (.iload_n 1, 1) := by decide +kernel
theorem dX0_befriend_38 : decode cX0_befriend 38 = .ok (.iload_n 2, 1) := by decide +kernel
theorem dX0_befriend_39 : decode cX0_befriend 39 = .ok (.iastore, 1) := by decide +kernel
theorem dX0_befriend_40 : decode cX0_befriend 40 = .ok (.aload_n 0, 1) := by decide +kernel
theorem dX0_befriend_41 : decode cX0_befriend 41 = .ok (.getfield 25, 3) := by decide +kernel
theorem dX0_befriend_44 : decode cX0_befriend 44 = .ok (.iload_n 2, 1) := by decide +kernel
theorem dX0_befriend_45 : decode cX0_befriend 45 = .ok (.iload_n 1, 1) := by decide +kernel
theorem dX0_befriend_46 : decode cX0_befriend 46 = .ok (.iastore, 1) := by decide +kernel
theorem dX0_befriend_47 : decode cX0_befriend 47 = .ok (.iconst 1, 1) := by decide +kernel
theorem dX0_befriend_48 : decode cX0_befriend 48 = .ok (.ireturn, 1) := by decide +kernel
theorem dX0_unfriend_0 : decode cX0_unfriend 0 = .ok (.aload_n 0, 1) := by decide +kernel
theorem dX0_unfriend_1 : decode cX0_unfriend 1 = .ok (.aload_n 0, 1) := by decide +kernel
theorem dX0_unfriend_2 : decode cX0_unfriend 2 = .ok (.getfield 25, 3) := by decide +kernel
theorem dX0_unfriend_5 : decode cX0_unfriend 5 = .ok (.iload_n 1, 1) := by decide +kernel
theorem dX0_unfriend_6 : decode cX0_unfriend 6 = .ok (.iaload, 1) := by decide +kernel
theorem dX0_unfriend_7 : decode cX0_unfriend 7 = .ok (.invokevirtual 79, 3) := by decide +kernel
theorem dX0_unfriend_10 : decode cX0_unfriend 10 = .ok (.ifCond .eq 16, 3) := by decide +kernel
theorem dX0_unfriend_13 : decode cX0_unfriend 13 = .ok (.aload_n 0, 1) := by decide +kernel
theorem dX0_unfriend_14 : decode cX0_unfriend 14 = .ok (.getfield 25, 3) := by decide +kernel
theorem dX0_unfriend_17 : decode cX0_unfriend 17 = .ok (.aload_n 0, 1) := by decide +kernel
theorem dX0_unfriend_18 : decode cX0_unfriend 18 = .ok (.getfield 25, 3) := by decide +kernel
theorem dX0_unfriend_21 : decode cX0_unfriend 21 = .ok (.iload_n 1, 1) := by decide +kernel
theorem dX0_unfriend_22 : decode cX0_unfriend 22 = .ok (.iaload, 1) := by decide +kernel
theorem dX0_unfriend_23 : decode cX0_unfriend 23 = .ok (.bipush (-9), 2) := by decide +kernel
theorem dX0_unfriend_25 : decode cX0_unfriend 25 = .ok (.iastore, 1) := by decide +kernel
theorem dX0_unfriend_26 : decode cX0_unfriend 26 = .ok (.aload_n 0, 1) := by decide +kernel
theorem dX0_unfriend_27 : decode cX0_unfriend 27 = .ok (.getfield 25, 3) := by decide +kernel
theorem dX0_unfriend_30 : decode cX0_unfriend 30 = .ok (.iload_n 1, 1) := by decide +kernel
theorem dX0_unfriend_31 : decode cX0_unfriend 31 = .ok (.bipush (-9), 2) := by decide +kernel
theorem dX0_unfriend_33 : decode cX0_unfriend 33 = .ok (.iastore, 1) := by decide +kernel
theorem dX0_unfriend_34 : decode cX0_unfriend 34 = .ok (.return_, 1) := by decide +kernel
theorem dX0_changeBags_0 : decode cX0_changeBags 0 = .ok (.aload_n 0, 1) := by decide +kernel
theorem dX0_changeBags_1 : decode cX0_changeBags 1 = .ok (.getfield 46, 3) := by decide +kernel
theorem dX0_changeBags_4 : decode cX0_changeBags 4 = .ok (.iload_n 1, 1) := by decide +kernel
theorem dX0_changeBags_5 : decode cX0_changeBags 5 = .ok (.iaload, 1) := by decide +kernel
theorem dX0_changeBags_6 : decode cX0_changeBags 6 = .ok (.istore_n 3, 1) := by decide +kernel
theorem dX0_changeBags_7 : decode cX0_changeBags 7 = .ok (.aload_n 0, 1) := by decide +kernel
theorem dX0_changeBags_8 : decode cX0_changeBags 8 = .ok (.getfield 46, 3) := by decide +kernel
theorem dX0_changeBags_11 : decode cX0_changeBags 11 = .ok (.iload_n 1, 1) := by decide +kernel
theorem dX0_changeBags_12 : decode cX0_changeBags 12 = .ok (.aload_n 0, 1) := by decide +kernel
theorem dX0_changeBags_13 : decode cX0_changeBags 13 = .ok (.getfield 46, 3) := by decide +kernel
theorem dX0_changeBags_16 : decode cX0_changeBags 16 = .ok (.iload_n 2, 1) := by decide +kernel
theorem dX0_changeBags_17 : decode cX0_changeBags 17 = .ok (.iaload, 1) := by decide +kernel
theorem dX0_changeBags_18 : decode cX0_changeBags 18 = .ok (.iastore, 1) := by decide +kernel
theorem dX0_changeBags_19 : decode cX0_changeBags 19 = .ok (.aload_n 0, 1) := by decide +kernel
theorem dX0_changeBags_20 : decode cX0_changeBags 20 = .ok (.getfield 46, 3) := by decide +kernel
theorem dX0_changeBags_23 : decode cX0_changeBags 23 = .ok (.iload_n 2, 1) := by decide +kernel
theorem dX0_changeBags_24 : decode cX0_changeBags 24 = .ok (.iload_n 3, 1) := by decide +kernel
theorem dX0_changeBags_25 : decode cX0_changeBags 25 = .ok (.iastore, 1) := by decide +kernel
theorem dX0_changeBags_26 : decode cX0_changeBags 26 = .ok (.aload_n 0, 1) := by decide +kernel
theorem dX0_changeBags_27 : decode cX0_changeBags 27 = .ok (.iload_n 1, 1) := by decide +kernel
theorem dX0_changeBags_28 : decode cX0_changeBags 28 = .ok (.invokevirtual 90, 3) := by decide +kernel
theorem dX0_changeBags_31 : decode cX0_changeBags 31 = .ok (.aload_n 0, 1) := by decide +kernel
theorem dX0_changeBags_32 : decode cX0_changeBags 32 = .ok (.iload_n 2, 1) := by decide +kernel
theorem dX0_changeBags_33 : decode cX0_changeBags 33 = .ok (.invokevirtual 90, 3) := by decide +kernel
theorem dX0_changeBags_36 : decode cX0_changeBags 36 = .ok (.return_, 1) := by decide +kernel
theorem dX0_startKeeping_0 : decode cX0_startKeeping 0 = .ok (.aload_n 0, 1) := by decide +kernel
theorem dX0_startKeeping_1 : decode cX0_startKeeping 1 = .ok (.getfield 46, 3) := by decide +kernel
theorem dX0_startKeeping_4 : decode cX0_startKeeping 4 = .ok (.iload_n 1, 1) := by decide +kernel
theorem dX0_startKeeping_5 : decode cX0_startKeeping 5 = .ok (.iaload, 1) := by decide +kernel
theorem dX0_startKeeping_6 : decode cX0_startKeeping 6 = .ok (.istore_n 2, 1) := by decide +kernel
theorem dX0_startKeeping_7 : decode cX0_startKeeping 7 = .ok (.aload_n 0, 1) := by decide +kernel
theorem dX0_startKeeping_8 : decode cX0_startKeeping 8 = .ok (.iload_n 2, 1) := by decide +kernel
theorem dX0_startKeeping_9 : decode cX0_startKeeping 9 = .ok (.invokevirtual 79, 3) := by decide +kernel
theorem dX0_startKeeping_12 : decode cX0_startKeeping 12 = .ok (.ifCond .eq 17, 3) := by decide +kernel
theorem dX0_startKeeping_15 : decode cX0_startKeeping 15 = .ok (.aload_n 0, 1) := by decide +kernel
theorem dX0_startKeeping_16 : decode cX0_startKeeping 16 = .ok (.getfield 31, 3) := by decide +kernel
theorem dX0_startKeeping_19 : decode cX0_startKeeping 19 = .ok (.iload_n 2, 1) := by decide +kernel
theorem dX0_startKeeping_20 : decode cX0_startKeeping 20 = .ok (.iload_n 1, 1) := by decide +kernel
theorem dX0_startKeeping_21 : decode cX0_startKeeping 21 = .ok (.iastore, 1) := by decide +kernel
theorem dX0_startKeeping_22 : decode cX0_startKeeping 22 = .ok (.aload_n 0, 1) := by decide +kernel
theorem dX0_startKeeping_23 : decode cX0_startKeeping 23 = .ok (.getfield 28, 3) := by decide +kernel
theorem dX0_startKeeping_26 : decode cX0_startKeeping 26 = .ok (.iload_n 2, 1) := by decide +kernel
theorem dX0_startKeeping_27 : decode cX0_startKeeping 27 = .ok (.iconst 0, 1) := by decide +kernel
theorem dX0_startKeeping_28 : decode cX0_startKeeping 28 = .ok (.iastore, 1) := by decide +kernel
theorem dX0_startKeeping_29 : decode cX0_startKeeping 29 = .ok (.return_, 1) := by decide +kernel
theorem dX0_takeAllBags_0 : decode cX0_takeAllBags 0 = .ok (.iconst 0, 1) := by decide +kernel
theorem dX0_takeAllBags_1 : decode cX0_takeAllBags 1 = .ok (.istore_n 1, 1) := by decide +kernel
theorem dX0_takeAllBags_2 : decode cX0_takeAllBags 2 = .ok (.iload_n 1, 1) := by decide +kernel
theorem dX0_takeAllBags_3 : decode cX0_takeAllBags 3 = .ok (.aload_n 0, 1) := by decide +kernel
theorem dX0_takeAllBags_4 : decode cX0_takeAllBags 4 = .ok (.getfield 34, 3) := by decide +kernel
theorem dX0_takeAllBags_7 : decode cX0_takeAllBags 7 = .ok (.if_icmp .ge 17, 3) := by decide +kernel
theorem dX0_takeAllBags_10 : decode cX0_takeAllBags 10 = .ok (.aload_n 0, 1) := by decide +kernel
theorem dX0_takeAllBags_11 : decode cX0_takeAllBags 11 = .ok (.getfield 46, 3) := by decide +kernel
theorem dX0_takeAllBags_14 : decode cX0_takeAllBags 14 = .ok (.iload_n 1, 1) := by decide +kernel
theorem dX0_takeAllBags_15 : decode cX0_takeAllBags 15 = .ok (.bipush (-9), 2) := by decide +kernel
theorem dX0_takeAllBags_17 : decode cX0_takeAllBags 17 = .ok (.iastore, 1) := by decide +kernel
theorem dX0_takeAllBags_18 : decode cX0_takeAllBags 18 = .ok (.iinc 1 1, 3) := by decide +kernel
theorem dX0_takeAllBags_21 : decode cX0_takeAllBags 21 = .ok (.goto (-19), 3) := by decide +kernel
theorem dX0_takeAllBags_24 : decode cX0_takeAllBags 24 = .ok (.iconst 0, 1) := by decide +kernel
theorem dX0_takeAllBags_25 : decode cX0_takeAllBags 25 = .ok (.istore_n 1, 1) := by decide +kernel
theorem dX0_takeAllBags_26 : decode cX0_takeAllBags 26 = .ok (.iload_n 1, 1) := by decide +kernel
theorem dX0_takeAllBags_27 : decode cX0_takeAllBags 27 = .ok (.aload_n 0, 1) := by decide +kernel
theorem dX0_takeAllBags_28 : decode cX0_takeAllBags 28 = .ok (.getfield 9, 3) := by decide +kernel
theorem dX0_takeAllBags_31 : decode cX0_takeAllBags 31 = .ok (.if_icmp .ge 24, 3) := by decide +kernel
theorem dX0_takeAllBags_34 : decode cX0_takeAllBags 34 = .ok (.aload_n 0, 1) := by decide +kernel
theorem dX0_takeAllBags_35 : decode cX0_takeAllBags 35 = .ok (.getfield 31, 3) := by decide +kernel
theorem dX0_takeAllBags_38 : decode cX0_takeAllBags 38 = .ok (.iload_n 1, 1) := by decide +kernel
theorem dX0_takeAllBags_39 : decode cX0_takeAllBags 39 = .ok (.bipush (-9), 2) := by decide +kernel
theorem dX0_takeAllBags_41 : decode cX0_takeAllBags 41 = .ok (.iastore, 1) := by decide +kernel
theorem dX0_takeAllBags_42 : decode cX0_takeAllBags 42 = .ok (.aload_n 0, 1) := by decide +kernel
theorem dX0_takeAllBags_43 : decode cX0_takeAllBags 43 = .ok (.getfield 28, 3) := by decide +kernel
theorem dX0_takeAllBags_46 : decode cX0_takeAllBags 46 = .ok (.iload_n 1, 1) := by decide +kernel
theorem dX0_takeAllBags_47 : decode cX0_takeAllBags 47 = .ok (.iconst 0, 1) := by decide +kernel
theorem dX0_takeAllBags_48 : decode cX0_takeAllBags 48 = .ok (.iastore, 1) := by decide +kernel
theorem dX0_takeAllBags_49 : decode cX0_takeAllBags 49 = .ok (.iinc 1 1, 3) := by decide +kernel
theorem dX0_takeAllBags_52 : decode cX0_takeAllBags 52 = .ok (.goto (-26), 3) := by decide +kernel
theorem dX0_takeAllBags_55 : decode cX0_takeAllBags 55 = .ok (.return_, 1) := by decide +kernel
theorem dX0_pullOf_0 : decode cX0_pullOf 0 = .ok (.aload_n 0, 1) := by decide +kernel
theorem dX0_pullOf_1 : decode cX0_pullOf 1 = .ok (.iload_n 1, 1) := by decide +kernel
theorem dX0_pullOf_2 : decode cX0_pullOf 2 = .ok (.invokevirtual 79, 3) := by decide +kernel
theorem dX0_pullOf_5 : decode cX0_pullOf 5 = .ok (.ifCond .eq 30, 3) := by decide +kernel
theorem dX0_pullOf_8 : decode cX0_pullOf 8 = .ok (.aload_n 0, 1) := by decide +kernel
theorem dX0_pullOf_9 : decode cX0_pullOf 9 = .ok (.iload_n 1, 1) := by decide +kernel
theorem dX0_pullOf_10 : decode cX0_pullOf 10 = .ok (.aload_n 0, 1) := by decide +kernel
theorem dX0_pullOf_11 : decode cX0_pullOf 11 = .ok (.getfield 28, 3) := by decide +kernel
theorem dX0_pullOf_14 : decode cX0_pullOf 14 = .ok (.iload_n 1, 1) := by decide +kernel
theorem dX0_pullOf_15 : decode cX0_pullOf 15 = .ok (.iaload, 1) := by decide +kernel
theorem dX0_pullOf_16 : decode cX0_pullOf 16 = .ok (.aload_n 0, 1) := by decide +kernel
theorem dX0_pullOf_17 : decode cX0_pullOf 17 = .ok (.iload_n 1, 1) := by decide +kernel
theorem dX0_pullOf_18 : decode cX0_pullOf 18 = .ok (.invokevirtual 93, 3) := by decide +kernel
theorem dX0_pullOf_21 : decode cX0_pullOf 21 = .ok (.ifCond .lt 7, 3) := by decide +kernel
theorem dX0_pullOf_24 : decode cX0_pullOf 24 = .ok (.iconst 1, 1) := by decide +kernel
theorem dX0_pullOf_25 : decode cX0_pullOf 25 = .ok (.goto 4, 3) := by decide +kernel
theorem dX0_pullOf_28 : decode cX0_pullOf 28 = .ok (.iconst 0, 1) := by decide +kernel
theorem dX0_pullOf_29 : decode cX0_pullOf 29 = .ok (.invokevirtual 97, 3) := by decide +kernel
theorem dX0_pullOf_32 : decode cX0_pullOf 32 = .ok (.goto 5, 3) := by decide +kernel
theorem dX0_pullOf_35 : decode cX0_pullOf 35 = .ok (.bipush (-9), 2) := by decide +kernel
theorem dX0_pullOf_37 : decode cX0_pullOf 37 = .ok (.ireturn, 1) := by decide +kernel
theorem dX0_plainPullOf_0 : decode cX0_plainPullOf 0 = .ok (.aload_n 0, 1) := by decide +kernel
theorem dX0_plainPullOf_1 : decode cX0_plainPullOf 1 = .ok (.iload_n 1, 1) := by decide +kernel
theorem dX0_plainPullOf_2 : decode cX0_plainPullOf 2 = .ok (.invokevirtual 79, 3) := by decide +kernel
theorem dX0_plainPullOf_5 : decode cX0_plainPullOf 5 = .ok (.ifCond .eq 13, 3) := by decide +kernel
theorem dX0_plainPullOf_8 : decode cX0_plainPullOf 8 = .ok (.aload_n 0, 1) := by decide +kernel
theorem dX0_plainPullOf_9 : decode cX0_plainPullOf 9 = .ok (.iload_n 1, 1) := by decide +kernel
theorem dX0_plainPullOf_10 : decode cX0_plainPullOf 10 = .ok (.iconst 0, 1) := by decide +kernel
theorem dX0_plainPullOf_11 : decode cX0_plainPullOf 11 = .ok (.iconst 0, 1) := by decide +kernel
theorem dX0_plainPullOf_12 : decode cX0_plainPullOf 12 = .ok (.invokevirtual 97, 3) := by decide +kernel
theorem dX0_plainPullOf_15 : decode cX0_plainPullOf 15 = .ok (.goto 5, 3) := by decide +kernel
theorem dX0_plainPullOf_18 : decode cX0_plainPullOf 18 = .ok (.bipush (-9), 2) := by decide +kernel
theorem dX0_plainPullOf_20 : decode cX0_plainPullOf 20 = .ok (.ireturn, 1) := by decide +kernel
theorem dX0_pullBy_0 : decode cX0_pullBy 0 = .ok (.aload_n 0, 1) := by decide +kernel
theorem dX0_pullBy_1 : decode cX0_pullBy 1 = .ok (.getfield 15, 3) := by decide +kernel
theorem dX0_pullBy_4 : decode cX0_pullBy 4 = .ok (.iload_n 1, 1) := by decide +kernel
theorem dX0_pullBy_5 : decode cX0_pullBy 5 = .ok (.iaload, 1) := by decide +kernel
theorem dX0_pullBy_6 : decode cX0_pullBy 6 = .ok (.tableswitch 94 1 5 #[34, 43, 52, 61, 83], 34) := by decide +kernel
theorem dX0_pullBy_40 : decode cX0_pullBy 40 = .ok (.aload_n 0, 1) := by decide +kernel
theorem dX0_pullBy_41 : decode cX0_pullBy 41 = .ok (.getfield 19, 3) := by decide +kernel
theorem dX0_pullBy_44 : decode cX0_pullBy 44 = .ok (.iload_n 1, 1) := by decide +kernel
theorem dX0_pullBy_45 : decode cX0_pullBy 45 = .ok (.iaload, 1) := by decide +kernel
theorem dX0_pullBy_46 : decode cX0_pullBy 46 = .ok (.iload_n 2, 1) := by decide +kernel
theorem dX0_pullBy_47 : decode cX0_pullBy 47 = .ok (.iadd, 1) := by decide +kernel
theorem dX0_pullBy_48 : decode cX0_pullBy 48 = .ok (.ireturn, 1) := by decide +kernel
theorem dX0_pullBy_49 : decode cX0_pullBy 49 = .ok (.aload_n 0, 1) := by decide +kernel
theorem dX0_pullBy_50 : decode cX0_pullBy 50 = .ok (.getfield 19, 3) := by decide +kernel
theorem dX0_pullBy_53 : decode cX0_pullBy 53 = .ok (.iload_n 1, 1) := by decide +kernel
theorem dX0_pullBy_54 : decode cX0_pullBy 54 = .ok (.iaload, 1) := by decide +kernel
theorem dX0_pullBy_55 : decode cX0_pullBy 55 = .ok (.iconst 4, 1) := by decide +kernel
theorem dX0_pullBy_56 : decode cX0_pullBy 56 = .ok (.iadd, 1) := by decide +kernel
theorem dX0_pullBy_57 : decode cX0_pullBy 57 = .ok (.ireturn, 1) := by decide +kernel
theorem dX0_pullBy_58 : decode cX0_pullBy 58 = .ok (.aload_n 0, 1) := by decide +kernel
theorem dX0_pullBy_59 : decode cX0_pullBy 59 = .ok (.getfield 19, 3) := by decide +kernel
theorem dX0_pullBy_62 : decode cX0_pullBy 62 = .ok (.iload_n 1, 1) := by decide +kernel
theorem dX0_pullBy_63 : decode cX0_pullBy 63 = .ok (.iaload, 1) := by decide +kernel
theorem dX0_pullBy_64 : decode cX0_pullBy 64 = .ok (.iconst 2, 1) := by decide +kernel
theorem dX0_pullBy_65 : decode cX0_pullBy 65 = .ok (.idiv, 1) := by decide +kernel
theorem dX0_pullBy_66 : decode cX0_pullBy 66 = .ok (.ireturn, 1) := by decide +kernel
theorem dX0_pullBy_67 : decode cX0_pullBy 67 = .ok (.iload_n 3, 1) := by decide +kernel
theorem dX0_pullBy_68 : decode cX0_pullBy 68 = .ok (.ifCond .eq 14, 3) := by decide +kernel
theorem dX0_pullBy_71 : decode cX0_pullBy 71 = .ok (.aload_n 0, 1) := by decide +kernel
theorem dX0_pullBy_72 : decode cX0_pullBy 72 = .ok (.getfield 19, 3) := by decide +kernel
theorem dX0_pullBy_75 : decode cX0_pullBy 75 = .ok (.iload_n 1, 1) := by decide +kernel
theorem dX0_pullBy_76 : decode cX0_pullBy 76 = .ok (.iaload, 1) := by decide +kernel
theorem dX0_pullBy_77 : decode cX0_pullBy 77 = .ok (.iconst 2, 1) := by decide +kernel
theorem dX0_pullBy_78 : decode cX0_pullBy 78 = .ok (.iadd, 1) := by decide +kernel
theorem dX0_pullBy_79 : decode cX0_pullBy 79 = .ok (.goto 9, 3) := by decide +kernel
theorem dX0_pullBy_82 : decode cX0_pullBy 82 = .ok (.aload_n 0, 1) := by decide +kernel
theorem dX0_pullBy_83 : decode cX0_pullBy 83 = .ok (.getfield 19, 3) := by decide +kernel
theorem dX0_pullBy_86 : decode cX0_pullBy 86 = .ok (.iload_n 1, 1) := by decide +kernel
theorem dX0_pullBy_87 : decode cX0_pullBy 87 = .ok (.iaload, 1) := by decide +kernel
theorem dX0_pullBy_88 : decode cX0_pullBy 88 = .ok (.ireturn, 1) := by decide +kernel
theorem dX0_pullBy_89 : decode cX0_pullBy 89 = .ok (.iconst 2, 1) := by decide +kernel
theorem dX0_pullBy_90 : decode cX0_pullBy 90 = .ok (.aload_n 0, 1) := by decide +kernel
theorem dX0_pullBy_91 : decode cX0_pullBy 91 = .ok (.getfield 19, 3) := by decide +kernel
theorem dX0_pullBy_94 : decode cX0_pullBy 94 = .ok (.iload_n 1, 1) := by decide +kernel
theorem dX0_pullBy_95 : decode cX0_pullBy 95 = .ok (.iaload, 1) := by decide +kernel
theorem dX0_pullBy_96 : decode cX0_pullBy 96 = .ok (.iload_n 2, 1) := by decide +kernel
theorem dX0_pullBy_97 : decode cX0_pullBy 97 = .ok (.iadd, 1) := by decide +kernel
theorem dX0_pullBy_98 : decode cX0_pullBy 98 = .ok (.imul, 1) := by decide +kernel
theorem dX0_pullBy_99 : decode cX0_pullBy 99 = .ok (.ireturn, 1) := by decide +kernel
theorem dX0_pullBy_100 : decode cX0_pullBy 100 = .ok (.aload_n 0, 1) := by decide +kernel
theorem dX0_pullBy_101 : decode cX0_pullBy 101 = .ok (.getfield 19, 3) := by decide +kernel
theorem dX0_pullBy_104 : decode cX0_pullBy 104 = .ok (.iload_n 1, 1) := by decide +kernel
theorem dX0_pullBy_105 : decode cX0_pullBy 105 = .ok (.iaload, 1) := by decide +kernel
theorem dX0_pullBy_106 : decode cX0_pullBy 106 = .ok (.ireturn, 1) := by decide +kernel
theorem dX0_keeperOfFriend_0 : decode cX0_keeperOfFriend 0 = .ok (.aload_n 0, 1) := by decide +kernel
theorem dX0_keeperOfFriend_1 : decode cX0_keeperOfFriend 1 = .ok (.getfield 25, 3) := by decide +kernel
theorem dX0_keeperOfFriend_4 : decode cX0_keeperOfFriend 4 = .ok (.iload_n 1, 1) := by decide +kernel
theorem dX0_keeperOfFriend_5 : decode cX0_keeperOfFriend 5 = .ok (.iaload, 1) := by decide +kernel
theorem dX0_keeperOfFriend_6 : decode cX0_keeperOfFriend 6 = .ok (.istore_n 2, 1) := by decide +kernel
theorem dX0_keeperOfFriend_7 : decode cX0_keeperOfFriend 7 = .ok (.iload_n 2, 1) := by decide +kernel
theorem dX0_keeperOfFriend_8 : decode cX0_keeperOfFriend 8 = .ok (.ifCond .lt 20, 3) := by decide +kernel
theorem dX0_keeperOfFriend_11 : decode cX0_keeperOfFriend 11 = .ok (.iload_n 2, 1) := by decide +kernel
theorem dX0_keeperOfFriend_12 : decode cX0_keeperOfFriend 12 = .ok (.aload_n 0, 1) := by decide +kernel
theorem dX0_keeperOfFriend_13 : decode cX0_keeperOfFriend 13 = .ok (.getfield 9, 3) := by decide +kernel
theorem dX0_keeperOfFriend_16 : decode cX0_keeperOfFriend 16 = .ok (.if_icmp .ge 12, 3) := by decide +kernel
theorem dX0_keeperOfFriend_19 : decode cX0_keeperOfFriend 19 = .ok (.aload_n 0, 1) := by decide +kernel
theorem dX0_keeperOfFriend_20 : decode cX0_keeperOfFriend 20 = .ok (.getfield 31, 3) := by decide +kernel
theorem dX0_keeperOfFriend_23 : decode cX0_keeperOfFriend 23 = .ok (.iload_n 2, 1) := by decide +kernel
theorem dX0_keeperOfFriend_24 : decode cX0_keeperOfFriend 24 = .ok (.iaload, 1) := by decide +kernel
theorem dX0_keeperOfFriend_25 : decode cX0_keeperOfFriend 25 = .ok (.goto 5, 3) := by decide +kernel
theorem dX0_keeperOfFriend_28 : decode cX0_keeperOfFriend 28 = .ok (.bipush (-9), 2) := by decide +kernel
theorem dX0_keeperOfFriend_30 : decode cX0_keeperOfFriend 30 = .ok (.ireturn, 1) := by decide +kernel
theorem dX0_goalOf_0 : decode cX0_goalOf 0 = .ok (.aload_n 0, 1) := by decide +kernel
theorem dX0_goalOf_1 : decode cX0_goalOf 1 = .ok (.getfield 15, 3) := by decide +kernel
theorem dX0_goalOf_4 : decode cX0_goalOf 4 = .ok (.iload_n 1, 1) := by decide +kernel
theorem dX0_goalOf_5 : decode cX0_goalOf 5 = .ok (.iaload, 1) := by decide +kernel
theorem dX0_goalOf_6 : decode cX0_goalOf 6 = .ok (.tableswitch 91 2 4 #[26, 36, 61], 26) := by decide +kernel
theorem dX0_goalOf_32 : decode cX0_goalOf 32 = .ok (.aload_n 0, 1) := by decide +kernel
theorem dX0_goalOf_33 : decode cX0_goalOf 33 = .ok (.getfield 52, 3) := by decide +kernel
theorem dX0_goalOf_36 : decode cX0_goalOf 36 = .ok (.iconst 5, 1) := by decide +kernel
theorem dX0_goalOf_37 : decode cX0_goalOf 37 = .ok (.iadd, 1) := by decide +kernel
theorem dX0_goalOf_38 : decode cX0_goalOf 38 = .ok (.bipush 10, 2) := by decide +kernel
theorem dX0_goalOf_40 : decode cX0_goalOf 40 = .ok (.irem, 1) := by decide +kernel
theorem dX0_goalOf_41 : decode cX0_goalOf 41 = .ok (.ireturn, 1) := by decide +kernel
theorem dX0_goalOf_42 : decode cX0_goalOf 42 = .ok (.aload_n 0, 1) := by decide +kernel
theorem dX0_goalOf_43 : decode cX0_goalOf 43 = .ok (.getfield 55, 3) := by decide +kernel
theorem dX0_goalOf_46 : decode cX0_goalOf 46 = .ok (.iconst 2, 1) := by decide +kernel
theorem dX0_goalOf_47 : decode cX0_goalOf 47 = .ok (.irem, 1) := by decide +kernel
theorem dX0_goalOf_48 : decode cX0_goalOf 48 = .ok (.ifCond .ne 12, 3) := by decide +kernel
theorem dX0_goalOf_51 : decode cX0_goalOf 51 = .ok (.aload_n 0, 1) := by decide +kernel
theorem dX0_goalOf_52 : decode cX0_goalOf 52 = .ok (.getfield 22, 3) := by decide +kernel
theorem dX0_goalOf_55 : decode cX0_goalOf 55 = .ok (.iload_n 1, 1) := by decide +kernel
theorem dX0_goalOf_56 : decode cX0_goalOf 56 = .ok (.iaload, 1) := by decide +kernel
theorem dX0_goalOf_57 : decode cX0_goalOf 57 = .ok (.goto 9, 3) := by decide +kernel
theorem dX0_goalOf_60 : decode cX0_goalOf 60 = .ok (.aload_n 0, 1) := by decide +kernel
theorem dX0_goalOf_61 : decode cX0_goalOf 61 = .ok (.getfield 40, 3) := by decide +kernel
theorem dX0_goalOf_64 : decode cX0_goalOf 64 = .ok (.iload_n 2, 1) := by decide +kernel
theorem dX0_goalOf_65 : decode cX0_goalOf 65 = .ok (.iaload, 1) := by decide +kernel
theorem dX0_goalOf_66 : decode cX0_goalOf 66 = .ok (.ireturn, 1) := by decide +kernel
theorem dX0_goalOf_67 : decode cX0_goalOf 67 = .ok (.aload_n 0, 1) := by decide +kernel
theorem dX0_goalOf_68 : decode cX0_goalOf 68 = .ok (.iload_n 1, 1) := by decide +kernel
theorem dX0_goalOf_69 : decode cX0_goalOf 69 = .ok (.invokevirtual 93, 3) := by decide +kernel
theorem dX0_goalOf_72 : decode cX0_goalOf 72 = .ok (.istore_n 3, 1) := by decide +kernel
theorem dX0_goalOf_73 : decode cX0_goalOf 73 = .ok (.aload_n 0, 1) := by decide +kernel
theorem dX0_goalOf_74 : decode cX0_goalOf 74 = .ok (.iload_n 3, 1) := by decide +kernel
theorem dX0_goalOf_75 : decode cX0_goalOf 75 = .ok (.invokevirtual 83, 3) := by decide +kernel
theorem dX0_goalOf_78 : decode cX0_goalOf 78 = .ok (.ifCond .eq 12, 3) := by decide +kernel
theorem dX0_goalOf_81 : decode cX0_goalOf 81 = .ok (.aload_n 0, 1) := by decide +kernel
theorem dX0_goalOf_82 : decode cX0_goalOf 82 = .ok (.getfield 43, 3) := by decide +kernel
theorem dX0_goalOf_85 : decode cX0_goalOf 85 = .ok (.iload_n 3, 1) := by decide +kernel
theorem dX0_goalOf_86 : decode cX0_goalOf 86 = .ok (.iaload, 1) := by decide +kernel
theorem dX0_goalOf_87 : decode cX0_goalOf 87 = .ok (.goto 9, 3) := by decide +kernel
theorem dX0_goalOf_90 : decode cX0_goalOf 90 = .ok (.aload_n 0, 1) := by decide +kernel
theorem dX0_goalOf_91 : decode cX0_goalOf 91 = .ok (.getfield 22, 3) := by decide +kernel
theorem dX0_goalOf_94 : decode cX0_goalOf 94 = .ok (.iload_n 1, 1) := by decide +kernel
theorem dX0_goalOf_95 : decode cX0_goalOf 95 = .ok (.iaload, 1) := by decide +kernel
theorem dX0_goalOf_96 : decode cX0_goalOf 96 = .ok (.ireturn, 1) := by decide +kernel
theorem dX0_goalOf_97 : decode cX0_goalOf 97 = .ok (.aload_n 0, 1) := by decide +kernel
theorem dX0_goalOf_98 : decode cX0_goalOf 98 = .ok (.getfield 22, 3) := by decide +kernel
theorem dX0_goalOf_101 : decode cX0_goalOf 101 = .ok (.iload_n 1, 1) := by decide +kernel
theorem dX0_goalOf_102 : decode cX0_goalOf 102 = .ok (.iaload, 1) := by decide +kernel
theorem dX0_goalOf_103 : decode cX0_goalOf 103 = .ok (.ireturn, 1) := by decide +kernel
theorem dX0_paceOf_0 : decode cX0_paceOf 0 = .ok (.aload_n 0, 1) := by decide +kernel
theorem dX0_paceOf_1 : decode cX0_paceOf 1 = .ok (.getfield 15, 3) := by decide +kernel
theorem dX0_paceOf_4 : decode cX0_paceOf 4 = .ok (.iload_n 1, 1) := by decide +kernel
theorem dX0_paceOf_5 : decode cX0_paceOf 5 = .ok (.iaload, 1) := by decide +kernel
theorem dX0_paceOf_6 : decode cX0_paceOf 6 = .ok (.iconst 5, 1) := by decide +kernel
theorem dX0_paceOf_7 : decode cX0_paceOf 7 = .ok (.if_icmp .ne 7, 3) := by decide +kernel
theorem dX0_paceOf_10 : decode cX0_paceOf 10 = .ok (.iconst 2, 1) := by decide +kernel
theorem dX0_paceOf_11 : decode cX0_paceOf 11 = .ok (.goto 4, 3) := by decide +kernel
theorem dX0_paceOf_14 : decode cX0_paceOf 14 = .ok (.iconst 1, 1) := by decide +kernel
theorem dX0_paceOf_15 : decode cX0_paceOf 15 = .ok (.ireturn, 1) := by decide +kernel
theorem dX0_isLed_0 : decode cX0_isLed 0 = .ok (.aload_n 0, 1) := by decide +kernel
theorem dX0_isLed_1 : decode cX0_isLed 1 = .ok (.aload_n 0, 1) := by decide +kernel
theorem dX0_isLed_2 : decode cX0_isLed 2 = .ok (.getfield 46, 3) := by decide +kernel
theorem dX0_isLed_5 : decode cX0_isLed 5 = .ok (.iload_n 1, 1) := by decide +kernel
theorem dX0_isLed_6 : decode cX0_isLed 6 = .ok (.iaload, 1) := by decide +kernel
theorem dX0_isLed_7 : decode cX0_isLed 7 = .ok (.invokevirtual 79, 3) := by decide +kernel
theorem dX0_isLed_10 : decode cX0_isLed 10 = .ok (.ifCond .eq 26, 3) := by decide +kernel
theorem dX0_isLed_13 : decode cX0_isLed 13 = .ok (.aload_n 0, 1) := by decide +kernel
theorem dX0_isLed_14 : decode cX0_isLed 14 = .ok (.aload_n 0, 1) := by decide +kernel
theorem dX0_isLed_15 : decode cX0_isLed 15 = .ok (.getfield 46, 3) := by decide +kernel
theorem dX0_isLed_18 : decode cX0_isLed 18 = .ok (.iload_n 1, 1) := by decide +kernel
theorem dX0_isLed_19 : decode cX0_isLed 19 = .ok (.iaload, 1) := by decide +kernel
theorem dX0_isLed_20 : decode cX0_isLed 20 = .ok (.invokevirtual 101, 3) := by decide +kernel
theorem dX0_isLed_23 : decode cX0_isLed 23 = .ok (.aload_n 0, 1) := by decide +kernel
theorem dX0_isLed_24 : decode cX0_isLed 24 = .ok (.getfield 37, 3) := by decide +kernel
theorem dX0_isLed_27 : decode cX0_isLed 27 = .ok (.iload_n 1, 1) := by decide +kernel
theorem dX0_isLed_28 : decode cX0_isLed 28 = .ok (.iaload, 1) := by decide +kernel
theorem dX0_isLed_29 : decode cX0_isLed 29 = .ok (.if_icmp .le 7, 3) := by decide +kernel
theorem dX0_isLed_32 : decode cX0_isLed 32 = .ok (.iconst 1, 1) := by decide +kernel
theorem dX0_isLed_33 : decode cX0_isLed 33 = .ok (.goto 4, 3) := by decide +kernel
theorem dX0_isLed_36 : decode cX0_isLed 36 = .ok (.iconst 0, 1) := by decide +kernel
theorem dX0_isLed_37 : decode cX0_isLed 37 = .ok (.ireturn, 1) := by decide +kernel
theorem dX0_goHours_0 : decode cX0_goHours 0 = .ok (.iconst 0, 1) := by decide +kernel
theorem dX0_goHours_1 : decode cX0_goHours 1 = .ok (.istore_n 2, 1) := by decide +kernel
theorem dX0_goHours_2 : decode cX0_goHours 2 = .ok (.iload_n 2, 1) := by decide +kernel
theorem dX0_goHours_3 : decode cX0_goHours 3 = .ok (.iload_n 1, 1) := by decide +kernel
theorem dX0_goHours_4 : decode cX0_goHours 4 = .ok (.if_icmp .ge 48, 3) := by decide +kernel
theorem dX0_goHours_7 : decode cX0_goHours 7 = .ok (.aload_n 0, 1) := by decide +kernel
theorem dX0_goHours_8 : decode cX0_goHours 8 = .ok (.dup, 1) := by decide +kernel
theorem dX0_goHours_9 : decode cX0_goHours 9 = .ok (.getfield 55, 3) := by decide +kernel
theorem dX0_goHours_12 : decode cX0_goHours 12 = .ok (.iconst 1, 1) := by decide +kernel
theorem dX0_goHours_13 : decode cX0_goHours 13 = .ok (.iadd, 1) := by decide +kernel
theorem dX0_goHours_14 : decode cX0_goHours 14 = .ok (.putfield 55, 3) := by decide +kernel
theorem dX0_goHours_17 : decode cX0_goHours 17 = .ok (.iconst 0, 1) := by decide +kernel
theorem dX0_goHours_18 : decode cX0_goHours 18 = .ok (.istore_n 3, 1) := by decide +kernel
theorem dX0_goHours_19 : decode cX0_goHours 19 = .ok (.iload_n 3, 1) := by decide +kernel
theorem dX0_goHours_20 : decode cX0_goHours 20 = .ok (.aload_n 0, 1) := by decide +kernel
theorem dX0_goHours_21 : decode cX0_goHours 21 = .ok (.getfield 34, 3) := by decide +kernel
theorem dX0_goHours_24 : decode cX0_goHours 24 = .ok (.if_icmp .ge 14, 3) := by decide +kernel
theorem dX0_goHours_27 : decode cX0_goHours 27 = .ok (.aload_n 0, 1) := by decide +kernel
theorem dX0_goHours_28 : decode cX0_goHours 28 = .ok (.iload_n 3, 1) := by decide +kernel
theorem dX0_goHours_29 : decode cX0_goHours 29 = .ok (.invokevirtual 104, 3) := by decide +kernel
theorem dX0_goHours_32 : decode cX0_goHours 32 = .ok (.iinc 3 1, 3) := by decide +kernel
theorem dX0_goHours_35 : decode cX0_goHours 35 = .ok (.goto (-16), 3) := by decide +kernel
theorem dX0_goHours_38 : decode cX0_goHours 38 = .ok (.aload_n 0, 1) := by decide +kernel
theorem dX0_goHours_39 : decode cX0_goHours 39 = .ok (.invokevirtual 107, 3) := by decide +kernel
theorem dX0_goHours_42 : decode cX0_goHours 42 = .ok (.aload_n 0, 1) := by decide +kernel
theorem dX0_goHours_43 : decode cX0_goHours 43 = .ok (.invokevirtual 110, 3) := by decide +kernel
theorem dX0_goHours_46 : decode cX0_goHours 46 = .ok (.iinc 2 1, 3) := by decide +kernel
theorem dX0_goHours_49 : decode cX0_goHours 49 = .ok (.goto (-47), 3) := by decide +kernel
theorem dX0_goHours_52 : decode cX0_goHours 52 = .ok (.return_, 1) := by decide +kernel
theorem dX0_growHeld_0 : decode cX0_growHeld 0 = .ok (.iconst 0, 1) := by decide +kernel
theorem dX0_growHeld_1 : decode cX0_growHeld 1 = .ok (.istore_n 1, 1) := by decide +kernel
theorem dX0_growHeld_2 : decode cX0_growHeld 2 = .ok (.iload_n 1, 1) := by decide +kernel
theorem dX0_growHeld_3 : decode cX0_growHeld 3 = .ok (.aload_n 0, 1) := by decide +kernel
theorem dX0_growHeld_4 : decode cX0_growHeld 4 = .ok (.getfield 9, 3) := by decide +kernel
theorem dX0_growHeld_7 : decode cX0_growHeld 7 = .ok (.if_icmp .ge 37, 3) := by decide +kernel
theorem dX0_growHeld_10 : decode cX0_growHeld 10 = .ok (.aload_n 0, 1) := by decide +kernel
theorem dX0_growHeld_11 : decode cX0_growHeld 11 = .ok (.getfield 31, 3) := by decide +kernel
theorem dX0_growHeld_14 : decode cX0_growHeld 14 = .ok (.iload_n 1, 1) := by decide +kernel
theorem dX0_growHeld_15 : decode cX0_growHeld 15 = .ok (.iaload, 1) := by decide +kernel
theorem dX0_growHeld_16 : decode cX0_growHeld 16 = .ok (.ifCond .lt 22, 3) := by decide +kernel
theorem dX0_growHeld_19 : decode cX0_growHeld 19 = .ok (.aload_n 0, 1) := by decide +kernel
theorem dX0_growHeld_20 : decode cX0_growHeld 20 = .ok (.getfield 28, 3) := by decide +kernel
theorem dX0_growHeld_23 : decode cX0_growHeld 23 = .ok (.iload_n 1, 1) := by decide +kernel
theorem dX0_growHeld_24 : decode cX0_growHeld 24 = .ok (.aload_n 0, 1) := by decide +kernel
theorem dX0_growHeld_25 : decode cX0_growHeld 25 = .ok (.getfield 28, 3) := by decide +kernel
theorem dX0_growHeld_28 : decode cX0_growHeld 28 = .ok (.iload_n 1, 1) := by decide +kernel
theorem dX0_growHeld_29 : decode cX0_growHeld 29 = .ok (.iaload, 1) := by decide +kernel
theorem dX0_growHeld_30 : decode cX0_growHeld 30 = .ok (.iconst 1, 1) := by decide +kernel
theorem dX0_growHeld_31 : decode cX0_growHeld 31 = .ok (.iadd, 1) := by decide +kernel
theorem dX0_growHeld_32 : decode cX0_growHeld 32 = .ok (.bipush 99, 2) := by decide +kernel
theorem dX0_growHeld_34 : decode cX0_growHeld 34 = .ok (.invokestatic 113, 3) := by decide +kernel
theorem dX0_growHeld_37 : decode cX0_growHeld 37 = .ok (.iastore, 1) := by decide +kernel
theorem dX0_growHeld_38 : decode cX0_growHeld 38 = .ok (.iinc 1 1, 3) := by decide +kernel
theorem dX0_growHeld_41 : decode cX0_growHeld 41 = .ok (.goto (-39), 3) := by decide +kernel
theorem dX0_growHeld_44 : decode cX0_growHeld 44 = .ok (.return_, 1) := by decide +kernel
theorem dX0_countSnaps_0 : decode cX0_countSnaps 0 = .ok (.iconst 0, 1) := by decide +kernel
theorem dX0_countSnaps_1 : decode cX0_countSnaps 1 = .ok (.istore_n 1, 1) := by decide +kernel
theorem dX0_countSnaps_2 : decode cX0_countSnaps 2 = .ok (.iload_n 1, 1) := by decide +kernel
theorem dX0_countSnaps_3 : decode cX0_countSnaps 3 = .ok (.aload_n 0, 1) := by decide +kernel
theorem dX0_countSnaps_4 : decode cX0_countSnaps 4 = .ok (.getfield 34, 3) := by decide +kernel
theorem dX0_countSnaps_7 : decode cX0_countSnaps 7 = .ok (.if_icmp .ge 60, 3) := by decide +kernel
theorem dX0_countSnaps_10 : decode cX0_countSnaps 10 = .ok (.aload_n 0, 1) := by decide +kernel
theorem dX0_countSnaps_11 : decode cX0_countSnaps 11 = .ok (.aload_n 0, 1) := by decide +kernel
theorem dX0_countSnaps_12 : decode cX0_countSnaps 12 = .ok (.getfield 46, 3) := by decide +kernel
theorem dX0_countSnaps_15 : decode cX0_countSnaps 15 = .ok (.iload_n 1, 1) := by decide +kernel
theorem dX0_countSnaps_16 : decode cX0_countSnaps 16 = .ok (.iaload, 1) := by decide +kernel
theorem dX0_countSnaps_17 : decode cX0_countSnaps 17 = .ok (.invokevirtual 79, 3) := by decide +kernel
theorem dX0_countSnaps_20 : decode cX0_countSnaps 20 = .ok (.ifCond .eq 41, 3) := by decide +kernel
theorem dX0_countSnaps_23 : decode cX0_countSnaps 23 = .ok (.aload_n 0, 1) := by decide +kernel
theorem dX0_countSnaps_24 : decode cX0_countSnaps 24 = .ok (.getfield 15, 3) := by decide +kernel
theorem dX0_countSnaps_27 : decode cX0_countSnaps 27 = .ok (.aload_n 0, 1) := by decide +kernel
theorem dX0_countSnaps_28 : decode cX0_countSnaps 28 = .ok (.getfield 46, 3) := by decide +kernel
theorem dX0_countSnaps_31 : decode cX0_countSnaps 31 = .ok (.iload_n 1, 1) := by decide +kernel
theorem dX0_countSnaps_32 : decode cX0_countSnaps 32 = .ok (.iaload, 1) := by decide +kernel
theorem dX0_countSnaps_33 : decode cX0_countSnaps 33 = .ok (.iaload, 1) := by decide +kernel
theorem dX0_countSnaps_34 : decode cX0_countSnaps 34 = .ok (.iconst 2, 1) := by decide +kernel
theorem dX0_countSnaps_35 : decode cX0_countSnaps 35 = .ok (.if_icmp .ne 26, 3) := by decide +kernel
theorem dX0_countSnaps_38 : decode cX0_countSnaps 38 = .ok (.aload_n 0, 1) := by decide +kernel
theorem dX0_countSnaps_39 : decode cX0_countSnaps 39 = .ok (.getfield 43, 3) := by decide +kernel
theorem dX0_countSnaps_42 : decode cX0_countSnaps 42 = .ok (.iload_n 1, 1) := by decide +kernel
theorem dX0_countSnaps_43 : decode cX0_countSnaps 43 = .ok (.iaload, 1) := by decide +kernel
theorem dX0_countSnaps_44 : decode cX0_countSnaps 44 = .ok (.aload_n 0, 1) := by decide +kernel
theorem dX0_countSnaps_45 : decode cX0_countSnaps 45 = .ok (.getfield 52, 3) := by decide +kernel
theorem dX0_countSnaps_48 : decode cX0_countSnaps 48 = .ok (.if_icmp .ne 13, 3) := by decide +kernel
theorem dX0_countSnaps_51 : decode cX0_countSnaps 51 = .ok (.aload_n 0, 1) := by decide +kernel
theorem dX0_countSnaps_52 : decode cX0_countSnaps 52 = .ok (.dup, 1) := by decide +kernel
theorem dX0_countSnaps_53 : decode cX0_countSnaps 53 = .ok (.getfield 64, 3) := by decide +kernel
theorem dX0_countSnaps_56 : decode cX0_countSnaps 56 = .ok (.iconst 1, 1) := by decide +kernel
theorem dX0_countSnaps_57 : decode cX0_countSnaps 57 = .ok (.iadd, 1) := by decide +kernel
theorem dX0_countSnaps_58 : decode cX0_countSnaps 58 = .ok (.putfield 64, 3) := by decide +kernel
theorem dX0_countSnaps_61 : decode cX0_countSnaps 61 = .ok (.iinc 1 1, 3) := by decide +kernel
theorem dX0_countSnaps_64 : decode cX0_countSnaps 64 = .ok (.goto (-62), 3) := by decide +kernel
theorem dX0_countSnaps_67 : decode cX0_countSnaps 67 = .ok (.return_, 1) := by decide +kernel
theorem dX0_go_0 : decode cX0_go 0 = .ok (.aload_n 0, 1) := by decide +kernel
theorem dX0_go_1 : decode cX0_go 1 = .ok (.getfield 49, 3) := by decide +kernel
theorem dX0_go_4 : decode cX0_go 4 = .ok (.iload_n 1, 1) := by decide +kernel
theorem dX0_go_5 : decode cX0_go 5 = .ok (.iaload, 1) := by decide +kernel
theorem dX0_go_6 : decode cX0_go 6 = .ok (.ifCond .ne 23, 3) := by decide +kernel
theorem dX0_go_9 : decode cX0_go 9 = .ok (.aload_n 0, 1) := by decide +kernel
theorem dX0_go_10 : decode cX0_go 10 = .ok (.getfield 49, 3) := by decide +kernel
theorem dX0_go_13 : decode cX0_go 13 = .ok (.iload_n 1, 1) := by decide +kernel
theorem dX0_go_14 : decode cX0_go 14 = .ok (.iconst 3, 1) := by decide +kernel
theorem dX0_go_15 : decode cX0_go 15 = .ok (.iastore, 1) := by decide +kernel
theorem dX0_go_16 : decode cX0_go 16 = .ok (.aload_n 0, 1) := by decide +kernel
theorem dX0_go_17 : decode cX0_go 17 = .ok (.getfield 61, 3) := by decide +kernel
theorem dX0_go_20 : decode cX0_go 20 = .ok (.iload_n 1, 1) := by decide +kernel
theorem dX0_go_21 : decode cX0_go 21 = .ok (.dup2, 1) := by decide +kernel
theorem dX0_go_22 : decode cX0_go 22 = .ok (.iaload, 1) := by decide +kernel
theorem dX0_go_23 : decode cX0_go 23 = .ok (.iconst 1, 1) := by decide +kernel
theorem dX0_go_24 : decode cX0_go 24 = .ok (.iadd, 1) := by decide +kernel
theorem dX0_go_25 : decode cX0_go 25 = .ok (.iastore, 1) := by decide +kernel
theorem dX0_go_26 : decode cX0_go 26 = .ok (.goto 138, 3) := by decide +kernel
theorem dX0_go_29 : decode cX0_go 29 = .ok (.iload_n 1, 1) := by decide +kernel
theorem dX0_go_30 : decode cX0_go 30 = .ok (.aload_n 0, 1) := by decide +kernel
theorem dX0_go_31 : decode cX0_go 31 = .ok (.getfield 67, 3) := by decide +kernel
theorem dX0_go_34 : decode cX0_go 34 = .ok (.if_icmp .eq 89, 3) := by decide +kernel
theorem dX0_go_37 : decode cX0_go 37 = .ok (.aload_n 0, 1) := by decide +kernel
theorem dX0_go_38 : decode cX0_go 38 = .ok (.iload_n 1, 1) := by decide +kernel
theorem dX0_go_39 : decode cX0_go 39 = .ok (.invokevirtual 119, 3) := by decide +kernel
theorem dX0_go_42 : decode cX0_go 42 = .ok (.ifCond .eq 81, 3) := by decide +kernel
theorem dX0_go_45 : decode cX0_go 45 = .ok (.aload_n 0, 1) := by decide +kernel
theorem dX0_go_46 : decode cX0_go 46 = .ok (.getfield 43, 3) := by decide +kernel
theorem dX0_go_49 : decode cX0_go 49 = .ok (.iload_n 1, 1) := by decide +kernel
theorem dX0_go_50 : decode cX0_go 50 = .ok (.iaload, 1) := by decide +kernel
theorem dX0_go_51 : decode cX0_go 51 = .ok (.istore_n 2, 1) := by decide +kernel
theorem dX0_go_52 : decode cX0_go 52 = .ok (.aload_n 0, 1) := by decide +kernel
theorem dX0_go_53 : decode cX0_go 53 = .ok (.getfield 43, 3) := by decide +kernel
theorem dX0_go_56 : decode cX0_go 56 = .ok (.iload_n 1, 1) := by decide +kernel
theorem dX0_go_57 : decode cX0_go 57 = .ok (.iload_n 2, 1) := by decide +kernel
theorem dX0_go_58 : decode cX0_go 58 = .ok (.aload_n 0, 1) := by decide +kernel
theorem dX0_go_59 : decode cX0_go 59 = .ok (.aload_n 0, 1) := by decide +kernel
theorem dX0_go_60 : decode cX0_go 60 = .ok (.getfield 46, 3) := by decide +kernel
theorem dX0_go_63 : decode cX0_go 63 = .ok (.iload_n 1, 1) := by decide +kernel
theorem dX0_go_64 : decode cX0_go 64 = .ok (.iaload, 1) := by decide +kernel
theorem dX0_go_65 : decode cX0_go 65 = .ok (.iload_n 1, 1) := by decide +kernel
theorem dX0_go_66 : decode cX0_go 66 = .ok (.invokevirtual 122, 3) := by decide +kernel
theorem dX0_go_69 : decode cX0_go 69 = .ok (.aload_n 0, 1) := by decide +kernel
theorem dX0_go_70 : decode cX0_go 70 = .ok (.aload_n 0, 1) := by decide +kernel
theorem dX0_go_71 : decode cX0_go 71 = .ok (.getfield 46, 3) := by decide +kernel
theorem dX0_go_74 : decode cX0_go 74 = .ok (.iload_n 1, 1) := by decide +kernel
theorem dX0_go_75 : decode cX0_go 75 = .ok (.iaload, 1) := by decide +kernel
theorem dX0_go_76 : decode cX0_go 76 = .ok (.invokevirtual 125, 3) := by decide +kernel
theorem dX0_go_79 : decode cX0_go 79 = .ok (.invokestatic 128, 3) := by decide +kernel
theorem dX0_go_82 : decode cX0_go 82 = .ok (.iastore, 1) := by decide +kernel
theorem dX0_go_83 : decode cX0_go 83 = .ok (.aload_n 0, 1) := by decide +kernel
theorem dX0_go_84 : decode cX0_go 84 = .ok (.getfield 49, 3) := by decide +kernel
theorem dX0_go_87 : decode cX0_go 87 = .ok (.iload_n 1, 1) := by decide +kernel
theorem dX0_go_88 : decode cX0_go 88 = .ok (.iconst 0, 1) := by decide +kernel
theorem dX0_go_89 : decode cX0_go 89 = .ok (.aload_n 0, 1) := by decide +kernel
theorem dX0_go_90 : decode cX0_go 90 = .ok (.getfield 49, 3) := by decide +kernel
theorem dX0_go_93 : decode cX0_go 93 = .ok (.iload_n 1, 1) := by decide +kernel
theorem dX0_go_94 : decode cX0_go 94 = .ok (.iaload, 1) := by decide +kernel
theorem dX0_go_95 : decode cX0_go 95 = .ok (.iload_n 2, 1) := by decide +kernel
theorem dX0_go_96 : decode cX0_go 96 = .ok (.aload_n 0, 1) := by decide +kernel
theorem dX0_go_97 : decode cX0_go 97 = .ok (.getfield 43, 3) := by decide +kernel
theorem dX0_go_100 : decode cX0_go 100 = .ok (.iload_n 1, 1) := by decide +kernel
theorem dX0_go_101 : decode cX0_go 101 = .ok (.iaload, 1) := by decide +kernel
theorem dX0_go_102 : decode cX0_go 102 = .ok (.invokestatic 132, 3) := by decide +kernel
theorem dX0_go_105 : decode cX0_go 105 = .ok (.isub, 1) := by decide +kernel
theorem dX0_go_106 : decode cX0_go 106 = .ok (.invokestatic 135, 3) := by decide +kernel
theorem dX0_go_109 : decode cX0_go 109 = .ok (.iastore, 1) := by decide +kernel
theorem dX0_go_110 : decode cX0_go 110 = .ok (.aload_n 0, 1) := by decide +kernel
theorem dX0_go_111 : decode cX0_go 111 = .ok (.getfield 58, 3) := by decide +kernel
theorem dX0_go_114 : decode cX0_go 114 = .ok (.iload_n 1, 1) := by decide +kernel
theorem dX0_go_115 : decode cX0_go 115 = .ok (.dup2, 1) := by decide +kernel
theorem dX0_go_116 : decode cX0_go 116 = .ok (.iaload, 1) := by decide +kernel
theorem dX0_go_117 : decode cX0_go 117 = .ok (.iconst 1, 1) := by decide +kernel
theorem dX0_go_118 : decode cX0_go 118 = .ok (.iadd, 1) := by decide +kernel
theorem dX0_go_119 : decode cX0_go 119 = .ok (.iastore, 1) := by decide +kernel
theorem dX0_go_120 : decode cX0_go 120 = .ok (.goto 44, 3) := by decide +kernel
theorem dX0_go_123 : decode cX0_go 123 = .ok (.aload_n 0, 1) := by decide +kernel
theorem dX0_go_124 : decode cX0_go 124 = .ok (.getfield 43, 3) := by decide +kernel
theorem dX0_go_127 : decode cX0_go 127 = .ok (.iload_n 1, 1) := by decide +kernel
theorem dX0_go_128 : decode cX0_go 128 = .ok (.aload_n 0, 1) := by decide +kernel
theorem dX0_go_129 : decode cX0_go 129 = .ok (.getfield 43, 3) := by decide +kernel
theorem dX0_go_132 : decode cX0_go 132 = .ok (.iload_n 1, 1) := by decide +kernel
theorem dX0_go_133 : decode cX0_go 133 = .ok (.iaload, 1) := by decide +kernel
theorem dX0_go_134 : decode cX0_go 134 = .ok (.aload_n 0, 1) := by decide +kernel
theorem dX0_go_135 : decode cX0_go 135 = .ok (.getfield 40, 3) := by decide +kernel
theorem dX0_go_138 : decode cX0_go 138 = .ok (.iload_n 1, 1) := by decide +kernel
theorem dX0_go_139 : decode cX0_go 139 = .ok (.iaload, 1) := by decide +kernel
theorem dX0_go_140 : decode cX0_go 140 = .ok (.iconst 1, 1) := by decide +kernel
theorem dX0_go_141 : decode cX0_go 141 = .ok (.invokestatic 128, 3) := by decide +kernel
theorem dX0_go_144 : decode cX0_go 144 = .ok (.iastore, 1) := by decide +kernel
theorem dX0_go_145 : decode cX0_go 145 = .ok (.aload_n 0, 1) := by decide +kernel
theorem dX0_go_146 : decode cX0_go 146 = .ok (.getfield 49, 3) := by decide +kernel
theorem dX0_go_149 : decode cX0_go 149 = .ok (.iload_n 1, 1) := by decide +kernel
theorem dX0_go_150 : decode cX0_go 150 = .ok (.aload_n 0, 1) := by decide +kernel
theorem dX0_go_151 : decode cX0_go 151 = .ok (.getfield 49, 3) := by decide +kernel
theorem dX0_go_154 : decode cX0_go 154 = .ok (.iload_n 1, 1) := by decide +kernel
theorem dX0_go_155 : decode cX0_go 155 = .ok (.iaload, 1) := by decide +kernel
theorem dX0_go_156 : decode cX0_go 156 = .ok (.iconst 1, 1) := by decide +kernel
theorem dX0_go_157 : decode cX0_go 157 = .ok (.iadd, 1) := by decide +kernel
theorem dX0_go_158 : decode cX0_go 158 = .ok (.bipush 9, 2) := by decide +kernel
theorem dX0_go_160 : decode cX0_go 160 = .ok (.invokestatic 113, 3) := by decide +kernel
theorem dX0_go_163 : decode cX0_go 163 = .ok (.iastore, 1) := by decide +kernel
theorem dX0_go_164 : decode cX0_go 164 = .ok (.return_, 1) := by decide +kernel
theorem dX0_toward_0 : decode cX0_toward 0 = .ok (.iload_n 1, 1) := by decide +kernel
theorem dX0_toward_1 : decode cX0_toward 1 = .ok (.iload_n 0, 1) := by decide +kernel
theorem dX0_toward_2 : decode cX0_toward 2 = .ok (.isub, 1) := by decide +kernel
theorem dX0_toward_3 : decode cX0_toward 3 = .ok (.bipush 10, 2) := by decide +kernel
theorem dX0_toward_5 : decode cX0_toward 5 = .ok (.invokestatic 138, 3) := by decide +kernel
theorem dX0_toward_8 : decode cX0_toward 8 = .ok (.istore_n 3, 1) := by decide +kernel
theorem dX0_toward_9 : decode cX0_toward 9 = .ok (.bipush 10, 2) := by decide +kernel
theorem dX0_toward_11 : decode cX0_toward 11 = .ok (.iload_n 3, 1) := by decide +kernel
theorem dX0_toward_12 : decode cX0_toward 12 = .ok (.isub, 1) := by decide +kernel
theorem dX0_toward_13 : decode cX0_toward 13 = .ok (.istore 4, 2) := by decide +kernel
theorem dX0_toward_15 : decode cX0_toward 15 = .ok (.iload_n 3, 1) := by decide +kernel
theorem dX0_toward_16 : decode cX0_toward 16 = .ok (.iload 4, 2) := by decide +kernel
theorem dX0_toward_18 : decode cX0_toward 18 = .ok (.if_icmp .gt 16, 3) := by decide +kernel
theorem dX0_toward_21 : decode cX0_toward 21 = .ok (.iload_n 0, 1) := by decide +kernel
theorem dX0_toward_22 : decode cX0_toward 22 = .ok (.iload_n 2, 1) := by decide +kernel
theorem dX0_toward_23 : decode cX0_toward 23 = .ok (.iload_n 3, 1) := by decide +kernel
theorem dX0_toward_24 : decode cX0_toward 24 = .ok (.invokestatic 113, 3) := by decide +kernel
theorem dX0_toward_27 : decode cX0_toward 27 = .ok (.iadd, 1) := by decide +kernel
theorem dX0_toward_28 : decode cX0_toward 28 = .ok (.bipush 10, 2) := by decide +kernel
theorem dX0_toward_30 : decode cX0_toward 30 = .ok (.invokestatic 138, 3) := by decide +kernel
theorem dX0_toward_33 : decode cX0_toward 33 = .ok (.ireturn, 1) := by decide +kernel
theorem dX0_toward_34 : decode cX0_toward 34 = .ok (.iload_n 0, 1) := by decide +kernel
theorem dX0_toward_35 : decode cX0_toward 35 = .ok (.iload_n 2, 1) := by decide +kernel
theorem dX0_toward_36 : decode cX0_toward 36 = .ok (.iload 4, 2) := by decide +kernel
theorem dX0_toward_38 : decode cX0_toward 38 = .ok (.invokestatic 113, 3) := by decide +kernel
theorem dX0_toward_41 : decode cX0_toward 41 = .ok (.isub, 1) := by decide +kernel
theorem dX0_toward_42 : decode cX0_toward 42 = .ok (.bipush 10, 2) := by decide +kernel
theorem dX0_toward_44 : decode cX0_toward 44 = .ok (.invokestatic 138, 3) := by decide +kernel
theorem dX0_toward_47 : decode cX0_toward 47 = .ok (.ireturn, 1) := by decide +kernel
theorem dX0_goArmInArm_0 : decode cX0_goArmInArm 0 = .ok (.aload_n 0, 1) := by decide +kernel
theorem dX0_goArmInArm_1 : decode cX0_goArmInArm 1 = .ok (.dup, 1) := by decide +kernel
theorem dX0_goArmInArm_2 : decode cX0_goArmInArm 2 = .ok (.getfield 55, 3) := by decide +kernel
theorem dX0_goArmInArm_5 : decode cX0_goArmInArm 5 = .ok (.iconst 1, 1) := by decide +kernel
theorem dX0_goArmInArm_6 : decode cX0_goArmInArm 6 = .ok (.iadd, 1) := by decide +kernel
theorem dX0_goArmInArm_7 : decode cX0_goArmInArm 7 = .ok (.putfield 55, 3) := by decide +kernel
theorem dX0_goArmInArm_10 : decode cX0_goArmInArm 10 = .ok (.aload_n 0, 1) := by decide +kernel
theorem dX0_goArmInArm_11 : decode cX0_goArmInArm 11 = .ok (.iload_n 1, 1) := by decide +kernel
theorem dX0_goArmInArm_12 : decode cX0_goArmInArm 12 = .ok (.iload_n 2, 1) := by decide +kernel
theorem dX0_goArmInArm_13 : decode cX0_goArmInArm 13 = .ok (.invokevirtual 141, 3) := by decide +kernel
theorem dX0_goArmInArm_16 : decode cX0_goArmInArm 16 = .ok (.istore_n 3, 1) := by decide +kernel
theorem dX0_goArmInArm_17 : decode cX0_goArmInArm 17 = .ok (.iload_n 3, 1) := by decide +kernel
theorem dX0_goArmInArm_18 : decode cX0_goArmInArm 18 = .ok (.ifCond .ge 22, 3) := by decide +kernel
theorem dX0_goArmInArm_21 : decode cX0_goArmInArm 21 = .ok (.aload_n 0, 1) := by decide +kernel
theorem dX0_goArmInArm_22 : decode cX0_goArmInArm 22 = .ok (.getfield 43, 3) := by decide +kernel
theorem dX0_goArmInArm_25 : decode cX0_goArmInArm 25 = .ok (.iload_n 1, 1) := by decide +kernel
theorem dX0_goArmInArm_26 : decode cX0_goArmInArm 26 = .ok (.iaload, 1) := by decide +kernel
theorem dX0_goArmInArm_27 : decode cX0_goArmInArm 27 = .ok (.aload_n 0, 1) := by decide +kernel
theorem dX0_goArmInArm_28 : decode cX0_goArmInArm 28 = .ok (.getfield 40, 3) := by decide +kernel
theorem dX0_goArmInArm_31 : decode cX0_goArmInArm 31 = .ok (.iload_n 1, 1) := by decide +kernel
theorem dX0_goArmInArm_32 : decode cX0_goArmInArm 32 = .ok (.iaload, 1) := by decide +kernel
theorem dX0_goArmInArm_33 : decode cX0_goArmInArm 33 = .ok (.iconst 1, 1) := by decide +kernel
theorem dX0_goArmInArm_34 : decode cX0_goArmInArm 34 = .ok (.invokestatic 128, 3) := by decide +kernel
theorem dX0_goArmInArm_37 : decode cX0_goArmInArm 37 = .ok (.goto 33, 3) := by decide +kernel
theorem dX0_goArmInArm_40 : decode cX0_goArmInArm 40 = .ok (.aload_n 0, 1) := by decide +kernel
theorem dX0_goArmInArm_41 : decode cX0_goArmInArm 41 = .ok (.getfield 43, 3) := by decide +kernel
theorem dX0_goArmInArm_44 : decode cX0_goArmInArm 44 = .ok (.iload_n 1, 1) := by decide +kernel
theorem dX0_goArmInArm_45 : decode cX0_goArmInArm 45 = .ok (.iaload, 1) := by decide +kernel
theorem dX0_goArmInArm_46 : decode cX0_goArmInArm 46 = .ok (.aload_n 0, 1) := by decide +kernel
theorem dX0_goArmInArm_47 : decode cX0_goArmInArm 47 = .ok (.aload_n 0, 1) := by decide +kernel
theorem dX0_goArmInArm_48 : decode cX0_goArmInArm 48 = .ok (.getfield 46, 3) := by decide +kernel
theorem dX0_goArmInArm_51 : decode cX0_goArmInArm 51 = .ok (.iload_n 3, 1) := by decide +kernel
theorem dX0_goArmInArm_52 : decode cX0_goArmInArm 52 = .ok (.iaload, 1) := by decide +kernel
theorem dX0_goArmInArm_53 : decode cX0_goArmInArm 53 = .ok (.iload_n 3, 1) := by decide +kernel
theorem dX0_goArmInArm_54 : decode cX0_goArmInArm 54 = .ok (.invokevirtual 122, 3) := by decide +kernel
theorem dX0_goArmInArm_57 : decode cX0_goArmInArm 57 = .ok (.aload_n 0, 1) := by decide +kernel
theorem dX0_goArmInArm_58 : decode cX0_goArmInArm 58 = .ok (.aload_n 0, 1) := by decide +kernel
theorem dX0_goArmInArm_59 : decode cX0_goArmInArm 59 = .ok (.getfield 46, 3) := by decide +kernel
theorem dX0_goArmInArm_62 : decode cX0_goArmInArm 62 = .ok (.iload_n 3, 1) := by decide +kernel
theorem dX0_goArmInArm_63 : decode cX0_goArmInArm 63 = .ok (.iaload, 1) := by decide +kernel
theorem dX0_goArmInArm_64 : decode cX0_goArmInArm 64 = .ok (.invokevirtual 125, 3) := by decide +kernel
theorem dX0_goArmInArm_67 : decode cX0_goArmInArm 67 = .ok (.invokestatic 128, 3) := by decide +kernel
theorem dX0_goArmInArm_70 : decode cX0_goArmInArm 70 = .ok (.istore 4, 2) := by decide +kernel
theorem dX0_goArmInArm_72 : decode cX0_goArmInArm 72 = .ok (.aload_n 0, 1) := by decide +kernel
theorem dX0_goArmInArm_73 : decode cX0_goArmInArm 73 = .ok (.getfield 43, 3) := by decide +kernel
theorem dX0_goArmInArm_76 : decode cX0_goArmInArm 76 = .ok (.iload_n 1, 1) := by decide +kernel
theorem dX0_goArmInArm_77 : decode cX0_goArmInArm 77 = .ok (.iload 4, 2) := by decide +kernel
theorem dX0_goArmInArm_79 : decode cX0_goArmInArm 79 = .ok (.iastore, 1) := by decide +kernel
theorem dX0_goArmInArm_80 : decode cX0_goArmInArm 80 = .ok (.aload_n 0, 1) := by decide +kernel
theorem dX0_goArmInArm_81 : decode cX0_goArmInArm 81 = .ok (.getfield 43, 3) := by decide +kernel
theorem dX0_goArmInArm_84 : decode cX0_goArmInArm 84 = .ok (.iload_n 2, 1) := by decide +kernel
theorem dX0_goArmInArm_85 : decode cX0_goArmInArm 85 = .ok (.iload 4, 2) := by decide +kernel
theorem dX0_goArmInArm_87 : decode cX0_goArmInArm 87 = .ok (.iastore, 1) := by decide +kernel
theorem dX0_goArmInArm_88 : decode cX0_goArmInArm 88 = .ok (.return_, 1) := by decide +kernel
theorem dX0_leaderOf_0 : decode cX0_leaderOf 0 = .ok (.aload_n 0, 1) := by decide +kernel
theorem dX0_leaderOf_1 : decode cX0_leaderOf 1 = .ok (.iload_n 1, 1) := by decide +kernel
theorem dX0_leaderOf_2 : decode cX0_leaderOf 2 = .ok (.invokevirtual 119, 3) := by decide +kernel
theorem dX0_leaderOf_5 : decode cX0_leaderOf 5 = .ok (.ifCond .ne 18, 3) := by decide +kernel
theorem dX0_leaderOf_8 : decode cX0_leaderOf 8 = .ok (.aload_n 0, 1) := by decide +kernel
theorem dX0_leaderOf_9 : decode cX0_leaderOf 9 = .ok (.iload_n 2, 1) := by decide +kernel
theorem dX0_leaderOf_10 : decode cX0_leaderOf 10 = .ok (.invokevirtual 119, 3) := by decide +kernel
theorem dX0_leaderOf_13 : decode cX0_leaderOf 13 = .ok (.ifCond .eq 7, 3) := by decide +kernel
theorem dX0_leaderOf_16 : decode cX0_leaderOf 16 = .ok (.iload_n 2, 1) := by decide +kernel
theorem dX0_leaderOf_17 : decode cX0_leaderOf 17 = .ok (.goto 5, 3) := by decide +kernel
theorem dX0_leaderOf_20 : decode cX0_leaderOf 20 = .ok (.bipush (-9), 2) := by decide +kernel
theorem dX0_leaderOf_22 : decode cX0_leaderOf 22 = .ok (.ireturn, 1) := by decide +kernel
theorem dX0_leaderOf_23 : decode cX0_leaderOf 23 = .ok (.aload_n 0, 1) := by decide +kernel
theorem dX0_leaderOf_24 : decode cX0_leaderOf 24 = .ok (.iload_n 2, 1) := by decide +kernel
theorem dX0_leaderOf_25 : decode cX0_leaderOf 25 = .ok (.invokevirtual 119, 3) := by decide +kernel
theorem dX0_leaderOf_28 : decode cX0_leaderOf 28 = .ok (.ifCond .ne 5, 3) := by decide +kernel
theorem dX0_leaderOf_31 : decode cX0_leaderOf 31 = .ok (.iload_n 1, 1) := by decide +kernel
theorem dX0_leaderOf_32 : decode cX0_leaderOf 32 = .ok (.ireturn, 1) := by decide +kernel
theorem dX0_leaderOf_33 : decode cX0_leaderOf 33 = .ok (.aload_n 0, 1) := by decide +kernel
theorem dX0_leaderOf_34 : decode cX0_leaderOf 34 = .ok (.iload_n 2, 1) := by decide +kernel
theorem dX0_leaderOf_35 : decode cX0_leaderOf 35 = .ok (.invokevirtual 144, 3) := by decide +kernel
theorem dX0_leaderOf_38 : decode cX0_leaderOf 38 = .ok (.aload_n 0, 1) := by decide +kernel
theorem dX0_leaderOf_39 : decode cX0_leaderOf 39 = .ok (.iload_n 1, 1) := by decide +kernel
theorem dX0_leaderOf_40 : decode cX0_leaderOf 40 = .ok (.invokevirtual 144, 3) := by decide +kernel
theorem dX0_leaderOf_43 : decode cX0_leaderOf 43 = .ok (.if_icmp .le 7, 3) := by decide +kernel
theorem dX0_leaderOf_46 : decode cX0_leaderOf 46 = .ok (.iload_n 2, 1) := by decide +kernel
theorem dX0_leaderOf_47 : decode cX0_leaderOf 47 = .ok (.goto 4, 3) := by decide +kernel
theorem dX0_leaderOf_50 : decode cX0_leaderOf 50 = .ok (.iload_n 1, 1) := by decide +kernel
theorem dX0_leaderOf_51 : decode cX0_leaderOf 51 = .ok (.ireturn, 1) := by decide +kernel
theorem dX0_aboveWill_0 : decode cX0_aboveWill 0 = .ok (.aload_n 0, 1) := by decide +kernel
theorem dX0_aboveWill_1 : decode cX0_aboveWill 1 = .ok (.aload_n 0, 1) := by decide +kernel
theorem dX0_aboveWill_2 : decode cX0_aboveWill 2 = .ok (.getfield 46, 3) := by decide +kernel
theorem dX0_aboveWill_5 : decode cX0_aboveWill 5 = .ok (.iload_n 1, 1) := by decide +kernel
theorem dX0_aboveWill_6 : decode cX0_aboveWill 6 = .ok (.iaload, 1) := by decide +kernel
theorem dX0_aboveWill_7 : decode cX0_aboveWill 7 = .ok (.invokevirtual 101, 3) := by decide +kernel
theorem dX0_aboveWill_10 : decode cX0_aboveWill 10 = .ok (.aload_n 0, 1) := by decide +kernel
theorem dX0_aboveWill_11 : decode cX0_aboveWill 11 = .ok (.getfield 37, 3) := by decide +kernel
theorem dX0_aboveWill_14 : decode cX0_aboveWill 14 = .ok (.iload_n 1, 1) := by decide +kernel
theorem dX0_aboveWill_15 : decode cX0_aboveWill 15 = .ok (.iaload, 1) := by decide +kernel
theorem dX0_aboveWill_16 : decode cX0_aboveWill 16 = .ok (.isub, 1) := by decide +kernel
theorem dX0_aboveWill_17 : decode cX0_aboveWill 17 = .ok (.ireturn, 1) := by decide +kernel
theorem dX0_bagsHad_0 : decode cX0_bagsHad 0 = .ok (.iconst 0, 1) := by decide +kernel
theorem dX0_bagsHad_1 : decode cX0_bagsHad 1 = .ok (.istore_n 1, 1) := by decide +kernel
theorem dX0_bagsHad_2 : decode cX0_bagsHad 2 = .ok (.iconst 0, 1) := by decide +kernel
theorem dX0_bagsHad_3 : decode cX0_bagsHad 3 = .ok (.istore_n 2, 1) := by decide +kernel
theorem dX0_bagsHad_4 : decode cX0_bagsHad 4 = .ok (.iload_n 2, 1) := by decide +kernel
theorem dX0_bagsHad_5 : decode cX0_bagsHad 5 = .ok (.aload_n 0, 1) := by decide +kernel
theorem dX0_bagsHad_6 : decode cX0_bagsHad 6 = .ok (.getfield 9, 3) := by decide +kernel
theorem dX0_bagsHad_9 : decode cX0_bagsHad 9 = .ok (.if_icmp .ge 21, 3) := by decide +kernel
theorem dX0_bagsHad_12 : decode cX0_bagsHad 12 = .ok (.aload_n 0, 1) := by decide +kernel
theorem dX0_bagsHad_13 : decode cX0_bagsHad 13 = .ok (.getfield 31, 3) := by decide +kernel
theorem dX0_bagsHad_16 : decode cX0_bagsHad 16 = .ok (.iload_n 2, 1) := by decide +kernel
theorem dX0_bagsHad_17 : decode cX0_bagsHad 17 = .ok (.iaload, 1) := by decide +kernel
theorem dX0_bagsHad_18 : decode cX0_bagsHad 18 = .ok (.ifCond .lt 6, 3) := by decide +kernel
theorem dX0_bagsHad_21 : decode cX0_bagsHad 21 = .ok (.iinc 1 1, 3) := by decide +kernel
theorem dX0_bagsHad_24 : decode cX0_bagsHad 24 = .ok (.iinc 2 1, 3) := by decide +kernel
theorem dX0_bagsHad_27 : decode cX0_bagsHad 27 = .ok (.goto (-23), 3) := by decide +kernel
theorem dX0_bagsHad_30 : decode cX0_bagsHad 30 = .ok (.iload_n 1, 1) := by decide +kernel
theorem dX0_bagsHad_31 : decode cX0_bagsHad 31 = .ok (.ireturn, 1) := by decide +kernel
theorem dX0_allBreath_0 : decode cX0_allBreath 0 = .ok (.iconst 0, 1) := by decide +kernel
theorem dX0_allBreath_1 : decode cX0_allBreath 1 = .ok (.istore_n 1, 1) := by decide +kernel
theorem dX0_allBreath_2 : decode cX0_allBreath 2 = .ok (.iconst 0, 1) := by decide +kernel
theorem dX0_allBreath_3 : decode cX0_allBreath 3 = .ok (.istore_n 2, 1) := by decide +kernel
theorem dX0_allBreath_4 : decode cX0_allBreath 4 = .ok (.iload_n 2, 1) := by decide +kernel
theorem dX0_allBreath_5 : decode cX0_allBreath 5 = .ok (.aload_n 0, 1) := by decide +kernel
theorem dX0_allBreath_6 : decode cX0_allBreath 6 = .ok (.getfield 34, 3) := by decide +kernel
theorem dX0_allBreath_9 : decode cX0_allBreath 9 = .ok (.if_icmp .ge 18, 3) := by decide +kernel
theorem dX0_allBreath_12 : decode cX0_allBreath 12 = .ok (.iload_n 1, 1) := by decide +kernel
theorem dX0_allBreath_13 : decode cX0_allBreath 13 = .ok (.aload_n 0, 1) := by decide +kernel
theorem dX0_allBreath_14 : decode cX0_allBreath 14 = .ok (.getfield 49, 3) := by decide +kernel
theorem dX0_allBreath_17 : decode cX0_allBreath 17 = .ok (.iload_n 2, 1) := by decide +kernel
theorem dX0_allBreath_18 : decode cX0_allBreath 18 = .ok (.iaload, 1) := by decide +kernel
theorem dX0_allBreath_19 : decode cX0_allBreath 19 = .ok (.iadd, 1) := by decide +kernel
theorem dX0_allBreath_20 : decode cX0_allBreath 20 = .ok (.istore_n 1, 1) := by decide +kernel
theorem dX0_allBreath_21 : decode cX0_allBreath 21 = .ok (.iinc 2 1, 3) := by decide +kernel
theorem dX0_allBreath_24 : decode cX0_allBreath 24 = .ok (.goto (-20), 3) := by decide +kernel
theorem dX0_allBreath_27 : decode cX0_allBreath 27 = .ok (.iload_n 1, 1) := by decide +kernel
theorem dX0_allBreath_28 : decode cX0_allBreath 28 = .ok (.ireturn, 1) := by decide +kernel
theorem dX0_ledOnes_0 : decode cX0_ledOnes 0 = .ok (.iconst 0, 1) := by decide +kernel
theorem dX0_ledOnes_1 : decode cX0_ledOnes 1 = .ok (.istore_n 1, 1) := by decide +kernel
theorem dX0_ledOnes_2 : decode cX0_ledOnes 2 = .ok (.iconst 0, 1) := by decide +kernel
theorem dX0_ledOnes_3 : decode cX0_ledOnes 3 = .ok (.istore_n 2, 1) := by decide +kernel
theorem dX0_ledOnes_4 : decode cX0_ledOnes 4 = .ok (.iload_n 2, 1) := by decide +kernel
theorem dX0_ledOnes_5 : decode cX0_ledOnes 5 = .ok (.aload_n 0, 1) := by decide +kernel
theorem dX0_ledOnes_6 : decode cX0_ledOnes 6 = .ok (.getfield 34, 3) := by decide +kernel
theorem dX0_ledOnes_9 : decode cX0_ledOnes 9 = .ok (.if_icmp .ge 20, 3) := by decide +kernel
theorem dX0_ledOnes_12 : decode cX0_ledOnes 12 = .ok (.aload_n 0, 1) := by decide +kernel
theorem dX0_ledOnes_13 : decode cX0_ledOnes 13 = .ok (.iload_n 2, 1) := by decide +kernel
theorem dX0_ledOnes_14 : decode cX0_ledOnes 14 = .ok (.invokevirtual 119, 3) := by decide +kernel
theorem dX0_ledOnes_17 : decode cX0_ledOnes 17 = .ok (.ifCond .eq 6, 3) := by decide +kernel
theorem dX0_ledOnes_20 : decode cX0_ledOnes 20 = .ok (.iinc 1 1, 3) := by decide +kernel
theorem dX0_ledOnes_23 : decode cX0_ledOnes 23 = .ok (.iinc 2 1, 3) := by decide +kernel
theorem dX0_ledOnes_26 : decode cX0_ledOnes 26 = .ok (.goto (-22), 3) := by decide +kernel
theorem dX0_ledOnes_29 : decode cX0_ledOnes 29 = .ok (.iload_n 1, 1) := by decide +kernel
theorem dX0_ledOnes_30 : decode cX0_ledOnes 30 = .ok (.ireturn, 1) := by decide +kernel
theorem dX0_allLedHours_0 : decode cX0_allLedHours 0 = .ok (.iconst 0, 1) := by decide +kernel
theorem dX0_allLedHours_1 : decode cX0_allLedHours 1 = .ok (.istore_n 1, 1) := by decide +kernel
theorem dX0_allLedHours_2 : decode cX0_allLedHours 2 = .ok (.iconst 0, 1) := by decide +kernel
theorem dX0_allLedHours_3 : decode cX0_allLedHours 3 = .ok (.istore_n 2, 1) := by decide +kernel
theorem dX0_allLedHours_4 : decode cX0_allLedHours 4 = .ok (.iload_n 2, 1) := by decide +kernel
theorem dX0_allLedHours_5 : decode cX0_allLedHours 5 = .ok (.aload_n 0, 1) := by decide +kernel
theorem dX0_allLedHours_6 : decode cX0_allLedHours 6 = .ok (.getfield 34, 3) := by decide +kernel
theorem dX0_allLedHours_9 : decode cX0_allLedHours 9 = .ok (.if_icmp .ge 18, 3) := by decide +kernel
theorem dX0_allLedHours_12 : decode cX0_allLedHours 12 = .ok (.iload_n 1, 1) := by decide +kernel
theorem dX0_allLedHours_13 : decode cX0_allLedHours 13 = .ok (.aload_n 0, 1) := by decide +kernel
theorem dX0_allLedHours_14 : decode cX0_allLedHours 14 = .ok (.getfield 58, 3) := by decide +kernel
theorem dX0_allLedHours_17 : decode cX0_allLedHours 17 = .ok (.iload_n 2, 1) := by decide +kernel
theorem dX0_allLedHours_18 : decode cX0_allLedHours 18 = .ok (.iaload, 1) := by decide +kernel
theorem dX0_allLedHours_19 : decode cX0_allLedHours 19 = .ok (.iadd, 1) := by decide +kernel
theorem dX0_allLedHours_20 : decode cX0_allLedHours 20 = .ok (.istore_n 1, 1) := by decide +kernel
theorem dX0_allLedHours_21 : decode cX0_allLedHours 21 = .ok (.iinc 2 1, 3) := by decide +kernel
theorem dX0_allLedHours_24 : decode cX0_allLedHours 24 = .ok (.goto (-20), 3) := by decide +kernel
theorem dX0_allLedHours_27 : decode cX0_allLedHours 27 = .ok (.iload_n 1, 1) := by decide +kernel
theorem dX0_allLedHours_28 : decode cX0_allLedHours 28 = .ok (.ireturn, 1) := by decide +kernel
theorem dX0_allAtOnePlace_0 : decode cX0_allAtOnePlace 0 = .ok (.iconst 1, 1) := by decide +kernel
theorem dX0_allAtOnePlace_1 : decode cX0_allAtOnePlace 1 = .ok (.istore_n 1, 1) := by decide +kernel
theorem dX0_allAtOnePlace_2 : decode cX0_allAtOnePlace 2 = .ok (.iload_n 1, 1) := by decide +kernel
theorem dX0_allAtOnePlace_3 : decode cX0_allAtOnePlace 3 = .ok (.aload_n 0, 1) := by decide +kernel
theorem dX0_allAtOnePlace_4 : decode cX0_allAtOnePlace 4 = .ok (.getfield 34, 3) := by decide +kernel
theorem dX0_allAtOnePlace_7 : decode cX0_allAtOnePlace 7 = .ok (.if_icmp .ge 26, 3) := by decide +kernel
theorem dX0_allAtOnePlace_10 : decode cX0_allAtOnePlace 10 = .ok (.aload_n 0, 1) := by decide +kernel
theorem dX0_allAtOnePlace_11 : decode cX0_allAtOnePlace 11 = .ok (.getfield 43, 3) := by decide +kernel
theorem dX0_allAtOnePlace_14 : decode cX0_allAtOnePlace 14 = .ok (.iload_n 1, 1) := by decide +kernel
theorem dX0_allAtOnePlace_15 : decode cX0_allAtOnePlace 15 = .ok (.iaload, 1) := by decide +kernel
theorem dX0_allAtOnePlace_16 : decode cX0_allAtOnePlace 16 = .ok (.aload_n 0, 1) := by decide +kernel
theorem dX0_allAtOnePlace_17 : decode cX0_allAtOnePlace 17 = .ok (.getfield 43, 3) := by decide +kernel
theorem dX0_allAtOnePlace_20 : decode cX0_allAtOnePlace 20 = .ok (.iconst 0, 1) := by decide +kernel
theorem dX0_allAtOnePlace_21 : decode cX0_allAtOnePlace 21 = .ok (.iaload, 1) := by decide +kernel
theorem dX0_allAtOnePlace_22 : decode cX0_allAtOnePlace 22 = .ok (.if_icmp .eq 5, 3) := by decide +kernel
theorem dX0_allAtOnePlace_25 : decode cX0_allAtOnePlace 25 = .ok (.iconst 0, 1) := by decide +kernel
theorem dX0_allAtOnePlace_26 : decode cX0_allAtOnePlace 26 = .ok (.ireturn, 1) := by decide +kernel
theorem dX0_allAtOnePlace_27 : decode cX0_allAtOnePlace 27 = .ok (.iinc 1 1, 3) := by decide +kernel
theorem dX0_allAtOnePlace_30 : decode cX0_allAtOnePlace 30 = .ok (.goto (-28), 3) := by decide +kernel
theorem dX0_allAtOnePlace_33 : decode cX0_allAtOnePlace 33 = .ok (.iconst 1, 1) := by decide +kernel
theorem dX0_allAtOnePlace_34 : decode cX0_allAtOnePlace 34 = .ok (.ireturn, 1) := by decide +kernel
theorem dX0_rankOfBearer_0 : decode cX0_rankOfBearer 0 = .ok (.iconst 0, 1) := by decide +kernel
theorem dX0_rankOfBearer_1 : decode cX0_rankOfBearer 1 = .ok (.istore_n 2, 1) := by decide +kernel
theorem dX0_rankOfBearer_2 : decode cX0_rankOfBearer 2 = .ok (.iconst 0, 1) := by decide +kernel
theorem dX0_rankOfBearer_3 : decode cX0_rankOfBearer 3 = .ok (.istore_n 3, 1) := by decide +kernel
theorem dX0_rankOfBearer_4 : decode cX0_rankOfBearer 4 = .ok (.iload_n 3, 1) := by decide +kernel
theorem dX0_rankOfBearer_5 : decode cX0_rankOfBearer 5 = .ok (.aload_n 0, 1) := by decide +kernel
theorem dX0_rankOfBearer_6 : decode cX0_rankOfBearer 6 = .ok (.getfield 34, 3) := by decide +kernel
theorem dX0_rankOfBearer_9 : decode cX0_rankOfBearer 9 = .ok (.if_icmp .ge 47, 3) := by decide +kernel
theorem dX0_rankOfBearer_12 : decode cX0_rankOfBearer 12 = .ok (.aload_n 0, 1) := by decide +kernel
theorem dX0_rankOfBearer_13 : decode cX0_rankOfBearer 13 = .ok (.getfield 37, 3) := by decide +kernel
theorem dX0_rankOfBearer_16 : decode cX0_rankOfBearer 16 = .ok (.iload_n 3, 1) := by decide +kernel
theorem dX0_rankOfBearer_17 : decode cX0_rankOfBearer 17 = .ok (.iaload, 1) := by decide +kernel
theorem dX0_rankOfBearer_18 : decode cX0_rankOfBearer 18 = .ok (.aload_n 0, 1) := by decide +kernel
theorem dX0_rankOfBearer_19 : decode cX0_rankOfBearer 19 = .ok (.getfield 37, 3) := by decide +kernel
theorem dX0_rankOfBearer_22 : decode cX0_rankOfBearer 22 = .ok (.iload_n 1, 1) := by decide +kernel
theorem dX0_rankOfBearer_23 : decode cX0_rankOfBearer 23 = .ok (.iaload, 1) := by decide +kernel
theorem dX0_rankOfBearer_24 : decode cX0_rankOfBearer 24 = .ok (.if_icmp .lt 23, 3) := by decide +kernel
theorem dX0_rankOfBearer_27 : decode cX0_rankOfBearer 27 = .ok (.aload_n 0, 1) := by decide +kernel
theorem dX0_rankOfBearer_28 : decode cX0_rankOfBearer 28 = .ok (.getfield 37, 3) := by decide +kernel
theorem dX0_rankOfBearer_31 : decode cX0_rankOfBearer 31 = .ok (.iload_n 3, 1) := by decide +kernel
theorem dX0_rankOfBearer_32 : decode cX0_rankOfBearer 32 = .ok (.iaload, 1) := by decide +kernel
theorem dX0_rankOfBearer_33 : decode cX0_rankOfBearer 33 = .ok (.aload_n 0, 1) := by decide +kernel
theorem dX0_rankOfBearer_34 : decode cX0_rankOfBearer 34 = .ok (.getfield 37, 3) := by decide +kernel
theorem dX0_rankOfBearer_37 : decode cX0_rankOfBearer 37 = .ok (.iload_n 1, 1) := by decide +kernel
theorem dX0_rankOfBearer_38 : decode cX0_rankOfBearer 38 = .ok (.iaload, 1) := by decide +kernel
theorem dX0_rankOfBearer_39 : decode cX0_rankOfBearer 39 = .ok (.if_icmp .ne 11, 3) := by decide +kernel
theorem dX0_rankOfBearer_42 : decode cX0_rankOfBearer 42 = .ok (.iload_n 3, 1) := by decide +kernel
theorem dX0_rankOfBearer_43 : decode cX0_rankOfBearer 43 = .ok (.iload_n 1, 1) := by decide +kernel
theorem dX0_rankOfBearer_44 : decode cX0_rankOfBearer 44 = .ok (.if_icmp .ge 6, 3) := by decide +kernel
theorem dX0_rankOfBearer_47 : decode cX0_rankOfBearer 47 = .ok (.iinc 2 1, 3) := by decide +kernel
theorem dX0_rankOfBearer_50 : decode cX0_rankOfBearer 50 = .ok (.iinc 3 1, 3) := by decide +kernel
theorem dX0_rankOfBearer_53 : decode cX0_rankOfBearer 53 = .ok (.goto (-49), 3) := by decide +kernel
theorem dX0_rankOfBearer_56 : decode cX0_rankOfBearer 56 = .ok (.iload_n 2, 1) := by decide +kernel
theorem dX0_rankOfBearer_57 : decode cX0_rankOfBearer 57 = .ok (.ireturn, 1) := by decide +kernel
theorem dX0_bearerRanked_0 : decode cX0_bearerRanked 0 = .ok (.iconst 0, 1) := by decide +kernel
theorem dX0_bearerRanked_1 : decode cX0_bearerRanked 1 = .ok (.istore_n 2, 1) := by decide +kernel
theorem dX0_bearerRanked_2 : decode cX0_bearerRanked 2 = .ok (.iload_n 2, 1) := by decide +kernel
theorem dX0_bearerRanked_3 : decode cX0_bearerRanked 3 = .ok (.aload_n 0, 1) := by decide +kernel
theorem dX0_bearerRanked_4 : decode cX0_bearerRanked 4 = .ok (.getfield 34, 3) := by decide +kernel
theorem dX0_bearerRanked_7 : decode cX0_bearerRanked 7 = .ok (.if_icmp .ge 20, 3) := by decide +kernel
theorem dX0_bearerRanked_10 : decode cX0_bearerRanked 10 = .ok (.aload_n 0, 1) := by decide +kernel
theorem dX0_bearerRanked_11 : decode cX0_bearerRanked 11 = .ok (.iload_n 2, 1) := by decide +kernel
theorem dX0_bearerRanked_12 : decode cX0_bearerRanked 12 = .ok (.invokevirtual 147, 3) := by decide +kernel
theorem dX0_bearerRanked_15 : decode cX0_bearerRanked 15 = .ok (.iload_n 1, 1) := by decide +kernel
theorem dX0_bearerRanked_16 : decode cX0_bearerRanked 16 = .ok (.if_icmp .ne 5, 3) := by decide +kernel
theorem dX0_bearerRanked_19 : decode cX0_bearerRanked 19 = .ok (.iload_n 2, 1) := by decide +kernel
theorem dX0_bearerRanked_20 : decode cX0_bearerRanked 20 = .ok (.ireturn, 1) := by decide +kernel
theorem dX0_bearerRanked_21 : decode cX0_bearerRanked 21 = .ok (.iinc 2 1, 3) := by decide +kernel
theorem dX0_bearerRanked_24 : decode cX0_bearerRanked 24 = .ok (.goto (-22), 3) := by decide +kernel
theorem dX0_bearerRanked_27 : decode cX0_bearerRanked 27 = .ok (.bipush (-9), 2) := by decide +kernel
theorem dX0_bearerRanked_29 : decode cX0_bearerRanked 29 = .ok (.ireturn, 1) := by decide +kernel
theorem dX0_rankOfBag_0 : decode cX0_rankOfBag 0 = .ok (.iconst 0, 1) := by decide +kernel
theorem dX0_rankOfBag_1 : decode cX0_rankOfBag 1 = .ok (.istore_n 2, 1) := by decide +kernel
theorem dX0_rankOfBag_2 : decode cX0_rankOfBag 2 = .ok (.iconst 0, 1) := by decide +kernel
theorem dX0_rankOfBag_3 : decode cX0_rankOfBag 3 = .ok (.istore_n 3, 1) := by decide +kernel
theorem dX0_rankOfBag_4 : decode cX0_rankOfBag 4 = .ok (.iload_n 3, 1) := by decide +kernel
theorem dX0_rankOfBag_5 : decode cX0_rankOfBag 5 = .ok (.aload_n 0, 1) := by decide +kernel
theorem dX0_rankOfBag_6 : decode cX0_rankOfBag 6 = .ok (.getfield 9, 3) := by decide +kernel
theorem dX0_rankOfBag_9 : decode cX0_rankOfBag 9 = .ok (.if_icmp .ge 42, 3) := by decide +kernel
theorem dX0_rankOfBag_12 : decode cX0_rankOfBag 12 = .ok (.aload_n 0, 1) := by decide +kernel
theorem dX0_rankOfBag_13 : decode cX0_rankOfBag 13 = .ok (.iload_n 3, 1) := by decide +kernel
theorem dX0_rankOfBag_14 : decode cX0_rankOfBag 14 = .ok (.invokevirtual 150, 3) := by decide +kernel
theorem dX0_rankOfBag_17 : decode cX0_rankOfBag 17 = .ok (.aload_n 0, 1) := by decide +kernel
theorem dX0_rankOfBag_18 : decode cX0_rankOfBag 18 = .ok (.iload_n 1, 1) := by decide +kernel
theorem dX0_rankOfBag_19 : decode cX0_rankOfBag 19 = .ok (.invokevirtual 150, 3) := by decide +kernel
theorem dX0_rankOfBag_22 : decode cX0_rankOfBag 22 = .ok (.invokestatic 153, 3) := by decide +kernel
theorem dX0_rankOfBag_25 : decode cX0_rankOfBag 25 = .ok (.istore 4, 2) := by decide +kernel
theorem dX0_rankOfBag_27 : decode cX0_rankOfBag 27 = .ok (.iload 4, 2) := by decide +kernel
theorem dX0_rankOfBag_29 : decode cX0_rankOfBag 29 = .ok (.ifCond .lt 13, 3) := by decide +kernel
theorem dX0_rankOfBag_32 : decode cX0_rankOfBag 32 = .ok (.iload 4, 2) := by decide +kernel
theorem dX0_rankOfBag_34 : decode cX0_rankOfBag 34 = .ok (.ifCond .ne 11, 3) := by decide +kernel
theorem dX0_rankOfBag_37 : decode cX0_rankOfBag 37 = .ok (.iload_n 3, 1) := by decide +kernel
theorem dX0_rankOfBag_38 : decode cX0_rankOfBag 38 = .ok (.iload_n 1, 1) := by decide +kernel
theorem dX0_rankOfBag_39 : decode cX0_rankOfBag 39 = .ok (.if_icmp .ge 6, 3) := by decide +kernel
theorem dX0_rankOfBag_42 : decode cX0_rankOfBag 42 = .ok (.iinc 2 1, 3) := by decide +kernel
theorem dX0_rankOfBag_45 : decode cX0_rankOfBag 45 = .ok (.iinc 3 1, 3) := by decide +kernel
theorem dX0_rankOfBag_48 : decode cX0_rankOfBag 48 = .ok (.goto (-44), 3) := by decide +kernel
theorem dX0_rankOfBag_51 : decode cX0_rankOfBag 51 = .ok (.iload_n 2, 1) := by decide +kernel
theorem dX0_rankOfBag_52 : decode cX0_rankOfBag 52 = .ok (.ireturn, 1) := by decide +kernel
theorem dX0_bagRanked_0 : decode cX0_bagRanked 0 = .ok (.iconst 0, 1) := by decide +kernel
theorem dX0_bagRanked_1 : decode cX0_bagRanked 1 = .ok (.istore_n 2, 1) := by decide +kernel
theorem dX0_bagRanked_2 : decode cX0_bagRanked 2 = .ok (.iload_n 2, 1) := by decide +kernel
theorem dX0_bagRanked_3 : decode cX0_bagRanked 3 = .ok (.aload_n 0, 1) := by decide +kernel
theorem dX0_bagRanked_4 : decode cX0_bagRanked 4 = .ok (.getfield 9, 3) := by decide +kernel
theorem dX0_bagRanked_7 : decode cX0_bagRanked 7 = .ok (.if_icmp .ge 20, 3) := by decide +kernel
theorem dX0_bagRanked_10 : decode cX0_bagRanked 10 = .ok (.aload_n 0, 1) := by decide +kernel
theorem dX0_bagRanked_11 : decode cX0_bagRanked 11 = .ok (.iload_n 2, 1) := by decide +kernel
theorem dX0_bagRanked_12 : decode cX0_bagRanked 12 = .ok (.invokevirtual 158, 3) := by decide +kernel
theorem dX0_bagRanked_15 : decode cX0_bagRanked 15 = .ok (.iload_n 1, 1) := by decide +kernel
theorem dX0_bagRanked_16 : decode cX0_bagRanked 16 = .ok (.if_icmp .ne 5, 3) := by decide +kernel
theorem dX0_bagRanked_19 : decode cX0_bagRanked 19 = .ok (.iload_n 2, 1) := by decide +kernel
theorem dX0_bagRanked_20 : decode cX0_bagRanked 20 = .ok (.ireturn, 1) := by decide +kernel
theorem dX0_bagRanked_21 : decode cX0_bagRanked 21 = .ok (.iinc 2 1, 3) := by decide +kernel
theorem dX0_bagRanked_24 : decode cX0_bagRanked 24 = .ok (.goto (-22), 3) := by decide +kernel
theorem dX0_bagRanked_27 : decode cX0_bagRanked 27 = .ok (.bipush (-9), 2) := by decide +kernel
theorem dX0_bagRanked_29 : decode cX0_bagRanked 29 = .ok (.ireturn, 1) := by decide +kernel
theorem dX1_start_0 : decode cX1_start 0 = .ok (.aload_n 0, 1) := by decide +kernel
theorem dX1_start_1 : decode cX1_start 1 = .ok (.iload_n 1, 1) := by decide +kernel
theorem dX1_start_2 : decode cX1_start 2 = .ok (.putfield 18, 3) := by decide +kernel
theorem dX1_start_5 : decode cX1_start 5 = .ok (.aload_n 0, 1) := by decide +kernel
theorem dX1_start_6 : decode cX1_start 6 = .ok (.iload_n 2, 1) := by decide +kernel
theorem dX1_start_7 : decode cX1_start 7 = .ok (.iconst 4, 1) := by decide +kernel
theorem dX1_start_8 : decode cX1_start 8 = .ok (.invokestatic 28, 3) := by decide +kernel
theorem dX1_start_11 : decode cX1_start 11 = .ok (.putfield 22, 3) := by decide +kernel
theorem dX1_start_14 : decode cX1_start 14 = .ok (.aload_n 0, 1) := by decide +kernel
theorem dX1_start_15 : decode cX1_start 15 = .ok (.iconst 1, 1) := by decide +kernel
theorem dX1_start_16 : decode cX1_start 16 = .ok (.putfield 25, 3) := by decide +kernel
theorem dX1_start_19 : decode cX1_start 19 = .ok (.iconst 0, 1) := by decide +kernel
theorem dX1_start_20 : decode cX1_start 20 = .ok (.istore_n 3, 1) := by decide +kernel
theorem dX1_start_21 : decode cX1_start 21 = .ok (.iload_n 3, 1) := by decide +kernel
theorem dX1_start_22 : decode cX1_start 22 = .ok (.aload_n 0, 1) := by decide +kernel
theorem dX1_start_23 : decode cX1_start 23 = .ok (.getfield 22, 3) := by decide +kernel
theorem dX1_start_26 : decode cX1_start 26 = .ok (.if_icmp .ge 24, 3) := by decide +kernel
theorem dX1_start_29 : decode cX1_start 29 = .ok (.aload_n 0, 1) := by decide +kernel
theorem dX1_start_30 : decode cX1_start 30 = .ok (.dup, 1) := by decide +kernel
theorem dX1_start_31 : decode cX1_start 31 = .ok (.getfield 25, 3) := by decide +kernel
theorem dX1_start_34 : decode cX1_start 34 = .ok (.aload_n 0, 1) := by decide +kernel
theorem dX1_start_35 : decode cX1_start 35 = .ok (.getfield 18, 3) := by decide +kernel
theorem dX1_start_38 : decode cX1_start 38 = .ok (.iconst 1, 1) := by decide +kernel
theorem dX1_start_39 : decode cX1_start 39 = .ok (.iadd, 1) := by decide +kernel
theorem dX1_start_40 : decode cX1_start 40 = .ok (.imul, 1) := by decide +kernel
theorem dX1_start_41 : decode cX1_start 41 = .ok (.putfield 25, 3) := by decide +kernel
theorem dX1_start_44 : decode cX1_start 44 = .ok (.iinc 3 1, 3) := by decide +kernel
theorem dX1_start_47 : decode cX1_start 47 = .ok (.goto (-26), 3) := by decide +kernel
theorem dX1_start_50 : decode cX1_start 50 = .ok (.return_, 1) := by decide +kernel
theorem dX1_decode_0 : decode cX1_decode 0 = .ok (.iload_n 1, 1) := by decide +kernel
theorem dX1_decode_1 : decode cX1_decode 1 = .ok (.istore_n 2, 1) := by decide +kernel
theorem dX1_decode_2 : decode cX1_decode 2 = .ok (.iconst 0, 1) := by decide +kernel
theorem dX1_decode_3 : decode cX1_decode 3 = .ok (.istore_n 3, 1) := by decide +kernel
theorem dX1_decode_4 : decode cX1_decode 4 = .ok (.iconst 0, 1) := by decide +kernel
theorem dX1_decode_5 : decode cX1_decode 5 = .ok (.istore 4, 2) := by decide +kernel
theorem dX1_decode_7 : decode cX1_decode 7 = .ok (.iconst 1, 1) := by decide +kernel
theorem dX1_decode_8 : decode cX1_decode 8 = .ok (.aload_n 0, 1) := by decide +kernel
theorem dX1_decode_9 : decode cX1_decode 9 = .ok (.getfield 18, 3) := by decide +kernel
theorem dX1_decode_12 : decode cX1_decode 12 = .ok (.iconst 1, 1) := by decide +kernel
theorem dX1_decode_13 : decode cX1_decode 13 = .ok (.iadd, 1) := by decide +kernel
theorem dX1_decode_14 : decode cX1_decode 14 = .ok (.invokestatic 34, 3) := by decide +kernel
theorem dX1_decode_17 : decode cX1_decode 17 = .ok (.istore 5, 2) := by decide +kernel
theorem dX1_decode_19 : decode cX1_decode 19 = .ok (.aload_n 0, 1) := by decide +kernel
theorem dX1_decode_20 : decode cX1_decode 20 = .ok (.getfield 22, 3) := by decide +kernel
theorem dX1_decode_23 : decode cX1_decode 23 = .ok (.iconst 1, 1) := by decide +kernel
theorem dX1_decode_24 : decode cX1_decode 24 = .ok (.isub, 1) := by decide +kernel
theorem dX1_decode_25 : decode cX1_decode 25 = .ok (.istore 6, 2) := by decide +kernel
theorem dX1_decode_27 : decode cX1_decode 27 = .ok (.iload 6, 2) := by decide +kernel
theorem dX1_decode_29 : decode cX1_decode 29 = .ok (.ifCond .lt 77, 3) := by decide +kernel
theorem dX1_decode_32 : decode cX1_decode 32 = .ok (.iload_n 2, 1) := by decide +kernel
theorem dX1_decode_33 : decode cX1_decode 33 = .ok (.iload 5, 2) := by decide +kernel
theorem dX1_decode_35 : decode cX1_decode 35 = .ok (.irem, 1) := by decide +kernel
theorem dX1_decode_36 : decode cX1_decode 36 = .ok (.istore 7, 2) := by decide +kernel
theorem dX1_decode_38 : decode cX1_decode 38 = .ok (.iload_n 2, 1) := by decide +kernel
theorem dX1_decode_39 : decode cX1_decode 39 = .ok (.iload 5, 2) := by decide +kernel
theorem dX1_decode_41 : decode cX1_decode 41 = .ok (.idiv, 1) := by decide +kernel
theorem dX1_decode_42 : decode cX1_decode 42 = .ok (.istore_n 2, 1) := by decide +kernel
theorem dX1_decode_43 : decode cX1_decode 43 = .ok (.iload 7, 2) := by decide +kernel
theorem dX1_decode_45 : decode cX1_decode 45 = .ok (.aload_n 0, 1) := by decide +kernel
theorem dX1_decode_46 : decode cX1_decode 46 = .ok (.getfield 18, 3) := by decide +kernel
theorem dX1_decode_49 : decode cX1_decode 49 = .ok (.if_icmp .ne 9, 3) := by decide +kernel
theorem dX1_decode_52 : decode cX1_decode 52 = .ok (.iinc 4 1, 3) := by decide +kernel
theorem dX1_decode_55 : decode cX1_decode 55 = .ok (.goto 15, 3) := by decide +kernel
theorem dX1_decode_58 : decode cX1_decode 58 = .ok (.iload_n 3, 1) := by decide +kernel
theorem dX1_decode_59 : decode cX1_decode 59 = .ok (.iload 7, 2) := by decide +kernel
theorem dX1_decode_61 : decode cX1_decode 61 = .ok (.ishr, 1) := by decide +kernel
theorem dX1_decode_62 : decode cX1_decode 62 = .ok (.iconst 1, 1) := by decide +kernel
theorem dX1_decode_63 : decode cX1_decode 63 = .ok (.iand, 1) := by decide +kernel
theorem dX1_decode_64 : decode cX1_decode 64 = .ok (.iconst 1, 1) := by decide +kernel
theorem dX1_decode_65 : decode cX1_decode 65 = .ok (.if_icmp .ne 5, 3) := by decide +kernel
theorem dX1_decode_68 : decode cX1_decode 68 = .ok (.iconst 0, 1) := by decide +kernel
theorem dX1_decode_69 : decode cX1_decode 69 = .ok (.ireturn, 1) := by decide +kernel
theorem dX1_decode_70 : decode cX1_decode 70 = .ok (.iload_n 3, 1) := by decide +kernel
theorem dX1_decode_71 : decode cX1_decode 71 = .ok (.iconst 1, 1) := by decide +kernel
theorem dX1_decode_72 : decode cX1_decode 72 = .ok (.iload 7, 2) := by decide +kernel
theorem dX1_decode_74 : decode cX1_decode 74 = .ok (.ishl, 1) := by decide +kernel
theorem dX1_decode_75 : decode cX1_decode 75 = .ok (.ior, 1) := by decide +kernel
theorem dX1_decode_76 : decode cX1_decode 76 = .ok (.istore_n 3, 1) := by decide +kernel
theorem dX1_decode_77 : decode cX1_decode 77 = .ok (.aload_n 0, 1) := by decide +kernel
theorem dX1_decode_78 : decode cX1_decode 78 = .ok (.getfield 9, 3) := by decide +kernel
theorem dX1_decode_81 : decode cX1_decode 81 = .ok (.iload 6, 2) := by decide +kernel
theorem dX1_decode_83 : decode cX1_decode 83 = .ok (.iload 7, 2) := by decide +kernel
theorem dX1_decode_85 : decode cX1_decode 85 = .ok (.aload_n 0, 1) := by decide +kernel
theorem dX1_decode_86 : decode cX1_decode 86 = .ok (.getfield 18, 3) := by decide +kernel
theorem dX1_decode_89 : decode cX1_decode 89 = .ok (.if_icmp .ne 8, 3) := by decide +kernel
theorem dX1_decode_92 : decode cX1_decode 92 = .ok (.bipush (-9), 2) := by decide +kernel
theorem dX1_decode_94 : decode cX1_decode 94 = .ok (.goto 5, 3) := by decide +kernel
theorem dX1_decode_97 : decode cX1_decode 97 = .ok (.iload 7, 2) := by decide +kernel
theorem dX1_decode_99 : decode cX1_decode 99 = .ok (.iastore, 1) := by decide +kernel
theorem dX1_decode_100 : decode cX1_decode 100 = .ok (.iinc 6 (-1), 3) := by decide +kernel
theorem dX1_decode_103 : decode cX1_decode 103 = .ok (.goto (-76), 3) := by decide +kernel
theorem dX1_decode_106 : decode cX1_decode 106 = .ok (.iload 4, 2) := by decide +kernel
theorem dX1_decode_108 : decode cX1_decode 108 = .ok (.iconst 0, 1) := by decide +kernel
theorem dX1_decode_109 : decode cX1_decode 109 = .ok (.aload_n 0, 1) := by decide +kernel
theorem dX1_decode_110 : decode cX1_decode 110 = .ok (.getfield 22, 3) := by decide +kernel
theorem dX1_decode_113 : decode cX1_decode 113 = .ok (.aload_n 0, 1) := by decide +kernel
theorem dX1_decode_114 : decode cX1_decode 114 = .ok (.getfield 18, 3) := by decide +kernel
theorem dX1_decode_117 : decode cX1_decode 117 = .ok (.isub, 1) := by decide +kernel
theorem dX1_decode_118 : decode cX1_decode 118 = .ok (.invokestatic 34, 3) := by decide +kernel
theorem dX1_decode_121 : decode cX1_decode 121 = .ok (.if_icmp .ne 7, 3) := by decide +kernel
theorem dX1_decode_124 : decode cX1_decode 124 = .ok (.iconst 1, 1) := by decide +kernel
theorem dX1_decode_125 : decode cX1_decode 125 = .ok (.goto 4, 3) := by decide +kernel
theorem dX1_decode_128 : decode cX1_decode 128 = .ok (.iconst 0, 1) := by decide +kernel
theorem dX1_decode_129 : decode cX1_decode 129 = .ok (.ireturn, 1) := by decide +kernel
theorem dX1_keepBest_0 : decode cX1_keepBest 0 = .ok (.aload_n 0, 1) := by decide +kernel
theorem dX1_keepBest_1 : decode cX1_keepBest 1 = .ok (.getfield 9, 3) := by decide +kernel
theorem dX1_keepBest_4 : decode cX1_keepBest 4 = .ok (.iconst 0, 1) := by decide +kernel
theorem dX1_keepBest_5 : decode cX1_keepBest 5 = .ok (.aload_n 0, 1) := by decide +kernel
theorem dX1_keepBest_6 : decode cX1_keepBest 6 = .ok (.getfield 15, 3) := by decide +kernel
theorem dX1_keepBest_9 : decode cX1_keepBest 9 = .ok (.iconst 0, 1) := by decide +kernel
theorem dX1_keepBest_10 : decode cX1_keepBest 10 = .ok (.iconst 4, 1) := by decide +kernel
theorem dX1_keepBest_11 : decode cX1_keepBest 11 = .ok (.invokestatic 37, 3) := by decide +kernel
theorem dX1_keepBest_14 : decode cX1_keepBest 14 = .ok (.return_, 1) := by decide +kernel
theorem dX1_choiceOf_0 : decode cX1_choiceOf 0 = .ok (.iload_n 1, 1) := by decide +kernel
theorem dX1_choiceOf_1 : decode cX1_choiceOf 1 = .ok (.ifCond .lt 20, 3) := by decide +kernel
theorem dX1_choiceOf_4 : decode cX1_choiceOf 4 = .ok (.iload_n 1, 1) := by decide +kernel
theorem dX1_choiceOf_5 : decode cX1_choiceOf 5 = .ok (.aload_n 0, 1) := by decide +kernel
theorem dX1_choiceOf_6 : decode cX1_choiceOf 6 = .ok (.getfield 22, 3) := by decide +kernel
theorem dX1_choiceOf_9 : decode cX1_choiceOf 9 = .ok (.if_icmp .ge 12, 3) := by decide +kernel
theorem dX1_choiceOf_12 : decode cX1_choiceOf 12 = .ok (.aload_n 0, 1) := by decide +kernel
theorem dX1_choiceOf_13 : decode cX1_choiceOf 13 = .ok (.getfield 9, 3) := by decide +kernel
theorem dX1_choiceOf_16 : decode cX1_choiceOf 16 = .ok (.iload_n 1, 1) := by decide +kernel
theorem dX1_choiceOf_17 : decode cX1_choiceOf 17 = .ok (.iaload, 1) := by decide +kernel
theorem dX1_choiceOf_18 : decode cX1_choiceOf 18 = .ok (.goto 5, 3) := by decide +kernel
theorem dX1_choiceOf_21 : decode cX1_choiceOf 21 = .ok (.bipush (-9), 2) := by decide +kernel
theorem dX1_choiceOf_23 : decode cX1_choiceOf 23 = .ok (.ireturn, 1) := by decide +kernel
theorem dX1_bestBagOf_0 : decode cX1_bestBagOf 0 = .ok (.iload_n 1, 1) := by decide +kernel
theorem dX1_bestBagOf_1 : decode cX1_bestBagOf 1 = .ok (.ifCond .lt 20, 3) := by decide +kernel
theorem dX1_bestBagOf_4 : decode cX1_bestBagOf 4 = .ok (.iload_n 1, 1) := by decide +kernel
theorem dX1_bestBagOf_5 : decode cX1_bestBagOf 5 = .ok (.aload_n 0, 1) := by decide +kernel
theorem dX1_bestBagOf_6 : decode cX1_bestBagOf 6 = .ok (.getfield 22, 3) := by decide +kernel
theorem dX1_bestBagOf_9 : decode cX1_bestBagOf 9 = .ok (.if_icmp .ge 12, 3) := by decide +kernel
theorem dX1_bestBagOf_12 : decode cX1_bestBagOf 12 = .ok (.aload_n 0, 1) := by decide +kernel
theorem dX1_bestBagOf_13 : decode cX1_bestBagOf 13 = .ok (.getfield 15, 3) := by decide +kernel
theorem dX1_bestBagOf_16 : decode cX1_bestBagOf 16 = .ok (.iload_n 1, 1) := by decide +kernel
theorem dX1_bestBagOf_17 : decode cX1_bestBagOf 17 = .ok (.iaload, 1) := by decide +kernel
theorem dX1_bestBagOf_18 : decode cX1_bestBagOf 18 = .ok (.goto 5, 3) := by decide +kernel
theorem dX1_bestBagOf_21 : decode cX1_bestBagOf 21 = .ok (.bipush (-9), 2) := by decide +kernel
theorem dX1_bestBagOf_23 : decode cX1_bestBagOf 23 = .ok (.ireturn, 1) := by decide +kernel
theorem dJ6_compare_7cf53_0 : decode cJ6_compare_7cf53 0 = .ok (.iload_n 0, 1) := by decide +kernel
theorem dJ6_compare_7cf53_1 : decode cJ6_compare_7cf53 1 = .ok (.iload_n 1, 1) := by decide +kernel
theorem dJ6_compare_7cf53_2 : decode cJ6_compare_7cf53 2 = .ok (.if_icmp .ge 7, 3) := by decide +kernel
theorem dJ6_compare_7cf53_5 : decode cJ6_compare_7cf53 5 = .ok (.iconst (-1), 1) := by decide +kernel
theorem dJ6_compare_7cf53_6 : decode cJ6_compare_7cf53 6 = .ok (.goto 13, 3) := by decide +kernel
theorem dJ6_compare_7cf53_9 : decode cJ6_compare_7cf53 9 = .ok (.iload_n 0, 1) := by decide +kernel
theorem dJ6_compare_7cf53_10 : decode cJ6_compare_7cf53 10 = .ok (.iload_n 1, 1) := by decide +kernel
theorem dJ6_compare_7cf53_11 : decode cJ6_compare_7cf53 11 = .ok (.if_icmp .ne 7, 3) := by decide +kernel
theorem dJ6_compare_7cf53_14 : decode cJ6_compare_7cf53 14 = .ok (.iconst 0, 1) := by decide +kernel
theorem dJ6_compare_7cf53_15 : decode cJ6_compare_7cf53 15 = .ok (.goto 4, 3) := by decide +kernel
theorem dJ6_compare_7cf53_18 : decode cJ6_compare_7cf53 18 = .ok (.iconst 1, 1) := by decide +kernel
theorem dJ6_compare_7cf53_19 : decode cJ6_compare_7cf53 19 = .ok (.ireturn, 1) := by decide +kernel
theorem dJ6_bitCount_0f7a4_0 : decode cJ6_bitCount_0f7a4 0 = .ok (.iload_n 0, 1) := by decide +kernel
theorem dJ6_bitCount_0f7a4_1 : decode cJ6_bitCount_0f7a4 1 = .ok (.iload_n 0, 1) := by decide +kernel
theorem dJ6_bitCount_0f7a4_2 : decode cJ6_bitCount_0f7a4 2 = .ok (.iconst 1, 1) := by decide +kernel
theorem dJ6_bitCount_0f7a4_3 : decode cJ6_bitCount_0f7a4 3 = .ok (.iushr, 1) := by decide +kernel
theorem dJ6_bitCount_0f7a4_4 : decode cJ6_bitCount_0f7a4 4 = .ok (.ldc_w 265, 3) := by decide +kernel
theorem dJ6_bitCount_0f7a4_7 : decode cJ6_bitCount_0f7a4 7 = .ok (.iand, 1) := by decide +kernel
theorem dJ6_bitCount_0f7a4_8 : decode cJ6_bitCount_0f7a4 8 = .ok (.isub, 1) := by decide +kernel
theorem dJ6_bitCount_0f7a4_9 : decode cJ6_bitCount_0f7a4 9 = .ok (.istore_n 0, 1) := by decide +kernel
theorem dJ6_bitCount_0f7a4_10 : decode cJ6_bitCount_0f7a4 10 = .ok (.iload_n 0, 1) := by decide +kernel
theorem dJ6_bitCount_0f7a4_11 : decode cJ6_bitCount_0f7a4 11 = .ok (.ldc_w 266, 3) := by decide +kernel
theorem dJ6_bitCount_0f7a4_14 : decode cJ6_bitCount_0f7a4 14 = .ok (.iand, 1) := by decide +kernel
theorem dJ6_bitCount_0f7a4_15 : decode cJ6_bitCount_0f7a4 15 = .ok (.iload_n 0, 1) := by decide +kernel
theorem dJ6_bitCount_0f7a4_16 : decode cJ6_bitCount_0f7a4 16 = .ok (.iconst 2, 1) := by decide +kernel
theorem dJ6_bitCount_0f7a4_17 : decode cJ6_bitCount_0f7a4 17 = .ok (.iushr, 1) := by decide +kernel
theorem dJ6_bitCount_0f7a4_18 : decode cJ6_bitCount_0f7a4 18 = .ok (.ldc_w 266, 3) := by decide +kernel
theorem dJ6_bitCount_0f7a4_21 : decode cJ6_bitCount_0f7a4 21 = .ok (.iand, 1) := by decide +kernel
theorem dJ6_bitCount_0f7a4_22 : decode cJ6_bitCount_0f7a4 22 = .ok (.iadd, 1) := by decide +kernel
theorem dJ6_bitCount_0f7a4_23 : decode cJ6_bitCount_0f7a4 23 = .ok (.istore_n 0, 1) := by decide +kernel
theorem dJ6_bitCount_0f7a4_24 : decode cJ6_bitCount_0f7a4 24 = .ok (.iload_n 0, 1) := by decide +kernel
theorem dJ6_bitCount_0f7a4_25 : decode cJ6_bitCount_0f7a4 25 = .ok (.iload_n 0, 1) := by decide +kernel
theorem dJ6_bitCount_0f7a4_26 : decode cJ6_bitCount_0f7a4 26 = .ok (.iconst 4, 1) := by decide +kernel
theorem dJ6_bitCount_0f7a4_27 : decode cJ6_bitCount_0f7a4 27 = .ok (.iushr, 1) := by decide +kernel
theorem dJ6_bitCount_0f7a4_28 : decode cJ6_bitCount_0f7a4 28 = .ok (.iadd, 1) := by decide +kernel
theorem dJ6_bitCount_0f7a4_29 : decode cJ6_bitCount_0f7a4 29 = .ok (.ldc_w 267, 3) := by decide +kernel
theorem dJ6_bitCount_0f7a4_32 : decode cJ6_bitCount_0f7a4 32 = .ok (.iand, 1) := by decide +kernel
theorem dJ6_bitCount_0f7a4_33 : decode cJ6_bitCount_0f7a4 33 = .ok (.istore_n 0, 1) := by decide +kernel
theorem dJ6_bitCount_0f7a4_34 : decode cJ6_bitCount_0f7a4 34 = .ok (.iload_n 0, 1) := by decide +kernel
theorem dJ6_bitCount_0f7a4_35 : decode cJ6_bitCount_0f7a4 35 = .ok (.iload_n 0, 1) := by decide +kernel
theorem dJ6_bitCount_0f7a4_36 : decode cJ6_bitCount_0f7a4 36 = .ok (.bipush 8, 2) := by decide +kernel
theorem dJ6_bitCount_0f7a4_38 : decode cJ6_bitCount_0f7a4 38 = .ok (.iushr, 1) := by decide +kernel
theorem dJ6_bitCount_0f7a4_39 : decode cJ6_bitCount_0f7a4 39 = .ok (.iadd, 1) := by decide +kernel
theorem dJ6_bitCount_0f7a4_40 : decode cJ6_bitCount_0f7a4 40 = .ok (.istore_n 0, 1) := by decide +kernel
theorem dJ6_bitCount_0f7a4_41 : decode cJ6_bitCount_0f7a4 41 = .ok (.iload_n 0, 1) := by decide +kernel
theorem dJ6_bitCount_0f7a4_42 : decode cJ6_bitCount_0f7a4 42 = .ok (.iload_n 0, 1) := by decide +kernel
theorem dJ6_bitCount_0f7a4_43 : decode cJ6_bitCount_0f7a4 43 = .ok (.bipush 16, 2) := by decide +kernel
theorem dJ6_bitCount_0f7a4_45 : decode cJ6_bitCount_0f7a4 45 = .ok (.iushr, 1) := by decide +kernel
theorem dJ6_bitCount_0f7a4_46 : decode cJ6_bitCount_0f7a4 46 = .ok (.iadd, 1) := by decide +kernel
theorem dJ6_bitCount_0f7a4_47 : decode cJ6_bitCount_0f7a4 47 = .ok (.istore_n 0, 1) := by decide +kernel
theorem dJ6_bitCount_0f7a4_48 : decode cJ6_bitCount_0f7a4 48 = .ok (.iload_n 0, 1) := by decide +kernel
theorem dJ6_bitCount_0f7a4_49 : decode cJ6_bitCount_0f7a4 49 = .ok (.bipush 63, 2) := by decide +kernel
theorem dJ6_bitCount_0f7a4_51 : decode cJ6_bitCount_0f7a4 51 = .ok (.iand, 1) := by decide +kernel
theorem dJ6_bitCount_0f7a4_52 : decode cJ6_bitCount_0f7a4 52 = .ok (.ireturn, 1) := by decide +kernel
theorem dJ9_floorMod_7cf53_0 : decode cJ9_floorMod_7cf53 0 = .ok (.iload_n 0, 1) := by decide +kernel
theorem dJ9_floorMod_7cf53_1 : decode cJ9_floorMod_7cf53 1 = .ok (.iload_n 1, 1) := by decide +kernel
theorem dJ9_floorMod_7cf53_2 : decode cJ9_floorMod_7cf53 2 = .ok (.irem, 1) := by decide +kernel
theorem dJ9_floorMod_7cf53_3 : decode cJ9_floorMod_7cf53 3 = .ok (.istore_n 2, 1) := by decide +kernel
theorem dJ9_floorMod_7cf53_4 : decode cJ9_floorMod_7cf53 4 = .ok (.iload_n 0, 1) := by decide +kernel
theorem dJ9_floorMod_7cf53_5 : decode cJ9_floorMod_7cf53 5 = .ok (.iload_n 1, 1) := by decide +kernel
theorem dJ9_floorMod_7cf53_6 : decode cJ9_floorMod_7cf53 6 = .ok (.ixor, 1) := by decide +kernel
theorem dJ9_floorMod_7cf53_7 : decode cJ9_floorMod_7cf53 7 = .ok (.ifCond .ge 11, 3) := by decide +kernel
theorem dJ9_floorMod_7cf53_10 : decode cJ9_floorMod_7cf53 10 = .ok (.iload_n 2, 1) := by decide +kernel
theorem dJ9_floorMod_7cf53_11 : decode cJ9_floorMod_7cf53 11 = .ok (.ifCond .eq 7, 3) := by decide +kernel
theorem dJ9_floorMod_7cf53_14 : decode cJ9_floorMod_7cf53 14 = .ok (.iload_n 2, 1) := by decide +kernel
theorem dJ9_floorMod_7cf53_15 : decode cJ9_floorMod_7cf53 15 = .ok (.iload_n 1, 1) := by decide +kernel
theorem dJ9_floorMod_7cf53_16 : decode cJ9_floorMod_7cf53 16 = .ok (.iadd, 1) := by decide +kernel
theorem dJ9_floorMod_7cf53_17 : decode cJ9_floorMod_7cf53 17 = .ok (.ireturn, 1) := by decide +kernel
theorem dJ9_floorMod_7cf53_18 : decode cJ9_floorMod_7cf53 18 = .ok (.iload_n 2, 1) := by decide +kernel
theorem dJ9_floorMod_7cf53_19 : decode cJ9_floorMod_7cf53 19 = .ok (.ireturn, 1) := by decide +kernel
theorem dJ9_max_7cf53_0 : decode cJ9_max_7cf53 0 = .ok (.iload_n 0, 1) := by decide +kernel
theorem dJ9_max_7cf53_1 : decode cJ9_max_7cf53 1 = .ok (.iload_n 1, 1) := by decide +kernel
theorem dJ9_max_7cf53_2 : decode cJ9_max_7cf53 2 = .ok (.if_icmp .lt 7, 3) := by decide +kernel
theorem dJ9_max_7cf53_5 : decode cJ9_max_7cf53 5 = .ok (.iload_n 0, 1) := by decide +kernel
theorem dJ9_max_7cf53_6 : decode cJ9_max_7cf53 6 = .ok (.goto 4, 3) := by decide +kernel
theorem dJ9_max_7cf53_9 : decode cJ9_max_7cf53 9 = .ok (.iload_n 1, 1) := by decide +kernel
theorem dJ9_max_7cf53_10 : decode cJ9_max_7cf53 10 = .ok (.ireturn, 1) := by decide +kernel
theorem dJ9_min_7cf53_0 : decode cJ9_min_7cf53 0 = .ok (.iload_n 0, 1) := by decide +kernel
theorem dJ9_min_7cf53_1 : decode cJ9_min_7cf53 1 = .ok (.iload_n 1, 1) := by decide +kernel
theorem dJ9_min_7cf53_2 : decode cJ9_min_7cf53 2 = .ok (.if_icmp .gt 7, 3) := by decide +kernel
theorem dJ9_min_7cf53_5 : decode cJ9_min_7cf53 5 = .ok (.iload_n 0, 1) := by decide +kernel
theorem dJ9_min_7cf53_6 : decode cJ9_min_7cf53 6 = .ok (.goto 4, 3) := by decide +kernel
theorem dJ9_min_7cf53_9 : decode cJ9_min_7cf53 9 = .ok (.iload_n 1, 1) := by decide +kernel
theorem dJ9_min_7cf53_10 : decode cJ9_min_7cf53 10 = .ok (.ireturn, 1) := by decide +kernel

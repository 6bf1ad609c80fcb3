theorem dX2_feed_0 : decode cX2_feed 0 = .ok (.iload_n 1, 1) := by decide +kernel
theorem dX2_feed_1 : decode cX2_feed 1 = .ok (.ifCond .ge 10, 3) := by decide +kernel
theorem dX2_feed_4 : decode cX2_feed 4 = .ok (.aload_n 0, 1) := by decide +kernel
theorem dX2_feed_5 : decode cX2_feed 5 = .ok (.bipush (-4), 2) := by decide +kernel
theorem dX2_feed_7 : decode cX2_feed 7 = .ok (.invokevirtual 60, 3) := by decide +kernel
theorem dX2_feed_10 : decode cX2_feed 10 = .ok (.ireturn, 1) := by decide +kernel
theorem dX2_feed_11 : decode cX2_feed 11 = .ok (.iload_n 1, 1) := by decide +kernel
theorem dX2_feed_12 : decode cX2_feed 12 = .ok (.sipush 255, 3) := by decide +kernel
theorem dX2_feed_15 : decode cX2_feed 15 = .ok (.if_icmp .gt 12, 3) := by decide +kernel
theorem dX2_feed_18 : decode cX2_feed 18 = .ok (.aload_n 0, 1) := by decide +kernel
theorem dX2_feed_19 : decode cX2_feed 19 = .ok (.getfield 38, 3) := by decide +kernel
theorem dX2_feed_22 : decode cX2_feed 22 = .ok (.bipush 96, 2) := by decide +kernel
theorem dX2_feed_24 : decode cX2_feed 24 = .ok (.if_icmp .lt 10, 3) := by decide +kernel
theorem dX2_feed_27 : decode cX2_feed 27 = .ok (.aload_n 0, 1) := by decide +kernel
theorem dX2_feed_28 : decode cX2_feed 28 = .ok (.bipush (-6), 2) := by decide +kernel
theorem dX2_feed_30 : decode cX2_feed 30 = .ok (.invokevirtual 60, 3) := by decide +kernel
theorem dX2_feed_33 : decode cX2_feed 33 = .ok (.ireturn, 1) := by decide +kernel
theorem dX2_feed_34 : decode cX2_feed 34 = .ok (.aload_n 0, 1) := by decide +kernel
theorem dX2_feed_35 : decode cX2_feed 35 = .ok (.getfield 34, 3) := by decide +kernel
theorem dX2_feed_38 : decode cX2_feed 38 = .ok (.aload_n 0, 1) := by decide +kernel
theorem dX2_feed_39 : decode cX2_feed 39 = .ok (.getfield 38, 3) := by decide +kernel
theorem dX2_feed_42 : decode cX2_feed 42 = .ok (.iload_n 1, 1) := by decide +kernel
theorem dX2_feed_43 : decode cX2_feed 43 = .ok (.iastore, 1) := by decide +kernel
theorem dX2_feed_44 : decode cX2_feed 44 = .ok (.aload_n 0, 1) := by decide +kernel
theorem dX2_feed_45 : decode cX2_feed 45 = .ok (.dup, 1) := by decide +kernel
theorem dX2_feed_46 : decode cX2_feed 46 = .ok (.getfield 38, 3) := by decide +kernel
theorem dX2_feed_49 : decode cX2_feed 49 = .ok (.iconst 1, 1) := by decide +kernel
theorem dX2_feed_50 : decode cX2_feed 50 = .ok (.iadd, 1) := by decide +kernel
theorem dX2_feed_51 : decode cX2_feed 51 = .ok (.putfield 38, 3) := by decide +kernel
theorem dX2_feed_54 : decode cX2_feed 54 = .ok (.aload_n 0, 1) := by decide +kernel
theorem dX2_feed_55 : decode cX2_feed 55 = .ok (.getfield 38, 3) := by decide +kernel
theorem dX2_feed_58 : decode cX2_feed 58 = .ok (.ireturn, 1) := by decide +kernel
theorem dX2_bequest_0 : decode cX2_bequest 0 = .ok (.aload_n 0, 1) := by decide +kernel
theorem dX2_bequest_1 : decode cX2_bequest 1 = .ok (.getfield 38, 3) := by decide +kernel
theorem dX2_bequest_4 : decode cX2_bequest 4 = .ok (.istore_n 1, 1) := by decide +kernel
theorem dX2_bequest_5 : decode cX2_bequest 5 = .ok (.aload_n 0, 1) := by decide +kernel
theorem dX2_bequest_6 : decode cX2_bequest 6 = .ok (.iconst 0, 1) := by decide +kernel
theorem dX2_bequest_7 : decode cX2_bequest 7 = .ok (.putfield 38, 3) := by decide +kernel
theorem dX2_bequest_10 : decode cX2_bequest 10 = .ok (.aload_n 0, 1) := by decide +kernel
theorem dX2_bequest_11 : decode cX2_bequest 11 = .ok (.iload_n 1, 1) := by decide +kernel
theorem dX2_bequest_12 : decode cX2_bequest 12 = .ok (.invokevirtual 64, 3) := by decide +kernel
theorem dX2_bequest_15 : decode cX2_bequest 15 = .ok (.istore_n 2, 1) := by decide +kernel
theorem dX2_bequest_16 : decode cX2_bequest 16 = .ok (.iload_n 2, 1) := by decide +kernel
theorem dX2_bequest_17 : decode cX2_bequest 17 = .ok (.ifCond .lt 9, 3) := by decide +kernel
theorem dX2_bequest_20 : decode cX2_bequest 20 = .ok (.sipush (-1000), 3) := by decide +kernel
theorem dX2_bequest_23 : decode cX2_bequest 23 = .ok (.iload_n 2, 1) := by decide +kernel
theorem dX2_bequest_24 : decode cX2_bequest 24 = .ok (.isub, 1) := by decide +kernel
theorem dX2_bequest_25 : decode cX2_bequest 25 = .ok (.ireturn, 1) := by decide +kernel
theorem dX2_bequest_26 : decode cX2_bequest 26 = .ok (.aload_n 0, 1) := by decide +kernel
theorem dX2_bequest_27 : decode cX2_bequest 27 = .ok (.invokevirtual 67, 3) := by decide +kernel
theorem dX2_bequest_30 : decode cX2_bequest 30 = .ok (.iconst 0, 1) := by decide +kernel
theorem dX2_bequest_31 : decode cX2_bequest 31 = .ok (.istore_n 3, 1) := by decide +kernel
theorem dX2_bequest_32 : decode cX2_bequest 32 = .ok (.iconst 0, 1) := by decide +kernel
theorem dX2_bequest_33 : decode cX2_bequest 33 = .ok (.istore 4, 2) := by decide +kernel
theorem dX2_bequest_35 : decode cX2_bequest 35 = .ok (.iload 4, 2) := by decide +kernel
theorem dX2_bequest_37 : decode cX2_bequest 37 = .ok (.iload_n 1, 1) := by decide +kernel
theorem dX2_bequest_38 : decode cX2_bequest 38 = .ok (.if_icmp .ge 47, 3) := by decide +kernel
theorem dX2_bequest_41 : decode cX2_bequest 41 = .ok (.iload 4, 2) := by decide +kernel
theorem dX2_bequest_43 : decode cX2_bequest 43 = .ok (.ifCond .eq 17, 3) := by decide +kernel
theorem dX2_bequest_46 : decode cX2_bequest 46 = .ok (.aload_n 0, 1) := by decide +kernel
theorem dX2_bequest_47 : decode cX2_bequest 47 = .ok (.getfield 34, 3) := by decide +kernel
theorem dX2_bequest_50 : decode cX2_bequest 50 = .ok (.iload 4, 2) := by decide +kernel
theorem dX2_bequest_52 : decode cX2_bequest 52 = .ok (.iconst 1, 1) := by decide +kernel
theorem dX2_bequest_53 : decode cX2_bequest 53 = .ok (.isub, 1) := by decide +kernel
theorem dX2_bequest_54 : decode cX2_bequest 54 = .ok (.iaload, 1) := by decide +kernel
theorem dX2_bequest_55 : decode cX2_bequest 55 = .ok (.bipush 59, 2) := by decide +kernel
theorem dX2_bequest_57 : decode cX2_bequest 57 = .ok (.if_icmp .ne 22, 3) := by decide +kernel
theorem dX2_bequest_60 : decode cX2_bequest 60 = .ok (.aload_n 0, 1) := by decide +kernel
theorem dX2_bequest_61 : decode cX2_bequest 61 = .ok (.iload 4, 2) := by decide +kernel
theorem dX2_bequest_63 : decode cX2_bequest 63 = .ok (.invokevirtual 70, 3) := by decide +kernel
theorem dX2_bequest_66 : decode cX2_bequest 66 = .ok (.ifCond .ne 10, 3) := by decide +kernel
theorem dX2_bequest_69 : decode cX2_bequest 69 = .ok (.sipush (-2000), 3) := by decide +kernel
theorem dX2_bequest_72 : decode cX2_bequest 72 = .ok (.iload 4, 2) := by decide +kernel
theorem dX2_bequest_74 : decode cX2_bequest 74 = .ok (.isub, 1) := by decide +kernel
theorem dX2_bequest_75 : decode cX2_bequest 75 = .ok (.ireturn, 1) := by decide +kernel
theorem dX2_bequest_76 : decode cX2_bequest 76 = .ok (.iinc 3 1, 3) := by decide +kernel
theorem dX2_bequest_79 : decode cX2_bequest 79 = .ok (.iinc 4 1, 3) := by decide +kernel
theorem dX2_bequest_82 : decode cX2_bequest 82 = .ok (.goto (-47), 3) := by decide +kernel
theorem dX2_bequest_85 : decode cX2_bequest 85 = .ok (.aload_n 0, 1) := by decide +kernel
theorem dX2_bequest_86 : decode cX2_bequest 86 = .ok (.getfield 12, 3) := by decide +kernel
theorem dX2_bequest_89 : decode cX2_bequest 89 = .ok (.aload_n 0, 1) := by decide +kernel
theorem dX2_bequest_90 : decode cX2_bequest 90 = .ok (.getfield 16, 3) := by decide +kernel
theorem dX2_bequest_93 : decode cX2_bequest 93 = .ok (.invokevirtual 74, 3) := by decide +kernel
theorem dX2_bequest_96 : decode cX2_bequest 96 = .ok (.aload_n 0, 1) := by decide +kernel
theorem dX2_bequest_97 : decode cX2_bequest 97 = .ok (.invokevirtual 78, 3) := by decide +kernel
theorem dX2_bequest_100 : decode cX2_bequest 100 = .ok (.iload_n 3, 1) := by decide +kernel
theorem dX2_bequest_101 : decode cX2_bequest 101 = .ok (.ireturn, 1) := by decide +kernel
theorem dX2_formFault_0 : decode cX2_formFault 0 = .ok (.bipush (-9), 2) := by decide +kernel
theorem dX2_formFault_2 : decode cX2_formFault 2 = .ok (.istore_n 2, 1) := by decide +kernel
theorem dX2_formFault_3 : decode cX2_formFault 3 = .ok (.iconst 0, 1) := by decide +kernel
theorem dX2_formFault_4 : decode cX2_formFault 4 = .ok (.istore_n 3, 1) := by decide +kernel
theorem dX2_formFault_5 : decode cX2_formFault 5 = .ok (.iload_n 3, 1) := by decide +kernel
theorem dX2_formFault_6 : decode cX2_formFault 6 = .ok (.iload_n 1, 1) := by decide +kernel
theorem dX2_formFault_7 : decode cX2_formFault 7 = .ok (.if_icmp .ge 81, 3) := by decide +kernel
theorem dX2_formFault_10 : decode cX2_formFault 10 = .ok (.aload_n 0, 1) := by decide +kernel
theorem dX2_formFault_11 : decode cX2_formFault 11 = .ok (.getfield 34, 3) := by decide +kernel
theorem dX2_formFault_14 : decode cX2_formFault 14 = .ok (.iload_n 3, 1) := by decide +kernel
theorem dX2_formFault_15 : decode cX2_formFault 15 = .ok (.iaload, 1) := by decide +kernel
theorem dX2_formFault_16 : decode cX2_formFault 16 = .ok (.istore 4, 2) := by decide +kernel
theorem dX2_formFault_18 : decode cX2_formFault 18 = .ok (.iload_n 3, 1) := by decide +kernel
theorem dX2_formFault_19 : decode cX2_formFault 19 = .ok (.ifCond .eq 16, 3) := by decide +kernel
theorem dX2_formFault_22 : decode cX2_formFault 22 = .ok (.aload_n 0, 1) := by decide +kernel
theorem dX2_formFault_23 : decode cX2_formFault 23 = .ok (.getfield 34, 3) := by decide +kernel
theorem dX2_formFault_26 : decode cX2_formFault 26 = .ok (.iload_n 3, 1) := by decide +kernel
theorem dX2_formFault_27 : decode cX2_formFault 27 = .ok (.iconst 1, 1) := by decide +kernel
theorem dX2_formFault_28 : decode cX2_formFault 28 = .ok (.isub, 1) := by decide +kernel
theorem dX2_formFault_29 : decode cX2_formFault 29 = .ok (.iaload, 1) := by decide +kernel
theorem dX2_formFault_30 : decode cX2_formFault 30 = .ok (.bipush 59, 2) := by decide +kernel
theorem dX2_formFault_32 : decode cX2_formFault 32 = .ok (.if_icmp .ne 15, 3) := by decide +kernel
theorem dX2_formFault_35 : decode cX2_formFault 35 = .ok (.iload 4, 2) := by decide +kernel
theorem dX2_formFault_37 : decode cX2_formFault 37 = .ok (.invokestatic 81, 3) := by decide +kernel
theorem dX2_formFault_40 : decode cX2_formFault 40 = .ok (.istore_n 2, 1) := by decide +kernel
theorem dX2_formFault_41 : decode cX2_formFault 41 = .ok (.iload_n 2, 1) := by decide +kernel
theorem dX2_formFault_42 : decode cX2_formFault 42 = .ok (.ifCond .ge 40, 3) := by decide +kernel
theorem dX2_formFault_45 : decode cX2_formFault 45 = .ok (.iload_n 3, 1) := by decide +kernel
theorem dX2_formFault_46 : decode cX2_formFault 46 = .ok (.ireturn, 1) := by decide +kernel
theorem dX2_formFault_47 : decode cX2_formFault 47 = .ok (.iload_n 2, 1) := by decide +kernel
theorem dX2_formFault_48 : decode cX2_formFault 48 = .ok (.ifCond .le 25, 3) := by decide +kernel
theorem dX2_formFault_51 : decode cX2_formFault 51 = .ok (.iload 4, 2) := by decide +kernel
theorem dX2_formFault_53 : decode cX2_formFault 53 = .ok (.bipush 48, 2) := by decide +kernel
theorem dX2_formFault_55 : decode cX2_formFault 55 = .ok (.if_icmp .lt 10, 3) := by decide +kernel
theorem dX2_formFault_58 : decode cX2_formFault 58 = .ok (.iload 4, 2) := by decide +kernel
theorem dX2_formFault_60 : decode cX2_formFault 60 = .ok (.bipush 57, 2) := by decide +kernel
theorem dX2_formFault_62 : decode cX2_formFault 62 = .ok (.if_icmp .le 5, 3) := by decide +kernel
theorem dX2_formFault_65 : decode cX2_formFault 65 = .ok (.iload_n 3, 1) := by decide +kernel
theorem dX2_formFault_66 : decode cX2_formFault 66 = .ok (.ireturn, 1) := by decide +kernel
theorem dX2_formFault_67 : decode cX2_formFault 67 = .ok (.iinc 2 (-1), 3) := by decide +kernel
theorem dX2_formFault_70 : decode cX2_formFault 70 = .ok (.goto 12, 3) := by decide +kernel
theorem dX2_formFault_73 : decode cX2_formFault 73 = .ok (.iload 4, 2) := by decide +kernel
theorem dX2_formFault_75 : decode cX2_formFault 75 = .ok (.bipush 59, 2) := by decide +kernel
theorem dX2_formFault_77 : decode cX2_formFault 77 = .ok (.if_icmp .eq 5, 3) := by decide +kernel
theorem dX2_formFault_80 : decode cX2_formFault 80 = .ok (.iload_n 3, 1) := by decide +kernel
theorem dX2_formFault_81 : decode cX2_formFault 81 = .ok (.ireturn, 1) := by decide +kernel
theorem dX2_formFault_82 : decode cX2_formFault 82 = .ok (.iinc 3 1, 3) := by decide +kernel
theorem dX2_formFault_85 : decode cX2_formFault 85 = .ok (.goto (-80), 3) := by decide +kernel
theorem dX2_formFault_88 : decode cX2_formFault 88 = .ok (.iload_n 1, 1) := by decide +kernel
theorem dX2_formFault_89 : decode cX2_formFault 89 = .ok (.ifCond .le 21, 3) := by decide +kernel
theorem dX2_formFault_92 : decode cX2_formFault 92 = .ok (.aload_n 0, 1) := by decide +kernel
theorem dX2_formFault_93 : decode cX2_formFault 93 = .ok (.getfield 34, 3) := by decide +kernel
theorem dX2_formFault_96 : decode cX2_formFault 96 = .ok (.iload_n 1, 1) := by decide +kernel
theorem dX2_formFault_97 : decode cX2_formFault 97 = .ok (.iconst 1, 1) := by decide +kernel
theorem dX2_formFault_98 : decode cX2_formFault 98 = .ok (.isub, 1) := by decide +kernel
theorem dX2_formFault_99 : decode cX2_formFault 99 = .ok (.iaload, 1) := by decide +kernel
theorem dX2_formFault_100 : decode cX2_formFault 100 = .ok (.bipush 59, 2) := by decide +kernel
theorem dX2_formFault_102 : decode cX2_formFault 102 = .ok (.if_icmp .ne 8, 3) := by decide +kernel
theorem dX2_formFault_105 : decode cX2_formFault 105 = .ok (.bipush (-9), 2) := by decide +kernel
theorem dX2_formFault_107 : decode cX2_formFault 107 = .ok (.goto 4, 3) := by decide +kernel
theorem dX2_formFault_110 : decode cX2_formFault 110 = .ok (.iload_n 1, 1) := by decide +kernel
theorem dX2_formFault_111 : decode cX2_formFault 111 = .ok (.ireturn, 1) := by decide +kernel
theorem dX2_digitsBehind_0 : decode cX2_digitsBehind 0 = .ok (.iload_n 0, 1) := by decide +kernel
theorem dX2_digitsBehind_1 : decode cX2_digitsBehind 1 = .ok (.tableswitch 65 98 108 #[59, 63, 65, 65, 61, 61, 61, 65, 65, 65, 59], 59) := by decide +kernel
theorem dX2_digitsBehind_60 : decode cX2_digitsBehind 60 = .ok (.iconst 3, 1) := by decide +kernel
theorem dX2_digitsBehind_61 : decode cX2_digitsBehind 61 = .ok (.ireturn, 1) := by decide +kernel
theorem dX2_digitsBehind_62 : decode cX2_digitsBehind 62 = .ok (.iconst 2, 1) := by decide +kernel
theorem dX2_digitsBehind_63 : decode cX2_digitsBehind 63 = .ok (.ireturn, 1) := by decide +kernel
theorem dX2_digitsBehind_64 : decode cX2_digitsBehind 64 = .ok (.iconst 1, 1) := by decide +kernel
theorem dX2_digitsBehind_65 : decode cX2_digitsBehind 65 = .ok (.ireturn, 1) := by decide +kernel
theorem dX2_digitsBehind_66 : decode cX2_digitsBehind 66 = .ok (.bipush (-9), 2) := by decide +kernel
theorem dX2_digitsBehind_68 : decode cX2_digitsBehind 68 = .ok (.ireturn, 1) := by decide +kernel
theorem dX2_digitAt_0 : decode cX2_digitAt 0 = .ok (.iload_n 1, 1) := by decide +kernel
theorem dX2_digitAt_1 : decode cX2_digitAt 1 = .ok (.ifCond .lt 21, 3) := by decide +kernel
theorem dX2_digitAt_4 : decode cX2_digitAt 4 = .ok (.iload_n 1, 1) := by decide +kernel
theorem dX2_digitAt_5 : decode cX2_digitAt 5 = .ok (.bipush 96, 2) := by decide +kernel
theorem dX2_digitAt_7 : decode cX2_digitAt 7 = .ok (.if_icmp .ge 15, 3) := by decide +kernel
theorem dX2_digitAt_10 : decode cX2_digitAt 10 = .ok (.aload_n 0, 1) := by decide +kernel
theorem dX2_digitAt_11 : decode cX2_digitAt 11 = .ok (.getfield 34, 3) := by decide +kernel
theorem dX2_digitAt_14 : decode cX2_digitAt 14 = .ok (.iload_n 1, 1) := by decide +kernel
theorem dX2_digitAt_15 : decode cX2_digitAt 15 = .ok (.iaload, 1) := by decide +kernel
theorem dX2_digitAt_16 : decode cX2_digitAt 16 = .ok (.bipush 48, 2) := by decide +kernel
theorem dX2_digitAt_18 : decode cX2_digitAt 18 = .ok (.isub, 1) := by decide +kernel
theorem dX2_digitAt_19 : decode cX2_digitAt 19 = .ok (.goto 5, 3) := by decide +kernel
theorem dX2_digitAt_22 : decode cX2_digitAt 22 = .ok (.bipush (-9), 2) := by decide +kernel
theorem dX2_digitAt_24 : decode cX2_digitAt 24 = .ok (.ireturn, 1) := by decide +kernel
theorem dX2_carryOut_0 : decode cX2_carryOut 0 = .ok (.aload_n 0, 1) := by decide +kernel
theorem dX2_carryOut_1 : decode cX2_carryOut 1 = .ok (.iload_n 1, 1) := by decide +kernel
theorem dX2_carryOut_2 : decode cX2_carryOut 2 = .ok (.iconst 1, 1) := by decide +kernel
theorem dX2_carryOut_3 : decode cX2_carryOut 3 = .ok (.iadd, 1) := by decide +kernel
theorem dX2_carryOut_4 : decode cX2_carryOut 4 = .ok (.invokevirtual 84, 3) := by decide +kernel
theorem dX2_carryOut_7 : decode cX2_carryOut 7 = .ok (.istore_n 2, 1) := by decide +kernel
theorem dX2_carryOut_8 : decode cX2_carryOut 8 = .ok (.aload_n 0, 1) := by decide +kernel
theorem dX2_carryOut_9 : decode cX2_carryOut 9 = .ok (.iload_n 1, 1) := by decide +kernel
theorem dX2_carryOut_10 : decode cX2_carryOut 10 = .ok (.iconst 2, 1) := by decide +kernel
theorem dX2_carryOut_11 : decode cX2_carryOut 11 = .ok (.iadd, 1) := by decide +kernel
theorem dX2_carryOut_12 : decode cX2_carryOut 12 = .ok (.invokevirtual 84, 3) := by decide +kernel
theorem dX2_carryOut_15 : decode cX2_carryOut 15 = .ok (.istore_n 3, 1) := by decide +kernel
theorem dX2_carryOut_16 : decode cX2_carryOut 16 = .ok (.aload_n 0, 1) := by decide +kernel
theorem dX2_carryOut_17 : decode cX2_carryOut 17 = .ok (.iload_n 1, 1) := by decide +kernel
theorem dX2_carryOut_18 : decode cX2_carryOut 18 = .ok (.iconst 3, 1) := by decide +kernel
theorem dX2_carryOut_19 : decode cX2_carryOut 19 = .ok (.iadd, 1) := by decide +kernel
theorem dX2_carryOut_20 : decode cX2_carryOut 20 = .ok (.invokevirtual 84, 3) := by decide +kernel
theorem dX2_carryOut_23 : decode cX2_carryOut 23 = .ok (.istore 4, 2) := by decide +kernel
theorem dX2_carryOut_25 : decode cX2_carryOut 25 = .ok (.aload_n 0, 1) := by decide +kernel
theorem dX2_carryOut_26 : decode cX2_carryOut 26 = .ok (.getfield 34, 3) := by decide +kernel
theorem dX2_carryOut_29 : decode cX2_carryOut 29 = .ok (.iload_n 1, 1) := by decide +kernel
theorem dX2_carryOut_30 : decode cX2_carryOut 30 = .ok (.iaload, 1) := by decide +kernel
theorem dX2_carryOut_31 : decode cX2_carryOut 31 = .ok (.tableswitch 133 98 108 #[57, 123, 133, 133, 113, 103, 133, 133, 133, 133, 83], 57) := by decide +kernel
theorem dX2_carryOut_88 : decode cX2_carryOut 88 = .ok (.iload_n 2, 1) := by decide +kernel
theorem dX2_carryOut_89 : decode cX2_carryOut 89 = .ok (.bipush 6, 2) := by decide +kernel
theorem dX2_carryOut_91 : decode cX2_carryOut 91 = .ok (.if_icmp .ge 21, 3) := by decide +kernel
theorem dX2_carryOut_94 : decode cX2_carryOut 94 = .ok (.aload_n 0, 1) := by decide +kernel
theorem dX2_carryOut_95 : decode cX2_carryOut 95 = .ok (.getfield 16, 3) := by decide +kernel
theorem dX2_carryOut_98 : decode cX2_carryOut 98 = .ok (.iload_n 2, 1) := by decide +kernel
theorem dX2_carryOut_99 : decode cX2_carryOut 99 = .ok (.iload_n 3, 1) := by decide +kernel
theorem dX2_carryOut_100 : decode cX2_carryOut 100 = .ok (.iload 4, 2) := by decide +kernel
theorem dX2_carryOut_102 : decode cX2_carryOut 102 = .ok (.invokevirtual 87, 3) := by decide +kernel
theorem dX2_carryOut_105 : decode cX2_carryOut 105 = .ok (.ifCond .lt 7, 3) := by decide +kernel
theorem dX2_carryOut_108 : decode cX2_carryOut 108 = .ok (.iconst 1, 1) := by decide +kernel
theorem dX2_carryOut_109 : decode cX2_carryOut 109 = .ok (.goto 4, 3) := by decide +kernel
theorem dX2_carryOut_112 : decode cX2_carryOut 112 = .ok (.iconst 0, 1) := by decide +kernel
theorem dX2_carryOut_113 : decode cX2_carryOut 113 = .ok (.ireturn, 1) := by decide +kernel
theorem dX2_carryOut_114 : decode cX2_carryOut 114 = .ok (.aload_n 0, 1) := by decide +kernel
theorem dX2_carryOut_115 : decode cX2_carryOut 115 = .ok (.getfield 16, 3) := by decide +kernel
theorem dX2_carryOut_118 : decode cX2_carryOut 118 = .ok (.iload_n 2, 1) := by decide +kernel
theorem dX2_carryOut_119 : decode cX2_carryOut 119 = .ok (.iload_n 3, 1) := by decide +kernel
theorem dX2_carryOut_120 : decode cX2_carryOut 120 = .ok (.iload 4, 2) := by decide +kernel
theorem dX2_carryOut_122 : decode cX2_carryOut 122 = .ok (.invokevirtual 91, 3) := by decide +kernel
theorem dX2_carryOut_125 : decode cX2_carryOut 125 = .ok (.ifCond .lt 7, 3) := by decide +kernel
theorem dX2_carryOut_128 : decode cX2_carryOut 128 = .ok (.iconst 1, 1) := by decide +kernel
theorem dX2_carryOut_129 : decode cX2_carryOut 129 = .ok (.goto 4, 3) := by decide +kernel
theorem dX2_carryOut_132 : decode cX2_carryOut 132 = .ok (.iconst 0, 1) := by decide +kernel
theorem dX2_carryOut_133 : decode cX2_carryOut 133 = .ok (.ireturn, 1) := by decide +kernel
theorem dX2_carryOut_134 : decode cX2_carryOut 134 = .ok (.aload_n 0, 1) := by decide +kernel
theorem dX2_carryOut_135 : decode cX2_carryOut 135 = .ok (.getfield 16, 3) := by decide +kernel
theorem dX2_carryOut_138 : decode cX2_carryOut 138 = .ok (.iload_n 2, 1) := by decide +kernel
theorem dX2_carryOut_139 : decode cX2_carryOut 139 = .ok (.iload_n 3, 1) := by decide +kernel
theorem dX2_carryOut_140 : decode cX2_carryOut 140 = .ok (.invokevirtual 94, 3) := by decide +kernel
theorem dX2_carryOut_143 : decode cX2_carryOut 143 = .ok (.ireturn, 1) := by decide +kernel
theorem dX2_carryOut_144 : decode cX2_carryOut 144 = .ok (.aload_n 0, 1) := by decide +kernel
theorem dX2_carryOut_145 : decode cX2_carryOut 145 = .ok (.getfield 16, 3) := by decide +kernel
theorem dX2_carryOut_148 : decode cX2_carryOut 148 = .ok (.iload_n 2, 1) := by decide +kernel
theorem dX2_carryOut_149 : decode cX2_carryOut 149 = .ok (.iload_n 3, 1) := by decide +kernel
theorem dX2_carryOut_150 : decode cX2_carryOut 150 = .ok (.invokevirtual 98, 3) := by decide +kernel
theorem dX2_carryOut_153 : decode cX2_carryOut 153 = .ok (.ireturn, 1) := by decide +kernel
theorem dX2_carryOut_154 : decode cX2_carryOut 154 = .ok (.aload_n 0, 1) := by decide +kernel
theorem dX2_carryOut_155 : decode cX2_carryOut 155 = .ok (.getfield 16, 3) := by decide +kernel
theorem dX2_carryOut_158 : decode cX2_carryOut 158 = .ok (.iload_n 2, 1) := by decide +kernel
theorem dX2_carryOut_159 : decode cX2_carryOut 159 = .ok (.putfield 101, 3) := by decide +kernel
theorem dX2_carryOut_162 : decode cX2_carryOut 162 = .ok (.iconst 1, 1) := by decide +kernel
theorem dX2_carryOut_163 : decode cX2_carryOut 163 = .ok (.ireturn, 1) := by decide +kernel
theorem dX2_carryOut_164 : decode cX2_carryOut 164 = .ok (.bipush 10, 2) := by decide +kernel
theorem dX2_carryOut_166 : decode cX2_carryOut 166 = .ok (.iload_n 2, 1) := by decide +kernel
theorem dX2_carryOut_167 : decode cX2_carryOut 167 = .ok (.imul, 1) := by decide +kernel
theorem dX2_carryOut_168 : decode cX2_carryOut 168 = .ok (.iload_n 3, 1) := by decide +kernel
theorem dX2_carryOut_169 : decode cX2_carryOut 169 = .ok (.iadd, 1) := by decide +kernel
theorem dX2_carryOut_170 : decode cX2_carryOut 170 = .ok (.istore 5, 2) := by decide +kernel
theorem dX2_carryOut_172 : decode cX2_carryOut 172 = .ok (.iload 5, 2) := by decide +kernel
theorem dX2_carryOut_174 : decode cX2_carryOut 174 = .ok (.iconst 1, 1) := by decide +kernel
theorem dX2_carryOut_175 : decode cX2_carryOut 175 = .ok (.if_icmp .lt 26, 3) := by decide +kernel
theorem dX2_carryOut_178 : decode cX2_carryOut 178 = .ok (.iload 5, 2) := by decide +kernel
theorem dX2_carryOut_180 : decode cX2_carryOut 180 = .ok (.bipush 60, 2) := by decide +kernel
theorem dX2_carryOut_182 : decode cX2_carryOut 182 = .ok (.if_icmp .gt 19, 3) := by decide +kernel
theorem dX2_carryOut_185 : decode cX2_carryOut 185 = .ok (.aload_n 0, 1) := by decide +kernel
theorem dX2_carryOut_186 : decode cX2_carryOut 186 = .ok (.getfield 16, 3) := by decide +kernel
theorem dX2_carryOut_189 : decode cX2_carryOut 189 = .ok (.getfield 104, 3) := by decide +kernel
theorem dX2_carryOut_192 : decode cX2_carryOut 192 = .ok (.iload 5, 2) := by decide +kernel
theorem dX2_carryOut_194 : decode cX2_carryOut 194 = .ok (.iadd, 1) := by decide +kernel
theorem dX2_carryOut_195 : decode cX2_carryOut 195 = .ok (.sipush 999, 3) := by decide +kernel
theorem dX2_carryOut_198 : decode cX2_carryOut 198 = .ok (.if_icmp .le 5, 3) := by decide +kernel
theorem dX2_carryOut_201 : decode cX2_carryOut 201 = .ok (.iconst 0, 1) := by decide +kernel
theorem dX2_carryOut_202 : decode cX2_carryOut 202 = .ok (.ireturn, 1) := by decide +kernel
theorem dX2_carryOut_203 : decode cX2_carryOut 203 = .ok (.aload_n 0, 1) := by decide +kernel
theorem dX2_carryOut_204 : decode cX2_carryOut 204 = .ok (.getfield 16, 3) := by decide +kernel
theorem dX2_carryOut_207 : decode cX2_carryOut 207 = .ok (.iload 5, 2) := by decide +kernel
theorem dX2_carryOut_209 : decode cX2_carryOut 209 = .ok (.invokevirtual 107, 3) := by decide +kernel
theorem dX2_carryOut_212 : decode cX2_carryOut 212 = .ok (.iconst 1, 1) := by decide +kernel
theorem dX2_carryOut_213 : decode cX2_carryOut 213 = .ok (.ireturn, 1) := by decide +kernel
theorem dX2_bagOf_0 : decode cX2_bagOf 0 = .ok (.aload_n 0, 1) := by decide +kernel
theorem dX2_bagOf_1 : decode cX2_bagOf 1 = .ok (.getfield 12, 3) := by decide +kernel
theorem dX2_bagOf_4 : decode cX2_bagOf 4 = .ok (.iload_n 1, 1) := by decide +kernel
theorem dX2_bagOf_5 : decode cX2_bagOf 5 = .ok (.invokevirtual 111, 3) := by decide +kernel
theorem dX2_bagOf_8 : decode cX2_bagOf 8 = .ok (.ifCond .ne 9, 3) := by decide +kernel
theorem dX2_bagOf_11 : decode cX2_bagOf 11 = .ok (.aload_n 0, 1) := by decide +kernel
theorem dX2_bagOf_12 : decode cX2_bagOf 12 = .ok (.iconst (-1), 1) := by decide +kernel
theorem dX2_bagOf_13 : decode cX2_bagOf 13 = .ok (.invokevirtual 60, 3) := by decide +kernel
theorem dX2_bagOf_16 : decode cX2_bagOf 16 = .ok (.ireturn, 1) := by decide +kernel
theorem dX2_bagOf_17 : decode cX2_bagOf 17 = .ok (.iload_n 2, 1) := by decide +kernel
theorem dX2_bagOf_18 : decode cX2_bagOf 18 = .ok (.tableswitch 111 0 6 #[42, 52, 62, 72, 82, 92, 102], 42) := by decide +kernel
theorem dX2_bagOf_60 : decode cX2_bagOf 60 = .ok (.aload_n 0, 1) := by decide +kernel
theorem dX2_bagOf_61 : decode cX2_bagOf 61 = .ok (.getfield 12, 3) := by decide +kernel
theorem dX2_bagOf_64 : decode cX2_bagOf 64 = .ok (.getfield 114, 3) := by decide +kernel
theorem dX2_bagOf_67 : decode cX2_bagOf 67 = .ok (.iload_n 1, 1) := by decide +kernel
theorem dX2_bagOf_68 : decode cX2_bagOf 68 = .ok (.iaload, 1) := by decide +kernel
theorem dX2_bagOf_69 : decode cX2_bagOf 69 = .ok (.ireturn, 1) := by decide +kernel
theorem dX2_bagOf_70 : decode cX2_bagOf 70 = .ok (.aload_n 0, 1) := by decide +kernel
theorem dX2_bagOf_71 : decode cX2_bagOf 71 = .ok (.getfield 12, 3) := by decide +kernel
theorem dX2_bagOf_74 : decode cX2_bagOf 74 = .ok (.getfield 117, 3) := by decide +kernel
theorem dX2_bagOf_77 : decode cX2_bagOf 77 = .ok (.iload_n 1, 1) := by decide +kernel
theorem dX2_bagOf_78 : decode cX2_bagOf 78 = .ok (.iaload, 1) := by decide +kernel
theorem dX2_bagOf_79 : decode cX2_bagOf 79 = .ok (.ireturn, 1) := by decide +kernel
theorem dX2_bagOf_80 : decode cX2_bagOf 80 = .ok (.aload_n 0, 1) := by decide +kernel
theorem dX2_bagOf_81 : decode cX2_bagOf 81 = .ok (.getfield 12, 3) := by decide +kernel
theorem dX2_bagOf_84 : decode cX2_bagOf 84 = .ok (.getfield 120, 3) := by decide +kernel
theorem dX2_bagOf_87 : decode cX2_bagOf 87 = .ok (.iload_n 1, 1) := by decide +kernel
theorem dX2_bagOf_88 : decode cX2_bagOf 88 = .ok (.iaload, 1) := by decide +kernel
theorem dX2_bagOf_89 : decode cX2_bagOf 89 = .ok (.ireturn, 1) := by decide +kernel
theorem dX2_bagOf_90 : decode cX2_bagOf 90 = .ok (.aload_n 0, 1) := by decide +kernel
theorem dX2_bagOf_91 : decode cX2_bagOf 91 = .ok (.getfield 12, 3) := by decide +kernel
theorem dX2_bagOf_94 : decode cX2_bagOf 94 = .ok (.getfield 123, 3) := by decide +kernel
theorem dX2_bagOf_97 : decode cX2_bagOf 97 = .ok (.iload_n 1, 1) := by decide +kernel
theorem dX2_bagOf_98 : decode cX2_bagOf 98 = .ok (.iaload, 1) := by decide +kernel
theorem dX2_bagOf_99 : decode cX2_bagOf 99 = .ok (.ireturn, 1) := by decide +kernel
theorem dX2_bagOf_100 : decode cX2_bagOf 100 = .ok (.aload_n 0, 1) := by decide +kernel
theorem dX2_bagOf_101 : decode cX2_bagOf 101 = .ok (.getfield 12, 3) := by decide +kernel
theorem dX2_bagOf_104 : decode cX2_bagOf 104 = .ok (.getfield 126, 3) := by decide +kernel
theorem dX2_bagOf_107 : decode cX2_bagOf 107 = .ok (.iload_n 1, 1) := by decide +kernel
theorem dX2_bagOf_108 : decode cX2_bagOf 108 = .ok (.iaload, 1) := by decide +kernel
theorem dX2_bagOf_109 : decode cX2_bagOf 109 = .ok (.ireturn, 1) := by decide +kernel
theorem dX2_bagOf_110 : decode cX2_bagOf 110 = .ok (.aload_n 0, 1) := by decide +kernel
theorem dX2_bagOf_111 : decode cX2_bagOf 111 = .ok (.getfield 12, 3) := by decide +kernel
theorem dX2_bagOf_114 : decode cX2_bagOf 114 = .ok (.getfield 129, 3) := by decide +kernel
theorem dX2_bagOf_117 : decode cX2_bagOf 117 = .ok (.iload_n 1, 1) := by decide +kernel
theorem dX2_bagOf_118 : decode cX2_bagOf 118 = .ok (.iaload, 1) := by decide +kernel
theorem dX2_bagOf_119 : decode cX2_bagOf 119 = .ok (.ireturn, 1) := by decide +kernel
theorem dX2_bagOf_120 : decode cX2_bagOf 120 = .ok (.aload_n 0, 1) := by decide +kernel
theorem dX2_bagOf_121 : decode cX2_bagOf 121 = .ok (.getfield 12, 3) := by decide +kernel
theorem dX2_bagOf_124 : decode cX2_bagOf 124 = .ok (.iload_n 1, 1) := by decide +kernel
theorem dX2_bagOf_125 : decode cX2_bagOf 125 = .ok (.invokevirtual 132, 3) := by decide +kernel
theorem dX2_bagOf_128 : decode cX2_bagOf 128 = .ok (.ireturn, 1) := by decide +kernel
theorem dX2_bagOf_129 : decode cX2_bagOf 129 = .ok (.aload_n 0, 1) := by decide +kernel
theorem dX2_bagOf_130 : decode cX2_bagOf 130 = .ok (.bipush (-2), 2) := by decide +kernel
theorem dX2_bagOf_132 : decode cX2_bagOf 132 = .ok (.invokevirtual 60, 3) := by decide +kernel
theorem dX2_bagOf_135 : decode cX2_bagOf 135 = .ok (.ireturn, 1) := by decide +kernel
theorem dX2_bearerOf_0 : decode cX2_bearerOf 0 = .ok (.aload_n 0, 1) := by decide +kernel
theorem dX2_bearerOf_1 : decode cX2_bearerOf 1 = .ok (.getfield 12, 3) := by decide +kernel
theorem dX2_bearerOf_4 : decode cX2_bearerOf 4 = .ok (.iload_n 1, 1) := by decide +kernel
theorem dX2_bearerOf_5 : decode cX2_bearerOf 5 = .ok (.invokevirtual 135, 3) := by decide +kernel
theorem dX2_bearerOf_8 : decode cX2_bearerOf 8 = .ok (.ifCond .ne 9, 3) := by decide +kernel
theorem dX2_bearerOf_11 : decode cX2_bearerOf 11 = .ok (.aload_n 0, 1) := by decide +kernel
theorem dX2_bearerOf_12 : decode cX2_bearerOf 12 = .ok (.iconst (-1), 1) := by decide +kernel
theorem dX2_bearerOf_13 : decode cX2_bearerOf 13 = .ok (.invokevirtual 60, 3) := by decide +kernel
theorem dX2_bearerOf_16 : decode cX2_bearerOf 16 = .ok (.ireturn, 1) := by decide +kernel
theorem dX2_bearerOf_17 : decode cX2_bearerOf 17 = .ok (.iload_n 2, 1) := by decide +kernel
theorem dX2_bearerOf_18 : decode cX2_bearerOf 18 = .ok (.tableswitch 105 0 5 #[38, 48, 58, 68, 78, 88], 38) := by decide +kernel
theorem dX2_bearerOf_56 : decode cX2_bearerOf 56 = .ok (.aload_n 0, 1) := by decide +kernel
theorem dX2_bearerOf_57 : decode cX2_bearerOf 57 = .ok (.getfield 12, 3) := by decide +kernel
theorem dX2_bearerOf_60 : decode cX2_bearerOf 60 = .ok (.getfield 138, 3) := by decide +kernel
theorem dX2_bearerOf_63 : decode cX2_bearerOf 63 = .ok (.iload_n 1, 1) := by decide +kernel
theorem dX2_bearerOf_64 : decode cX2_bearerOf 64 = .ok (.iaload, 1) := by decide +kernel
theorem dX2_bearerOf_65 : decode cX2_bearerOf 65 = .ok (.ireturn, 1) := by decide +kernel
theorem dX2_bearerOf_66 : decode cX2_bearerOf 66 = .ok (.aload_n 0, 1) := by decide +kernel
theorem dX2_bearerOf_67 : decode cX2_bearerOf 67 = .ok (.getfield 12, 3) := by decide +kernel
theorem dX2_bearerOf_70 : decode cX2_bearerOf 70 = .ok (.getfield 141, 3) := by decide +kernel
theorem dX2_bearerOf_73 : decode cX2_bearerOf 73 = .ok (.iload_n 1, 1) := by decide +kernel
theorem dX2_bearerOf_74 : decode cX2_bearerOf 74 = .ok (.iaload, 1) := by decide +kernel
theorem dX2_bearerOf_75 : decode cX2_bearerOf 75 = .ok (.ireturn, 1) := by decide +kernel
theorem dX2_bearerOf_76 : decode cX2_bearerOf 76 = .ok (.aload_n 0, 1) := by decide +kernel
theorem dX2_bearerOf_77 : decode cX2_bearerOf 77 = .ok (.getfield 12, 3) := by decide +kernel
theorem dX2_bearerOf_80 : decode cX2_bearerOf 80 = .ok (.getfield 144, 3) := by decide +kernel
theorem dX2_bearerOf_83 : decode cX2_bearerOf 83 = .ok (.iload_n 1, 1) := by decide +kernel
theorem dX2_bearerOf_84 : decode cX2_bearerOf 84 = .ok (.iaload, 1) := by decide +kernel
theorem dX2_bearerOf_85 : decode cX2_bearerOf 85 = .ok (.ireturn, 1) := by decide +kernel
theorem dX2_bearerOf_86 : decode cX2_bearerOf 86 = .ok (.aload_n 0, 1) := by decide +kernel
theorem dX2_bearerOf_87 : decode cX2_bearerOf 87 = .ok (.getfield 12, 3) := by decide +kernel
theorem dX2_bearerOf_90 : decode cX2_bearerOf 90 = .ok (.getfield 147, 3) := by decide +kernel
theorem dX2_bearerOf_93 : decode cX2_bearerOf 93 = .ok (.iload_n 1, 1) := by decide +kernel
theorem dX2_bearerOf_94 : decode cX2_bearerOf 94 = .ok (.iaload, 1) := by decide +kernel
theorem dX2_bearerOf_95 : decode cX2_bearerOf 95 = .ok (.ireturn, 1) := by decide +kernel
theorem dX2_bearerOf_96 : decode cX2_bearerOf 96 = .ok (.aload_n 0, 1) := by decide +kernel
theorem dX2_bearerOf_97 : decode cX2_bearerOf 97 = .ok (.getfield 12, 3) := by decide +kernel
theorem dX2_bearerOf_100 : decode cX2_bearerOf 100 = .ok (.getfield 150, 3) := by decide +kernel
theorem dX2_bearerOf_103 : decode cX2_bearerOf 103 = .ok (.iload_n 1, 1) := by decide +kernel
theorem dX2_bearerOf_104 : decode cX2_bearerOf 104 = .ok (.iaload, 1) := by decide +kernel
theorem dX2_bearerOf_105 : decode cX2_bearerOf 105 = .ok (.ireturn, 1) := by decide +kernel
theorem dX2_bearerOf_106 : decode cX2_bearerOf 106 = .ok (.aload_n 0, 1) := by decide +kernel
theorem dX2_bearerOf_107 : decode cX2_bearerOf 107 = .ok (.getfield 12, 3) := by decide +kernel
theorem dX2_bearerOf_110 : decode cX2_bearerOf 110 = .ok (.iload_n 1, 1) := by decide +kernel
theorem dX2_bearerOf_111 : decode cX2_bearerOf 111 = .ok (.invokevirtual 153, 3) := by decide +kernel
theorem dX2_bearerOf_114 : decode cX2_bearerOf 114 = .ok (.ifCond .eq 7, 3) := by decide +kernel
theorem dX2_bearerOf_117 : decode cX2_bearerOf 117 = .ok (.iconst 1, 1) := by decide +kernel
theorem dX2_bearerOf_118 : decode cX2_bearerOf 118 = .ok (.goto 4, 3) := by decide +kernel
theorem dX2_bearerOf_121 : decode cX2_bearerOf 121 = .ok (.iconst 0, 1) := by decide +kernel
theorem dX2_bearerOf_122 : decode cX2_bearerOf 122 = .ok (.ireturn, 1) := by decide +kernel
theorem dX2_bearerOf_123 : decode cX2_bearerOf 123 = .ok (.aload_n 0, 1) := by decide +kernel
theorem dX2_bearerOf_124 : decode cX2_bearerOf 124 = .ok (.bipush (-2), 2) := by decide +kernel
theorem dX2_bearerOf_126 : decode cX2_bearerOf 126 = .ok (.invokevirtual 60, 3) := by decide +kernel
theorem dX2_bearerOf_129 : decode cX2_bearerOf 129 = .ok (.ireturn, 1) := by decide +kernel
theorem dX2_count_0 : decode cX2_count 0 = .ok (.iload_n 1, 1) := by decide +kernel
theorem dX2_count_1 : decode cX2_count 1 = .ok (.tableswitch 126 0 9 #[55, 63, 71, 79, 87, 95, 103, 111, 116, 121], 55) := by decide +kernel
theorem dX2_count_56 : decode cX2_count 56 = .ok (.aload_n 0, 1) := by decide +kernel
theorem dX2_count_57 : decode cX2_count 57 = .ok (.getfield 12, 3) := by decide +kernel
theorem dX2_count_60 : decode cX2_count 60 = .ok (.getfield 156, 3) := by decide +kernel
theorem dX2_count_63 : decode cX2_count 63 = .ok (.ireturn, 1) := by decide +kernel
theorem dX2_count_64 : decode cX2_count 64 = .ok (.aload_n 0, 1) := by decide +kernel
theorem dX2_count_65 : decode cX2_count 65 = .ok (.getfield 12, 3) := by decide +kernel
theorem dX2_count_68 : decode cX2_count 68 = .ok (.getfield 159, 3) := by decide +kernel
theorem dX2_count_71 : decode cX2_count 71 = .ok (.ireturn, 1) := by decide +kernel
theorem dX2_count_72 : decode cX2_count 72 = .ok (.aload_n 0, 1) := by decide +kernel
theorem dX2_count_73 : decode cX2_count 73 = .ok (.getfield 12, 3) := by decide +kernel
theorem dX2_count_76 : decode cX2_count 76 = .ok (.getfield 104, 3) := by decide +kernel
theorem dX2_count_79 : decode cX2_count 79 = .ok (.ireturn, 1) := by decide +kernel
theorem dX2_count_80 : decode cX2_count 80 = .ok (.aload_n 0, 1) := by decide +kernel
theorem dX2_count_81 : decode cX2_count 81 = .ok (.getfield 12, 3) := by decide +kernel
theorem dX2_count_84 : decode cX2_count 84 = .ok (.getfield 101, 3) := by decide +kernel
theorem dX2_count_87 : decode cX2_count 87 = .ok (.ireturn, 1) := by decide +kernel
theorem dX2_count_88 : decode cX2_count 88 = .ok (.aload_n 0, 1) := by decide +kernel
theorem dX2_count_89 : decode cX2_count 89 = .ok (.getfield 12, 3) := by decide +kernel
theorem dX2_count_92 : decode cX2_count 92 = .ok (.invokevirtual 162, 3) := by decide +kernel
theorem dX2_count_95 : decode cX2_count 95 = .ok (.ireturn, 1) := by decide +kernel
theorem dX2_count_96 : decode cX2_count 96 = .ok (.aload_n 0, 1) := by decide +kernel
theorem dX2_count_97 : decode cX2_count 97 = .ok (.getfield 12, 3) := by decide +kernel
theorem dX2_count_100 : decode cX2_count 100 = .ok (.invokevirtual 166, 3) := by decide +kernel
theorem dX2_count_103 : decode cX2_count 103 = .ok (.ireturn, 1) := by decide +kernel
theorem dX2_count_104 : decode cX2_count 104 = .ok (.aload_n 0, 1) := by decide +kernel
theorem dX2_count_105 : decode cX2_count 105 = .ok (.getfield 12, 3) := by decide +kernel
theorem dX2_count_108 : decode cX2_count 108 = .ok (.invokevirtual 169, 3) := by decide +kernel
theorem dX2_count_111 : decode cX2_count 111 = .ok (.ireturn, 1) := by decide +kernel
theorem dX2_count_112 : decode cX2_count 112 = .ok (.aload_n 0, 1) := by decide +kernel
theorem dX2_count_113 : decode cX2_count 113 = .ok (.getfield 38, 3) := by decide +kernel
theorem dX2_count_116 : decode cX2_count 116 = .ok (.ireturn, 1) := by decide +kernel
theorem dX2_count_117 : decode cX2_count 117 = .ok (.aload_n 0, 1) := by decide +kernel
theorem dX2_count_118 : decode cX2_count 118 = .ok (.getfield 44, 3) := by decide +kernel
theorem dX2_count_121 : decode cX2_count 121 = .ok (.ireturn, 1) := by decide +kernel
theorem dX2_count_122 : decode cX2_count 122 = .ok (.aload_n 0, 1) := by decide +kernel
theorem dX2_count_123 : decode cX2_count 123 = .ok (.getfield 30, 3) := by decide +kernel
theorem dX2_count_126 : decode cX2_count 126 = .ok (.ireturn, 1) := by decide +kernel
theorem dX2_count_127 : decode cX2_count 127 = .ok (.iload_n 1, 1) := by decide +kernel
theorem dX2_count_128 : decode cX2_count 128 = .ok (.bipush 11, 2) := by decide +kernel
theorem dX2_count_130 : decode cX2_count 130 = .ok (.if_icmp .lt 21, 3) := by decide +kernel
theorem dX2_count_133 : decode cX2_count 133 = .ok (.iload_n 1, 1) := by decide +kernel
theorem dX2_count_134 : decode cX2_count 134 = .ok (.bipush 16, 2) := by decide +kernel
theorem dX2_count_136 : decode cX2_count 136 = .ok (.if_icmp .gt 15, 3) := by decide +kernel
theorem dX2_count_139 : decode cX2_count 139 = .ok (.aload_n 0, 1) := by decide +kernel
theorem dX2_count_140 : decode cX2_count 140 = .ok (.getfield 47, 3) := by decide +kernel
theorem dX2_count_143 : decode cX2_count 143 = .ok (.iload_n 1, 1) := by decide +kernel
theorem dX2_count_144 : decode cX2_count 144 = .ok (.bipush 10, 2) := by decide +kernel
theorem dX2_count_146 : decode cX2_count 146 = .ok (.isub, 1) := by decide +kernel
theorem dX2_count_147 : decode cX2_count 147 = .ok (.iaload, 1) := by decide +kernel
theorem dX2_count_148 : decode cX2_count 148 = .ok (.goto 5, 3) := by decide +kernel
theorem dX2_count_151 : decode cX2_count 151 = .ok (.bipush (-9), 2) := by decide +kernel
theorem dX2_count_153 : decode cX2_count 153 = .ok (.ireturn, 1) := by decide +kernel
theorem dX2_bag_0 : decode cX2_bag 0 = .ok (.iload_n 1, 1) := by decide +kernel
theorem dX2_bag_1 : decode cX2_bag 1 = .ok (.ifCond .lt 9, 3) := by decide +kernel
theorem dX2_bag_4 : decode cX2_bag 4 = .ok (.iload_n 1, 1) := by decide +kernel
theorem dX2_bag_5 : decode cX2_bag 5 = .ok (.bipush 6, 2) := by decide +kernel
theorem dX2_bag_7 : decode cX2_bag 7 = .ok (.if_icmp .lt 10, 3) := by decide +kernel
theorem dX2_bag_10 : decode cX2_bag 10 = .ok (.aload_n 0, 1) := by decide +kernel
theorem dX2_bag_11 : decode cX2_bag 11 = .ok (.bipush (-2), 2) := by decide +kernel
theorem dX2_bag_13 : decode cX2_bag 13 = .ok (.invokevirtual 60, 3) := by decide +kernel
theorem dX2_bag_16 : decode cX2_bag 16 = .ok (.ireturn, 1) := by decide +kernel
theorem dX2_bag_17 : decode cX2_bag 17 = .ok (.iload_n 2, 1) := by decide +kernel
theorem dX2_bag_18 : decode cX2_bag 18 = .ok (.ifCond .lt 7, 3) := by decide +kernel
theorem dX2_bag_21 : decode cX2_bag 21 = .ok (.iload_n 3, 1) := by decide +kernel
theorem dX2_bag_22 : decode cX2_bag 22 = .ok (.ifCond .ge 10, 3) := by decide +kernel
theorem dX2_bag_25 : decode cX2_bag 25 = .ok (.aload_n 0, 1) := by decide +kernel
theorem dX2_bag_26 : decode cX2_bag 26 = .ok (.bipush (-4), 2) := by decide +kernel
theorem dX2_bag_28 : decode cX2_bag 28 = .ok (.invokevirtual 60, 3) := by decide +kernel
theorem dX2_bag_31 : decode cX2_bag 31 = .ok (.ireturn, 1) := by decide +kernel
theorem dX2_bag_32 : decode cX2_bag 32 = .ok (.iload_n 2, 1) := by decide +kernel
theorem dX2_bag_33 : decode cX2_bag 33 = .ok (.bipush 10, 2) := by decide +kernel
theorem dX2_bag_35 : decode cX2_bag 35 = .ok (.if_icmp .ge 21, 3) := by decide +kernel
theorem dX2_bag_38 : decode cX2_bag 38 = .ok (.iload_n 3, 1) := by decide +kernel
theorem dX2_bag_39 : decode cX2_bag 39 = .ok (.bipush 10, 2) := by decide +kernel
theorem dX2_bag_41 : decode cX2_bag 41 = .ok (.if_icmp .ge 15, 3) := by decide +kernel
theorem dX2_bag_44 : decode cX2_bag 44 = .ok (.aload_n 0, 1) := by decide +kernel
theorem dX2_bag_45 : decode cX2_bag 45 = .ok (.getfield 12, 3) := by decide +kernel
theorem dX2_bag_48 : decode cX2_bag 48 = .ok (.getfield 156, 3) := by decide +kernel
theorem dX2_bag_51 : decode cX2_bag 51 = .ok (.bipush 6, 2) := by decide +kernel
theorem dX2_bag_53 : decode cX2_bag 53 = .ok (.if_icmp .lt 10, 3) := by decide +kernel
theorem dX2_bag_56 : decode cX2_bag 56 = .ok (.aload_n 0, 1) := by decide +kernel
theorem dX2_bag_57 : decode cX2_bag 57 = .ok (.bipush (-6), 2) := by decide +kernel
theorem dX2_bag_59 : decode cX2_bag 59 = .ok (.invokevirtual 60, 3) := by decide +kernel
theorem dX2_bag_62 : decode cX2_bag 62 = .ok (.ireturn, 1) := by decide +kernel
theorem dX2_bag_63 : decode cX2_bag 63 = .ok (.aload_n 0, 1) := by decide +kernel
theorem dX2_bag_64 : decode cX2_bag 64 = .ok (.invokevirtual 78, 3) := by decide +kernel
theorem dX2_bag_67 : decode cX2_bag 67 = .ok (.aload_n 0, 1) := by decide +kernel
theorem dX2_bag_68 : decode cX2_bag 68 = .ok (.getfield 12, 3) := by decide +kernel
theorem dX2_bag_71 : decode cX2_bag 71 = .ok (.iload_n 1, 1) := by decide +kernel
theorem dX2_bag_72 : decode cX2_bag 72 = .ok (.iload_n 2, 1) := by decide +kernel
theorem dX2_bag_73 : decode cX2_bag 73 = .ok (.iload_n 3, 1) := by decide +kernel
theorem dX2_bag_74 : decode cX2_bag 74 = .ok (.invokevirtual 87, 3) := by decide +kernel
theorem dX2_bag_77 : decode cX2_bag 77 = .ok (.ireturn, 1) := by decide +kernel
theorem dX2_bearer_0 : decode cX2_bearer 0 = .ok (.iload_n 1, 1) := by decide +kernel
theorem dX2_bearer_1 : decode cX2_bearer 1 = .ok (.ifCond .lt 11, 3) := by decide +kernel
theorem dX2_bearer_4 : decode cX2_bearer 4 = .ok (.iload_n 2, 1) := by decide +kernel
theorem dX2_bearer_5 : decode cX2_bearer 5 = .ok (.ifCond .lt 7, 3) := by decide +kernel
theorem dX2_bearer_8 : decode cX2_bearer 8 = .ok (.iload_n 3, 1) := by decide +kernel
theorem dX2_bearer_9 : decode cX2_bearer 9 = .ok (.ifCond .ge 10, 3) := by decide +kernel
theorem dX2_bearer_12 : decode cX2_bearer 12 = .ok (.aload_n 0, 1) := by decide +kernel
theorem dX2_bearer_13 : decode cX2_bearer 13 = .ok (.bipush (-4), 2) := by decide +kernel
theorem dX2_bearer_15 : decode cX2_bearer 15 = .ok (.invokevirtual 60, 3) := by decide +kernel
theorem dX2_bearer_18 : decode cX2_bearer 18 = .ok (.ireturn, 1) := by decide +kernel
theorem dX2_bearer_19 : decode cX2_bearer 19 = .ok (.iload_n 1, 1) := by decide +kernel
theorem dX2_bearer_20 : decode cX2_bearer 20 = .ok (.bipush 10, 2) := by decide +kernel
theorem dX2_bearer_22 : decode cX2_bearer 22 = .ok (.if_icmp .ge 26, 3) := by decide +kernel
theorem dX2_bearer_25 : decode cX2_bearer 25 = .ok (.iload_n 2, 1) := by decide +kernel
theorem dX2_bearer_26 : decode cX2_bearer 26 = .ok (.bipush 10, 2) := by decide +kernel
theorem dX2_bearer_28 : decode cX2_bearer 28 = .ok (.if_icmp .ge 20, 3) := by decide +kernel
theorem dX2_bearer_31 : decode cX2_bearer 31 = .ok (.iload_n 3, 1) := by decide +kernel
theorem dX2_bearer_32 : decode cX2_bearer 32 = .ok (.bipush 10, 2) := by decide +kernel
theorem dX2_bearer_34 : decode cX2_bearer 34 = .ok (.if_icmp .ge 14, 3) := by decide +kernel
theorem dX2_bearer_37 : decode cX2_bearer 37 = .ok (.aload_n 0, 1) := by decide +kernel
theorem dX2_bearer_38 : decode cX2_bearer 38 = .ok (.getfield 12, 3) := by decide +kernel
theorem dX2_bearer_41 : decode cX2_bearer 41 = .ok (.getfield 159, 3) := by decide +kernel
theorem dX2_bearer_44 : decode cX2_bearer 44 = .ok (.iconst 5, 1) := by decide +kernel
theorem dX2_bearer_45 : decode cX2_bearer 45 = .ok (.if_icmp .lt 10, 3) := by decide +kernel
theorem dX2_bearer_48 : decode cX2_bearer 48 = .ok (.aload_n 0, 1) := by decide +kernel
theorem dX2_bearer_49 : decode cX2_bearer 49 = .ok (.bipush (-6), 2) := by decide +kernel
theorem dX2_bearer_51 : decode cX2_bearer 51 = .ok (.invokevirtual 60, 3) := by decide +kernel
theorem dX2_bearer_54 : decode cX2_bearer 54 = .ok (.ireturn, 1) := by decide +kernel
theorem dX2_bearer_55 : decode cX2_bearer 55 = .ok (.aload_n 0, 1) := by decide +kernel
theorem dX2_bearer_56 : decode cX2_bearer 56 = .ok (.invokevirtual 78, 3) := by decide +kernel
theorem dX2_bearer_59 : decode cX2_bearer 59 = .ok (.aload_n 0, 1) := by decide +kernel
theorem dX2_bearer_60 : decode cX2_bearer 60 = .ok (.getfield 12, 3) := by decide +kernel
theorem dX2_bearer_63 : decode cX2_bearer 63 = .ok (.iload_n 1, 1) := by decide +kernel
theorem dX2_bearer_64 : decode cX2_bearer 64 = .ok (.iload_n 2, 1) := by decide +kernel
theorem dX2_bearer_65 : decode cX2_bearer 65 = .ok (.iload_n 3, 1) := by decide +kernel
theorem dX2_bearer_66 : decode cX2_bearer 66 = .ok (.invokevirtual 91, 3) := by decide +kernel
theorem dX2_bearer_69 : decode cX2_bearer 69 = .ok (.ireturn, 1) := by decide +kernel
theorem dX2_gives_0 : decode cX2_gives 0 = .ok (.aload_n 0, 1) := by decide +kernel
theorem dX2_gives_1 : decode cX2_gives 1 = .ok (.getfield 12, 3) := by decide +kernel
theorem dX2_gives_4 : decode cX2_gives 4 = .ok (.iload_n 1, 1) := by decide +kernel
theorem dX2_gives_5 : decode cX2_gives 5 = .ok (.invokevirtual 111, 3) := by decide +kernel
theorem dX2_gives_8 : decode cX2_gives 8 = .ok (.ifCond .eq 14, 3) := by decide +kernel
theorem dX2_gives_11 : decode cX2_gives 11 = .ok (.aload_n 0, 1) := by decide +kernel
theorem dX2_gives_12 : decode cX2_gives 12 = .ok (.getfield 12, 3) := by decide +kernel
theorem dX2_gives_15 : decode cX2_gives 15 = .ok (.iload_n 2, 1) := by decide +kernel
theorem dX2_gives_16 : decode cX2_gives 16 = .ok (.invokevirtual 135, 3) := by decide +kernel
theorem dX2_gives_19 : decode cX2_gives 19 = .ok (.ifCond .ne 9, 3) := by decide +kernel
theorem dX2_gives_22 : decode cX2_gives 22 = .ok (.aload_n 0, 1) := by decide +kernel
theorem dX2_gives_23 : decode cX2_gives 23 = .ok (.iconst (-1), 1) := by decide +kernel
theorem dX2_gives_24 : decode cX2_gives 24 = .ok (.invokevirtual 60, 3) := by decide +kernel
theorem dX2_gives_27 : decode cX2_gives 27 = .ok (.ireturn, 1) := by decide +kernel
theorem dX2_gives_28 : decode cX2_gives 28 = .ok (.aload_n 0, 1) := by decide +kernel
theorem dX2_gives_29 : decode cX2_gives 29 = .ok (.invokevirtual 172, 3) := by decide +kernel
theorem dX2_gives_32 : decode cX2_gives 32 = .ok (.aload_n 0, 1) := by decide +kernel
theorem dX2_gives_33 : decode cX2_gives 33 = .ok (.getfield 12, 3) := by decide +kernel
theorem dX2_gives_36 : decode cX2_gives 36 = .ok (.getfield 147, 3) := by decide +kernel
theorem dX2_gives_39 : decode cX2_gives 39 = .ok (.iload_n 2, 1) := by decide +kernel
theorem dX2_gives_40 : decode cX2_gives 40 = .ok (.iaload, 1) := by decide +kernel
theorem dX2_gives_41 : decode cX2_gives 41 = .ok (.istore_n 3, 1) := by decide +kernel
theorem dX2_gives_42 : decode cX2_gives 42 = .ok (.aload_n 0, 1) := by decide +kernel
theorem dX2_gives_43 : decode cX2_gives 43 = .ok (.getfield 12, 3) := by decide +kernel
theorem dX2_gives_46 : decode cX2_gives 46 = .ok (.iload_n 1, 1) := by decide +kernel
theorem dX2_gives_47 : decode cX2_gives 47 = .ok (.iload_n 2, 1) := by decide +kernel
theorem dX2_gives_48 : decode cX2_gives 48 = .ok (.invokevirtual 94, 3) := by decide +kernel
theorem dX2_gives_51 : decode cX2_gives 51 = .ok (.pop, 1) := by decide +kernel
theorem dX2_gives_52 : decode cX2_gives 52 = .ok (.iload_n 3, 1) := by decide +kernel
theorem dX2_gives_53 : decode cX2_gives 53 = .ok (.ireturn, 1) := by decide +kernel
theorem dX2_friends_0 : decode cX2_friends 0 = .ok (.aload_n 0, 1) := by decide +kernel
theorem dX2_friends_1 : decode cX2_friends 1 = .ok (.getfield 12, 3) := by decide +kernel
theorem dX2_friends_4 : decode cX2_friends 4 = .ok (.iload_n 1, 1) := by decide +kernel
theorem dX2_friends_5 : decode cX2_friends 5 = .ok (.invokevirtual 111, 3) := by decide +kernel
theorem dX2_friends_8 : decode cX2_friends 8 = .ok (.ifCond .eq 14, 3) := by decide +kernel
theorem dX2_friends_11 : decode cX2_friends 11 = .ok (.aload_n 0, 1) := by decide +kernel
theorem dX2_friends_12 : decode cX2_friends 12 = .ok (.getfield 12, 3) := by decide +kernel
theorem dX2_friends_15 : decode cX2_friends 15 = .ok (.iload_n 2, 1) := by decide +kernel
theorem dX2_friends_16 : decode cX2_friends 16 = .ok (.invokevirtual 111, 3) := by decide +kernel
theorem dX2_friends_19 : decode cX2_friends 19 = .ok (.ifCond .ne 9, 3) := by decide +kernel
theorem dX2_friends_22 : decode cX2_friends 22 = .ok (.aload_n 0, 1) := by decide +kernel
theorem dX2_friends_23 : decode cX2_friends 23 = .ok (.iconst (-1), 1) := by decide +kernel
theorem dX2_friends_24 : decode cX2_friends 24 = .ok (.invokevirtual 60, 3) := by decide +kernel
theorem dX2_friends_27 : decode cX2_friends 27 = .ok (.ireturn, 1) := by decide +kernel
theorem dX2_friends_28 : decode cX2_friends 28 = .ok (.aload_n 0, 1) := by decide +kernel
theorem dX2_friends_29 : decode cX2_friends 29 = .ok (.invokevirtual 78, 3) := by decide +kernel
theorem dX2_friends_32 : decode cX2_friends 32 = .ok (.aload_n 0, 1) := by decide +kernel
theorem dX2_friends_33 : decode cX2_friends 33 = .ok (.getfield 12, 3) := by decide +kernel
theorem dX2_friends_36 : decode cX2_friends 36 = .ok (.iload_n 1, 1) := by decide +kernel
theorem dX2_friends_37 : decode cX2_friends 37 = .ok (.iload_n 2, 1) := by decide +kernel
theorem dX2_friends_38 : decode cX2_friends 38 = .ok (.invokevirtual 98, 3) := by decide +kernel
theorem dX2_friends_41 : decode cX2_friends 41 = .ok (.pop, 1) := by decide +kernel
theorem dX2_friends_42 : decode cX2_friends 42 = .ok (.iload_n 1, 1) := by decide +kernel
theorem dX2_friends_43 : decode cX2_friends 43 = .ok (.iload_n 2, 1) := by decide +kernel
theorem dX2_friends_44 : decode cX2_friends 44 = .ok (.if_icmp .ne 7, 3) := by decide +kernel
theorem dX2_friends_47 : decode cX2_friends 47 = .ok (.iconst 0, 1) := by decide +kernel
theorem dX2_friends_48 : decode cX2_friends 48 = .ok (.goto 4, 3) := by decide +kernel
theorem dX2_friends_51 : decode cX2_friends 51 = .ok (.iconst 1, 1) := by decide +kernel
theorem dX2_friends_52 : decode cX2_friends 52 = .ok (.ireturn, 1) := by decide +kernel
theorem dX2_wants_0 : decode cX2_wants 0 = .ok (.aload_n 0, 1) := by decide +kernel
theorem dX2_wants_1 : decode cX2_wants 1 = .ok (.getfield 12, 3) := by decide +kernel
theorem dX2_wants_4 : decode cX2_wants 4 = .ok (.iload_n 1, 1) := by decide +kernel
theorem dX2_wants_5 : decode cX2_wants 5 = .ok (.invokevirtual 135, 3) := by decide +kernel
theorem dX2_wants_8 : decode cX2_wants 8 = .ok (.ifCond .eq 10, 3) := by decide +kernel
theorem dX2_wants_11 : decode cX2_wants 11 = .ok (.iload_n 2, 1) := by decide +kernel
theorem dX2_wants_12 : decode cX2_wants 12 = .ok (.invokestatic 175, 3) := by decide +kernel
theorem dX2_wants_15 : decode cX2_wants 15 = .ok (.ifCond .ne 9, 3) := by decide +kernel
theorem dX2_wants_18 : decode cX2_wants 18 = .ok (.aload_n 0, 1) := by decide +kernel
theorem dX2_wants_19 : decode cX2_wants 19 = .ok (.iconst (-1), 1) := by decide +kernel
theorem dX2_wants_20 : decode cX2_wants 20 = .ok (.invokevirtual 60, 3) := by decide +kernel
theorem dX2_wants_23 : decode cX2_wants 23 = .ok (.ireturn, 1) := by decide +kernel
theorem dX2_wants_24 : decode cX2_wants 24 = .ok (.aload_n 0, 1) := by decide +kernel
theorem dX2_wants_25 : decode cX2_wants 25 = .ok (.invokevirtual 172, 3) := by decide +kernel
theorem dX2_wants_28 : decode cX2_wants 28 = .ok (.aload_n 0, 1) := by decide +kernel
theorem dX2_wants_29 : decode cX2_wants 29 = .ok (.getfield 12, 3) := by decide +kernel
theorem dX2_wants_32 : decode cX2_wants 32 = .ok (.getfield 141, 3) := by decide +kernel
theorem dX2_wants_35 : decode cX2_wants 35 = .ok (.iload_n 1, 1) := by decide +kernel
theorem dX2_wants_36 : decode cX2_wants 36 = .ok (.iaload, 1) := by decide +kernel
theorem dX2_wants_37 : decode cX2_wants 37 = .ok (.istore_n 3, 1) := by decide +kernel
theorem dX2_wants_38 : decode cX2_wants 38 = .ok (.aload_n 0, 1) := by decide +kernel
theorem dX2_wants_39 : decode cX2_wants 39 = .ok (.getfield 12, 3) := by decide +kernel
theorem dX2_wants_42 : decode cX2_wants 42 = .ok (.getfield 141, 3) := by decide +kernel
theorem dX2_wants_45 : decode cX2_wants 45 = .ok (.iload_n 1, 1) := by decide +kernel
theorem dX2_wants_46 : decode cX2_wants 46 = .ok (.iload_n 2, 1) := by decide +kernel
theorem dX2_wants_47 : decode cX2_wants 47 = .ok (.iastore, 1) := by decide +kernel
theorem dX2_wants_48 : decode cX2_wants 48 = .ok (.iload_n 3, 1) := by decide +kernel
theorem dX2_wants_49 : decode cX2_wants 49 = .ok (.ireturn, 1) := by decide +kernel
theorem dX2_put_0 : decode cX2_put 0 = .ok (.aload_n 0, 1) := by decide +kernel
theorem dX2_put_1 : decode cX2_put 1 = .ok (.getfield 12, 3) := by decide +kernel
theorem dX2_put_4 : decode cX2_put 4 = .ok (.iload_n 1, 1) := by decide +kernel
theorem dX2_put_5 : decode cX2_put 5 = .ok (.invokevirtual 135, 3) := by decide +kernel
theorem dX2_put_8 : decode cX2_put 8 = .ok (.ifCond .eq 10, 3) := by decide +kernel
theorem dX2_put_11 : decode cX2_put 11 = .ok (.iload_n 2, 1) := by decide +kernel
theorem dX2_put_12 : decode cX2_put 12 = .ok (.invokestatic 175, 3) := by decide +kernel
theorem dX2_put_15 : decode cX2_put 15 = .ok (.ifCond .ne 9, 3) := by decide +kernel
theorem dX2_put_18 : decode cX2_put 18 = .ok (.aload_n 0, 1) := by decide +kernel
theorem dX2_put_19 : decode cX2_put 19 = .ok (.iconst (-1), 1) := by decide +kernel
theorem dX2_put_20 : decode cX2_put 20 = .ok (.invokevirtual 60, 3) := by decide +kernel
theorem dX2_put_23 : decode cX2_put 23 = .ok (.ireturn, 1) := by decide +kernel
theorem dX2_put_24 : decode cX2_put 24 = .ok (.aload_n 0, 1) := by decide +kernel
theorem dX2_put_25 : decode cX2_put 25 = .ok (.invokevirtual 172, 3) := by decide +kernel
theorem dX2_put_28 : decode cX2_put 28 = .ok (.aload_n 0, 1) := by decide +kernel
theorem dX2_put_29 : decode cX2_put 29 = .ok (.getfield 12, 3) := by decide +kernel
theorem dX2_put_32 : decode cX2_put 32 = .ok (.getfield 144, 3) := by decide +kernel
theorem dX2_put_35 : decode cX2_put 35 = .ok (.iload_n 1, 1) := by decide +kernel
theorem dX2_put_36 : decode cX2_put 36 = .ok (.iaload, 1) := by decide +kernel
theorem dX2_put_37 : decode cX2_put 37 = .ok (.istore_n 3, 1) := by decide +kernel
theorem dX2_put_38 : decode cX2_put 38 = .ok (.aload_n 0, 1) := by decide +kernel
theorem dX2_put_39 : decode cX2_put 39 = .ok (.getfield 12, 3) := by decide +kernel
theorem dX2_put_42 : decode cX2_put 42 = .ok (.getfield 144, 3) := by decide +kernel
theorem dX2_put_45 : decode cX2_put 45 = .ok (.iload_n 1, 1) := by decide +kernel
theorem dX2_put_46 : decode cX2_put 46 = .ok (.iload_n 2, 1) := by decide +kernel
theorem dX2_put_47 : decode cX2_put 47 = .ok (.iastore, 1) := by decide +kernel
theorem dX2_put_48 : decode cX2_put 48 = .ok (.iload_n 3, 1) := by decide +kernel
theorem dX2_put_49 : decode cX2_put 49 = .ok (.ireturn, 1) := by decide +kernel
theorem dX2_colonel_0 : decode cX2_colonel 0 = .ok (.iload_n 1, 1) := by decide +kernel
theorem dX2_colonel_1 : decode cX2_colonel 1 = .ok (.invokestatic 175, 3) := by decide +kernel
theorem dX2_colonel_4 : decode cX2_colonel 4 = .ok (.ifCond .ne 9, 3) := by decide +kernel
theorem dX2_colonel_7 : decode cX2_colonel 7 = .ok (.aload_n 0, 1) := by decide +kernel
theorem dX2_colonel_8 : decode cX2_colonel 8 = .ok (.iconst (-1), 1) := by decide +kernel
theorem dX2_colonel_9 : decode cX2_colonel 9 = .ok (.invokevirtual 60, 3) := by decide +kernel
theorem dX2_colonel_12 : decode cX2_colonel 12 = .ok (.ireturn, 1) := by decide +kernel
theorem dX2_colonel_13 : decode cX2_colonel 13 = .ok (.aload_n 0, 1) := by decide +kernel
theorem dX2_colonel_14 : decode cX2_colonel 14 = .ok (.invokevirtual 172, 3) := by decide +kernel
theorem dX2_colonel_17 : decode cX2_colonel 17 = .ok (.aload_n 0, 1) := by decide +kernel
theorem dX2_colonel_18 : decode cX2_colonel 18 = .ok (.getfield 12, 3) := by decide +kernel
theorem dX2_colonel_21 : decode cX2_colonel 21 = .ok (.getfield 101, 3) := by decide +kernel
theorem dX2_colonel_24 : decode cX2_colonel 24 = .ok (.istore_n 2, 1) := by decide +kernel
theorem dX2_colonel_25 : decode cX2_colonel 25 = .ok (.aload_n 0, 1) := by decide +kernel
theorem dX2_colonel_26 : decode cX2_colonel 26 = .ok (.getfield 12, 3) := by decide +kernel
theorem dX2_colonel_29 : decode cX2_colonel 29 = .ok (.iload_n 1, 1) := by decide +kernel
theorem dX2_colonel_30 : decode cX2_colonel 30 = .ok (.putfield 101, 3) := by decide +kernel
theorem dX2_colonel_33 : decode cX2_colonel 33 = .ok (.iload_n 2, 1) := by decide +kernel
theorem dX2_colonel_34 : decode cX2_colonel 34 = .ok (.ireturn, 1) := by decide +kernel
theorem dX2_hours_0 : decode cX2_hours 0 = .ok (.iload_n 1, 1) := by decide +kernel
theorem dX2_hours_1 : decode cX2_hours 1 = .ok (.iconst 1, 1) := by decide +kernel
theorem dX2_hours_2 : decode cX2_hours 2 = .ok (.if_icmp .ge 10, 3) := by decide +kernel
theorem dX2_hours_5 : decode cX2_hours 5 = .ok (.aload_n 0, 1) := by decide +kernel
theorem dX2_hours_6 : decode cX2_hours 6 = .ok (.bipush (-4), 2) := by decide +kernel
theorem dX2_hours_8 : decode cX2_hours 8 = .ok (.invokevirtual 60, 3) := by decide +kernel
theorem dX2_hours_11 : decode cX2_hours 11 = .ok (.ireturn, 1) := by decide +kernel
theorem dX2_hours_12 : decode cX2_hours 12 = .ok (.iload_n 1, 1) := by decide +kernel
theorem dX2_hours_13 : decode cX2_hours 13 = .ok (.bipush 60, 2) := by decide +kernel
theorem dX2_hours_15 : decode cX2_hours 15 = .ok (.if_icmp .gt 18, 3) := by decide +kernel
theorem dX2_hours_18 : decode cX2_hours 18 = .ok (.aload_n 0, 1) := by decide +kernel
theorem dX2_hours_19 : decode cX2_hours 19 = .ok (.getfield 12, 3) := by decide +kernel
theorem dX2_hours_22 : decode cX2_hours 22 = .ok (.getfield 104, 3) := by decide +kernel
theorem dX2_hours_25 : decode cX2_hours 25 = .ok (.iload_n 1, 1) := by decide +kernel
theorem dX2_hours_26 : decode cX2_hours 26 = .ok (.iadd, 1) := by decide +kernel
theorem dX2_hours_27 : decode cX2_hours 27 = .ok (.sipush 999, 3) := by decide +kernel
theorem dX2_hours_30 : decode cX2_hours 30 = .ok (.if_icmp .le 10, 3) := by decide +kernel
theorem dX2_hours_33 : decode cX2_hours 33 = .ok (.aload_n 0, 1) := by decide +kernel
theorem dX2_hours_34 : decode cX2_hours 34 = .ok (.bipush (-6), 2) := by decide +kernel
theorem dX2_hours_36 : decode cX2_hours 36 = .ok (.invokevirtual 60, 3) := by decide +kernel
theorem dX2_hours_39 : decode cX2_hours 39 = .ok (.ireturn, 1) := by decide +kernel
theorem dX2_hours_40 : decode cX2_hours 40 = .ok (.aload_n 0, 1) := by decide +kernel
theorem dX2_hours_41 : decode cX2_hours 41 = .ok (.invokevirtual 78, 3) := by decide +kernel
theorem dX2_hours_44 : decode cX2_hours 44 = .ok (.aload_n 0, 1) := by decide +kernel
theorem dX2_hours_45 : decode cX2_hours 45 = .ok (.getfield 12, 3) := by decide +kernel
theorem dX2_hours_48 : decode cX2_hours 48 = .ok (.invokevirtual 178, 3) := by decide +kernel
theorem dX2_hours_51 : decode cX2_hours 51 = .ok (.aload_n 0, 1) := by decide +kernel
theorem dX2_hours_52 : decode cX2_hours 52 = .ok (.getfield 12, 3) := by decide +kernel
theorem dX2_hours_55 : decode cX2_hours 55 = .ok (.iload_n 1, 1) := by decide +kernel
theorem dX2_hours_56 : decode cX2_hours 56 = .ok (.invokevirtual 107, 3) := by decide +kernel
theorem dX2_hours_59 : decode cX2_hours 59 = .ok (.aload_n 0, 1) := by decide +kernel
theorem dX2_hours_60 : decode cX2_hours 60 = .ok (.getfield 12, 3) := by decide +kernel
theorem dX2_hours_63 : decode cX2_hours 63 = .ok (.getfield 181, 3) := by decide +kernel
theorem dX2_hours_66 : decode cX2_hours 66 = .ok (.ireturn, 1) := by decide +kernel
theorem dX2_back_0 : decode cX2_back 0 = .ok (.aload_n 0, 1) := by decide +kernel
theorem dX2_back_1 : decode cX2_back 1 = .ok (.getfield 30, 3) := by decide +kernel
theorem dX2_back_4 : decode cX2_back 4 = .ok (.ifCond .gt 10, 3) := by decide +kernel
theorem dX2_back_7 : decode cX2_back 7 = .ok (.aload_n 0, 1) := by decide +kernel
theorem dX2_back_8 : decode cX2_back 8 = .ok (.bipush (-3), 2) := by decide +kernel
theorem dX2_back_10 : decode cX2_back 10 = .ok (.invokevirtual 60, 3) := by decide +kernel
theorem dX2_back_13 : decode cX2_back 13 = .ok (.ireturn, 1) := by decide +kernel
theorem dX2_back_14 : decode cX2_back 14 = .ok (.aload_n 0, 1) := by decide +kernel
theorem dX2_back_15 : decode cX2_back 15 = .ok (.dup, 1) := by decide +kernel
theorem dX2_back_16 : decode cX2_back 16 = .ok (.getfield 30, 3) := by decide +kernel
theorem dX2_back_19 : decode cX2_back 19 = .ok (.iconst 1, 1) := by decide +kernel
theorem dX2_back_20 : decode cX2_back 20 = .ok (.isub, 1) := by decide +kernel
theorem dX2_back_21 : decode cX2_back 21 = .ok (.putfield 30, 3) := by decide +kernel
theorem dX2_back_24 : decode cX2_back 24 = .ok (.aload_n 0, 1) := by decide +kernel
theorem dX2_back_25 : decode cX2_back 25 = .ok (.getfield 12, 3) := by decide +kernel
theorem dX2_back_28 : decode cX2_back 28 = .ok (.aload_n 0, 1) := by decide +kernel
theorem dX2_back_29 : decode cX2_back 29 = .ok (.getfield 26, 3) := by decide +kernel
theorem dX2_back_32 : decode cX2_back 32 = .ok (.aload_n 0, 1) := by decide +kernel
theorem dX2_back_33 : decode cX2_back 33 = .ok (.getfield 30, 3) := by decide +kernel
theorem dX2_back_36 : decode cX2_back 36 = .ok (.aaload, 1) := by decide +kernel
theorem dX2_back_37 : decode cX2_back 37 = .ok (.invokevirtual 74, 3) := by decide +kernel
theorem dX2_back_40 : decode cX2_back 40 = .ok (.aload_n 0, 1) := by decide +kernel
theorem dX2_back_41 : decode cX2_back 41 = .ok (.getfield 30, 3) := by decide +kernel
theorem dX2_back_44 : decode cX2_back 44 = .ok (.ireturn, 1) := by decide +kernel
theorem dX2_image_0 : decode cX2_image 0 = .ok (.aload_n 0, 1) := by decide +kernel
theorem dX2_image_1 : decode cX2_image 1 = .ok (.getfield 19, 3) := by decide +kernel
theorem dX2_image_4 : decode cX2_image 4 = .ok (.aload_n 0, 1) := by decide +kernel
theorem dX2_image_5 : decode cX2_image 5 = .ok (.getfield 12, 3) := by decide +kernel
theorem dX2_image_8 : decode cX2_image 8 = .ok (.invokevirtual 74, 3) := by decide +kernel
theorem dX2_image_11 : decode cX2_image 11 = .ok (.aload_n 0, 1) := by decide +kernel
theorem dX2_image_12 : decode cX2_image 12 = .ok (.iconst 1, 1) := by decide +kernel
theorem dX2_image_13 : decode cX2_image 13 = .ok (.putfield 22, 3) := by decide +kernel
theorem dX2_image_16 : decode cX2_image 16 = .ok (.aload_n 0, 1) := by decide +kernel
theorem dX2_image_17 : decode cX2_image 17 = .ok (.getfield 12, 3) := by decide +kernel
theorem dX2_image_20 : decode cX2_image 20 = .ok (.getfield 104, 3) := by decide +kernel
theorem dX2_image_23 : decode cX2_image 23 = .ok (.ireturn, 1) := by decide +kernel
theorem dX2_restore_0 : decode cX2_restore 0 = .ok (.aload_n 0, 1) := by decide +kernel
theorem dX2_restore_1 : decode cX2_restore 1 = .ok (.getfield 22, 3) := by decide +kernel
theorem dX2_restore_4 : decode cX2_restore 4 = .ok (.ifCond .ne 10, 3) := by decide +kernel
theorem dX2_restore_7 : decode cX2_restore 7 = .ok (.aload_n 0, 1) := by decide +kernel
theorem dX2_restore_8 : decode cX2_restore 8 = .ok (.bipush (-3), 2) := by decide +kernel
theorem dX2_restore_10 : decode cX2_restore 10 = .ok (.invokevirtual 60, 3) := by decide +kernel
theorem dX2_restore_13 : decode cX2_restore 13 = .ok (.ireturn, 1) := by decide +kernel
theorem dX2_restore_14 : decode cX2_restore 14 = .ok (.aload_n 0, 1) := by decide +kernel
theorem dX2_restore_15 : decode cX2_restore 15 = .ok (.getfield 12, 3) := by decide +kernel
theorem dX2_restore_18 : decode cX2_restore 18 = .ok (.aload_n 0, 1) := by decide +kernel
theorem dX2_restore_19 : decode cX2_restore 19 = .ok (.getfield 19, 3) := by decide +kernel
theorem dX2_restore_22 : decode cX2_restore 22 = .ok (.invokevirtual 74, 3) := by decide +kernel
theorem dX2_restore_25 : decode cX2_restore 25 = .ok (.aload_n 0, 1) := by decide +kernel
theorem dX2_restore_26 : decode cX2_restore 26 = .ok (.invokevirtual 78, 3) := by decide +kernel
theorem dX2_restore_29 : decode cX2_restore 29 = .ok (.aload_n 0, 1) := by decide +kernel
theorem dX2_restore_30 : decode cX2_restore 30 = .ok (.getfield 12, 3) := by decide +kernel
theorem dX2_restore_33 : decode cX2_restore 33 = .ok (.getfield 104, 3) := by decide +kernel
theorem dX2_restore_36 : decode cX2_restore 36 = .ok (.ireturn, 1) := by decide +kernel
theorem dX2_remember_0 : decode cX2_remember 0 = .ok (.aload_n 0, 1) := by decide +kernel
theorem dX2_remember_1 : decode cX2_remember 1 = .ok (.getfield 30, 3) := by decide +kernel
theorem dX2_remember_4 : decode cX2_remember 4 = .ok (.bipush 8, 2) := by decide +kernel
theorem dX2_remember_6 : decode cX2_remember 6 = .ok (.if_icmp .lt 52, 3) := by decide +kernel
theorem dX2_remember_9 : decode cX2_remember 9 = .ok (.aload_n 0, 1) := by decide +kernel
theorem dX2_remember_10 : decode cX2_remember 10 = .ok (.getfield 26, 3) := by decide +kernel
theorem dX2_remember_13 : decode cX2_remember 13 = .ok (.iconst 0, 1) := by decide +kernel
theorem dX2_remember_14 : decode cX2_remember 14 = .ok (.aaload, 1) := by decide +kernel
theorem dX2_remember_15 : decode cX2_remember 15 = .ok (.astore_n 1, 1) := by decide +kernel
theorem dX2_remember_16 : decode cX2_remember 16 = .ok (.iconst 1, 1) := by decide +kernel
theorem dX2_remember_17 : decode cX2_remember 17 = .ok (.istore_n 2, 1) := by decide +kernel
theorem dX2_remember_18 : decode cX2_remember 18 = .ok (.iload_n 2, 1) := by decide +kernel
theorem dX2_remember_19 : decode cX2_remember 19 = .ok (.bipush 8, 2) := by decide +kernel
theorem dX2_remember_21 : decode cX2_remember 21 = .ok (.if_icmp .ge 23, 3) := by decide +kernel
theorem dX2_remember_24 : decode cX2_remember 24 = .ok (.aload_n 0, 1) := by decide +kernel
theorem dX2_remember_25 : decode cX2_remember 25 = .ok (.getfield 26, 3) := by decide +kernel
theorem dX2_remember_28 : decode cX2_remember 28 = .ok (.iload_n 2, 1) := by decide +kernel
theorem dX2_remember_29 : decode cX2_remember 29 = .ok (.iconst 1, 1) := by decide +kernel
theorem dX2_remember_30 : decode cX2_remember 30 = .ok (.isub, 1) := by decide +kernel
theorem dX2_remember_31 : decode cX2_remember 31 = .ok (.aload_n 0, 1) := by decide +kernel
theorem dX2_remember_32 : decode cX2_remember 32 = .ok (.getfield 26, 3) := by decide +kernel
theorem dX2_remember_35 : decode cX2_remember 35 = .ok (.iload_n 2, 1) := by decide +kernel
theorem dX2_remember_36 : decode cX2_remember 36 = .ok (.aaload, 1) := by decide +kernel
theorem dX2_remember_37 : decode cX2_remember 37 = .ok (.aastore, 1) := by decide +kernel
theorem dX2_remember_38 : decode cX2_remember 38 = .ok (.iinc 2 1, 3) := by decide +kernel
theorem dX2_remember_41 : decode cX2_remember 41 = .ok (.goto (-23), 3) := by decide +kernel
theorem dX2_remember_44 : decode cX2_remember 44 = .ok (.aload_n 0, 1) := by decide +kernel
theorem dX2_remember_45 : decode cX2_remember 45 = .ok (.getfield 26, 3) := by decide +kernel
theorem dX2_remember_48 : decode cX2_remember 48 = .ok (.bipush 7, 2) := by decide +kernel
theorem dX2_remember_50 : decode cX2_remember 50 = .ok (.aload_n 1, 1) := by decide +kernel
theorem dX2_remember_51 : decode cX2_remember 51 = .ok (.aastore, 1) := by decide +kernel
theorem dX2_remember_52 : decode cX2_remember 52 = .ok (.aload_n 0, 1) := by decide +kernel
theorem dX2_remember_53 : decode cX2_remember 53 = .ok (.bipush 7, 2) := by decide +kernel
theorem dX2_remember_55 : decode cX2_remember 55 = .ok (.putfield 30, 3) := by decide +kernel
theorem dX2_remember_58 : decode cX2_remember 58 = .ok (.aload_n 0, 1) := by decide +kernel
theorem dX2_remember_59 : decode cX2_remember 59 = .ok (.getfield 26, 3) := by decide +kernel
theorem dX2_remember_62 : decode cX2_remember 62 = .ok (.aload_n 0, 1) := by decide +kernel
theorem dX2_remember_63 : decode cX2_remember 63 = .ok (.getfield 30, 3) := by decide +kernel
theorem dX2_remember_66 : decode cX2_remember 66 = .ok (.aaload, 1) := by decide +kernel
theorem dX2_remember_67 : decode cX2_remember 67 = .ok (.aload_n 0, 1) := by decide +kernel
theorem dX2_remember_68 : decode cX2_remember 68 = .ok (.getfield 12, 3) := by decide +kernel
theorem dX2_remember_71 : decode cX2_remember 71 = .ok (.invokevirtual 74, 3) := by decide +kernel
theorem dX2_remember_74 : decode cX2_remember 74 = .ok (.aload_n 0, 1) := by decide +kernel
theorem dX2_remember_75 : decode cX2_remember 75 = .ok (.dup, 1) := by decide +kernel
theorem dX2_remember_76 : decode cX2_remember 76 = .ok (.getfield 30, 3) := by decide +kernel
theorem dX2_remember_79 : decode cX2_remember 79 = .ok (.iconst 1, 1) := by decide +kernel
theorem dX2_remember_80 : decode cX2_remember 80 = .ok (.iadd, 1) := by decide +kernel
theorem dX2_remember_81 : decode cX2_remember 81 = .ok (.putfield 30, 3) := by decide +kernel
theorem dX2_remember_84 : decode cX2_remember 84 = .ok (.return_, 1) := by decide +kernel
theorem dX2_forgetPast_0 : decode cX2_forgetPast 0 = .ok (.aload_n 0, 1) := by decide +kernel
theorem dX2_forgetPast_1 : decode cX2_forgetPast 1 = .ok (.iconst 0, 1) := by decide +kernel
theorem dX2_forgetPast_2 : decode cX2_forgetPast 2 = .ok (.putfield 30, 3) := by decide +kernel
theorem dX2_forgetPast_5 : decode cX2_forgetPast 5 = .ok (.return_, 1) := by decide +kernel
theorem dX2_behind_0 : decode cX2_behind 0 = .ok (.aload_n 0, 1) := by decide +kernel
theorem dX2_behind_1 : decode cX2_behind 1 = .ok (.getfield 12, 3) := by decide +kernel
theorem dX2_behind_4 : decode cX2_behind 4 = .ok (.iload_n 1, 1) := by decide +kernel
theorem dX2_behind_5 : decode cX2_behind 5 = .ok (.invokevirtual 135, 3) := by decide +kernel
theorem dX2_behind_8 : decode cX2_behind 8 = .ok (.ifCond .ne 9, 3) := by decide +kernel
theorem dX2_behind_11 : decode cX2_behind 11 = .ok (.aload_n 0, 1) := by decide +kernel
theorem dX2_behind_12 : decode cX2_behind 12 = .ok (.iconst (-1), 1) := by decide +kernel
theorem dX2_behind_13 : decode cX2_behind 13 = .ok (.invokevirtual 60, 3) := by decide +kernel
theorem dX2_behind_16 : decode cX2_behind 16 = .ok (.ireturn, 1) := by decide +kernel
theorem dX2_behind_17 : decode cX2_behind 17 = .ok (.iload_n 2, 1) := by decide +kernel
theorem dX2_behind_18 : decode cX2_behind 18 = .ok (.invokestatic 184, 3) := by decide +kernel
theorem dX2_behind_21 : decode cX2_behind 21 = .ok (.istore 4, 2) := by decide +kernel
theorem dX2_behind_23 : decode cX2_behind 23 = .ok (.iload 4, 2) := by decide +kernel
theorem dX2_behind_25 : decode cX2_behind 25 = .ok (.ifCond .eq 10, 3) := by decide +kernel
theorem dX2_behind_28 : decode cX2_behind 28 = .ok (.aload_n 0, 1) := by decide +kernel
theorem dX2_behind_29 : decode cX2_behind 29 = .ok (.iload 4, 2) := by decide +kernel
theorem dX2_behind_31 : decode cX2_behind 31 = .ok (.invokevirtual 60, 3) := by decide +kernel
theorem dX2_behind_34 : decode cX2_behind 34 = .ok (.ireturn, 1) := by decide +kernel
theorem dX2_behind_35 : decode cX2_behind 35 = .ok (.iload_n 3, 1) := by decide +kernel
theorem dX2_behind_36 : decode cX2_behind 36 = .ok (.ifCond .lt 8, 3) := by decide +kernel
theorem dX2_behind_39 : decode cX2_behind 39 = .ok (.iload_n 3, 1) := by decide +kernel
theorem dX2_behind_40 : decode cX2_behind 40 = .ok (.iconst 3, 1) := by decide +kernel
theorem dX2_behind_41 : decode cX2_behind 41 = .ok (.if_icmp .le 10, 3) := by decide +kernel
theorem dX2_behind_44 : decode cX2_behind 44 = .ok (.aload_n 0, 1) := by decide +kernel
theorem dX2_behind_45 : decode cX2_behind 45 = .ok (.bipush (-2), 2) := by decide +kernel
theorem dX2_behind_47 : decode cX2_behind 47 = .ok (.invokevirtual 60, 3) := by decide +kernel
theorem dX2_behind_50 : decode cX2_behind 50 = .ok (.ireturn, 1) := by decide +kernel
theorem dX2_behind_51 : decode cX2_behind 51 = .ok (.aload_n 0, 1) := by decide +kernel
theorem dX2_behind_52 : decode cX2_behind 52 = .ok (.invokevirtual 67, 3) := by decide +kernel
theorem dX2_behind_55 : decode cX2_behind 55 = .ok (.aload_n 0, 1) := by decide +kernel
theorem dX2_behind_56 : decode cX2_behind 56 = .ok (.getfield 16, 3) := by decide +kernel
theorem dX2_behind_59 : decode cX2_behind 59 = .ok (.iload_n 2, 1) := by decide +kernel
theorem dX2_behind_60 : decode cX2_behind 60 = .ok (.invokevirtual 107, 3) := by decide +kernel
theorem dX2_behind_63 : decode cX2_behind 63 = .ok (.iload_n 3, 1) := by decide +kernel
theorem dX2_behind_64 : decode cX2_behind 64 = .ok (.ifCond .ne 13, 3) := by decide +kernel
theorem dX2_behind_67 : decode cX2_behind 67 = .ok (.aload_n 0, 1) := by decide +kernel
theorem dX2_behind_68 : decode cX2_behind 68 = .ok (.getfield 16, 3) := by decide +kernel
theorem dX2_behind_71 : decode cX2_behind 71 = .ok (.getfield 144, 3) := by decide +kernel
theorem dX2_behind_74 : decode cX2_behind 74 = .ok (.iload_n 1, 1) := by decide +kernel
theorem dX2_behind_75 : decode cX2_behind 75 = .ok (.iaload, 1) := by decide +kernel
theorem dX2_behind_76 : decode cX2_behind 76 = .ok (.ireturn, 1) := by decide +kernel
theorem dX2_behind_77 : decode cX2_behind 77 = .ok (.iload_n 3, 1) := by decide +kernel
theorem dX2_behind_78 : decode cX2_behind 78 = .ok (.iconst 1, 1) := by decide +kernel
theorem dX2_behind_79 : decode cX2_behind 79 = .ok (.if_icmp .ne 13, 3) := by decide +kernel
theorem dX2_behind_82 : decode cX2_behind 82 = .ok (.aload_n 0, 1) := by decide +kernel
theorem dX2_behind_83 : decode cX2_behind 83 = .ok (.getfield 16, 3) := by decide +kernel
theorem dX2_behind_86 : decode cX2_behind 86 = .ok (.getfield 150, 3) := by decide +kernel
theorem dX2_behind_89 : decode cX2_behind 89 = .ok (.iload_n 1, 1) := by decide +kernel
theorem dX2_behind_90 : decode cX2_behind 90 = .ok (.iaload, 1) := by decide +kernel
theorem dX2_behind_91 : decode cX2_behind 91 = .ok (.ireturn, 1) := by decide +kernel
theorem dX2_behind_92 : decode cX2_behind 92 = .ok (.iload_n 3, 1) := by decide +kernel
theorem dX2_behind_93 : decode cX2_behind 93 = .ok (.iconst 2, 1) := by decide +kernel
theorem dX2_behind_94 : decode cX2_behind 94 = .ok (.if_icmp .ne 15, 3) := by decide +kernel
theorem dX2_behind_97 : decode cX2_behind 97 = .ok (.aload_n 0, 1) := by decide +kernel
theorem dX2_behind_98 : decode cX2_behind 98 = .ok (.getfield 16, 3) := by decide +kernel
theorem dX2_behind_101 : decode cX2_behind 101 = .ok (.getfield 187, 3) := by decide +kernel
theorem dX2_behind_104 : decode cX2_behind 104 = .ok (.iload_n 1, 1) := by decide +kernel
theorem dX2_behind_105 : decode cX2_behind 105 = .ok (.iaload, 1) := by decide +kernel
theorem dX2_behind_106 : decode cX2_behind 106 = .ok (.goto 19, 3) := by decide +kernel
theorem dX2_behind_109 : decode cX2_behind 109 = .ok (.aload_n 0, 1) := by decide +kernel
theorem dX2_behind_110 : decode cX2_behind 110 = .ok (.getfield 16, 3) := by decide +kernel
theorem dX2_behind_113 : decode cX2_behind 113 = .ok (.aload_n 0, 1) := by decide +kernel
theorem dX2_behind_114 : decode cX2_behind 114 = .ok (.getfield 16, 3) := by decide +kernel
theorem dX2_behind_117 : decode cX2_behind 117 = .ok (.getfield 147, 3) := by decide +kernel
theorem dX2_behind_120 : decode cX2_behind 120 = .ok (.iload_n 1, 1) := by decide +kernel
theorem dX2_behind_121 : decode cX2_behind 121 = .ok (.iaload, 1) := by decide +kernel
theorem dX2_behind_122 : decode cX2_behind 122 = .ok (.invokevirtual 132, 3) := by decide +kernel
theorem dX2_behind_125 : decode cX2_behind 125 = .ok (.ireturn, 1) := by decide +kernel
theorem dX2_meet_0 : decode cX2_meet 0 = .ok (.aload_n 0, 1) := by decide +kernel
theorem dX2_meet_1 : decode cX2_meet 1 = .ok (.iload_n 1, 1) := by decide +kernel
theorem dX2_meet_2 : decode cX2_meet 2 = .ok (.iload_n 2, 1) := by decide +kernel
theorem dX2_meet_3 : decode cX2_meet 3 = .ok (.invokevirtual 190, 3) := by decide +kernel
theorem dX2_meet_6 : decode cX2_meet 6 = .ok (.ifCond .ne 9, 3) := by decide +kernel
theorem dX2_meet_9 : decode cX2_meet 9 = .ok (.aload_n 0, 1) := by decide +kernel
theorem dX2_meet_10 : decode cX2_meet 10 = .ok (.iconst (-1), 1) := by decide +kernel
theorem dX2_meet_11 : decode cX2_meet 11 = .ok (.invokevirtual 60, 3) := by decide +kernel
theorem dX2_meet_14 : decode cX2_meet 14 = .ok (.ireturn, 1) := by decide +kernel
theorem dX2_meet_15 : decode cX2_meet 15 = .ok (.aload_n 0, 1) := by decide +kernel
theorem dX2_meet_16 : decode cX2_meet 16 = .ok (.invokevirtual 67, 3) := by decide +kernel
theorem dX2_meet_19 : decode cX2_meet 19 = .ok (.aload_n 0, 1) := by decide +kernel
theorem dX2_meet_20 : decode cX2_meet 20 = .ok (.iload_n 1, 1) := by decide +kernel
theorem dX2_meet_21 : decode cX2_meet 21 = .ok (.iload_n 2, 1) := by decide +kernel
theorem dX2_meet_22 : decode cX2_meet 22 = .ok (.bipush 60, 2) := by decide +kernel
theorem dX2_meet_24 : decode cX2_meet 24 = .ok (.invokevirtual 193, 3) := by decide +kernel
theorem dX2_meet_27 : decode cX2_meet 27 = .ok (.invokestatic 196, 3) := by decide +kernel
theorem dX2_meet_30 : decode cX2_meet 30 = .ok (.ireturn, 1) := by decide +kernel
theorem dX2_company_0 : decode cX2_company 0 = .ok (.iload_n 1, 1) := by decide +kernel
theorem dX2_company_1 : decode cX2_company 1 = .ok (.iload_n 2, 1) := by decide +kernel
theorem dX2_company_2 : decode cX2_company 2 = .ok (.iconst 1, 1) := by decide +kernel
theorem dX2_company_3 : decode cX2_company 3 = .ok (.invokestatic 199, 3) := by decide +kernel
theorem dX2_company_6 : decode cX2_company 6 = .ok (.istore_n 3, 1) := by decide +kernel
theorem dX2_company_7 : decode cX2_company 7 = .ok (.iload_n 3, 1) := by decide +kernel
theorem dX2_company_8 : decode cX2_company 8 = .ok (.ifCond .eq 9, 3) := by decide +kernel
theorem dX2_company_11 : decode cX2_company 11 = .ok (.aload_n 0, 1) := by decide +kernel
theorem dX2_company_12 : decode cX2_company 12 = .ok (.iload_n 3, 1) := by decide +kernel
theorem dX2_company_13 : decode cX2_company 13 = .ok (.invokevirtual 60, 3) := by decide +kernel
theorem dX2_company_16 : decode cX2_company 16 = .ok (.ireturn, 1) := by decide +kernel
theorem dX2_company_17 : decode cX2_company 17 = .ok (.aload_n 0, 1) := by decide +kernel
theorem dX2_company_18 : decode cX2_company 18 = .ok (.invokevirtual 67, 3) := by decide +kernel
theorem dX2_company_21 : decode cX2_company 21 = .ok (.aload_n 0, 1) := by decide +kernel
theorem dX2_company_22 : decode cX2_company 22 = .ok (.getfield 16, 3) := by decide +kernel
theorem dX2_company_25 : decode cX2_company 25 = .ok (.iload_n 1, 1) := by decide +kernel
theorem dX2_company_26 : decode cX2_company 26 = .ok (.invokevirtual 107, 3) := by decide +kernel
theorem dX2_company_29 : decode cX2_company 29 = .ok (.aload_n 0, 1) := by decide +kernel
theorem dX2_company_30 : decode cX2_company 30 = .ok (.invokevirtual 202, 3) := by decide +kernel
theorem dX2_company_33 : decode cX2_company 33 = .ok (.aload_n 0, 1) := by decide +kernel
theorem dX2_company_34 : decode cX2_company 34 = .ok (.invokevirtual 205, 3) := by decide +kernel
theorem dX2_company_37 : decode cX2_company 37 = .ok (.aload_n 0, 1) := by decide +kernel
theorem dX2_company_38 : decode cX2_company 38 = .ok (.invokevirtual 208, 3) := by decide +kernel
theorem dX2_company_41 : decode cX2_company 41 = .ok (.istore 4, 2) := by decide +kernel
theorem dX2_company_43 : decode cX2_company 43 = .ok (.iload_n 2, 1) := by decide +kernel
theorem dX2_company_44 : decode cX2_company 44 = .ok (.ifCond .ne 13, 3) := by decide +kernel
theorem dX2_company_47 : decode cX2_company 47 = .ok (.aload_n 0, 1) := by decide +kernel
theorem dX2_company_48 : decode cX2_company 48 = .ok (.getfield 50, 3) := by decide +kernel
theorem dX2_company_51 : decode cX2_company 51 = .ok (.iload 4, 2) := by decide +kernel
theorem dX2_company_53 : decode cX2_company 53 = .ok (.iaload, 1) := by decide +kernel
theorem dX2_company_54 : decode cX2_company 54 = .ok (.goto 5, 3) := by decide +kernel
theorem dX2_company_57 : decode cX2_company 57 = .ok (.iload 4, 2) := by decide +kernel
theorem dX2_company_59 : decode cX2_company 59 = .ok (.ireturn, 1) := by decide +kernel
theorem dX2_breathless_0 : decode cX2_breathless 0 = .ok (.iload_n 1, 1) := by decide +kernel
theorem dX2_breathless_1 : decode cX2_breathless 1 = .ok (.iconst (-1), 1) := by decide +kernel
theorem dX2_breathless_2 : decode cX2_breathless 2 = .ok (.if_icmp .eq 20, 3) := by decide +kernel
theorem dX2_breathless_5 : decode cX2_breathless 5 = .ok (.aload_n 0, 1) := by decide +kernel
theorem dX2_breathless_6 : decode cX2_breathless 6 = .ok (.getfield 12, 3) := by decide +kernel
theorem dX2_breathless_9 : decode cX2_breathless 9 = .ok (.iload_n 1, 1) := by decide +kernel
theorem dX2_breathless_10 : decode cX2_breathless 10 = .ok (.invokevirtual 135, 3) := by decide +kernel
theorem dX2_breathless_13 : decode cX2_breathless 13 = .ok (.ifCond .ne 9, 3) := by decide +kernel
theorem dX2_breathless_16 : decode cX2_breathless 16 = .ok (.aload_n 0, 1) := by decide +kernel
theorem dX2_breathless_17 : decode cX2_breathless 17 = .ok (.iconst (-1), 1) := by decide +kernel
theorem dX2_breathless_18 : decode cX2_breathless 18 = .ok (.invokevirtual 60, 3) := by decide +kernel
theorem dX2_breathless_21 : decode cX2_breathless 21 = .ok (.ireturn, 1) := by decide +kernel
theorem dX2_breathless_22 : decode cX2_breathless 22 = .ok (.aload_n 0, 1) := by decide +kernel
theorem dX2_breathless_23 : decode cX2_breathless 23 = .ok (.invokevirtual 67, 3) := by decide +kernel
theorem dX2_breathless_26 : decode cX2_breathless 26 = .ok (.iconst 0, 1) := by decide +kernel
theorem dX2_breathless_27 : decode cX2_breathless 27 = .ok (.istore_n 2, 1) := by decide +kernel
theorem dX2_breathless_28 : decode cX2_breathless 28 = .ok (.iload_n 2, 1) := by decide +kernel
theorem dX2_breathless_29 : decode cX2_breathless 29 = .ok (.bipush 60, 2) := by decide +kernel
theorem dX2_breathless_31 : decode cX2_breathless 31 = .ok (.if_icmp .gt 50, 3) := by decide +kernel
theorem dX2_breathless_34 : decode cX2_breathless 34 = .ok (.iload_n 1, 1) := by decide +kernel
theorem dX2_breathless_35 : decode cX2_breathless 35 = .ok (.iconst (-1), 1) := by decide +kernel
theorem dX2_breathless_36 : decode cX2_breathless 36 = .ok (.if_icmp .ne 17, 3) := by decide +kernel
theorem dX2_breathless_39 : decode cX2_breathless 39 = .ok (.aload_n 0, 1) := by decide +kernel
theorem dX2_breathless_40 : decode cX2_breathless 40 = .ok (.invokevirtual 211, 3) := by decide +kernel
theorem dX2_breathless_43 : decode cX2_breathless 43 = .ok (.istore_n 3, 1) := by decide +kernel
theorem dX2_breathless_44 : decode cX2_breathless 44 = .ok (.iload_n 3, 1) := by decide +kernel
theorem dX2_breathless_45 : decode cX2_breathless 45 = .ok (.ifCond .lt 5, 3) := by decide +kernel
theorem dX2_breathless_48 : decode cX2_breathless 48 = .ok (.iload_n 3, 1) := by decide +kernel
theorem dX2_breathless_49 : decode cX2_breathless 49 = .ok (.ireturn, 1) := by decide +kernel
theorem dX2_breathless_50 : decode cX2_breathless 50 = .ok (.goto 17, 3) := by decide +kernel
theorem dX2_breathless_53 : decode cX2_breathless 53 = .ok (.aload_n 0, 1) := by decide +kernel
theorem dX2_breathless_54 : decode cX2_breathless 54 = .ok (.getfield 16, 3) := by decide +kernel
theorem dX2_breathless_57 : decode cX2_breathless 57 = .ok (.getfield 150, 3) := by decide +kernel
theorem dX2_breathless_60 : decode cX2_breathless 60 = .ok (.iload_n 1, 1) := by decide +kernel
theorem dX2_breathless_61 : decode cX2_breathless 61 = .ok (.iaload, 1) := by decide +kernel
theorem dX2_breathless_62 : decode cX2_breathless 62 = .ok (.ifCond .ne 5, 3) := by decide +kernel
theorem dX2_breathless_65 : decode cX2_breathless 65 = .ok (.iload_n 2, 1) := by decide +kernel
theorem dX2_breathless_66 : decode cX2_breathless 66 = .ok (.ireturn, 1) := by decide +kernel
theorem dX2_breathless_67 : decode cX2_breathless 67 = .ok (.aload_n 0, 1) := by decide +kernel
theorem dX2_breathless_68 : decode cX2_breathless 68 = .ok (.getfield 16, 3) := by decide +kernel
theorem dX2_breathless_71 : decode cX2_breathless 71 = .ok (.iconst 1, 1) := by decide +kernel
theorem dX2_breathless_72 : decode cX2_breathless 72 = .ok (.invokevirtual 107, 3) := by decide +kernel
theorem dX2_breathless_75 : decode cX2_breathless 75 = .ok (.iinc 2 1, 3) := by decide +kernel
theorem dX2_breathless_78 : decode cX2_breathless 78 = .ok (.goto (-50), 3) := by decide +kernel
theorem dX2_breathless_81 : decode cX2_breathless 81 = .ok (.bipush (-9), 2) := by decide +kernel
theorem dX2_breathless_83 : decode cX2_breathless 83 = .ok (.ireturn, 1) := by decide +kernel
theorem dX2_firstOutOfBreath_0 : decode cX2_firstOutOfBreath 0 = .ok (.iconst 0, 1) := by decide +kernel
theorem dX2_firstOutOfBreath_1 : decode cX2_firstOutOfBreath 1 = .ok (.istore_n 1, 1) := by decide +kernel
theorem dX2_firstOutOfBreath_2 : decode cX2_firstOutOfBreath 2 = .ok (.iload_n 1, 1) := by decide +kernel
theorem dX2_firstOutOfBreath_3 : decode cX2_firstOutOfBreath 3 = .ok (.aload_n 0, 1) := by decide +kernel
theorem dX2_firstOutOfBreath_4 : decode cX2_firstOutOfBreath 4 = .ok (.getfield 16, 3) := by decide +kernel
theorem dX2_firstOutOfBreath_7 : decode cX2_firstOutOfBreath 7 = .ok (.getfield 159, 3) := by decide +kernel
theorem dX2_firstOutOfBreath_10 : decode cX2_firstOutOfBreath 10 = .ok (.if_icmp .ge 23, 3) := by decide +kernel
theorem dX2_firstOutOfBreath_13 : decode cX2_firstOutOfBreath 13 = .ok (.aload_n 0, 1) := by decide +kernel
theorem dX2_firstOutOfBreath_14 : decode cX2_firstOutOfBreath 14 = .ok (.getfield 16, 3) := by decide +kernel
theorem dX2_firstOutOfBreath_17 : decode cX2_firstOutOfBreath 17 = .ok (.getfield 150, 3) := by decide +kernel
theorem dX2_firstOutOfBreath_20 : decode cX2_firstOutOfBreath 20 = .ok (.iload_n 1, 1) := by decide +kernel
theorem dX2_firstOutOfBreath_21 : decode cX2_firstOutOfBreath 21 = .ok (.iaload, 1) := by decide +kernel
theorem dX2_firstOutOfBreath_22 : decode cX2_firstOutOfBreath 22 = .ok (.ifCond .ne 5, 3) := by decide +kernel
theorem dX2_firstOutOfBreath_25 : decode cX2_firstOutOfBreath 25 = .ok (.iload_n 1, 1) := by decide +kernel
theorem dX2_firstOutOfBreath_26 : decode cX2_firstOutOfBreath 26 = .ok (.ireturn, 1) := by decide +kernel
theorem dX2_firstOutOfBreath_27 : decode cX2_firstOutOfBreath 27 = .ok (.iinc 1 1, 3) := by decide +kernel
theorem dX2_firstOutOfBreath_30 : decode cX2_firstOutOfBreath 30 = .ok (.goto (-28), 3) := by decide +kernel
theorem dX2_firstOutOfBreath_33 : decode cX2_firstOutOfBreath 33 = .ok (.bipush (-9), 2) := by decide +kernel
theorem dX2_firstOutOfBreath_35 : decode cX2_firstOutOfBreath 35 = .ok (.ireturn, 1) := by decide +kernel
theorem dX2_snaps_0 : decode cX2_snaps 0 = .ok (.iload_n 1, 1) := by decide +kernel
theorem dX2_snaps_1 : decode cX2_snaps 1 = .ok (.iload_n 2, 1) := by decide +kernel
theorem dX2_snaps_2 : decode cX2_snaps 2 = .ok (.iconst 2, 1) := by decide +kernel
theorem dX2_snaps_3 : decode cX2_snaps 3 = .ok (.invokestatic 199, 3) := by decide +kernel
theorem dX2_snaps_6 : decode cX2_snaps 6 = .ok (.istore_n 3, 1) := by decide +kernel
theorem dX2_snaps_7 : decode cX2_snaps 7 = .ok (.iload_n 3, 1) := by decide +kernel
theorem dX2_snaps_8 : decode cX2_snaps 8 = .ok (.ifCond .eq 9, 3) := by decide +kernel
theorem dX2_snaps_11 : decode cX2_snaps 11 = .ok (.aload_n 0, 1) := by decide +kernel
theorem dX2_snaps_12 : decode cX2_snaps 12 = .ok (.iload_n 3, 1) := by decide +kernel
theorem dX2_snaps_13 : decode cX2_snaps 13 = .ok (.invokevirtual 60, 3) := by decide +kernel
theorem dX2_snaps_16 : decode cX2_snaps 16 = .ok (.ireturn, 1) := by decide +kernel
theorem dX2_snaps_17 : decode cX2_snaps 17 = .ok (.iload_n 2, 1) := by decide +kernel
theorem dX2_snaps_18 : decode cX2_snaps 18 = .ok (.iconst 1, 1) := by decide +kernel
theorem dX2_snaps_19 : decode cX2_snaps 19 = .ok (.if_icmp .ne 9, 3) := by decide +kernel
theorem dX2_snaps_22 : decode cX2_snaps 22 = .ok (.aload_n 0, 1) := by decide +kernel
theorem dX2_snaps_23 : decode cX2_snaps 23 = .ok (.iload_n 1, 1) := by decide +kernel
theorem dX2_snaps_24 : decode cX2_snaps 24 = .ok (.invokevirtual 214, 3) := by decide +kernel
theorem dX2_snaps_27 : decode cX2_snaps 27 = .ok (.ireturn, 1) := by decide +kernel
theorem dX2_snaps_28 : decode cX2_snaps 28 = .ok (.aload_n 0, 1) := by decide +kernel
theorem dX2_snaps_29 : decode cX2_snaps 29 = .ok (.invokevirtual 67, 3) := by decide +kernel
theorem dX2_snaps_32 : decode cX2_snaps 32 = .ok (.aload_n 0, 1) := by decide +kernel
theorem dX2_snaps_33 : decode cX2_snaps 33 = .ok (.getfield 16, 3) := by decide +kernel
theorem dX2_snaps_36 : decode cX2_snaps 36 = .ok (.iload_n 1, 1) := by decide +kernel
theorem dX2_snaps_37 : decode cX2_snaps 37 = .ok (.invokevirtual 107, 3) := by decide +kernel
theorem dX2_snaps_40 : decode cX2_snaps 40 = .ok (.iload_n 2, 1) := by decide +kernel
theorem dX2_snaps_41 : decode cX2_snaps 41 = .ok (.ifCond .ne 13, 3) := by decide +kernel
theorem dX2_snaps_44 : decode cX2_snaps 44 = .ok (.aload_n 0, 1) := by decide +kernel
theorem dX2_snaps_45 : decode cX2_snaps 45 = .ok (.getfield 16, 3) := by decide +kernel
theorem dX2_snaps_48 : decode cX2_snaps 48 = .ok (.getfield 181, 3) := by decide +kernel
theorem dX2_snaps_51 : decode cX2_snaps 51 = .ok (.goto 7, 3) := by decide +kernel
theorem dX2_snaps_54 : decode cX2_snaps 54 = .ok (.aload_n 0, 1) := by decide +kernel
theorem dX2_snaps_55 : decode cX2_snaps 55 = .ok (.invokevirtual 217, 3) := by decide +kernel
theorem dX2_snaps_58 : decode cX2_snaps 58 = .ok (.ireturn, 1) := by decide +kernel
theorem dX2_whereColonel_0 : decode cX2_whereColonel 0 = .ok (.iconst 0, 1) := by decide +kernel
theorem dX2_whereColonel_1 : decode cX2_whereColonel 1 = .ok (.istore_n 2, 1) := by decide +kernel
theorem dX2_whereColonel_2 : decode cX2_whereColonel 2 = .ok (.ldc 220, 2) := by decide +kernel
theorem dX2_whereColonel_4 : decode cX2_whereColonel 4 = .ok (.istore_n 3, 1) := by decide +kernel
theorem dX2_whereColonel_5 : decode cX2_whereColonel 5 = .ok (.iconst 0, 1) := by decide +kernel
theorem dX2_whereColonel_6 : decode cX2_whereColonel 6 = .ok (.istore 4, 2) := by decide +kernel
theorem dX2_whereColonel_8 : decode cX2_whereColonel 8 = .ok (.iload 4, 2) := by decide +kernel
theorem dX2_whereColonel_10 : decode cX2_whereColonel 10 = .ok (.bipush 10, 2) := by decide +kernel
theorem dX2_whereColonel_12 : decode cX2_whereColonel 12 = .ok (.if_icmp .ge 52, 3) := by decide +kernel
theorem dX2_whereColonel_15 : decode cX2_whereColonel 15 = .ok (.aload_n 0, 1) := by decide +kernel
theorem dX2_whereColonel_16 : decode cX2_whereColonel 16 = .ok (.invokevirtual 67, 3) := by decide +kernel
theorem dX2_whereColonel_19 : decode cX2_whereColonel 19 = .ok (.aload_n 0, 1) := by decide +kernel
theorem dX2_whereColonel_20 : decode cX2_whereColonel 20 = .ok (.getfield 16, 3) := by decide +kernel
theorem dX2_whereColonel_23 : decode cX2_whereColonel 23 = .ok (.iload 4, 2) := by decide +kernel
theorem dX2_whereColonel_25 : decode cX2_whereColonel 25 = .ok (.putfield 101, 3) := by decide +kernel
theorem dX2_whereColonel_28 : decode cX2_whereColonel 28 = .ok (.aload_n 0, 1) := by decide +kernel
theorem dX2_whereColonel_29 : decode cX2_whereColonel 29 = .ok (.getfield 16, 3) := by decide +kernel
theorem dX2_whereColonel_32 : decode cX2_whereColonel 32 = .ok (.iload_n 1, 1) := by decide +kernel
theorem dX2_whereColonel_33 : decode cX2_whereColonel 33 = .ok (.invokevirtual 107, 3) := by decide +kernel
theorem dX2_whereColonel_36 : decode cX2_whereColonel 36 = .ok (.aload_n 0, 1) := by decide +kernel
theorem dX2_whereColonel_37 : decode cX2_whereColonel 37 = .ok (.getfield 16, 3) := by decide +kernel
theorem dX2_whereColonel_40 : decode cX2_whereColonel 40 = .ok (.getfield 181, 3) := by decide +kernel
theorem dX2_whereColonel_43 : decode cX2_whereColonel 43 = .ok (.iload_n 3, 1) := by decide +kernel
theorem dX2_whereColonel_44 : decode cX2_whereColonel 44 = .ok (.if_icmp .ge 14, 3) := by decide +kernel
theorem dX2_whereColonel_47 : decode cX2_whereColonel 47 = .ok (.aload_n 0, 1) := by decide +kernel
theorem dX2_whereColonel_48 : decode cX2_whereColonel 48 = .ok (.getfield 16, 3) := by decide +kernel
theorem dX2_whereColonel_51 : decode cX2_whereColonel 51 = .ok (.getfield 181, 3) := by decide +kernel
theorem dX2_whereColonel_54 : decode cX2_whereColonel 54 = .ok (.istore_n 3, 1) := by decide +kernel
theorem dX2_whereColonel_55 : decode cX2_whereColonel 55 = .ok (.iload 4, 2) := by decide +kernel
theorem dX2_whereColonel_57 : decode cX2_whereColonel 57 = .ok (.istore_n 2, 1) := by decide +kernel
theorem dX2_whereColonel_58 : decode cX2_whereColonel 58 = .ok (.iinc 4 1, 3) := by decide +kernel
theorem dX2_whereColonel_61 : decode cX2_whereColonel 61 = .ok (.goto (-53), 3) := by decide +kernel
theorem dX2_whereColonel_64 : decode cX2_whereColonel 64 = .ok (.iload_n 2, 1) := by decide +kernel
theorem dX2_whereColonel_65 : decode cX2_whereColonel 65 = .ok (.ireturn, 1) := by decide +kernel
theorem dX2_leastLed_0 : decode cX2_leastLed 0 = .ok (.bipush (-9), 2) := by decide +kernel
theorem dX2_leastLed_2 : decode cX2_leastLed 2 = .ok (.istore_n 1, 1) := by decide +kernel
theorem dX2_leastLed_3 : decode cX2_leastLed 3 = .ok (.iconst 0, 1) := by decide +kernel
theorem dX2_leastLed_4 : decode cX2_leastLed 4 = .ok (.istore_n 2, 1) := by decide +kernel
theorem dX2_leastLed_5 : decode cX2_leastLed 5 = .ok (.iload_n 2, 1) := by decide +kernel
theorem dX2_leastLed_6 : decode cX2_leastLed 6 = .ok (.aload_n 0, 1) := by decide +kernel
theorem dX2_leastLed_7 : decode cX2_leastLed 7 = .ok (.getfield 16, 3) := by decide +kernel
theorem dX2_leastLed_10 : decode cX2_leastLed 10 = .ok (.getfield 159, 3) := by decide +kernel
theorem dX2_leastLed_13 : decode cX2_leastLed 13 = .ok (.if_icmp .ge 36, 3) := by decide +kernel
theorem dX2_leastLed_16 : decode cX2_leastLed 16 = .ok (.iload_n 1, 1) := by decide +kernel
theorem dX2_leastLed_17 : decode cX2_leastLed 17 = .ok (.ifCond .lt 24, 3) := by decide +kernel
theorem dX2_leastLed_20 : decode cX2_leastLed 20 = .ok (.aload_n 0, 1) := by decide +kernel
theorem dX2_leastLed_21 : decode cX2_leastLed 21 = .ok (.getfield 16, 3) := by decide +kernel
theorem dX2_leastLed_24 : decode cX2_leastLed 24 = .ok (.getfield 187, 3) := by decide +kernel
theorem dX2_leastLed_27 : decode cX2_leastLed 27 = .ok (.iload_n 2, 1) := by decide +kernel
theorem dX2_leastLed_28 : decode cX2_leastLed 28 = .ok (.iaload, 1) := by decide +kernel
theorem dX2_leastLed_29 : decode cX2_leastLed 29 = .ok (.aload_n 0, 1) := by decide +kernel
theorem dX2_leastLed_30 : decode cX2_leastLed 30 = .ok (.getfield 16, 3) := by decide +kernel
theorem dX2_leastLed_33 : decode cX2_leastLed 33 = .ok (.getfield 187, 3) := by decide +kernel
theorem dX2_leastLed_36 : decode cX2_leastLed 36 = .ok (.iload_n 1, 1) := by decide +kernel
theorem dX2_leastLed_37 : decode cX2_leastLed 37 = .ok (.iaload, 1) := by decide +kernel
theorem dX2_leastLed_38 : decode cX2_leastLed 38 = .ok (.if_icmp .ge 5, 3) := by decide +kernel
theorem dX2_leastLed_41 : decode cX2_leastLed 41 = .ok (.iload_n 2, 1) := by decide +kernel
theorem dX2_leastLed_42 : decode cX2_leastLed 42 = .ok (.istore_n 1, 1) := by decide +kernel
theorem dX2_leastLed_43 : decode cX2_leastLed 43 = .ok (.iinc 2 1, 3) := by decide +kernel
theorem dX2_leastLed_46 : decode cX2_leastLed 46 = .ok (.goto (-41), 3) := by decide +kernel
theorem dX2_leastLed_49 : decode cX2_leastLed 49 = .ok (.iload_n 1, 1) := by decide +kernel
theorem dX2_leastLed_50 : decode cX2_leastLed 50 = .ok (.ireturn, 1) := by decide +kernel
theorem dX2_tired_0 : decode cX2_tired 0 = .ok (.iload_n 1, 1) := by decide +kernel
theorem dX2_tired_1 : decode cX2_tired 1 = .ok (.invokestatic 184, 3) := by decide +kernel
theorem dX2_tired_4 : decode cX2_tired 4 = .ok (.istore_n 2, 1) := by decide +kernel
theorem dX2_tired_5 : decode cX2_tired 5 = .ok (.iload_n 2, 1) := by decide +kernel
theorem dX2_tired_6 : decode cX2_tired 6 = .ok (.ifCond .eq 9, 3) := by decide +kernel
theorem dX2_tired_9 : decode cX2_tired 9 = .ok (.aload_n 0, 1) := by decide +kernel
theorem dX2_tired_10 : decode cX2_tired 10 = .ok (.iload_n 2, 1) := by decide +kernel
theorem dX2_tired_11 : decode cX2_tired 11 = .ok (.invokevirtual 60, 3) := by decide +kernel
theorem dX2_tired_14 : decode cX2_tired 14 = .ok (.ireturn, 1) := by decide +kernel
theorem dX2_tired_15 : decode cX2_tired 15 = .ok (.aload_n 0, 1) := by decide +kernel
theorem dX2_tired_16 : decode cX2_tired 16 = .ok (.invokevirtual 67, 3) := by decide +kernel
theorem dX2_tired_19 : decode cX2_tired 19 = .ok (.aload_n 0, 1) := by decide +kernel
theorem dX2_tired_20 : decode cX2_tired 20 = .ok (.getfield 16, 3) := by decide +kernel
theorem dX2_tired_23 : decode cX2_tired 23 = .ok (.iload_n 1, 1) := by decide +kernel
theorem dX2_tired_24 : decode cX2_tired 24 = .ok (.invokevirtual 107, 3) := by decide +kernel
theorem dX2_tired_27 : decode cX2_tired 27 = .ok (.aload_n 0, 1) := by decide +kernel
theorem dX2_tired_28 : decode cX2_tired 28 = .ok (.getfield 16, 3) := by decide +kernel
theorem dX2_tired_31 : decode cX2_tired 31 = .ok (.invokevirtual 166, 3) := by decide +kernel
theorem dX2_tired_34 : decode cX2_tired 34 = .ok (.ireturn, 1) := by decide +kernel
theorem dX2_visits_0 : decode cX2_visits 0 = .ok (.aload_n 0, 1) := by decide +kernel
theorem dX2_visits_1 : decode cX2_visits 1 = .ok (.getfield 12, 3) := by decide +kernel
theorem dX2_visits_4 : decode cX2_visits 4 = .ok (.iload_n 1, 1) := by decide +kernel
theorem dX2_visits_5 : decode cX2_visits 5 = .ok (.invokevirtual 135, 3) := by decide +kernel
theorem dX2_visits_8 : decode cX2_visits 8 = .ok (.ifCond .eq 10, 3) := by decide +kernel
theorem dX2_visits_11 : decode cX2_visits 11 = .ok (.iload_n 2, 1) := by decide +kernel
theorem dX2_visits_12 : decode cX2_visits 12 = .ok (.invokestatic 175, 3) := by decide +kernel
theorem dX2_visits_15 : decode cX2_visits 15 = .ok (.ifCond .ne 9, 3) := by decide +kernel
theorem dX2_visits_18 : decode cX2_visits 18 = .ok (.aload_n 0, 1) := by decide +kernel
theorem dX2_visits_19 : decode cX2_visits 19 = .ok (.iconst (-1), 1) := by decide +kernel
theorem dX2_visits_20 : decode cX2_visits 20 = .ok (.invokevirtual 60, 3) := by decide +kernel
theorem dX2_visits_23 : decode cX2_visits 23 = .ok (.ireturn, 1) := by decide +kernel
theorem dX2_visits_24 : decode cX2_visits 24 = .ok (.iload_n 3, 1) := by decide +kernel
theorem dX2_visits_25 : decode cX2_visits 25 = .ok (.invokestatic 184, 3) := by decide +kernel
theorem dX2_visits_28 : decode cX2_visits 28 = .ok (.istore 4, 2) := by decide +kernel
theorem dX2_visits_30 : decode cX2_visits 30 = .ok (.iload 4, 2) := by decide +kernel
theorem dX2_visits_32 : decode cX2_visits 32 = .ok (.ifCond .eq 10, 3) := by decide +kernel
theorem dX2_visits_35 : decode cX2_visits 35 = .ok (.aload_n 0, 1) := by decide +kernel
theorem dX2_visits_36 : decode cX2_visits 36 = .ok (.iload 4, 2) := by decide +kernel
theorem dX2_visits_38 : decode cX2_visits 38 = .ok (.invokevirtual 60, 3) := by decide +kernel
theorem dX2_visits_41 : decode cX2_visits 41 = .ok (.ireturn, 1) := by decide +kernel
theorem dX2_visits_42 : decode cX2_visits 42 = .ok (.aload_n 0, 1) := by decide +kernel
theorem dX2_visits_43 : decode cX2_visits 43 = .ok (.invokevirtual 67, 3) := by decide +kernel
theorem dX2_visits_46 : decode cX2_visits 46 = .ok (.iconst 0, 1) := by decide +kernel
theorem dX2_visits_47 : decode cX2_visits 47 = .ok (.istore 5, 2) := by decide +kernel
theorem dX2_visits_49 : decode cX2_visits 49 = .ok (.iconst 1, 1) := by decide +kernel
theorem dX2_visits_50 : decode cX2_visits 50 = .ok (.istore 6, 2) := by decide +kernel
theorem dX2_visits_52 : decode cX2_visits 52 = .ok (.iload 6, 2) := by decide +kernel
theorem dX2_visits_54 : decode cX2_visits 54 = .ok (.iload_n 3, 1) := by decide +kernel
theorem dX2_visits_55 : decode cX2_visits 55 = .ok (.if_icmp .gt 33, 3) := by decide +kernel
theorem dX2_visits_58 : decode cX2_visits 58 = .ok (.aload_n 0, 1) := by decide +kernel
theorem dX2_visits_59 : decode cX2_visits 59 = .ok (.getfield 16, 3) := by decide +kernel
theorem dX2_visits_62 : decode cX2_visits 62 = .ok (.iconst 1, 1) := by decide +kernel
theorem dX2_visits_63 : decode cX2_visits 63 = .ok (.invokevirtual 107, 3) := by decide +kernel
theorem dX2_visits_66 : decode cX2_visits 66 = .ok (.aload_n 0, 1) := by decide +kernel
theorem dX2_visits_67 : decode cX2_visits 67 = .ok (.getfield 16, 3) := by decide +kernel
theorem dX2_visits_70 : decode cX2_visits 70 = .ok (.getfield 144, 3) := by decide +kernel
theorem dX2_visits_73 : decode cX2_visits 73 = .ok (.iload_n 1, 1) := by decide +kernel
theorem dX2_visits_74 : decode cX2_visits 74 = .ok (.iaload, 1) := by decide +kernel
theorem dX2_visits_75 : decode cX2_visits 75 = .ok (.iload_n 2, 1) := by decide +kernel
theorem dX2_visits_76 : decode cX2_visits 76 = .ok (.if_icmp .ne 6, 3) := by decide +kernel
theorem dX2_visits_79 : decode cX2_visits 79 = .ok (.iinc 5 1, 3) := by decide +kernel
theorem dX2_visits_82 : decode cX2_visits 82 = .ok (.iinc 6 1, 3) := by decide +kernel
theorem dX2_visits_85 : decode cX2_visits 85 = .ok (.goto (-33), 3) := by decide +kernel
theorem dX2_visits_88 : decode cX2_visits 88 = .ok (.iload 5, 2) := by decide +kernel
theorem dX2_visits_90 : decode cX2_visits 90 = .ok (.ireturn, 1) := by decide +kernel
theorem dX2_together_0 : decode cX2_together 0 = .ok (.aload_n 0, 1) := by decide +kernel
theorem dX2_together_1 : decode cX2_together 1 = .ok (.iload_n 1, 1) := by decide +kernel
theorem dX2_together_2 : decode cX2_together 2 = .ok (.iload_n 2, 1) := by decide +kernel
theorem dX2_together_3 : decode cX2_together 3 = .ok (.invokevirtual 190, 3) := by decide +kernel
theorem dX2_together_6 : decode cX2_together 6 = .ok (.ifCond .ne 9, 3) := by decide +kernel
theorem dX2_together_9 : decode cX2_together 9 = .ok (.aload_n 0, 1) := by decide +kernel
theorem dX2_together_10 : decode cX2_together 10 = .ok (.iconst (-1), 1) := by decide +kernel
theorem dX2_together_11 : decode cX2_together 11 = .ok (.invokevirtual 60, 3) := by decide +kernel
theorem dX2_together_14 : decode cX2_together 14 = .ok (.ireturn, 1) := by decide +kernel
theorem dX2_together_15 : decode cX2_together 15 = .ok (.iload_n 3, 1) := by decide +kernel
theorem dX2_together_16 : decode cX2_together 16 = .ok (.invokestatic 184, 3) := by decide +kernel
theorem dX2_together_19 : decode cX2_together 19 = .ok (.istore 4, 2) := by decide +kernel
theorem dX2_together_21 : decode cX2_together 21 = .ok (.iload 4, 2) := by decide +kernel
theorem dX2_together_23 : decode cX2_together 23 = .ok (.ifCond .eq 10, 3) := by decide +kernel
theorem dX2_together_26 : decode cX2_together 26 = .ok (.aload_n 0, 1) := by decide +kernel
theorem dX2_together_27 : decode cX2_together 27 = .ok (.iload 4, 2) := by decide +kernel
theorem dX2_together_29 : decode cX2_together 29 = .ok (.invokevirtual 60, 3) := by decide +kernel
theorem dX2_together_32 : decode cX2_together 32 = .ok (.ireturn, 1) := by decide +kernel
theorem dX2_together_33 : decode cX2_together 33 = .ok (.aload_n 0, 1) := by decide +kernel
theorem dX2_together_34 : decode cX2_together 34 = .ok (.invokevirtual 67, 3) := by decide +kernel
theorem dX2_together_37 : decode cX2_together 37 = .ok (.iconst 0, 1) := by decide +kernel
theorem dX2_together_38 : decode cX2_together 38 = .ok (.istore 5, 2) := by decide +kernel
theorem dX2_together_40 : decode cX2_together 40 = .ok (.iconst 1, 1) := by decide +kernel
theorem dX2_together_41 : decode cX2_together 41 = .ok (.istore 6, 2) := by decide +kernel
theorem dX2_together_43 : decode cX2_together 43 = .ok (.iload 6, 2) := by decide +kernel
theorem dX2_together_45 : decode cX2_together 45 = .ok (.iload_n 3, 1) := by decide +kernel
theorem dX2_together_46 : decode cX2_together 46 = .ok (.if_icmp .gt 41, 3) := by decide +kernel
theorem dX2_together_49 : decode cX2_together 49 = .ok (.aload_n 0, 1) := by decide +kernel
theorem dX2_together_50 : decode cX2_together 50 = .ok (.getfield 16, 3) := by decide +kernel
theorem dX2_together_53 : decode cX2_together 53 = .ok (.iconst 1, 1) := by decide +kernel
theorem dX2_together_54 : decode cX2_together 54 = .ok (.invokevirtual 107, 3) := by decide +kernel
theorem dX2_together_57 : decode cX2_together 57 = .ok (.aload_n 0, 1) := by decide +kernel
theorem dX2_together_58 : decode cX2_together 58 = .ok (.getfield 16, 3) := by decide +kernel
theorem dX2_together_61 : decode cX2_together 61 = .ok (.getfield 144, 3) := by decide +kernel
theorem dX2_together_64 : decode cX2_together 64 = .ok (.iload_n 1, 1) := by decide +kernel
theorem dX2_together_65 : decode cX2_together 65 = .ok (.iaload, 1) := by decide +kernel
theorem dX2_together_66 : decode cX2_together 66 = .ok (.aload_n 0, 1) := by decide +kernel
theorem dX2_together_67 : decode cX2_together 67 = .ok (.getfield 16, 3) := by decide +kernel
theorem dX2_together_70 : decode cX2_together 70 = .ok (.getfield 144, 3) := by decide +kernel
theorem dX2_together_73 : decode cX2_together 73 = .ok (.iload_n 2, 1) := by decide +kernel
theorem dX2_together_74 : decode cX2_together 74 = .ok (.iaload, 1) := by decide +kernel
theorem dX2_together_75 : decode cX2_together 75 = .ok (.if_icmp .ne 6, 3) := by decide +kernel
theorem dX2_together_78 : decode cX2_together 78 = .ok (.iinc 5 1, 3) := by decide +kernel
theorem dX2_together_81 : decode cX2_together 81 = .ok (.iinc 6 1, 3) := by decide +kernel
theorem dX2_together_84 : decode cX2_together 84 = .ok (.goto (-41), 3) := by decide +kernel
theorem dX2_together_87 : decode cX2_together 87 = .ok (.iload 5, 2) := by decide +kernel
theorem dX2_together_89 : decode cX2_together 89 = .ok (.ireturn, 1) := by decide +kernel
theorem dX2_rests_0 : decode cX2_rests 0 = .ok (.aload_n 0, 1) := by decide +kernel
theorem dX2_rests_1 : decode cX2_rests 1 = .ok (.getfield 12, 3) := by decide +kernel
theorem dX2_rests_4 : decode cX2_rests 4 = .ok (.iload_n 1, 1) := by decide +kernel
theorem dX2_rests_5 : decode cX2_rests 5 = .ok (.invokevirtual 135, 3) := by decide +kernel
theorem dX2_rests_8 : decode cX2_rests 8 = .ok (.ifCond .ne 9, 3) := by decide +kernel
theorem dX2_rests_11 : decode cX2_rests 11 = .ok (.aload_n 0, 1) := by decide +kernel
theorem dX2_rests_12 : decode cX2_rests 12 = .ok (.iconst (-1), 1) := by decide +kernel
theorem dX2_rests_13 : decode cX2_rests 13 = .ok (.invokevirtual 60, 3) := by decide +kernel
theorem dX2_rests_16 : decode cX2_rests 16 = .ok (.ireturn, 1) := by decide +kernel
theorem dX2_rests_17 : decode cX2_rests 17 = .ok (.iload_n 2, 1) := by decide +kernel
theorem dX2_rests_18 : decode cX2_rests 18 = .ok (.invokestatic 184, 3) := by decide +kernel
theorem dX2_rests_21 : decode cX2_rests 21 = .ok (.istore_n 3, 1) := by decide +kernel
theorem dX2_rests_22 : decode cX2_rests 22 = .ok (.iload_n 3, 1) := by decide +kernel
theorem dX2_rests_23 : decode cX2_rests 23 = .ok (.ifCond .eq 9, 3) := by decide +kernel
theorem dX2_rests_26 : decode cX2_rests 26 = .ok (.aload_n 0, 1) := by decide +kernel
theorem dX2_rests_27 : decode cX2_rests 27 = .ok (.iload_n 3, 1) := by decide +kernel
theorem dX2_rests_28 : decode cX2_rests 28 = .ok (.invokevirtual 60, 3) := by decide +kernel
theorem dX2_rests_31 : decode cX2_rests 31 = .ok (.ireturn, 1) := by decide +kernel
theorem dX2_rests_32 : decode cX2_rests 32 = .ok (.aload_n 0, 1) := by decide +kernel
theorem dX2_rests_33 : decode cX2_rests 33 = .ok (.invokevirtual 67, 3) := by decide +kernel
theorem dX2_rests_36 : decode cX2_rests 36 = .ok (.aload_n 0, 1) := by decide +kernel
theorem dX2_rests_37 : decode cX2_rests 37 = .ok (.getfield 16, 3) := by decide +kernel
theorem dX2_rests_40 : decode cX2_rests 40 = .ok (.iload_n 2, 1) := by decide +kernel
theorem dX2_rests_41 : decode cX2_rests 41 = .ok (.invokevirtual 107, 3) := by decide +kernel
theorem dX2_rests_44 : decode cX2_rests 44 = .ok (.aload_n 0, 1) := by decide +kernel
theorem dX2_rests_45 : decode cX2_rests 45 = .ok (.getfield 16, 3) := by decide +kernel
theorem dX2_rests_48 : decode cX2_rests 48 = .ok (.getfield 221, 3) := by decide +kernel
theorem dX2_rests_51 : decode cX2_rests 51 = .ok (.iload_n 1, 1) := by decide +kernel
theorem dX2_rests_52 : decode cX2_rests 52 = .ok (.iaload, 1) := by decide +kernel
theorem dX2_rests_53 : decode cX2_rests 53 = .ok (.ireturn, 1) := by decide +kernel
theorem dX2_firstSnap_0 : decode cX2_firstSnap 0 = .ok (.aload_n 0, 1) := by decide +kernel
theorem dX2_firstSnap_1 : decode cX2_firstSnap 1 = .ok (.invokevirtual 67, 3) := by decide +kernel
theorem dX2_firstSnap_4 : decode cX2_firstSnap 4 = .ok (.iconst 1, 1) := by decide +kernel
theorem dX2_firstSnap_5 : decode cX2_firstSnap 5 = .ok (.istore_n 1, 1) := by decide +kernel
theorem dX2_firstSnap_6 : decode cX2_firstSnap 6 = .ok (.iload_n 1, 1) := by decide +kernel
theorem dX2_firstSnap_7 : decode cX2_firstSnap 7 = .ok (.bipush 60, 2) := by decide +kernel
theorem dX2_firstSnap_9 : decode cX2_firstSnap 9 = .ok (.if_icmp .gt 29, 3) := by decide +kernel
theorem dX2_firstSnap_12 : decode cX2_firstSnap 12 = .ok (.aload_n 0, 1) := by decide +kernel
theorem dX2_firstSnap_13 : decode cX2_firstSnap 13 = .ok (.getfield 16, 3) := by decide +kernel
theorem dX2_firstSnap_16 : decode cX2_firstSnap 16 = .ok (.iconst 1, 1) := by decide +kernel
theorem dX2_firstSnap_17 : decode cX2_firstSnap 17 = .ok (.invokevirtual 107, 3) := by decide +kernel
theorem dX2_firstSnap_20 : decode cX2_firstSnap 20 = .ok (.aload_n 0, 1) := by decide +kernel
theorem dX2_firstSnap_21 : decode cX2_firstSnap 21 = .ok (.getfield 16, 3) := by decide +kernel
theorem dX2_firstSnap_24 : decode cX2_firstSnap 24 = .ok (.getfield 181, 3) := by decide +kernel
theorem dX2_firstSnap_27 : decode cX2_firstSnap 27 = .ok (.ifCond .le 5, 3) := by decide +kernel
theorem dX2_firstSnap_30 : decode cX2_firstSnap 30 = .ok (.iload_n 1, 1) := by decide +kernel
theorem dX2_firstSnap_31 : decode cX2_firstSnap 31 = .ok (.ireturn, 1) := by decide +kernel
theorem dX2_firstSnap_32 : decode cX2_firstSnap 32 = .ok (.iinc 1 1, 3) := by decide +kernel
theorem dX2_firstSnap_35 : decode cX2_firstSnap 35 = .ok (.goto (-29), 3) := by decide +kernel
theorem dX2_firstSnap_38 : decode cX2_firstSnap 38 = .ok (.bipush (-9), 2) := by decide +kernel
theorem dX2_firstSnap_40 : decode cX2_firstSnap 40 = .ok (.ireturn, 1) := by decide +kernel
theorem dX2_busy_0 : decode cX2_busy 0 = .ok (.iload_n 1, 1) := by decide +kernel
theorem dX2_busy_1 : decode cX2_busy 1 = .ok (.iload_n 2, 1) := by decide +kernel
theorem dX2_busy_2 : decode cX2_busy 2 = .ok (.iconst 1, 1) := by decide +kernel
theorem dX2_busy_3 : decode cX2_busy 3 = .ok (.invokestatic 199, 3) := by decide +kernel
theorem dX2_busy_6 : decode cX2_busy 6 = .ok (.istore_n 3, 1) := by decide +kernel
theorem dX2_busy_7 : decode cX2_busy 7 = .ok (.iload_n 3, 1) := by decide +kernel
theorem dX2_busy_8 : decode cX2_busy 8 = .ok (.ifCond .eq 9, 3) := by decide +kernel
theorem dX2_busy_11 : decode cX2_busy 11 = .ok (.aload_n 0, 1) := by decide +kernel
theorem dX2_busy_12 : decode cX2_busy 12 = .ok (.iload_n 3, 1) := by decide +kernel
theorem dX2_busy_13 : decode cX2_busy 13 = .ok (.invokevirtual 60, 3) := by decide +kernel
theorem dX2_busy_16 : decode cX2_busy 16 = .ok (.ireturn, 1) := by decide +kernel
theorem dX2_busy_17 : decode cX2_busy 17 = .ok (.aload_n 0, 1) := by decide +kernel
theorem dX2_busy_18 : decode cX2_busy 18 = .ok (.invokevirtual 67, 3) := by decide +kernel
theorem dX2_busy_21 : decode cX2_busy 21 = .ok (.aload_n 0, 1) := by decide +kernel
theorem dX2_busy_22 : decode cX2_busy 22 = .ok (.invokevirtual 202, 3) := by decide +kernel
theorem dX2_busy_25 : decode cX2_busy 25 = .ok (.aload_n 0, 1) := by decide +kernel
theorem dX2_busy_26 : decode cX2_busy 26 = .ok (.invokevirtual 205, 3) := by decide +kernel
theorem dX2_busy_29 : decode cX2_busy 29 = .ok (.iconst 1, 1) := by decide +kernel
theorem dX2_busy_30 : decode cX2_busy 30 = .ok (.istore 4, 2) := by decide +kernel
theorem dX2_busy_32 : decode cX2_busy 32 = .ok (.iload 4, 2) := by decide +kernel
theorem dX2_busy_34 : decode cX2_busy 34 = .ok (.iload_n 1, 1) := by decide +kernel
theorem dX2_busy_35 : decode cX2_busy 35 = .ok (.if_icmp .gt 21, 3) := by decide +kernel
theorem dX2_busy_38 : decode cX2_busy 38 = .ok (.aload_n 0, 1) := by decide +kernel
theorem dX2_busy_39 : decode cX2_busy 39 = .ok (.getfield 16, 3) := by decide +kernel
theorem dX2_busy_42 : decode cX2_busy 42 = .ok (.iconst 1, 1) := by decide +kernel
theorem dX2_busy_43 : decode cX2_busy 43 = .ok (.invokevirtual 107, 3) := by decide +kernel
theorem dX2_busy_46 : decode cX2_busy 46 = .ok (.aload_n 0, 1) := by decide +kernel
theorem dX2_busy_47 : decode cX2_busy 47 = .ok (.invokevirtual 205, 3) := by decide +kernel
theorem dX2_busy_50 : decode cX2_busy 50 = .ok (.iinc 4 1, 3) := by decide +kernel
theorem dX2_busy_53 : decode cX2_busy 53 = .ok (.goto (-21), 3) := by decide +kernel
theorem dX2_busy_56 : decode cX2_busy 56 = .ok (.aload_n 0, 1) := by decide +kernel
theorem dX2_busy_57 : decode cX2_busy 57 = .ok (.invokevirtual 208, 3) := by decide +kernel
theorem dX2_busy_60 : decode cX2_busy 60 = .ok (.istore 4, 2) := by decide +kernel
theorem dX2_busy_62 : decode cX2_busy 62 = .ok (.iload_n 2, 1) := by decide +kernel
theorem dX2_busy_63 : decode cX2_busy 63 = .ok (.ifCond .ne 8, 3) := by decide +kernel
theorem dX2_busy_66 : decode cX2_busy 66 = .ok (.iload 4, 2) := by decide +kernel
theorem dX2_busy_68 : decode cX2_busy 68 = .ok (.goto 10, 3) := by decide +kernel
theorem dX2_busy_71 : decode cX2_busy 71 = .ok (.aload_n 0, 1) := by decide +kernel
theorem dX2_busy_72 : decode cX2_busy 72 = .ok (.getfield 50, 3) := by decide +kernel
theorem dX2_busy_75 : decode cX2_busy 75 = .ok (.iload 4, 2) := by decide +kernel
theorem dX2_busy_77 : decode cX2_busy 77 = .ok (.iaload, 1) := by decide +kernel
theorem dX2_busy_78 : decode cX2_busy 78 = .ok (.ireturn, 1) := by decide +kernel
theorem dX2_gathering_0 : decode cX2_gathering 0 = .ok (.aload_n 0, 1) := by decide +kernel
theorem dX2_gathering_1 : decode cX2_gathering 1 = .ok (.invokevirtual 67, 3) := by decide +kernel
theorem dX2_gathering_4 : decode cX2_gathering 4 = .ok (.iconst 0, 1) := by decide +kernel
theorem dX2_gathering_5 : decode cX2_gathering 5 = .ok (.istore_n 1, 1) := by decide +kernel
theorem dX2_gathering_6 : decode cX2_gathering 6 = .ok (.iload_n 1, 1) := by decide +kernel
theorem dX2_gathering_7 : decode cX2_gathering 7 = .ok (.bipush 60, 2) := by decide +kernel
theorem dX2_gathering_9 : decode cX2_gathering 9 = .ok (.if_icmp .gt 29, 3) := by decide +kernel
theorem dX2_gathering_12 : decode cX2_gathering 12 = .ok (.aload_n 0, 1) := by decide +kernel
theorem dX2_gathering_13 : decode cX2_gathering 13 = .ok (.getfield 16, 3) := by decide +kernel
theorem dX2_gathering_16 : decode cX2_gathering 16 = .ok (.invokevirtual 224, 3) := by decide +kernel
theorem dX2_gathering_19 : decode cX2_gathering 19 = .ok (.ifCond .eq 5, 3) := by decide +kernel
theorem dX2_gathering_22 : decode cX2_gathering 22 = .ok (.iload_n 1, 1) := by decide +kernel
theorem dX2_gathering_23 : decode cX2_gathering 23 = .ok (.ireturn, 1) := by decide +kernel
theorem dX2_gathering_24 : decode cX2_gathering 24 = .ok (.aload_n 0, 1) := by decide +kernel
theorem dX2_gathering_25 : decode cX2_gathering 25 = .ok (.getfield 16, 3) := by decide +kernel
theorem dX2_gathering_28 : decode cX2_gathering 28 = .ok (.iconst 1, 1) := by decide +kernel
theorem dX2_gathering_29 : decode cX2_gathering 29 = .ok (.invokevirtual 107, 3) := by decide +kernel
theorem dX2_gathering_32 : decode cX2_gathering 32 = .ok (.iinc 1 1, 3) := by decide +kernel
theorem dX2_gathering_35 : decode cX2_gathering 35 = .ok (.goto (-29), 3) := by decide +kernel
theorem dX2_gathering_38 : decode cX2_gathering 38 = .ok (.bipush (-9), 2) := by decide +kernel
theorem dX2_gathering_40 : decode cX2_gathering 40 = .ok (.ireturn, 1) := by decide +kernel
theorem dX2_farthest_0 : decode cX2_farthest 0 = .ok (.iload_n 1, 1) := by decide +kernel
theorem dX2_farthest_1 : decode cX2_farthest 1 = .ok (.iload_n 2, 1) := by decide +kernel
theorem dX2_farthest_2 : decode cX2_farthest 2 = .ok (.iconst 1, 1) := by decide +kernel
theorem dX2_farthest_3 : decode cX2_farthest 3 = .ok (.invokestatic 199, 3) := by decide +kernel
theorem dX2_farthest_6 : decode cX2_farthest 6 = .ok (.istore_n 3, 1) := by decide +kernel
theorem dX2_farthest_7 : decode cX2_farthest 7 = .ok (.iload_n 3, 1) := by decide +kernel
theorem dX2_farthest_8 : decode cX2_farthest 8 = .ok (.ifCond .eq 9, 3) := by decide +kernel
theorem dX2_farthest_11 : decode cX2_farthest 11 = .ok (.aload_n 0, 1) := by decide +kernel
theorem dX2_farthest_12 : decode cX2_farthest 12 = .ok (.iload_n 3, 1) := by decide +kernel
theorem dX2_farthest_13 : decode cX2_farthest 13 = .ok (.invokevirtual 60, 3) := by decide +kernel
theorem dX2_farthest_16 : decode cX2_farthest 16 = .ok (.ireturn, 1) := by decide +kernel
theorem dX2_farthest_17 : decode cX2_farthest 17 = .ok (.aload_n 0, 1) := by decide +kernel
theorem dX2_farthest_18 : decode cX2_farthest 18 = .ok (.invokevirtual 67, 3) := by decide +kernel
theorem dX2_farthest_21 : decode cX2_farthest 21 = .ok (.aload_n 0, 1) := by decide +kernel
theorem dX2_farthest_22 : decode cX2_farthest 22 = .ok (.getfield 16, 3) := by decide +kernel
theorem dX2_farthest_25 : decode cX2_farthest 25 = .ok (.iload_n 1, 1) := by decide +kernel
theorem dX2_farthest_26 : decode cX2_farthest 26 = .ok (.invokevirtual 107, 3) := by decide +kernel
theorem dX2_farthest_29 : decode cX2_farthest 29 = .ok (.bipush (-9), 2) := by decide +kernel
theorem dX2_farthest_31 : decode cX2_farthest 31 = .ok (.istore 4, 2) := by decide +kernel
theorem dX2_farthest_33 : decode cX2_farthest 33 = .ok (.bipush (-9), 2) := by decide +kernel
theorem dX2_farthest_35 : decode cX2_farthest 35 = .ok (.istore 5, 2) := by decide +kernel
theorem dX2_farthest_37 : decode cX2_farthest 37 = .ok (.iconst 0, 1) := by decide +kernel
theorem dX2_farthest_38 : decode cX2_farthest 38 = .ok (.istore 6, 2) := by decide +kernel
theorem dX2_farthest_40 : decode cX2_farthest 40 = .ok (.iload 6, 2) := by decide +kernel
theorem dX2_farthest_42 : decode cX2_farthest 42 = .ok (.aload_n 0, 1) := by decide +kernel
theorem dX2_farthest_43 : decode cX2_farthest 43 = .ok (.getfield 16, 3) := by decide +kernel
theorem dX2_farthest_46 : decode cX2_farthest 46 = .ok (.getfield 159, 3) := by decide +kernel
theorem dX2_farthest_49 : decode cX2_farthest 49 = .ok (.if_icmp .ge 79, 3) := by decide +kernel
theorem dX2_farthest_52 : decode cX2_farthest 52 = .ok (.iload 6, 2) := by decide +kernel
theorem dX2_farthest_54 : decode cX2_farthest 54 = .ok (.iconst 1, 1) := by decide +kernel
theorem dX2_farthest_55 : decode cX2_farthest 55 = .ok (.iadd, 1) := by decide +kernel
theorem dX2_farthest_56 : decode cX2_farthest 56 = .ok (.istore 7, 2) := by decide +kernel
theorem dX2_farthest_58 : decode cX2_farthest 58 = .ok (.iload 7, 2) := by decide +kernel
theorem dX2_farthest_60 : decode cX2_farthest 60 = .ok (.aload_n 0, 1) := by decide +kernel
theorem dX2_farthest_61 : decode cX2_farthest 61 = .ok (.getfield 16, 3) := by decide +kernel
theorem dX2_farthest_64 : decode cX2_farthest 64 = .ok (.getfield 159, 3) := by decide +kernel
theorem dX2_farthest_67 : decode cX2_farthest 67 = .ok (.if_icmp .ge 55, 3) := by decide +kernel
theorem dX2_farthest_70 : decode cX2_farthest 70 = .ok (.aload_n 0, 1) := by decide +kernel
theorem dX2_farthest_71 : decode cX2_farthest 71 = .ok (.getfield 16, 3) := by decide +kernel
theorem dX2_farthest_74 : decode cX2_farthest 74 = .ok (.getfield 144, 3) := by decide +kernel
theorem dX2_farthest_77 : decode cX2_farthest 77 = .ok (.iload 6, 2) := by decide +kernel
theorem dX2_farthest_79 : decode cX2_farthest 79 = .ok (.iaload, 1) := by decide +kernel
theorem dX2_farthest_80 : decode cX2_farthest 80 = .ok (.aload_n 0, 1) := by decide +kernel
theorem dX2_farthest_81 : decode cX2_farthest 81 = .ok (.getfield 16, 3) := by decide +kernel
theorem dX2_farthest_84 : decode cX2_farthest 84 = .ok (.getfield 144, 3) := by decide +kernel
theorem dX2_farthest_87 : decode cX2_farthest 87 = .ok (.iload 7, 2) := by decide +kernel
theorem dX2_farthest_89 : decode cX2_farthest 89 = .ok (.iaload, 1) := by decide +kernel
theorem dX2_farthest_90 : decode cX2_farthest 90 = .ok (.invokestatic 228, 3) := by decide +kernel
theorem dX2_farthest_93 : decode cX2_farthest 93 = .ok (.istore 8, 2) := by decide +kernel
theorem dX2_farthest_95 : decode cX2_farthest 95 = .ok (.iload 8, 2) := by decide +kernel
theorem dX2_farthest_97 : decode cX2_farthest 97 = .ok (.iload 5, 2) := by decide +kernel
theorem dX2_farthest_99 : decode cX2_farthest 99 = .ok (.if_icmp .le 17, 3) := by decide +kernel
theorem dX2_farthest_102 : decode cX2_farthest 102 = .ok (.iload 8, 2) := by decide +kernel
theorem dX2_farthest_104 : decode cX2_farthest 104 = .ok (.istore 5, 2) := by decide +kernel
theorem dX2_farthest_106 : decode cX2_farthest 106 = .ok (.bipush 10, 2) := by decide +kernel
theorem dX2_farthest_108 : decode cX2_farthest 108 = .ok (.iload 6, 2) := by decide +kernel
theorem dX2_farthest_110 : decode cX2_farthest 110 = .ok (.imul, 1) := by decide +kernel
theorem dX2_farthest_111 : decode cX2_farthest 111 = .ok (.iload 7, 2) := by decide +kernel
theorem dX2_farthest_113 : decode cX2_farthest 113 = .ok (.iadd, 1) := by decide +kernel
theorem dX2_farthest_114 : decode cX2_farthest 114 = .ok (.istore 4, 2) := by decide +kernel
theorem dX2_farthest_116 : decode cX2_farthest 116 = .ok (.iinc 7 1, 3) := by decide +kernel
theorem dX2_farthest_119 : decode cX2_farthest 119 = .ok (.goto (-61), 3) := by decide +kernel
theorem dX2_farthest_122 : decode cX2_farthest 122 = .ok (.iinc 6 1, 3) := by decide +kernel
theorem dX2_farthest_125 : decode cX2_farthest 125 = .ok (.goto (-85), 3) := by decide +kernel
theorem dX2_farthest_128 : decode cX2_farthest 128 = .ok (.iload_n 2, 1) := by decide +kernel
theorem dX2_farthest_129 : decode cX2_farthest 129 = .ok (.ifCond .ne 8, 3) := by decide +kernel
theorem dX2_farthest_132 : decode cX2_farthest 132 = .ok (.iload 4, 2) := by decide +kernel
theorem dX2_farthest_134 : decode cX2_farthest 134 = .ok (.goto 5, 3) := by decide +kernel
theorem dX2_farthest_137 : decode cX2_farthest 137 = .ok (.iload 5, 2) := by decide +kernel
theorem dX2_farthest_139 : decode cX2_farthest 139 = .ok (.ireturn, 1) := by decide +kernel
theorem dX2_startPlaceTally_0 : decode cX2_startPlaceTally 0 = .ok (.iconst 0, 1) := by decide +kernel
theorem dX2_startPlaceTally_1 : decode cX2_startPlaceTally 1 = .ok (.istore_n 1, 1) := by decide +kernel
theorem dX2_startPlaceTally_2 : decode cX2_startPlaceTally 2 = .ok (.iload_n 1, 1) := by decide +kernel
theorem dX2_startPlaceTally_3 : decode cX2_startPlaceTally 3 = .ok (.bipush 10, 2) := by decide +kernel
theorem dX2_startPlaceTally_5 : decode cX2_startPlaceTally 5 = .ok (.if_icmp .ge 16, 3) := by decide +kernel
theorem dX2_startPlaceTally_8 : decode cX2_startPlaceTally 8 = .ok (.aload_n 0, 1) := by decide +kernel
theorem dX2_startPlaceTally_9 : decode cX2_startPlaceTally 9 = .ok (.getfield 50, 3) := by decide +kernel
theorem dX2_startPlaceTally_12 : decode cX2_startPlaceTally 12 = .ok (.iload_n 1, 1) := by decide +kernel
theorem dX2_startPlaceTally_13 : decode cX2_startPlaceTally 13 = .ok (.iconst 0, 1) := by decide +kernel
theorem dX2_startPlaceTally_14 : decode cX2_startPlaceTally 14 = .ok (.iastore, 1) := by decide +kernel
theorem dX2_startPlaceTally_15 : decode cX2_startPlaceTally 15 = .ok (.iinc 1 1, 3) := by decide +kernel
theorem dX2_startPlaceTally_18 : decode cX2_startPlaceTally 18 = .ok (.goto (-16), 3) := by decide +kernel
theorem dX2_startPlaceTally_21 : decode cX2_startPlaceTally 21 = .ok (.return_, 1) := by decide +kernel
theorem dX2_tallyPlaces_0 : decode cX2_tallyPlaces 0 = .ok (.iconst 0, 1) := by decide +kernel
theorem dX2_tallyPlaces_1 : decode cX2_tallyPlaces 1 = .ok (.istore_n 1, 1) := by decide +kernel
theorem dX2_tallyPlaces_2 : decode cX2_tallyPlaces 2 = .ok (.iload_n 1, 1) := by decide +kernel
theorem dX2_tallyPlaces_3 : decode cX2_tallyPlaces 3 = .ok (.aload_n 0, 1) := by decide +kernel
theorem dX2_tallyPlaces_4 : decode cX2_tallyPlaces 4 = .ok (.getfield 16, 3) := by decide +kernel
theorem dX2_tallyPlaces_7 : decode cX2_tallyPlaces 7 = .ok (.getfield 159, 3) := by decide +kernel
theorem dX2_tallyPlaces_10 : decode cX2_tallyPlaces 10 = .ok (.if_icmp .ge 42, 3) := by decide +kernel
theorem dX2_tallyPlaces_13 : decode cX2_tallyPlaces 13 = .ok (.aload_n 0, 1) := by decide +kernel
theorem dX2_tallyPlaces_14 : decode cX2_tallyPlaces 14 = .ok (.getfield 16, 3) := by decide +kernel
theorem dX2_tallyPlaces_17 : decode cX2_tallyPlaces 17 = .ok (.getfield 144, 3) := by decide +kernel
theorem dX2_tallyPlaces_20 : decode cX2_tallyPlaces 20 = .ok (.iload_n 1, 1) := by decide +kernel
theorem dX2_tallyPlaces_21 : decode cX2_tallyPlaces 21 = .ok (.iaload, 1) := by decide +kernel
theorem dX2_tallyPlaces_22 : decode cX2_tallyPlaces 22 = .ok (.invokestatic 175, 3) := by decide +kernel
theorem dX2_tallyPlaces_25 : decode cX2_tallyPlaces 25 = .ok (.ifCond .eq 21, 3) := by decide +kernel
theorem dX2_tallyPlaces_28 : decode cX2_tallyPlaces 28 = .ok (.aload_n 0, 1) := by decide +kernel
theorem dX2_tallyPlaces_29 : decode cX2_tallyPlaces 29 = .ok (.getfield 50, 3) := by decide +kernel
theorem dX2_tallyPlaces_32 : decode cX2_tallyPlaces 32 = .ok (.aload_n 0, 1) := by decide +kernel
theorem dX2_tallyPlaces_33 : decode cX2_tallyPlaces 33 = .ok (.getfield 16, 3) := by decide +kernel
theorem dX2_tallyPlaces_36 : decode cX2_tallyPlaces 36 = .ok (.getfield 144, 3) := by decide +kernel
theorem dX2_tallyPlaces_39 : decode cX2_tallyPlaces 39 = .ok (.iload_n 1, 1) := by decide +kernel
theorem dX2_tallyPlaces_40 : decode cX2_tallyPlaces 40 = .ok (.iaload, 1) := by decide +kernel
theorem dX2_tallyPlaces_41 : decode cX2_tallyPlaces 41 = .ok (.dup2, 1) := by decide +kernel
theorem dX2_tallyPlaces_42 : decode cX2_tallyPlaces 42 = .ok (.iaload, 1) := by decide +kernel
theorem dX2_tallyPlaces_43 : decode cX2_tallyPlaces 43 = .ok (.iconst 1, 1) := by decide +kernel
theorem dX2_tallyPlaces_44 : decode cX2_tallyPlaces 44 = .ok (.iadd, 1) := by decide +kernel
theorem dX2_tallyPlaces_45 : decode cX2_tallyPlaces 45 = .ok (.iastore, 1) := by decide +kernel
theorem dX2_tallyPlaces_46 : decode cX2_tallyPlaces 46 = .ok (.iinc 1 1, 3) := by decide +kernel
theorem dX2_tallyPlaces_49 : decode cX2_tallyPlaces 49 = .ok (.goto (-47), 3) := by decide +kernel
theorem dX2_tallyPlaces_52 : decode cX2_tallyPlaces 52 = .ok (.return_, 1) := by decide +kernel
theorem dX2_fullestPlace_0 : decode cX2_fullestPlace 0 = .ok (.iconst 0, 1) := by decide +kernel
theorem dX2_fullestPlace_1 : decode cX2_fullestPlace 1 = .ok (.istore_n 1, 1) := by decide +kernel
theorem dX2_fullestPlace_2 : decode cX2_fullestPlace 2 = .ok (.iconst 1, 1) := by decide +kernel
theorem dX2_fullestPlace_3 : decode cX2_fullestPlace 3 = .ok (.istore_n 2, 1) := by decide +kernel
theorem dX2_fullestPlace_4 : decode cX2_fullestPlace 4 = .ok (.iload_n 2, 1) := by decide +kernel
theorem dX2_fullestPlace_5 : decode cX2_fullestPlace 5 = .ok (.bipush 10, 2) := by decide +kernel
theorem dX2_fullestPlace_7 : decode cX2_fullestPlace 7 = .ok (.if_icmp .ge 26, 3) := by decide +kernel
theorem dX2_fullestPlace_10 : decode cX2_fullestPlace 10 = .ok (.aload_n 0, 1) := by decide +kernel
theorem dX2_fullestPlace_11 : decode cX2_fullestPlace 11 = .ok (.getfield 50, 3) := by decide +kernel
theorem dX2_fullestPlace_14 : decode cX2_fullestPlace 14 = .ok (.iload_n 2, 1) := by decide +kernel
theorem dX2_fullestPlace_15 : decode cX2_fullestPlace 15 = .ok (.iaload, 1) := by decide +kernel
theorem dX2_fullestPlace_16 : decode cX2_fullestPlace 16 = .ok (.aload_n 0, 1) := by decide +kernel
theorem dX2_fullestPlace_17 : decode cX2_fullestPlace 17 = .ok (.getfield 50, 3) := by decide +kernel
theorem dX2_fullestPlace_20 : decode cX2_fullestPlace 20 = .ok (.iload_n 1, 1) := by decide +kernel
theorem dX2_fullestPlace_21 : decode cX2_fullestPlace 21 = .ok (.iaload, 1) := by decide +kernel
theorem dX2_fullestPlace_22 : decode cX2_fullestPlace 22 = .ok (.if_icmp .le 5, 3) := by decide +kernel
theorem dX2_fullestPlace_25 : decode cX2_fullestPlace 25 = .ok (.iload_n 2, 1) := by decide +kernel
theorem dX2_fullestPlace_26 : decode cX2_fullestPlace 26 = .ok (.istore_n 1, 1) := by decide +kernel
theorem dX2_fullestPlace_27 : decode cX2_fullestPlace 27 = .ok (.iinc 2 1, 3) := by decide +kernel
theorem dX2_fullestPlace_30 : decode cX2_fullestPlace 30 = .ok (.goto (-26), 3) := by decide +kernel
theorem dX2_fullestPlace_33 : decode cX2_fullestPlace 33 = .ok (.iload_n 1, 1) := by decide +kernel
theorem dX2_fullestPlace_34 : decode cX2_fullestPlace 34 = .ok (.ireturn, 1) := by decide +kernel
theorem dX2_bestBag_0 : decode cX2_bestBag 0 = .ok (.aload_n 0, 1) := by decide +kernel
theorem dX2_bestBag_1 : decode cX2_bestBag 1 = .ok (.getfield 12, 3) := by decide +kernel
theorem dX2_bestBag_4 : decode cX2_bestBag 4 = .ok (.iload_n 1, 1) := by decide +kernel
theorem dX2_bestBag_5 : decode cX2_bestBag 5 = .ok (.invokevirtual 135, 3) := by decide +kernel
theorem dX2_bestBag_8 : decode cX2_bestBag 8 = .ok (.ifCond .eq 10, 3) := by decide +kernel
theorem dX2_bestBag_11 : decode cX2_bestBag 11 = .ok (.iload_n 2, 1) := by decide +kernel
theorem dX2_bestBag_12 : decode cX2_bestBag 12 = .ok (.invokestatic 175, 3) := by decide +kernel
theorem dX2_bestBag_15 : decode cX2_bestBag 15 = .ok (.ifCond .ne 9, 3) := by decide +kernel
theorem dX2_bestBag_18 : decode cX2_bestBag 18 = .ok (.aload_n 0, 1) := by decide +kernel
theorem dX2_bestBag_19 : decode cX2_bestBag 19 = .ok (.iconst (-1), 1) := by decide +kernel
theorem dX2_bestBag_20 : decode cX2_bestBag 20 = .ok (.invokevirtual 60, 3) := by decide +kernel
theorem dX2_bestBag_23 : decode cX2_bestBag 23 = .ok (.ireturn, 1) := by decide +kernel
theorem dX2_bestBag_24 : decode cX2_bestBag 24 = .ok (.iload_n 3, 1) := by decide +kernel
theorem dX2_bestBag_25 : decode cX2_bestBag 25 = .ok (.ifCond .lt 8, 3) := by decide +kernel
theorem dX2_bestBag_28 : decode cX2_bestBag 28 = .ok (.iload_n 3, 1) := by decide +kernel
theorem dX2_bestBag_29 : decode cX2_bestBag 29 = .ok (.iconst 1, 1) := by decide +kernel
theorem dX2_bestBag_30 : decode cX2_bestBag 30 = .ok (.if_icmp .le 10, 3) := by decide +kernel
theorem dX2_bestBag_33 : decode cX2_bestBag 33 = .ok (.aload_n 0, 1) := by decide +kernel
theorem dX2_bestBag_34 : decode cX2_bestBag 34 = .ok (.bipush (-2), 2) := by decide +kernel
theorem dX2_bestBag_36 : decode cX2_bestBag 36 = .ok (.invokevirtual 60, 3) := by decide +kernel
theorem dX2_bestBag_39 : decode cX2_bestBag 39 = .ok (.ireturn, 1) := by decide +kernel
theorem dX2_bestBag_40 : decode cX2_bestBag 40 = .ok (.bipush (-9), 2) := by decide +kernel
theorem dX2_bestBag_42 : decode cX2_bestBag 42 = .ok (.istore 4, 2) := by decide +kernel
theorem dX2_bestBag_44 : decode cX2_bestBag 44 = .ok (.bipush 61, 2) := by decide +kernel
theorem dX2_bestBag_46 : decode cX2_bestBag 46 = .ok (.istore 5, 2) := by decide +kernel
theorem dX2_bestBag_48 : decode cX2_bestBag 48 = .ok (.iconst 0, 1) := by decide +kernel
theorem dX2_bestBag_49 : decode cX2_bestBag 49 = .ok (.istore 6, 2) := by decide +kernel
theorem dX2_bestBag_51 : decode cX2_bestBag 51 = .ok (.iload 6, 2) := by decide +kernel
theorem dX2_bestBag_53 : decode cX2_bestBag 53 = .ok (.aload_n 0, 1) := by decide +kernel
theorem dX2_bestBag_54 : decode cX2_bestBag 54 = .ok (.getfield 12, 3) := by decide +kernel
theorem dX2_bestBag_57 : decode cX2_bestBag 57 = .ok (.getfield 156, 3) := by decide +kernel
theorem dX2_bestBag_60 : decode cX2_bestBag 60 = .ok (.if_icmp .ge 51, 3) := by decide +kernel
theorem dX2_bestBag_63 : decode cX2_bestBag 63 = .ok (.aload_n 0, 1) := by decide +kernel
theorem dX2_bestBag_64 : decode cX2_bestBag 64 = .ok (.invokevirtual 67, 3) := by decide +kernel
theorem dX2_bestBag_67 : decode cX2_bestBag 67 = .ok (.aload_n 0, 1) := by decide +kernel
theorem dX2_bestBag_68 : decode cX2_bestBag 68 = .ok (.getfield 16, 3) := by decide +kernel
theorem dX2_bestBag_71 : decode cX2_bestBag 71 = .ok (.iload 6, 2) := by decide +kernel
theorem dX2_bestBag_73 : decode cX2_bestBag 73 = .ok (.iload_n 1, 1) := by decide +kernel
theorem dX2_bestBag_74 : decode cX2_bestBag 74 = .ok (.invokevirtual 94, 3) := by decide +kernel
theorem dX2_bestBag_77 : decode cX2_bestBag 77 = .ok (.pop, 1) := by decide +kernel
theorem dX2_bestBag_78 : decode cX2_bestBag 78 = .ok (.aload_n 0, 1) := by decide +kernel
theorem dX2_bestBag_79 : decode cX2_bestBag 79 = .ok (.iload_n 1, 1) := by decide +kernel
theorem dX2_bestBag_80 : decode cX2_bestBag 80 = .ok (.iload_n 2, 1) := by decide +kernel
theorem dX2_bestBag_81 : decode cX2_bestBag 81 = .ok (.iload 5, 2) := by decide +kernel
theorem dX2_bestBag_83 : decode cX2_bestBag 83 = .ok (.iconst 1, 1) := by decide +kernel
theorem dX2_bestBag_84 : decode cX2_bestBag 84 = .ok (.isub, 1) := by decide +kernel
theorem dX2_bestBag_85 : decode cX2_bestBag 85 = .ok (.invokevirtual 232, 3) := by decide +kernel
theorem dX2_bestBag_88 : decode cX2_bestBag 88 = .ok (.istore 7, 2) := by decide +kernel
theorem dX2_bestBag_90 : decode cX2_bestBag 90 = .ok (.iload 7, 2) := by decide +kernel
theorem dX2_bestBag_92 : decode cX2_bestBag 92 = .ok (.iload 5, 2) := by decide +kernel
theorem dX2_bestBag_94 : decode cX2_bestBag 94 = .ok (.if_icmp .ge 11, 3) := by decide +kernel
theorem dX2_bestBag_97 : decode cX2_bestBag 97 = .ok (.iload 7, 2) := by decide +kernel
theorem dX2_bestBag_99 : decode cX2_bestBag 99 = .ok (.istore 5, 2) := by decide +kernel
theorem dX2_bestBag_101 : decode cX2_bestBag 101 = .ok (.iload 6, 2) := by decide +kernel
theorem dX2_bestBag_103 : decode cX2_bestBag 103 = .ok (.istore 4, 2) := by decide +kernel
theorem dX2_bestBag_105 : decode cX2_bestBag 105 = .ok (.iinc 6 1, 3) := by decide +kernel
theorem dX2_bestBag_108 : decode cX2_bestBag 108 = .ok (.goto (-57), 3) := by decide +kernel
theorem dX2_bestBag_111 : decode cX2_bestBag 111 = .ok (.iload_n 3, 1) := by decide +kernel
theorem dX2_bestBag_112 : decode cX2_bestBag 112 = .ok (.ifCond .ne 8, 3) := by decide +kernel
theorem dX2_bestBag_115 : decode cX2_bestBag 115 = .ok (.iload 4, 2) := by decide +kernel
theorem dX2_bestBag_117 : decode cX2_bestBag 117 = .ok (.goto 8, 3) := by decide +kernel
theorem dX2_bestBag_120 : decode cX2_bestBag 120 = .ok (.iload 5, 2) := by decide +kernel
theorem dX2_bestBag_122 : decode cX2_bestBag 122 = .ok (.invokestatic 196, 3) := by decide +kernel
theorem dX2_bestBag_125 : decode cX2_bestBag 125 = .ok (.ireturn, 1) := by decide +kernel
theorem dX2_hers_0 : decode cX2_hers 0 = .ok (.aload_n 0, 1) := by decide +kernel
theorem dX2_hers_1 : decode cX2_hers 1 = .ok (.getfield 12, 3) := by decide +kernel
theorem dX2_hers_4 : decode cX2_hers 4 = .ok (.iload_n 1, 1) := by decide +kernel
theorem dX2_hers_5 : decode cX2_hers 5 = .ok (.invokevirtual 135, 3) := by decide +kernel
theorem dX2_hers_8 : decode cX2_hers 8 = .ok (.ifCond .ne 9, 3) := by decide +kernel
theorem dX2_hers_11 : decode cX2_hers 11 = .ok (.aload_n 0, 1) := by decide +kernel
theorem dX2_hers_12 : decode cX2_hers 12 = .ok (.iconst (-1), 1) := by decide +kernel
theorem dX2_hers_13 : decode cX2_hers 13 = .ok (.invokevirtual 60, 3) := by decide +kernel
theorem dX2_hers_16 : decode cX2_hers 16 = .ok (.ireturn, 1) := by decide +kernel
theorem dX2_hers_17 : decode cX2_hers 17 = .ok (.aload_n 0, 1) := by decide +kernel
theorem dX2_hers_18 : decode cX2_hers 18 = .ok (.invokevirtual 67, 3) := by decide +kernel
theorem dX2_hers_21 : decode cX2_hers 21 = .ok (.iconst 0, 1) := by decide +kernel
theorem dX2_hers_22 : decode cX2_hers 22 = .ok (.istore_n 2, 1) := by decide +kernel
theorem dX2_hers_23 : decode cX2_hers 23 = .ok (.iload_n 2, 1) := by decide +kernel
theorem dX2_hers_24 : decode cX2_hers 24 = .ok (.bipush 60, 2) := by decide +kernel
theorem dX2_hers_26 : decode cX2_hers 26 = .ok (.if_icmp .gt 30, 3) := by decide +kernel
theorem dX2_hers_29 : decode cX2_hers 29 = .ok (.aload_n 0, 1) := by decide +kernel
theorem dX2_hers_30 : decode cX2_hers 30 = .ok (.getfield 16, 3) := by decide +kernel
theorem dX2_hers_33 : decode cX2_hers 33 = .ok (.iload_n 1, 1) := by decide +kernel
theorem dX2_hers_34 : decode cX2_hers 34 = .ok (.invokevirtual 153, 3) := by decide +kernel
theorem dX2_hers_37 : decode cX2_hers 37 = .ok (.ifCond .eq 5, 3) := by decide +kernel
theorem dX2_hers_40 : decode cX2_hers 40 = .ok (.iload_n 2, 1) := by decide +kernel
theorem dX2_hers_41 : decode cX2_hers 41 = .ok (.ireturn, 1) := by decide +kernel
theorem dX2_hers_42 : decode cX2_hers 42 = .ok (.aload_n 0, 1) := by decide +kernel
theorem dX2_hers_43 : decode cX2_hers 43 = .ok (.getfield 16, 3) := by decide +kernel
theorem dX2_hers_46 : decode cX2_hers 46 = .ok (.iconst 1, 1) := by decide +kernel
theorem dX2_hers_47 : decode cX2_hers 47 = .ok (.invokevirtual 107, 3) := by decide +kernel
theorem dX2_hers_50 : decode cX2_hers 50 = .ok (.iinc 2 1, 3) := by decide +kernel
theorem dX2_hers_53 : decode cX2_hers 53 = .ok (.goto (-30), 3) := by decide +kernel
theorem dX2_hers_56 : decode cX2_hers 56 = .ok (.bipush (-9), 2) := by decide +kernel
theorem dX2_hers_58 : decode cX2_hers 58 = .ok (.ireturn, 1) := by decide +kernel
theorem dX2_errand_0 : decode cX2_errand 0 = .ok (.aload_n 0, 1) := by decide +kernel
theorem dX2_errand_1 : decode cX2_errand 1 = .ok (.getfield 12, 3) := by decide +kernel
theorem dX2_errand_4 : decode cX2_errand 4 = .ok (.iload_n 1, 1) := by decide +kernel
theorem dX2_errand_5 : decode cX2_errand 5 = .ok (.invokevirtual 135, 3) := by decide +kernel
theorem dX2_errand_8 : decode cX2_errand 8 = .ok (.ifCond .eq 10, 3) := by decide +kernel
theorem dX2_errand_11 : decode cX2_errand 11 = .ok (.iload_n 2, 1) := by decide +kernel
theorem dX2_errand_12 : decode cX2_errand 12 = .ok (.invokestatic 175, 3) := by decide +kernel
theorem dX2_errand_15 : decode cX2_errand 15 = .ok (.ifCond .ne 9, 3) := by decide +kernel
theorem dX2_errand_18 : decode cX2_errand 18 = .ok (.aload_n 0, 1) := by decide +kernel
theorem dX2_errand_19 : decode cX2_errand 19 = .ok (.iconst (-1), 1) := by decide +kernel
theorem dX2_errand_20 : decode cX2_errand 20 = .ok (.invokevirtual 60, 3) := by decide +kernel
theorem dX2_errand_23 : decode cX2_errand 23 = .ok (.ireturn, 1) := by decide +kernel
theorem dX2_errand_24 : decode cX2_errand 24 = .ok (.aload_n 0, 1) := by decide +kernel
theorem dX2_errand_25 : decode cX2_errand 25 = .ok (.invokevirtual 67, 3) := by decide +kernel
theorem dX2_errand_28 : decode cX2_errand 28 = .ok (.aload_n 0, 1) := by decide +kernel
theorem dX2_errand_29 : decode cX2_errand 29 = .ok (.getfield 16, 3) := by decide +kernel
theorem dX2_errand_32 : decode cX2_errand 32 = .ok (.getfield 141, 3) := by decide +kernel
theorem dX2_errand_35 : decode cX2_errand 35 = .ok (.iload_n 1, 1) := by decide +kernel
theorem dX2_errand_36 : decode cX2_errand 36 = .ok (.iload_n 2, 1) := by decide +kernel
theorem dX2_errand_37 : decode cX2_errand 37 = .ok (.iastore, 1) := by decide +kernel
theorem dX2_errand_38 : decode cX2_errand 38 = .ok (.aload_n 0, 1) := by decide +kernel
theorem dX2_errand_39 : decode cX2_errand 39 = .ok (.iload_n 1, 1) := by decide +kernel
theorem dX2_errand_40 : decode cX2_errand 40 = .ok (.iload_n 2, 1) := by decide +kernel
theorem dX2_errand_41 : decode cX2_errand 41 = .ok (.bipush 60, 2) := by decide +kernel
theorem dX2_errand_43 : decode cX2_errand 43 = .ok (.invokevirtual 232, 3) := by decide +kernel
theorem dX2_errand_46 : decode cX2_errand 46 = .ok (.invokestatic 196, 3) := by decide +kernel
theorem dX2_errand_49 : decode cX2_errand 49 = .ok (.ireturn, 1) := by decide +kernel
theorem dX2_defy_0 : decode cX2_defy 0 = .ok (.aload_n 0, 1) := by decide +kernel
theorem dX2_defy_1 : decode cX2_defy 1 = .ok (.getfield 12, 3) := by decide +kernel
theorem dX2_defy_4 : decode cX2_defy 4 = .ok (.iload_n 1, 1) := by decide +kernel
theorem dX2_defy_5 : decode cX2_defy 5 = .ok (.invokevirtual 135, 3) := by decide +kernel
theorem dX2_defy_8 : decode cX2_defy 8 = .ok (.ifCond .eq 10, 3) := by decide +kernel
theorem dX2_defy_11 : decode cX2_defy 11 = .ok (.iload_n 2, 1) := by decide +kernel
theorem dX2_defy_12 : decode cX2_defy 12 = .ok (.invokestatic 175, 3) := by decide +kernel
theorem dX2_defy_15 : decode cX2_defy 15 = .ok (.ifCond .ne 9, 3) := by decide +kernel
theorem dX2_defy_18 : decode cX2_defy 18 = .ok (.aload_n 0, 1) := by decide +kernel
theorem dX2_defy_19 : decode cX2_defy 19 = .ok (.iconst (-1), 1) := by decide +kernel
theorem dX2_defy_20 : decode cX2_defy 20 = .ok (.invokevirtual 60, 3) := by decide +kernel
theorem dX2_defy_23 : decode cX2_defy 23 = .ok (.ireturn, 1) := by decide +kernel
theorem dX2_defy_24 : decode cX2_defy 24 = .ok (.iload_n 3, 1) := by decide +kernel
theorem dX2_defy_25 : decode cX2_defy 25 = .ok (.invokestatic 184, 3) := by decide +kernel
theorem dX2_defy_28 : decode cX2_defy 28 = .ok (.istore 4, 2) := by decide +kernel
theorem dX2_defy_30 : decode cX2_defy 30 = .ok (.iload 4, 2) := by decide +kernel
theorem dX2_defy_32 : decode cX2_defy 32 = .ok (.ifCond .eq 10, 3) := by decide +kernel
theorem dX2_defy_35 : decode cX2_defy 35 = .ok (.aload_n 0, 1) := by decide +kernel
theorem dX2_defy_36 : decode cX2_defy 36 = .ok (.iload 4, 2) := by decide +kernel
theorem dX2_defy_38 : decode cX2_defy 38 = .ok (.invokevirtual 60, 3) := by decide +kernel
theorem dX2_defy_41 : decode cX2_defy 41 = .ok (.ireturn, 1) := by decide +kernel
theorem dX2_defy_42 : decode cX2_defy 42 = .ok (.iconst 0, 1) := by decide +kernel
theorem dX2_defy_43 : decode cX2_defy 43 = .ok (.istore 5, 2) := by decide +kernel
theorem dX2_defy_45 : decode cX2_defy 45 = .ok (.iload 5, 2) := by decide +kernel
theorem dX2_defy_47 : decode cX2_defy 47 = .ok (.bipush 10, 2) := by decide +kernel
theorem dX2_defy_49 : decode cX2_defy 49 = .ok (.if_icmp .ge 48, 3) := by decide +kernel
theorem dX2_defy_52 : decode cX2_defy 52 = .ok (.aload_n 0, 1) := by decide +kernel
theorem dX2_defy_53 : decode cX2_defy 53 = .ok (.invokevirtual 67, 3) := by decide +kernel
theorem dX2_defy_56 : decode cX2_defy 56 = .ok (.aload_n 0, 1) := by decide +kernel
theorem dX2_defy_57 : decode cX2_defy 57 = .ok (.getfield 16, 3) := by decide +kernel
theorem dX2_defy_60 : decode cX2_defy 60 = .ok (.getfield 141, 3) := by decide +kernel
theorem dX2_defy_63 : decode cX2_defy 63 = .ok (.iload_n 1, 1) := by decide +kernel
theorem dX2_defy_64 : decode cX2_defy 64 = .ok (.iload_n 2, 1) := by decide +kernel
theorem dX2_defy_65 : decode cX2_defy 65 = .ok (.iastore, 1) := by decide +kernel
theorem dX2_defy_66 : decode cX2_defy 66 = .ok (.aload_n 0, 1) := by decide +kernel
theorem dX2_defy_67 : decode cX2_defy 67 = .ok (.getfield 16, 3) := by decide +kernel
theorem dX2_defy_70 : decode cX2_defy 70 = .ok (.getfield 138, 3) := by decide +kernel
theorem dX2_defy_73 : decode cX2_defy 73 = .ok (.iload_n 1, 1) := by decide +kernel
theorem dX2_defy_74 : decode cX2_defy 74 = .ok (.iload 5, 2) := by decide +kernel
theorem dX2_defy_76 : decode cX2_defy 76 = .ok (.iastore, 1) := by decide +kernel
theorem dX2_defy_77 : decode cX2_defy 77 = .ok (.aload_n 0, 1) := by decide +kernel
theorem dX2_defy_78 : decode cX2_defy 78 = .ok (.iload_n 1, 1) := by decide +kernel
theorem dX2_defy_79 : decode cX2_defy 79 = .ok (.iload_n 2, 1) := by decide +kernel
theorem dX2_defy_80 : decode cX2_defy 80 = .ok (.iload_n 3, 1) := by decide +kernel
theorem dX2_defy_81 : decode cX2_defy 81 = .ok (.invokevirtual 232, 3) := by decide +kernel
theorem dX2_defy_84 : decode cX2_defy 84 = .ok (.iload_n 3, 1) := by decide +kernel
theorem dX2_defy_85 : decode cX2_defy 85 = .ok (.if_icmp .gt 6, 3) := by decide +kernel
theorem dX2_defy_88 : decode cX2_defy 88 = .ok (.iload 5, 2) := by decide +kernel
theorem dX2_defy_90 : decode cX2_defy 90 = .ok (.ireturn, 1) := by decide +kernel
theorem dX2_defy_91 : decode cX2_defy 91 = .ok (.iinc 5 1, 3) := by decide +kernel
theorem dX2_defy_94 : decode cX2_defy 94 = .ok (.goto (-49), 3) := by decide +kernel
theorem dX2_defy_97 : decode cX2_defy 97 = .ok (.bipush (-9), 2) := by decide +kernel
theorem dX2_defy_99 : decode cX2_defy 99 = .ok (.ireturn, 1) := by decide +kernel
theorem dX2_bestHabit_0 : decode cX2_bestHabit 0 = .ok (.aload_n 0, 1) := by decide +kernel
theorem dX2_bestHabit_1 : decode cX2_bestHabit 1 = .ok (.getfield 12, 3) := by decide +kernel
theorem dX2_bestHabit_4 : decode cX2_bestHabit 4 = .ok (.iload_n 1, 1) := by decide +kernel
theorem dX2_bestHabit_5 : decode cX2_bestHabit 5 = .ok (.invokevirtual 111, 3) := by decide +kernel
theorem dX2_bestHabit_8 : decode cX2_bestHabit 8 = .ok (.ifCond .eq 10, 3) := by decide +kernel
theorem dX2_bestHabit_11 : decode cX2_bestHabit 11 = .ok (.iload_n 2, 1) := by decide +kernel
theorem dX2_bestHabit_12 : decode cX2_bestHabit 12 = .ok (.invokestatic 175, 3) := by decide +kernel
theorem dX2_bestHabit_15 : decode cX2_bestHabit 15 = .ok (.ifCond .ne 9, 3) := by decide +kernel
theorem dX2_bestHabit_18 : decode cX2_bestHabit 18 = .ok (.aload_n 0, 1) := by decide +kernel
theorem dX2_bestHabit_19 : decode cX2_bestHabit 19 = .ok (.iconst (-1), 1) := by decide +kernel
theorem dX2_bestHabit_20 : decode cX2_bestHabit 20 = .ok (.invokevirtual 60, 3) := by decide +kernel
theorem dX2_bestHabit_23 : decode cX2_bestHabit 23 = .ok (.ireturn, 1) := by decide +kernel
theorem dX2_bestHabit_24 : decode cX2_bestHabit 24 = .ok (.aload_n 0, 1) := by decide +kernel
theorem dX2_bestHabit_25 : decode cX2_bestHabit 25 = .ok (.getfield 12, 3) := by decide +kernel
theorem dX2_bestHabit_28 : decode cX2_bestHabit 28 = .ok (.getfield 129, 3) := by decide +kernel
theorem dX2_bestHabit_31 : decode cX2_bestHabit 31 = .ok (.iload_n 1, 1) := by decide +kernel
theorem dX2_bestHabit_32 : decode cX2_bestHabit 32 = .ok (.iaload, 1) := by decide +kernel
theorem dX2_bestHabit_33 : decode cX2_bestHabit 33 = .ok (.istore_n 3, 1) := by decide +kernel
theorem dX2_bestHabit_34 : decode cX2_bestHabit 34 = .ok (.aload_n 0, 1) := by decide +kernel
theorem dX2_bestHabit_35 : decode cX2_bestHabit 35 = .ok (.getfield 12, 3) := by decide +kernel
theorem dX2_bestHabit_38 : decode cX2_bestHabit 38 = .ok (.iload_n 3, 1) := by decide +kernel
theorem dX2_bestHabit_39 : decode cX2_bestHabit 39 = .ok (.invokevirtual 135, 3) := by decide +kernel
theorem dX2_bestHabit_42 : decode cX2_bestHabit 42 = .ok (.ifCond .ne 6, 3) := by decide +kernel
theorem dX2_bestHabit_45 : decode cX2_bestHabit 45 = .ok (.bipush (-9), 2) := by decide +kernel
theorem dX2_bestHabit_47 : decode cX2_bestHabit 47 = .ok (.ireturn, 1) := by decide +kernel
theorem dX2_bestHabit_48 : decode cX2_bestHabit 48 = .ok (.bipush (-9), 2) := by decide +kernel
theorem dX2_bestHabit_50 : decode cX2_bestHabit 50 = .ok (.istore 4, 2) := by decide +kernel
theorem dX2_bestHabit_52 : decode cX2_bestHabit 52 = .ok (.bipush 61, 2) := by decide +kernel
theorem dX2_bestHabit_54 : decode cX2_bestHabit 54 = .ok (.istore 5, 2) := by decide +kernel
theorem dX2_bestHabit_56 : decode cX2_bestHabit 56 = .ok (.iconst 0, 1) := by decide +kernel
theorem dX2_bestHabit_57 : decode cX2_bestHabit 57 = .ok (.istore 6, 2) := by decide +kernel
theorem dX2_bestHabit_59 : decode cX2_bestHabit 59 = .ok (.iload 6, 2) := by decide +kernel
theorem dX2_bestHabit_61 : decode cX2_bestHabit 61 = .ok (.bipush 10, 2) := by decide +kernel
theorem dX2_bestHabit_63 : decode cX2_bestHabit 63 = .ok (.if_icmp .ge 51, 3) := by decide +kernel
theorem dX2_bestHabit_66 : decode cX2_bestHabit 66 = .ok (.aload_n 0, 1) := by decide +kernel
theorem dX2_bestHabit_67 : decode cX2_bestHabit 67 = .ok (.invokevirtual 67, 3) := by decide +kernel
theorem dX2_bestHabit_70 : decode cX2_bestHabit 70 = .ok (.aload_n 0, 1) := by decide +kernel
theorem dX2_bestHabit_71 : decode cX2_bestHabit 71 = .ok (.getfield 16, 3) := by decide +kernel
theorem dX2_bestHabit_74 : decode cX2_bestHabit 74 = .ok (.getfield 120, 3) := by decide +kernel
theorem dX2_bestHabit_77 : decode cX2_bestHabit 77 = .ok (.iload_n 1, 1) := by decide +kernel
theorem dX2_bestHabit_78 : decode cX2_bestHabit 78 = .ok (.iload 6, 2) := by decide +kernel
theorem dX2_bestHabit_80 : decode cX2_bestHabit 80 = .ok (.iastore, 1) := by decide +kernel
theorem dX2_bestHabit_81 : decode cX2_bestHabit 81 = .ok (.aload_n 0, 1) := by decide +kernel
theorem dX2_bestHabit_82 : decode cX2_bestHabit 82 = .ok (.iload_n 3, 1) := by decide +kernel
theorem dX2_bestHabit_83 : decode cX2_bestHabit 83 = .ok (.iload_n 2, 1) := by decide +kernel
theorem dX2_bestHabit_84 : decode cX2_bestHabit 84 = .ok (.iload 5, 2) := by decide +kernel
theorem dX2_bestHabit_86 : decode cX2_bestHabit 86 = .ok (.iconst 1, 1) := by decide +kernel
theorem dX2_bestHabit_87 : decode cX2_bestHabit 87 = .ok (.isub, 1) := by decide +kernel
theorem dX2_bestHabit_88 : decode cX2_bestHabit 88 = .ok (.invokevirtual 232, 3) := by decide +kernel
theorem dX2_bestHabit_91 : decode cX2_bestHabit 91 = .ok (.istore 7, 2) := by decide +kernel
theorem dX2_bestHabit_93 : decode cX2_bestHabit 93 = .ok (.iload 7, 2) := by decide +kernel
theorem dX2_bestHabit_95 : decode cX2_bestHabit 95 = .ok (.iload 5, 2) := by decide +kernel
theorem dX2_bestHabit_97 : decode cX2_bestHabit 97 = .ok (.if_icmp .ge 11, 3) := by decide +kernel
theorem dX2_bestHabit_100 : decode cX2_bestHabit 100 = .ok (.iload 7, 2) := by decide +kernel
theorem dX2_bestHabit_102 : decode cX2_bestHabit 102 = .ok (.istore 5, 2) := by decide +kernel
theorem dX2_bestHabit_104 : decode cX2_bestHabit 104 = .ok (.iload 6, 2) := by decide +kernel
theorem dX2_bestHabit_106 : decode cX2_bestHabit 106 = .ok (.istore 4, 2) := by decide +kernel
theorem dX2_bestHabit_108 : decode cX2_bestHabit 108 = .ok (.iinc 6 1, 3) := by decide +kernel
theorem dX2_bestHabit_111 : decode cX2_bestHabit 111 = .ok (.goto (-52), 3) := by decide +kernel
theorem dX2_bestHabit_114 : decode cX2_bestHabit 114 = .ok (.iload 4, 2) := by decide +kernel
theorem dX2_bestHabit_116 : decode cX2_bestHabit 116 = .ok (.ireturn, 1) := by decide +kernel
theorem dX2_tamed_0 : decode cX2_tamed 0 = .ok (.aload_n 0, 1) := by decide +kernel
theorem dX2_tamed_1 : decode cX2_tamed 1 = .ok (.getfield 12, 3) := by decide +kernel
theorem dX2_tamed_4 : decode cX2_tamed 4 = .ok (.iload_n 1, 1) := by decide +kernel
theorem dX2_tamed_5 : decode cX2_tamed 5 = .ok (.invokevirtual 111, 3) := by decide +kernel
theorem dX2_tamed_8 : decode cX2_tamed 8 = .ok (.ifCond .ne 9, 3) := by decide +kernel
theorem dX2_tamed_11 : decode cX2_tamed 11 = .ok (.aload_n 0, 1) := by decide +kernel
theorem dX2_tamed_12 : decode cX2_tamed 12 = .ok (.iconst (-1), 1) := by decide +kernel
theorem dX2_tamed_13 : decode cX2_tamed 13 = .ok (.invokevirtual 60, 3) := by decide +kernel
theorem dX2_tamed_16 : decode cX2_tamed 16 = .ok (.ireturn, 1) := by decide +kernel
theorem dX2_tamed_17 : decode cX2_tamed 17 = .ok (.aload_n 0, 1) := by decide +kernel
theorem dX2_tamed_18 : decode cX2_tamed 18 = .ok (.getfield 12, 3) := by decide +kernel
theorem dX2_tamed_21 : decode cX2_tamed 21 = .ok (.getfield 129, 3) := by decide +kernel
theorem dX2_tamed_24 : decode cX2_tamed 24 = .ok (.iload_n 1, 1) := by decide +kernel
theorem dX2_tamed_25 : decode cX2_tamed 25 = .ok (.iaload, 1) := by decide +kernel
theorem dX2_tamed_26 : decode cX2_tamed 26 = .ok (.istore_n 2, 1) := by decide +kernel
theorem dX2_tamed_27 : decode cX2_tamed 27 = .ok (.aload_n 0, 1) := by decide +kernel
theorem dX2_tamed_28 : decode cX2_tamed 28 = .ok (.getfield 12, 3) := by decide +kernel
theorem dX2_tamed_31 : decode cX2_tamed 31 = .ok (.iload_n 2, 1) := by decide +kernel
theorem dX2_tamed_32 : decode cX2_tamed 32 = .ok (.invokevirtual 135, 3) := by decide +kernel
theorem dX2_tamed_35 : decode cX2_tamed 35 = .ok (.ifCond .ne 6, 3) := by decide +kernel
theorem dX2_tamed_38 : decode cX2_tamed 38 = .ok (.bipush (-9), 2) := by decide +kernel
theorem dX2_tamed_40 : decode cX2_tamed 40 = .ok (.ireturn, 1) := by decide +kernel
theorem dX2_tamed_41 : decode cX2_tamed 41 = .ok (.aload_n 0, 1) := by decide +kernel
theorem dX2_tamed_42 : decode cX2_tamed 42 = .ok (.invokevirtual 67, 3) := by decide +kernel
theorem dX2_tamed_45 : decode cX2_tamed 45 = .ok (.bipush 9, 2) := by decide +kernel
theorem dX2_tamed_47 : decode cX2_tamed 47 = .ok (.istore_n 3, 1) := by decide +kernel
theorem dX2_tamed_48 : decode cX2_tamed 48 = .ok (.iload_n 3, 1) := by decide +kernel
theorem dX2_tamed_49 : decode cX2_tamed 49 = .ok (.ifCond .lt 32, 3) := by decide +kernel
theorem dX2_tamed_52 : decode cX2_tamed 52 = .ok (.aload_n 0, 1) := by decide +kernel
theorem dX2_tamed_53 : decode cX2_tamed 53 = .ok (.getfield 16, 3) := by decide +kernel
theorem dX2_tamed_56 : decode cX2_tamed 56 = .ok (.getfield 117, 3) := by decide +kernel
theorem dX2_tamed_59 : decode cX2_tamed 59 = .ok (.iload_n 1, 1) := by decide +kernel
theorem dX2_tamed_60 : decode cX2_tamed 60 = .ok (.iload_n 3, 1) := by decide +kernel
theorem dX2_tamed_61 : decode cX2_tamed 61 = .ok (.iastore, 1) := by decide +kernel
theorem dX2_tamed_62 : decode cX2_tamed 62 = .ok (.aload_n 0, 1) := by decide +kernel
theorem dX2_tamed_63 : decode cX2_tamed 63 = .ok (.getfield 16, 3) := by decide +kernel
theorem dX2_tamed_66 : decode cX2_tamed 66 = .ok (.iload_n 2, 1) := by decide +kernel
theorem dX2_tamed_67 : decode cX2_tamed 67 = .ok (.invokevirtual 153, 3) := by decide +kernel
theorem dX2_tamed_70 : decode cX2_tamed 70 = .ok (.ifCond .ne 5, 3) := by decide +kernel
theorem dX2_tamed_73 : decode cX2_tamed 73 = .ok (.iload_n 3, 1) := by decide +kernel
theorem dX2_tamed_74 : decode cX2_tamed 74 = .ok (.ireturn, 1) := by decide +kernel
theorem dX2_tamed_75 : decode cX2_tamed 75 = .ok (.iinc 3 (-1), 3) := by decide +kernel
theorem dX2_tamed_78 : decode cX2_tamed 78 = .ok (.goto (-30), 3) := by decide +kernel
theorem dX2_tamed_81 : decode cX2_tamed 81 = .ok (.bipush (-9), 2) := by decide +kernel
theorem dX2_tamed_83 : decode cX2_tamed 83 = .ok (.ireturn, 1) := by decide +kernel
theorem dX2_swap_0 : decode cX2_swap 0 = .ok (.iload_n 1, 1) := by decide +kernel
theorem dX2_swap_1 : decode cX2_swap 1 = .ok (.invokestatic 184, 3) := by decide +kernel
theorem dX2_swap_4 : decode cX2_swap 4 = .ok (.istore_n 2, 1) := by decide +kernel
theorem dX2_swap_5 : decode cX2_swap 5 = .ok (.iload_n 2, 1) := by decide +kernel
theorem dX2_swap_6 : decode cX2_swap 6 = .ok (.ifCond .eq 9, 3) := by decide +kernel
theorem dX2_swap_9 : decode cX2_swap 9 = .ok (.aload_n 0, 1) := by decide +kernel
theorem dX2_swap_10 : decode cX2_swap 10 = .ok (.iload_n 2, 1) := by decide +kernel
theorem dX2_swap_11 : decode cX2_swap 11 = .ok (.invokevirtual 60, 3) := by decide +kernel
theorem dX2_swap_14 : decode cX2_swap 14 = .ok (.ireturn, 1) := by decide +kernel
theorem dX2_swap_15 : decode cX2_swap 15 = .ok (.aload_n 0, 1) := by decide +kernel
theorem dX2_swap_16 : decode cX2_swap 16 = .ok (.invokevirtual 67, 3) := by decide +kernel
theorem dX2_swap_19 : decode cX2_swap 19 = .ok (.aload_n 0, 1) := by decide +kernel
theorem dX2_swap_20 : decode cX2_swap 20 = .ok (.getfield 16, 3) := by decide +kernel
theorem dX2_swap_23 : decode cX2_swap 23 = .ok (.iload_n 1, 1) := by decide +kernel
theorem dX2_swap_24 : decode cX2_swap 24 = .ok (.invokevirtual 107, 3) := by decide +kernel
theorem dX2_swap_27 : decode cX2_swap 27 = .ok (.aload_n 0, 1) := by decide +kernel
theorem dX2_swap_28 : decode cX2_swap 28 = .ok (.getfield 16, 3) := by decide +kernel
theorem dX2_swap_31 : decode cX2_swap 31 = .ok (.invokevirtual 235, 3) := by decide +kernel
theorem dX2_swap_34 : decode cX2_swap 34 = .ok (.istore_n 3, 1) := by decide +kernel
theorem dX2_swap_35 : decode cX2_swap 35 = .ok (.bipush (-9), 2) := by decide +kernel
theorem dX2_swap_37 : decode cX2_swap 37 = .ok (.istore 4, 2) := by decide +kernel
theorem dX2_swap_39 : decode cX2_swap 39 = .ok (.iconst 0, 1) := by decide +kernel
theorem dX2_swap_40 : decode cX2_swap 40 = .ok (.istore 5, 2) := by decide +kernel
theorem dX2_swap_42 : decode cX2_swap 42 = .ok (.iload 5, 2) := by decide +kernel
theorem dX2_swap_44 : decode cX2_swap 44 = .ok (.aload_n 0, 1) := by decide +kernel
theorem dX2_swap_45 : decode cX2_swap 45 = .ok (.getfield 12, 3) := by decide +kernel
theorem dX2_swap_48 : decode cX2_swap 48 = .ok (.getfield 159, 3) := by decide +kernel
theorem dX2_swap_51 : decode cX2_swap 51 = .ok (.if_icmp .ge 85, 3) := by decide +kernel
theorem dX2_swap_54 : decode cX2_swap 54 = .ok (.iload 5, 2) := by decide +kernel
theorem dX2_swap_56 : decode cX2_swap 56 = .ok (.iconst 1, 1) := by decide +kernel
theorem dX2_swap_57 : decode cX2_swap 57 = .ok (.iadd, 1) := by decide +kernel
theorem dX2_swap_58 : decode cX2_swap 58 = .ok (.istore 6, 2) := by decide +kernel
theorem dX2_swap_60 : decode cX2_swap 60 = .ok (.iload 6, 2) := by decide +kernel
theorem dX2_swap_62 : decode cX2_swap 62 = .ok (.aload_n 0, 1) := by decide +kernel
theorem dX2_swap_63 : decode cX2_swap 63 = .ok (.getfield 12, 3) := by decide +kernel
theorem dX2_swap_66 : decode cX2_swap 66 = .ok (.getfield 159, 3) := by decide +kernel
theorem dX2_swap_69 : decode cX2_swap 69 = .ok (.if_icmp .ge 61, 3) := by decide +kernel
theorem dX2_swap_72 : decode cX2_swap 72 = .ok (.aload_n 0, 1) := by decide +kernel
theorem dX2_swap_73 : decode cX2_swap 73 = .ok (.invokevirtual 67, 3) := by decide +kernel
theorem dX2_swap_76 : decode cX2_swap 76 = .ok (.aload_n 0, 1) := by decide +kernel
theorem dX2_swap_77 : decode cX2_swap 77 = .ok (.getfield 16, 3) := by decide +kernel
theorem dX2_swap_80 : decode cX2_swap 80 = .ok (.iload 5, 2) := by decide +kernel
theorem dX2_swap_82 : decode cX2_swap 82 = .ok (.iload 6, 2) := by decide +kernel
theorem dX2_swap_84 : decode cX2_swap 84 = .ok (.invokevirtual 238, 3) := by decide +kernel
theorem dX2_swap_87 : decode cX2_swap 87 = .ok (.aload_n 0, 1) := by decide +kernel
theorem dX2_swap_88 : decode cX2_swap 88 = .ok (.getfield 16, 3) := by decide +kernel
theorem dX2_swap_91 : decode cX2_swap 91 = .ok (.iload_n 1, 1) := by decide +kernel
theorem dX2_swap_92 : decode cX2_swap 92 = .ok (.invokevirtual 107, 3) := by decide +kernel
theorem dX2_swap_95 : decode cX2_swap 95 = .ok (.aload_n 0, 1) := by decide +kernel
theorem dX2_swap_96 : decode cX2_swap 96 = .ok (.getfield 16, 3) := by decide +kernel
theorem dX2_swap_99 : decode cX2_swap 99 = .ok (.invokevirtual 235, 3) := by decide +kernel
theorem dX2_swap_102 : decode cX2_swap 102 = .ok (.iload_n 3, 1) := by decide +kernel
theorem dX2_swap_103 : decode cX2_swap 103 = .ok (.if_icmp .ge 21, 3) := by decide +kernel
theorem dX2_swap_106 : decode cX2_swap 106 = .ok (.aload_n 0, 1) := by decide +kernel
theorem dX2_swap_107 : decode cX2_swap 107 = .ok (.getfield 16, 3) := by decide +kernel
theorem dX2_swap_110 : decode cX2_swap 110 = .ok (.invokevirtual 235, 3) := by decide +kernel
theorem dX2_swap_113 : decode cX2_swap 113 = .ok (.istore_n 3, 1) := by decide +kernel
theorem dX2_swap_114 : decode cX2_swap 114 = .ok (.bipush 10, 2) := by decide +kernel
theorem dX2_swap_116 : decode cX2_swap 116 = .ok (.iload 5, 2) := by decide +kernel
theorem dX2_swap_118 : decode cX2_swap 118 = .ok (.imul, 1) := by decide +kernel
theorem dX2_swap_119 : decode cX2_swap 119 = .ok (.iload 6, 2) := by decide +kernel
theorem dX2_swap_121 : decode cX2_swap 121 = .ok (.iadd, 1) := by decide +kernel
theorem dX2_swap_122 : decode cX2_swap 122 = .ok (.istore 4, 2) := by decide +kernel
theorem dX2_swap_124 : decode cX2_swap 124 = .ok (.iinc 6 1, 3) := by decide +kernel
theorem dX2_swap_127 : decode cX2_swap 127 = .ok (.goto (-67), 3) := by decide +kernel
theorem dX2_swap_130 : decode cX2_swap 130 = .ok (.iinc 5 1, 3) := by decide +kernel
theorem dX2_swap_133 : decode cX2_swap 133 = .ok (.goto (-91), 3) := by decide +kernel
theorem dX2_swap_136 : decode cX2_swap 136 = .ok (.iload 4, 2) := by decide +kernel
theorem dX2_swap_138 : decode cX2_swap 138 = .ok (.ireturn, 1) := by decide +kernel
theorem dX2_heir_0 : decode cX2_heir 0 = .ok (.iload_n 1, 1) := by decide +kernel
theorem dX2_heir_1 : decode cX2_heir 1 = .ok (.ifCond .lt 8, 3) := by decide +kernel
theorem dX2_heir_4 : decode cX2_heir 4 = .ok (.iload_n 1, 1) := by decide +kernel
theorem dX2_heir_5 : decode cX2_heir 5 = .ok (.iconst 1, 1) := by decide +kernel
theorem dX2_heir_6 : decode cX2_heir 6 = .ok (.if_icmp .le 10, 3) := by decide +kernel
theorem dX2_heir_9 : decode cX2_heir 9 = .ok (.aload_n 0, 1) := by decide +kernel
theorem dX2_heir_10 : decode cX2_heir 10 = .ok (.bipush (-2), 2) := by decide +kernel
theorem dX2_heir_12 : decode cX2_heir 12 = .ok (.invokevirtual 60, 3) := by decide +kernel
theorem dX2_heir_15 : decode cX2_heir 15 = .ok (.ireturn, 1) := by decide +kernel
theorem dX2_heir_16 : decode cX2_heir 16 = .ok (.iload_n 1, 1) := by decide +kernel
theorem dX2_heir_17 : decode cX2_heir 17 = .ok (.ifCond .ne 10, 3) := by decide +kernel
theorem dX2_heir_20 : decode cX2_heir 20 = .ok (.aload_n 0, 1) := by decide +kernel
theorem dX2_heir_21 : decode cX2_heir 21 = .ok (.invokevirtual 242, 3) := by decide +kernel
theorem dX2_heir_24 : decode cX2_heir 24 = .ok (.goto 7, 3) := by decide +kernel
theorem dX2_heir_27 : decode cX2_heir 27 = .ok (.aload_n 0, 1) := by decide +kernel
theorem dX2_heir_28 : decode cX2_heir 28 = .ok (.invokevirtual 245, 3) := by decide +kernel
theorem dX2_heir_31 : decode cX2_heir 31 = .ok (.ireturn, 1) := by decide +kernel
theorem dX2_strongestWilled_0 : decode cX2_strongestWilled 0 = .ok (.bipush (-9), 2) := by decide +kernel
theorem dX2_strongestWilled_2 : decode cX2_strongestWilled 2 = .ok (.istore_n 1, 1) := by decide +kernel
theorem dX2_strongestWilled_3 : decode cX2_strongestWilled 3 = .ok (.iconst 0, 1) := by decide +kernel
theorem dX2_strongestWilled_4 : decode cX2_strongestWilled 4 = .ok (.istore_n 2, 1) := by decide +kernel
theorem dX2_strongestWilled_5 : decode cX2_strongestWilled 5 = .ok (.iload_n 2, 1) := by decide +kernel
theorem dX2_strongestWilled_6 : decode cX2_strongestWilled 6 = .ok (.aload_n 0, 1) := by decide +kernel
theorem dX2_strongestWilled_7 : decode cX2_strongestWilled 7 = .ok (.getfield 12, 3) := by decide +kernel
theorem dX2_strongestWilled_10 : decode cX2_strongestWilled 10 = .ok (.getfield 159, 3) := by decide +kernel
theorem dX2_strongestWilled_13 : decode cX2_strongestWilled 13 = .ok (.if_icmp .ge 48, 3) := by decide +kernel
theorem dX2_strongestWilled_16 : decode cX2_strongestWilled 16 = .ok (.aload_n 0, 1) := by decide +kernel
theorem dX2_strongestWilled_17 : decode cX2_strongestWilled 17 = .ok (.getfield 12, 3) := by decide +kernel
theorem dX2_strongestWilled_20 : decode cX2_strongestWilled 20 = .ok (.getfield 147, 3) := by decide +kernel
theorem dX2_strongestWilled_23 : decode cX2_strongestWilled 23 = .ok (.iload_n 2, 1) := by decide +kernel
theorem dX2_strongestWilled_24 : decode cX2_strongestWilled 24 = .ok (.iaload, 1) := by decide +kernel
theorem dX2_strongestWilled_25 : decode cX2_strongestWilled 25 = .ok (.ifCond .ge 30, 3) := by decide +kernel
theorem dX2_strongestWilled_28 : decode cX2_strongestWilled 28 = .ok (.iload_n 1, 1) := by decide +kernel
theorem dX2_strongestWilled_29 : decode cX2_strongestWilled 29 = .ok (.ifCond .lt 24, 3) := by decide +kernel
theorem dX2_strongestWilled_32 : decode cX2_strongestWilled 32 = .ok (.aload_n 0, 1) := by decide +kernel
theorem dX2_strongestWilled_33 : decode cX2_strongestWilled 33 = .ok (.getfield 12, 3) := by decide +kernel
theorem dX2_strongestWilled_36 : decode cX2_strongestWilled 36 = .ok (.getfield 138, 3) := by decide +kernel
theorem dX2_strongestWilled_39 : decode cX2_strongestWilled 39 = .ok (.iload_n 2, 1) := by decide +kernel
theorem dX2_strongestWilled_40 : decode cX2_strongestWilled 40 = .ok (.iaload, 1) := by decide +kernel
theorem dX2_strongestWilled_41 : decode cX2_strongestWilled 41 = .ok (.aload_n 0, 1) := by decide +kernel
theorem dX2_strongestWilled_42 : decode cX2_strongestWilled 42 = .ok (.getfield 12, 3) := by decide +kernel
theorem dX2_strongestWilled_45 : decode cX2_strongestWilled 45 = .ok (.getfield 138, 3) := by decide +kernel
theorem dX2_strongestWilled_48 : decode cX2_strongestWilled 48 = .ok (.iload_n 1, 1) := by decide +kernel
theorem dX2_strongestWilled_49 : decode cX2_strongestWilled 49 = .ok (.iaload, 1) := by decide +kernel
theorem dX2_strongestWilled_50 : decode cX2_strongestWilled 50 = .ok (.if_icmp .le 5, 3) := by decide +kernel
theorem dX2_strongestWilled_53 : decode cX2_strongestWilled 53 = .ok (.iload_n 2, 1) := by decide +kernel
theorem dX2_strongestWilled_54 : decode cX2_strongestWilled 54 = .ok (.istore_n 1, 1) := by decide +kernel
theorem dX2_strongestWilled_55 : decode cX2_strongestWilled 55 = .ok (.iinc 2 1, 3) := by decide +kernel
theorem dX2_strongestWilled_58 : decode cX2_strongestWilled 58 = .ok (.goto (-53), 3) := by decide +kernel
theorem dX2_strongestWilled_61 : decode cX2_strongestWilled 61 = .ok (.iload_n 1, 1) := by decide +kernel
theorem dX2_strongestWilled_62 : decode cX2_strongestWilled 62 = .ok (.ireturn, 1) := by decide +kernel
theorem dX2_strongestBag_0 : decode cX2_strongestBag 0 = .ok (.bipush (-9), 2) := by decide +kernel
theorem dX2_strongestBag_2 : decode cX2_strongestBag 2 = .ok (.istore_n 1, 1) := by decide +kernel
theorem dX2_strongestBag_3 : decode cX2_strongestBag 3 = .ok (.iconst 0, 1) := by decide +kernel
theorem dX2_strongestBag_4 : decode cX2_strongestBag 4 = .ok (.istore_n 2, 1) := by decide +kernel
theorem dX2_strongestBag_5 : decode cX2_strongestBag 5 = .ok (.iload_n 2, 1) := by decide +kernel
theorem dX2_strongestBag_6 : decode cX2_strongestBag 6 = .ok (.aload_n 0, 1) := by decide +kernel
theorem dX2_strongestBag_7 : decode cX2_strongestBag 7 = .ok (.getfield 12, 3) := by decide +kernel
theorem dX2_strongestBag_10 : decode cX2_strongestBag 10 = .ok (.getfield 156, 3) := by decide +kernel
theorem dX2_strongestBag_13 : decode cX2_strongestBag 13 = .ok (.if_icmp .ge 34, 3) := by decide +kernel
theorem dX2_strongestBag_16 : decode cX2_strongestBag 16 = .ok (.iload_n 1, 1) := by decide +kernel
theorem dX2_strongestBag_17 : decode cX2_strongestBag 17 = .ok (.ifCond .lt 22, 3) := by decide +kernel
theorem dX2_strongestBag_20 : decode cX2_strongestBag 20 = .ok (.aload_n 0, 1) := by decide +kernel
theorem dX2_strongestBag_21 : decode cX2_strongestBag 21 = .ok (.getfield 12, 3) := by decide +kernel
theorem dX2_strongestBag_24 : decode cX2_strongestBag 24 = .ok (.iload_n 2, 1) := by decide +kernel
theorem dX2_strongestBag_25 : decode cX2_strongestBag 25 = .ok (.invokevirtual 132, 3) := by decide +kernel
theorem dX2_strongestBag_28 : decode cX2_strongestBag 28 = .ok (.aload_n 0, 1) := by decide +kernel
theorem dX2_strongestBag_29 : decode cX2_strongestBag 29 = .ok (.getfield 12, 3) := by decide +kernel
theorem dX2_strongestBag_32 : decode cX2_strongestBag 32 = .ok (.iload_n 1, 1) := by decide +kernel
theorem dX2_strongestBag_33 : decode cX2_strongestBag 33 = .ok (.invokevirtual 132, 3) := by decide +kernel
theorem dX2_strongestBag_36 : decode cX2_strongestBag 36 = .ok (.if_icmp .le 5, 3) := by decide +kernel
theorem dX2_strongestBag_39 : decode cX2_strongestBag 39 = .ok (.iload_n 2, 1) := by decide +kernel
theorem dX2_strongestBag_40 : decode cX2_strongestBag 40 = .ok (.istore_n 1, 1) := by decide +kernel
theorem dX2_strongestBag_41 : decode cX2_strongestBag 41 = .ok (.iinc 2 1, 3) := by decide +kernel
theorem dX2_strongestBag_44 : decode cX2_strongestBag 44 = .ok (.goto (-39), 3) := by decide +kernel
theorem dX2_strongestBag_47 : decode cX2_strongestBag 47 = .ok (.iload_n 1, 1) := by decide +kernel
theorem dX2_strongestBag_48 : decode cX2_strongestBag 48 = .ok (.ireturn, 1) := by decide +kernel
theorem dX2_far_0 : decode cX2_far 0 = .ok (.aload_n 0, 1) := by decide +kernel
theorem dX2_far_1 : decode cX2_far 1 = .ok (.getfield 12, 3) := by decide +kernel
theorem dX2_far_4 : decode cX2_far 4 = .ok (.iload_n 1, 1) := by decide +kernel
theorem dX2_far_5 : decode cX2_far 5 = .ok (.invokevirtual 135, 3) := by decide +kernel
theorem dX2_far_8 : decode cX2_far 8 = .ok (.ifCond .eq 14, 3) := by decide +kernel
theorem dX2_far_11 : decode cX2_far 11 = .ok (.aload_n 0, 1) := by decide +kernel
theorem dX2_far_12 : decode cX2_far 12 = .ok (.getfield 12, 3) := by decide +kernel
theorem dX2_far_15 : decode cX2_far 15 = .ok (.iload_n 2, 1) := by decide +kernel
theorem dX2_far_16 : decode cX2_far 16 = .ok (.invokevirtual 135, 3) := by decide +kernel
theorem dX2_far_19 : decode cX2_far 19 = .ok (.ifCond .ne 9, 3) := by decide +kernel
theorem dX2_far_22 : decode cX2_far 22 = .ok (.aload_n 0, 1) := by decide +kernel
theorem dX2_far_23 : decode cX2_far 23 = .ok (.iconst (-1), 1) := by decide +kernel
theorem dX2_far_24 : decode cX2_far 24 = .ok (.invokevirtual 60, 3) := by decide +kernel
theorem dX2_far_27 : decode cX2_far 27 = .ok (.ireturn, 1) := by decide +kernel
theorem dX2_far_28 : decode cX2_far 28 = .ok (.aload_n 0, 1) := by decide +kernel
theorem dX2_far_29 : decode cX2_far 29 = .ok (.getfield 12, 3) := by decide +kernel
theorem dX2_far_32 : decode cX2_far 32 = .ok (.getfield 144, 3) := by decide +kernel
theorem dX2_far_35 : decode cX2_far 35 = .ok (.iload_n 1, 1) := by decide +kernel
theorem dX2_far_36 : decode cX2_far 36 = .ok (.iaload, 1) := by decide +kernel
theorem dX2_far_37 : decode cX2_far 37 = .ok (.aload_n 0, 1) := by decide +kernel
theorem dX2_far_38 : decode cX2_far 38 = .ok (.getfield 12, 3) := by decide +kernel
theorem dX2_far_41 : decode cX2_far 41 = .ok (.getfield 144, 3) := by decide +kernel
theorem dX2_far_44 : decode cX2_far 44 = .ok (.iload_n 2, 1) := by decide +kernel
theorem dX2_far_45 : decode cX2_far 45 = .ok (.iaload, 1) := by decide +kernel
theorem dX2_far_46 : decode cX2_far 46 = .ok (.invokestatic 228, 3) := by decide +kernel
theorem dX2_far_49 : decode cX2_far 49 = .ok (.ireturn, 1) := by decide +kernel
theorem dX2_lots_0 : decode cX2_lots 0 = .ok (.iload_n 1, 1) := by decide +kernel
theorem dX2_lots_1 : decode cX2_lots 1 = .ok (.iconst 1, 1) := by decide +kernel
theorem dX2_lots_2 : decode cX2_lots 2 = .ok (.if_icmp .ge 10, 3) := by decide +kernel
theorem dX2_lots_5 : decode cX2_lots 5 = .ok (.aload_n 0, 1) := by decide +kernel
theorem dX2_lots_6 : decode cX2_lots 6 = .ok (.bipush (-4), 2) := by decide +kernel
theorem dX2_lots_8 : decode cX2_lots 8 = .ok (.invokevirtual 60, 3) := by decide +kernel
theorem dX2_lots_11 : decode cX2_lots 11 = .ok (.ireturn, 1) := by decide +kernel
theorem dX2_lots_12 : decode cX2_lots 12 = .ok (.iload_n 1, 1) := by decide +kernel
theorem dX2_lots_13 : decode cX2_lots 13 = .ok (.bipush 20, 2) := by decide +kernel
theorem dX2_lots_15 : decode cX2_lots 15 = .ok (.if_icmp .le 10, 3) := by decide +kernel
theorem dX2_lots_18 : decode cX2_lots 18 = .ok (.aload_n 0, 1) := by decide +kernel
theorem dX2_lots_19 : decode cX2_lots 19 = .ok (.bipush (-6), 2) := by decide +kernel
theorem dX2_lots_21 : decode cX2_lots 21 = .ok (.invokevirtual 60, 3) := by decide +kernel
theorem dX2_lots_24 : decode cX2_lots 24 = .ok (.ireturn, 1) := by decide +kernel
theorem dX2_lots_25 : decode cX2_lots 25 = .ok (.iload_n 3, 1) := by decide +kernel
theorem dX2_lots_26 : decode cX2_lots 26 = .ok (.ifCond .lt 8, 3) := by decide +kernel
theorem dX2_lots_29 : decode cX2_lots 29 = .ok (.iload_n 3, 1) := by decide +kernel
theorem dX2_lots_30 : decode cX2_lots 30 = .ok (.iconst 1, 1) := by decide +kernel
theorem dX2_lots_31 : decode cX2_lots 31 = .ok (.if_icmp .le 10, 3) := by decide +kernel
theorem dX2_lots_34 : decode cX2_lots 34 = .ok (.aload_n 0, 1) := by decide +kernel
theorem dX2_lots_35 : decode cX2_lots 35 = .ok (.bipush (-2), 2) := by decide +kernel
theorem dX2_lots_37 : decode cX2_lots 37 = .ok (.invokevirtual 60, 3) := by decide +kernel
theorem dX2_lots_40 : decode cX2_lots 40 = .ok (.ireturn, 1) := by decide +kernel
theorem dX2_lots_41 : decode cX2_lots 41 = .ok (.iload_n 2, 1) := by decide +kernel
theorem dX2_lots_42 : decode cX2_lots 42 = .ok (.istore 4, 2) := by decide +kernel
theorem dX2_lots_44 : decode cX2_lots 44 = .ok (.iconst 0, 1) := by decide +kernel
theorem dX2_lots_45 : decode cX2_lots 45 = .ok (.istore 5, 2) := by decide +kernel
theorem dX2_lots_47 : decode cX2_lots 47 = .ok (.iconst 0, 1) := by decide +kernel
theorem dX2_lots_48 : decode cX2_lots 48 = .ok (.istore 6, 2) := by decide +kernel
theorem dX2_lots_50 : decode cX2_lots 50 = .ok (.iload 6, 2) := by decide +kernel
theorem dX2_lots_52 : decode cX2_lots 52 = .ok (.iload_n 1, 1) := by decide +kernel
theorem dX2_lots_53 : decode cX2_lots 53 = .ok (.if_icmp .ge 101, 3) := by decide +kernel
theorem dX2_lots_56 : decode cX2_lots 56 = .ok (.aload_n 0, 1) := by decide +kernel
theorem dX2_lots_57 : decode cX2_lots 57 = .ok (.invokevirtual 67, 3) := by decide +kernel
theorem dX2_lots_60 : decode cX2_lots 60 = .ok (.iconst 0, 1) := by decide +kernel
theorem dX2_lots_61 : decode cX2_lots 61 = .ok (.istore 7, 2) := by decide +kernel
theorem dX2_lots_63 : decode cX2_lots 63 = .ok (.iload 7, 2) := by decide +kernel
theorem dX2_lots_65 : decode cX2_lots 65 = .ok (.aload_n 0, 1) := by decide +kernel
theorem dX2_lots_66 : decode cX2_lots 66 = .ok (.getfield 16, 3) := by decide +kernel
theorem dX2_lots_69 : decode cX2_lots 69 = .ok (.getfield 159, 3) := by decide +kernel
theorem dX2_lots_72 : decode cX2_lots 72 = .ok (.if_icmp .ge 41, 3) := by decide +kernel
theorem dX2_lots_75 : decode cX2_lots 75 = .ok (.iload 4, 2) := by decide +kernel
theorem dX2_lots_77 : decode cX2_lots 77 = .ok (.ldc 248, 2) := by decide +kernel
theorem dX2_lots_79 : decode cX2_lots 79 = .ok (.imul, 1) := by decide +kernel
theorem dX2_lots_80 : decode cX2_lots 80 = .ok (.sipush 12345, 3) := by decide +kernel
theorem dX2_lots_83 : decode cX2_lots 83 = .ok (.iadd, 1) := by decide +kernel
theorem dX2_lots_84 : decode cX2_lots 84 = .ok (.istore 4, 2) := by decide +kernel
theorem dX2_lots_86 : decode cX2_lots 86 = .ok (.aload_n 0, 1) := by decide +kernel
theorem dX2_lots_87 : decode cX2_lots 87 = .ok (.getfield 16, 3) := by decide +kernel
theorem dX2_lots_90 : decode cX2_lots 90 = .ok (.getfield 141, 3) := by decide +kernel
theorem dX2_lots_93 : decode cX2_lots 93 = .ok (.iload 7, 2) := by decide +kernel
theorem dX2_lots_95 : decode cX2_lots 95 = .ok (.iload 4, 2) := by decide +kernel
theorem dX2_lots_97 : decode cX2_lots 97 = .ok (.ldc 249, 2) := by decide +kernel
theorem dX2_lots_99 : decode cX2_lots 99 = .ok (.iand, 1) := by decide +kernel
theorem dX2_lots_100 : decode cX2_lots 100 = .ok (.ldc 250, 2) := by decide +kernel
theorem dX2_lots_102 : decode cX2_lots 102 = .ok (.idiv, 1) := by decide +kernel
theorem dX2_lots_103 : decode cX2_lots 103 = .ok (.bipush 10, 2) := by decide +kernel
theorem dX2_lots_105 : decode cX2_lots 105 = .ok (.irem, 1) := by decide +kernel
theorem dX2_lots_106 : decode cX2_lots 106 = .ok (.iastore, 1) := by decide +kernel
theorem dX2_lots_107 : decode cX2_lots 107 = .ok (.iinc 7 1, 3) := by decide +kernel
theorem dX2_lots_110 : decode cX2_lots 110 = .ok (.goto (-47), 3) := by decide +kernel
theorem dX2_lots_113 : decode cX2_lots 113 = .ok (.aload_n 0, 1) := by decide +kernel
theorem dX2_lots_114 : decode cX2_lots 114 = .ok (.getfield 16, 3) := by decide +kernel
theorem dX2_lots_117 : decode cX2_lots 117 = .ok (.bipush 24, 2) := by decide +kernel
theorem dX2_lots_119 : decode cX2_lots 119 = .ok (.invokevirtual 107, 3) := by decide +kernel
theorem dX2_lots_122 : decode cX2_lots 122 = .ok (.iload 5, 2) := by decide +kernel
theorem dX2_lots_124 : decode cX2_lots 124 = .ok (.iload_n 3, 1) := by decide +kernel
theorem dX2_lots_125 : decode cX2_lots 125 = .ok (.ifCond .ne 13, 3) := by decide +kernel
theorem dX2_lots_128 : decode cX2_lots 128 = .ok (.aload_n 0, 1) := by decide +kernel
theorem dX2_lots_129 : decode cX2_lots 129 = .ok (.getfield 16, 3) := by decide +kernel
theorem dX2_lots_132 : decode cX2_lots 132 = .ok (.invokevirtual 235, 3) := by decide +kernel
theorem dX2_lots_135 : decode cX2_lots 135 = .ok (.goto 10, 3) := by decide +kernel
theorem dX2_lots_138 : decode cX2_lots 138 = .ok (.aload_n 0, 1) := by decide +kernel
theorem dX2_lots_139 : decode cX2_lots 139 = .ok (.getfield 16, 3) := by decide +kernel
theorem dX2_lots_142 : decode cX2_lots 142 = .ok (.getfield 181, 3) := by decide +kernel
theorem dX2_lots_145 : decode cX2_lots 145 = .ok (.iadd, 1) := by decide +kernel
theorem dX2_lots_146 : decode cX2_lots 146 = .ok (.istore 5, 2) := by decide +kernel
theorem dX2_lots_148 : decode cX2_lots 148 = .ok (.iinc 6 1, 3) := by decide +kernel
theorem dX2_lots_151 : decode cX2_lots 151 = .ok (.goto (-101), 3) := by decide +kernel
theorem dX2_lots_154 : decode cX2_lots 154 = .ok (.iload 5, 2) := by decide +kernel
theorem dX2_lots_156 : decode cX2_lots 156 = .ok (.ireturn, 1) := by decide +kernel
theorem dX2_given_0 : decode cX2_given 0 = .ok (.aload_n 0, 1) := by decide +kernel
theorem dX2_given_1 : decode cX2_given 1 = .ok (.iload_n 1, 1) := by decide +kernel
theorem dX2_given_2 : decode cX2_given 2 = .ok (.iload_n 2, 1) := by decide +kernel
theorem dX2_given_3 : decode cX2_given 3 = .ok (.invokevirtual 190, 3) := by decide +kernel
theorem dX2_given_6 : decode cX2_given 6 = .ok (.ifCond .ne 9, 3) := by decide +kernel
theorem dX2_given_9 : decode cX2_given 9 = .ok (.aload_n 0, 1) := by decide +kernel
theorem dX2_given_10 : decode cX2_given 10 = .ok (.iconst (-1), 1) := by decide +kernel
theorem dX2_given_11 : decode cX2_given 11 = .ok (.invokevirtual 60, 3) := by decide +kernel
theorem dX2_given_14 : decode cX2_given 14 = .ok (.ireturn, 1) := by decide +kernel
theorem dX2_given_15 : decode cX2_given 15 = .ok (.iload_n 3, 1) := by decide +kernel
theorem dX2_given_16 : decode cX2_given 16 = .ok (.iconst (-1), 1) := by decide +kernel
theorem dX2_given_17 : decode cX2_given 17 = .ok (.if_icmp .ge 10, 3) := by decide +kernel
theorem dX2_given_20 : decode cX2_given 20 = .ok (.aload_n 0, 1) := by decide +kernel
theorem dX2_given_21 : decode cX2_given 21 = .ok (.bipush (-4), 2) := by decide +kernel
theorem dX2_given_23 : decode cX2_given 23 = .ok (.invokevirtual 60, 3) := by decide +kernel
theorem dX2_given_26 : decode cX2_given 26 = .ok (.ireturn, 1) := by decide +kernel
theorem dX2_given_27 : decode cX2_given 27 = .ok (.aload_n 0, 1) := by decide +kernel
theorem dX2_given_28 : decode cX2_given 28 = .ok (.getfield 12, 3) := by decide +kernel
theorem dX2_given_31 : decode cX2_given 31 = .ok (.getfield 159, 3) := by decide +kernel
theorem dX2_given_34 : decode cX2_given 34 = .ok (.iconst 4, 1) := by decide +kernel
theorem dX2_given_35 : decode cX2_given 35 = .ok (.if_icmp .le 10, 3) := by decide +kernel
theorem dX2_given_38 : decode cX2_given 38 = .ok (.aload_n 0, 1) := by decide +kernel
theorem dX2_given_39 : decode cX2_given 39 = .ok (.bipush (-3), 2) := by decide +kernel
theorem dX2_given_41 : decode cX2_given 41 = .ok (.invokevirtual 60, 3) := by decide +kernel
theorem dX2_given_44 : decode cX2_given 44 = .ok (.ireturn, 1) := by decide +kernel
theorem dX2_given_45 : decode cX2_given 45 = .ok (.aload_n 0, 1) := by decide +kernel
theorem dX2_given_46 : decode cX2_given 46 = .ok (.getfield 56, 3) := by decide +kernel
theorem dX2_given_49 : decode cX2_given 49 = .ok (.aload_n 0, 1) := by decide +kernel
theorem dX2_given_50 : decode cX2_given 50 = .ok (.getfield 12, 3) := by decide +kernel
theorem dX2_given_53 : decode cX2_given 53 = .ok (.getfield 156, 3) := by decide +kernel
theorem dX2_given_56 : decode cX2_given 56 = .ok (.aload_n 0, 1) := by decide +kernel
theorem dX2_given_57 : decode cX2_given 57 = .ok (.getfield 12, 3) := by decide +kernel
theorem dX2_given_60 : decode cX2_given 60 = .ok (.getfield 159, 3) := by decide +kernel
theorem dX2_given_63 : decode cX2_given 63 = .ok (.invokevirtual 251, 3) := by decide +kernel
theorem dX2_given_66 : decode cX2_given 66 = .ok (.bipush 62, 2) := by decide +kernel
theorem dX2_given_68 : decode cX2_given 68 = .ok (.istore 4, 2) := by decide +kernel
theorem dX2_given_70 : decode cX2_given 70 = .ok (.iconst 0, 1) := by decide +kernel
theorem dX2_given_71 : decode cX2_given 71 = .ok (.istore 5, 2) := by decide +kernel
theorem dX2_given_73 : decode cX2_given 73 = .ok (.iload 5, 2) := by decide +kernel
theorem dX2_given_75 : decode cX2_given 75 = .ok (.aload_n 0, 1) := by decide +kernel
theorem dX2_given_76 : decode cX2_given 76 = .ok (.getfield 56, 3) := by decide +kernel
theorem dX2_given_79 : decode cX2_given 79 = .ok (.getfield 254, 3) := by decide +kernel
theorem dX2_given_82 : decode cX2_given 82 = .ok (.if_icmp .ge 60, 3) := by decide +kernel
theorem dX2_given_85 : decode cX2_given 85 = .ok (.aload_n 0, 1) := by decide +kernel
theorem dX2_given_86 : decode cX2_given 86 = .ok (.getfield 56, 3) := by decide +kernel
theorem dX2_given_89 : decode cX2_given 89 = .ok (.iload 5, 2) := by decide +kernel
theorem dX2_given_91 : decode cX2_given 91 = .ok (.invokevirtual 257, 3) := by decide +kernel
theorem dX2_given_94 : decode cX2_given 94 = .ok (.ifCond .eq 42, 3) := by decide +kernel
theorem dX2_given_97 : decode cX2_given 97 = .ok (.aload_n 0, 1) := by decide +kernel
theorem dX2_given_98 : decode cX2_given 98 = .ok (.invokevirtual 260, 3) := by decide +kernel
theorem dX2_given_101 : decode cX2_given 101 = .ok (.aload_n 0, 1) := by decide +kernel
theorem dX2_given_102 : decode cX2_given 102 = .ok (.iload_n 1, 1) := by decide +kernel
theorem dX2_given_103 : decode cX2_given 103 = .ok (.iload_n 2, 1) := by decide +kernel
theorem dX2_given_104 : decode cX2_given 104 = .ok (.iload 4, 2) := by decide +kernel
theorem dX2_given_106 : decode cX2_given 106 = .ok (.iconst 1, 1) := by decide +kernel
theorem dX2_given_107 : decode cX2_given 107 = .ok (.isub, 1) := by decide +kernel
theorem dX2_given_108 : decode cX2_given 108 = .ok (.bipush 60, 2) := by decide +kernel
theorem dX2_given_110 : decode cX2_given 110 = .ok (.invokestatic 263, 3) := by decide +kernel
theorem dX2_given_113 : decode cX2_given 113 = .ok (.invokevirtual 193, 3) := by decide +kernel
theorem dX2_given_116 : decode cX2_given 116 = .ok (.istore 6, 2) := by decide +kernel
theorem dX2_given_118 : decode cX2_given 118 = .ok (.iload 6, 2) := by decide +kernel
theorem dX2_given_120 : decode cX2_given 120 = .ok (.iload 4, 2) := by decide +kernel
theorem dX2_given_122 : decode cX2_given 122 = .ok (.if_icmp .ge 14, 3) := by decide +kernel
theorem dX2_given_125 : decode cX2_given 125 = .ok (.iload 6, 2) := by decide +kernel
theorem dX2_given_127 : decode cX2_given 127 = .ok (.istore 4, 2) := by decide +kernel
theorem dX2_given_129 : decode cX2_given 129 = .ok (.aload_n 0, 1) := by decide +kernel
theorem dX2_given_130 : decode cX2_given 130 = .ok (.getfield 56, 3) := by decide +kernel
theorem dX2_given_133 : decode cX2_given 133 = .ok (.invokevirtual 268, 3) := by decide +kernel
theorem dX2_given_136 : decode cX2_given 136 = .ok (.iinc 5 1, 3) := by decide +kernel
theorem dX2_given_139 : decode cX2_given 139 = .ok (.goto (-66), 3) := by decide +kernel
theorem dX2_given_142 : decode cX2_given 142 = .ok (.iload_n 3, 1) := by decide +kernel
theorem dX2_given_143 : decode cX2_given 143 = .ok (.iconst (-1), 1) := by decide +kernel
theorem dX2_given_144 : decode cX2_given 144 = .ok (.if_icmp .ne 11, 3) := by decide +kernel
theorem dX2_given_147 : decode cX2_given 147 = .ok (.iload 4, 2) := by decide +kernel
theorem dX2_given_149 : decode cX2_given 149 = .ok (.invokestatic 196, 3) := by decide +kernel
theorem dX2_given_152 : decode cX2_given 152 = .ok (.goto 11, 3) := by decide +kernel
theorem dX2_given_155 : decode cX2_given 155 = .ok (.aload_n 0, 1) := by decide +kernel
theorem dX2_given_156 : decode cX2_given 156 = .ok (.getfield 56, 3) := by decide +kernel
theorem dX2_given_159 : decode cX2_given 159 = .ok (.iload_n 3, 1) := by decide +kernel
theorem dX2_given_160 : decode cX2_given 160 = .ok (.invokevirtual 271, 3) := by decide +kernel
theorem dX2_given_163 : decode cX2_given 163 = .ok (.ireturn, 1) := by decide +kernel
theorem dX2_quiet_0 : decode cX2_quiet 0 = .ok (.iload_n 2, 1) := by decide +kernel
theorem dX2_quiet_1 : decode cX2_quiet 1 = .ok (.iconst (-1), 1) := by decide +kernel
theorem dX2_quiet_2 : decode cX2_quiet 2 = .ok (.if_icmp .lt 7, 3) := by decide +kernel
theorem dX2_quiet_5 : decode cX2_quiet 5 = .ok (.iload_n 1, 1) := by decide +kernel
theorem dX2_quiet_6 : decode cX2_quiet 6 = .ok (.ifCond .ge 10, 3) := by decide +kernel
theorem dX2_quiet_9 : decode cX2_quiet 9 = .ok (.aload_n 0, 1) := by decide +kernel
theorem dX2_quiet_10 : decode cX2_quiet 10 = .ok (.bipush (-4), 2) := by decide +kernel
theorem dX2_quiet_12 : decode cX2_quiet 12 = .ok (.invokevirtual 60, 3) := by decide +kernel
theorem dX2_quiet_15 : decode cX2_quiet 15 = .ok (.ireturn, 1) := by decide +kernel
theorem dX2_quiet_16 : decode cX2_quiet 16 = .ok (.iload_n 1, 1) := by decide +kernel
theorem dX2_quiet_17 : decode cX2_quiet 17 = .ok (.bipush 60, 2) := by decide +kernel
theorem dX2_quiet_19 : decode cX2_quiet 19 = .ok (.if_icmp .le 10, 3) := by decide +kernel
theorem dX2_quiet_22 : decode cX2_quiet 22 = .ok (.aload_n 0, 1) := by decide +kernel
theorem dX2_quiet_23 : decode cX2_quiet 23 = .ok (.bipush (-6), 2) := by decide +kernel
theorem dX2_quiet_25 : decode cX2_quiet 25 = .ok (.invokevirtual 60, 3) := by decide +kernel
theorem dX2_quiet_28 : decode cX2_quiet 28 = .ok (.ireturn, 1) := by decide +kernel
theorem dX2_quiet_29 : decode cX2_quiet 29 = .ok (.aload_n 0, 1) := by decide +kernel
theorem dX2_quiet_30 : decode cX2_quiet 30 = .ok (.getfield 12, 3) := by decide +kernel
theorem dX2_quiet_33 : decode cX2_quiet 33 = .ok (.getfield 159, 3) := by decide +kernel
theorem dX2_quiet_36 : decode cX2_quiet 36 = .ok (.iconst 4, 1) := by decide +kernel
theorem dX2_quiet_37 : decode cX2_quiet 37 = .ok (.if_icmp .le 10, 3) := by decide +kernel
theorem dX2_quiet_40 : decode cX2_quiet 40 = .ok (.aload_n 0, 1) := by decide +kernel
theorem dX2_quiet_41 : decode cX2_quiet 41 = .ok (.bipush (-3), 2) := by decide +kernel
theorem dX2_quiet_43 : decode cX2_quiet 43 = .ok (.invokevirtual 60, 3) := by decide +kernel
theorem dX2_quiet_46 : decode cX2_quiet 46 = .ok (.ireturn, 1) := by decide +kernel
theorem dX2_quiet_47 : decode cX2_quiet 47 = .ok (.aload_n 0, 1) := by decide +kernel
theorem dX2_quiet_48 : decode cX2_quiet 48 = .ok (.getfield 56, 3) := by decide +kernel
theorem dX2_quiet_51 : decode cX2_quiet 51 = .ok (.aload_n 0, 1) := by decide +kernel
theorem dX2_quiet_52 : decode cX2_quiet 52 = .ok (.getfield 12, 3) := by decide +kernel
theorem dX2_quiet_55 : decode cX2_quiet 55 = .ok (.getfield 156, 3) := by decide +kernel
theorem dX2_quiet_58 : decode cX2_quiet 58 = .ok (.aload_n 0, 1) := by decide +kernel
theorem dX2_quiet_59 : decode cX2_quiet 59 = .ok (.getfield 12, 3) := by decide +kernel
theorem dX2_quiet_62 : decode cX2_quiet 62 = .ok (.getfield 159, 3) := by decide +kernel
theorem dX2_quiet_65 : decode cX2_quiet 65 = .ok (.invokevirtual 251, 3) := by decide +kernel
theorem dX2_quiet_68 : decode cX2_quiet 68 = .ok (.ldc 220, 2) := by decide +kernel
theorem dX2_quiet_70 : decode cX2_quiet 70 = .ok (.istore_n 3, 1) := by decide +kernel
theorem dX2_quiet_71 : decode cX2_quiet 71 = .ok (.iconst 0, 1) := by decide +kernel
theorem dX2_quiet_72 : decode cX2_quiet 72 = .ok (.istore 4, 2) := by decide +kernel
theorem dX2_quiet_74 : decode cX2_quiet 74 = .ok (.iload 4, 2) := by decide +kernel
theorem dX2_quiet_76 : decode cX2_quiet 76 = .ok (.aload_n 0, 1) := by decide +kernel
theorem dX2_quiet_77 : decode cX2_quiet 77 = .ok (.getfield 56, 3) := by decide +kernel
theorem dX2_quiet_80 : decode cX2_quiet 80 = .ok (.getfield 254, 3) := by decide +kernel
theorem dX2_quiet_83 : decode cX2_quiet 83 = .ok (.if_icmp .ge 49, 3) := by decide +kernel
theorem dX2_quiet_86 : decode cX2_quiet 86 = .ok (.aload_n 0, 1) := by decide +kernel
theorem dX2_quiet_87 : decode cX2_quiet 87 = .ok (.getfield 56, 3) := by decide +kernel
theorem dX2_quiet_90 : decode cX2_quiet 90 = .ok (.iload 4, 2) := by decide +kernel
theorem dX2_quiet_92 : decode cX2_quiet 92 = .ok (.invokevirtual 257, 3) := by decide +kernel
theorem dX2_quiet_95 : decode cX2_quiet 95 = .ok (.ifCond .eq 31, 3) := by decide +kernel
theorem dX2_quiet_98 : decode cX2_quiet 98 = .ok (.aload_n 0, 1) := by decide +kernel
theorem dX2_quiet_99 : decode cX2_quiet 99 = .ok (.invokevirtual 260, 3) := by decide +kernel
theorem dX2_quiet_102 : decode cX2_quiet 102 = .ok (.aload_n 0, 1) := by decide +kernel
theorem dX2_quiet_103 : decode cX2_quiet 103 = .ok (.iload_n 1, 1) := by decide +kernel
theorem dX2_quiet_104 : decode cX2_quiet 104 = .ok (.iload_n 3, 1) := by decide +kernel
theorem dX2_quiet_105 : decode cX2_quiet 105 = .ok (.invokevirtual 274, 3) := by decide +kernel
theorem dX2_quiet_108 : decode cX2_quiet 108 = .ok (.istore 5, 2) := by decide +kernel
theorem dX2_quiet_110 : decode cX2_quiet 110 = .ok (.iload 5, 2) := by decide +kernel
theorem dX2_quiet_112 : decode cX2_quiet 112 = .ok (.iload_n 3, 1) := by decide +kernel
theorem dX2_quiet_113 : decode cX2_quiet 113 = .ok (.if_icmp .ge 13, 3) := by decide +kernel
theorem dX2_quiet_116 : decode cX2_quiet 116 = .ok (.iload 5, 2) := by decide +kernel
theorem dX2_quiet_118 : decode cX2_quiet 118 = .ok (.istore_n 3, 1) := by decide +kernel
theorem dX2_quiet_119 : decode cX2_quiet 119 = .ok (.aload_n 0, 1) := by decide +kernel
theorem dX2_quiet_120 : decode cX2_quiet 120 = .ok (.getfield 56, 3) := by decide +kernel
theorem dX2_quiet_123 : decode cX2_quiet 123 = .ok (.invokevirtual 268, 3) := by decide +kernel
theorem dX2_quiet_126 : decode cX2_quiet 126 = .ok (.iinc 4 1, 3) := by decide +kernel
theorem dX2_quiet_129 : decode cX2_quiet 129 = .ok (.goto (-55), 3) := by decide +kernel
theorem dX2_quiet_132 : decode cX2_quiet 132 = .ok (.iload_n 2, 1) := by decide +kernel
theorem dX2_quiet_133 : decode cX2_quiet 133 = .ok (.iconst (-1), 1) := by decide +kernel
theorem dX2_quiet_134 : decode cX2_quiet 134 = .ok (.if_icmp .ne 7, 3) := by decide +kernel
theorem dX2_quiet_137 : decode cX2_quiet 137 = .ok (.iload_n 3, 1) := by decide +kernel
theorem dX2_quiet_138 : decode cX2_quiet 138 = .ok (.goto 11, 3) := by decide +kernel
theorem dX2_quiet_141 : decode cX2_quiet 141 = .ok (.aload_n 0, 1) := by decide +kernel
theorem dX2_quiet_142 : decode cX2_quiet 142 = .ok (.getfield 56, 3) := by decide +kernel
theorem dX2_quiet_145 : decode cX2_quiet 145 = .ok (.iload_n 2, 1) := by decide +kernel
theorem dX2_quiet_146 : decode cX2_quiet 146 = .ok (.invokevirtual 271, 3) := by decide +kernel
theorem dX2_quiet_149 : decode cX2_quiet 149 = .ok (.ireturn, 1) := by decide +kernel
theorem dX2_ledHoursBelow_0 : decode cX2_ledHoursBelow 0 = .ok (.iconst 0, 1) := by decide +kernel
theorem dX2_ledHoursBelow_1 : decode cX2_ledHoursBelow 1 = .ok (.istore_n 3, 1) := by decide +kernel
theorem dX2_ledHoursBelow_2 : decode cX2_ledHoursBelow 2 = .ok (.iload_n 3, 1) := by decide +kernel
theorem dX2_ledHoursBelow_3 : decode cX2_ledHoursBelow 3 = .ok (.iload_n 1, 1) := by decide +kernel
theorem dX2_ledHoursBelow_4 : decode cX2_ledHoursBelow 4 = .ok (.if_icmp .ge 28, 3) := by decide +kernel
theorem dX2_ledHoursBelow_7 : decode cX2_ledHoursBelow 7 = .ok (.aload_n 0, 1) := by decide +kernel
theorem dX2_ledHoursBelow_8 : decode cX2_ledHoursBelow 8 = .ok (.getfield 16, 3) := by decide +kernel
theorem dX2_ledHoursBelow_11 : decode cX2_ledHoursBelow 11 = .ok (.invokevirtual 235, 3) := by decide +kernel
theorem dX2_ledHoursBelow_14 : decode cX2_ledHoursBelow 14 = .ok (.iload_n 2, 1) := by decide +kernel
theorem dX2_ledHoursBelow_15 : decode cX2_ledHoursBelow 15 = .ok (.if_icmp .ge 17, 3) := by decide +kernel
theorem dX2_ledHoursBelow_18 : decode cX2_ledHoursBelow 18 = .ok (.aload_n 0, 1) := by decide +kernel
theorem dX2_ledHoursBelow_19 : decode cX2_ledHoursBelow 19 = .ok (.getfield 16, 3) := by decide +kernel
theorem dX2_ledHoursBelow_22 : decode cX2_ledHoursBelow 22 = .ok (.iconst 1, 1) := by decide +kernel
theorem dX2_ledHoursBelow_23 : decode cX2_ledHoursBelow 23 = .ok (.invokevirtual 107, 3) := by decide +kernel
theorem dX2_ledHoursBelow_26 : decode cX2_ledHoursBelow 26 = .ok (.iinc 3 1, 3) := by decide +kernel
theorem dX2_ledHoursBelow_29 : decode cX2_ledHoursBelow 29 = .ok (.goto (-27), 3) := by decide +kernel
theorem dX2_ledHoursBelow_32 : decode cX2_ledHoursBelow 32 = .ok (.aload_n 0, 1) := by decide +kernel
theorem dX2_ledHoursBelow_33 : decode cX2_ledHoursBelow 33 = .ok (.getfield 16, 3) := by decide +kernel
theorem dX2_ledHoursBelow_36 : decode cX2_ledHoursBelow 36 = .ok (.invokevirtual 235, 3) := by decide +kernel
theorem dX2_ledHoursBelow_39 : decode cX2_ledHoursBelow 39 = .ok (.ireturn, 1) := by decide +kernel
theorem dX2_thinkGiven_0 : decode cX2_thinkGiven 0 = .ok (.aload_n 0, 1) := by decide +kernel
theorem dX2_thinkGiven_1 : decode cX2_thinkGiven 1 = .ok (.invokevirtual 67, 3) := by decide +kernel
theorem dX2_thinkGiven_4 : decode cX2_thinkGiven 4 = .ok (.aload_n 0, 1) := by decide +kernel
theorem dX2_thinkGiven_5 : decode cX2_thinkGiven 5 = .ok (.getfield 16, 3) := by decide +kernel
theorem dX2_thinkGiven_8 : decode cX2_thinkGiven 8 = .ok (.invokevirtual 277, 3) := by decide +kernel
theorem dX2_thinkGiven_11 : decode cX2_thinkGiven 11 = .ok (.iconst 0, 1) := by decide +kernel
theorem dX2_thinkGiven_12 : decode cX2_thinkGiven 12 = .ok (.istore_n 1, 1) := by decide +kernel
theorem dX2_thinkGiven_13 : decode cX2_thinkGiven 13 = .ok (.iload_n 1, 1) := by decide +kernel
theorem dX2_thinkGiven_14 : decode cX2_thinkGiven 14 = .ok (.aload_n 0, 1) := by decide +kernel
theorem dX2_thinkGiven_15 : decode cX2_thinkGiven 15 = .ok (.getfield 16, 3) := by decide +kernel
theorem dX2_thinkGiven_18 : decode cX2_thinkGiven 18 = .ok (.getfield 159, 3) := by decide +kernel
theorem dX2_thinkGiven_21 : decode cX2_thinkGiven 21 = .ok (.if_icmp .ge 26, 3) := by decide +kernel
theorem dX2_thinkGiven_24 : decode cX2_thinkGiven 24 = .ok (.aload_n 0, 1) := by decide +kernel
theorem dX2_thinkGiven_25 : decode cX2_thinkGiven 25 = .ok (.getfield 16, 3) := by decide +kernel
theorem dX2_thinkGiven_28 : decode cX2_thinkGiven 28 = .ok (.aload_n 0, 1) := by decide +kernel
theorem dX2_thinkGiven_29 : decode cX2_thinkGiven 29 = .ok (.getfield 56, 3) := by decide +kernel
theorem dX2_thinkGiven_32 : decode cX2_thinkGiven 32 = .ok (.iload_n 1, 1) := by decide +kernel
theorem dX2_thinkGiven_33 : decode cX2_thinkGiven 33 = .ok (.invokevirtual 280, 3) := by decide +kernel
theorem dX2_thinkGiven_36 : decode cX2_thinkGiven 36 = .ok (.iload_n 1, 1) := by decide +kernel
theorem dX2_thinkGiven_37 : decode cX2_thinkGiven 37 = .ok (.invokevirtual 94, 3) := by decide +kernel
theorem dX2_thinkGiven_40 : decode cX2_thinkGiven 40 = .ok (.pop, 1) := by decide +kernel
theorem dX2_thinkGiven_41 : decode cX2_thinkGiven 41 = .ok (.iinc 1 1, 3) := by decide +kernel
theorem dX2_thinkGiven_44 : decode cX2_thinkGiven 44 = .ok (.goto (-31), 3) := by decide +kernel
theorem dX2_thinkGiven_47 : decode cX2_thinkGiven 47 = .ok (.return_, 1) := by decide +kernel
theorem dX2_stable_0 : decode cX2_stable 0 = .ok (.aload_n 0, 1) := by decide +kernel
theorem dX2_stable_1 : decode cX2_stable 1 = .ok (.getfield 12, 3) := by decide +kernel
theorem dX2_stable_4 : decode cX2_stable 4 = .ok (.iload_n 1, 1) := by decide +kernel
theorem dX2_stable_5 : decode cX2_stable 5 = .ok (.invokevirtual 135, 3) := by decide +kernel
theorem dX2_stable_8 : decode cX2_stable 8 = .ok (.ifCond .ne 9, 3) := by decide +kernel
theorem dX2_stable_11 : decode cX2_stable 11 = .ok (.aload_n 0, 1) := by decide +kernel
theorem dX2_stable_12 : decode cX2_stable 12 = .ok (.iconst (-1), 1) := by decide +kernel
theorem dX2_stable_13 : decode cX2_stable 13 = .ok (.invokevirtual 60, 3) := by decide +kernel
theorem dX2_stable_16 : decode cX2_stable 16 = .ok (.ireturn, 1) := by decide +kernel
theorem dX2_stable_17 : decode cX2_stable 17 = .ok (.aload_n 0, 1) := by decide +kernel
theorem dX2_stable_18 : decode cX2_stable 18 = .ok (.getfield 12, 3) := by decide +kernel
theorem dX2_stable_21 : decode cX2_stable 21 = .ok (.aload_n 0, 1) := by decide +kernel
theorem dX2_stable_22 : decode cX2_stable 22 = .ok (.getfield 12, 3) := by decide +kernel
theorem dX2_stable_25 : decode cX2_stable 25 = .ok (.iload_n 1, 1) := by decide +kernel
theorem dX2_stable_26 : decode cX2_stable 26 = .ok (.invokevirtual 283, 3) := by decide +kernel
theorem dX2_stable_29 : decode cX2_stable 29 = .ok (.invokevirtual 286, 3) := by decide +kernel
theorem dX2_stable_32 : decode cX2_stable 32 = .ok (.ireturn, 1) := by decide +kernel
theorem dX2_unled_0 : decode cX2_unled 0 = .ok (.iconst 0, 1) := by decide +kernel
theorem dX2_unled_1 : decode cX2_unled 1 = .ok (.istore_n 1, 1) := by decide +kernel
theorem dX2_unled_2 : decode cX2_unled 2 = .ok (.iconst 0, 1) := by decide +kernel
theorem dX2_unled_3 : decode cX2_unled 3 = .ok (.istore_n 2, 1) := by decide +kernel
theorem dX2_unled_4 : decode cX2_unled 4 = .ok (.iload_n 2, 1) := by decide +kernel
theorem dX2_unled_5 : decode cX2_unled 5 = .ok (.aload_n 0, 1) := by decide +kernel
theorem dX2_unled_6 : decode cX2_unled 6 = .ok (.getfield 12, 3) := by decide +kernel
theorem dX2_unled_9 : decode cX2_unled 9 = .ok (.getfield 159, 3) := by decide +kernel
theorem dX2_unled_12 : decode cX2_unled 12 = .ok (.if_icmp .ge 61, 3) := by decide +kernel
theorem dX2_unled_15 : decode cX2_unled 15 = .ok (.aload_n 0, 1) := by decide +kernel
theorem dX2_unled_16 : decode cX2_unled 16 = .ok (.getfield 12, 3) := by decide +kernel
theorem dX2_unled_19 : decode cX2_unled 19 = .ok (.iload_n 2, 1) := by decide +kernel
theorem dX2_unled_20 : decode cX2_unled 20 = .ok (.invokevirtual 289, 3) := by decide +kernel
theorem dX2_unled_23 : decode cX2_unled 23 = .ok (.istore_n 3, 1) := by decide +kernel
theorem dX2_unled_24 : decode cX2_unled 24 = .ok (.aload_n 0, 1) := by decide +kernel
theorem dX2_unled_25 : decode cX2_unled 25 = .ok (.getfield 12, 3) := by decide +kernel
theorem dX2_unled_28 : decode cX2_unled 28 = .ok (.iload_n 1, 1) := by decide +kernel
theorem dX2_unled_29 : decode cX2_unled 29 = .ok (.invokevirtual 286, 3) := by decide +kernel
theorem dX2_unled_32 : decode cX2_unled 32 = .ok (.istore 4, 2) := by decide +kernel
theorem dX2_unled_34 : decode cX2_unled 34 = .ok (.iload_n 3, 1) := by decide +kernel
theorem dX2_unled_35 : decode cX2_unled 35 = .ok (.ifCond .lt 32, 3) := by decide +kernel
theorem dX2_unled_38 : decode cX2_unled 38 = .ok (.iload 4, 2) := by decide +kernel
theorem dX2_unled_40 : decode cX2_unled 40 = .ok (.ifCond .lt 27, 3) := by decide +kernel
theorem dX2_unled_43 : decode cX2_unled 43 = .ok (.aload_n 0, 1) := by decide +kernel
theorem dX2_unled_44 : decode cX2_unled 44 = .ok (.getfield 12, 3) := by decide +kernel
theorem dX2_unled_47 : decode cX2_unled 47 = .ok (.iload 4, 2) := by decide +kernel
theorem dX2_unled_49 : decode cX2_unled 49 = .ok (.invokevirtual 292, 3) := by decide +kernel
theorem dX2_unled_52 : decode cX2_unled 52 = .ok (.aload_n 0, 1) := by decide +kernel
theorem dX2_unled_53 : decode cX2_unled 53 = .ok (.getfield 12, 3) := by decide +kernel
theorem dX2_unled_56 : decode cX2_unled 56 = .ok (.getfield 138, 3) := by decide +kernel
theorem dX2_unled_59 : decode cX2_unled 59 = .ok (.iload_n 3, 1) := by decide +kernel
theorem dX2_unled_60 : decode cX2_unled 60 = .ok (.iaload, 1) := by decide +kernel
theorem dX2_unled_61 : decode cX2_unled 61 = .ok (.if_icmp .gt 6, 3) := by decide +kernel
theorem dX2_unled_64 : decode cX2_unled 64 = .ok (.iinc 1 1, 3) := by decide +kernel
theorem dX2_unled_67 : decode cX2_unled 67 = .ok (.iinc 2 1, 3) := by decide +kernel
theorem dX2_unled_70 : decode cX2_unled 70 = .ok (.goto (-66), 3) := by decide +kernel
theorem dX2_unled_73 : decode cX2_unled 73 = .ok (.iload_n 1, 1) := by decide +kernel
theorem dX2_unled_74 : decode cX2_unled 74 = .ok (.ireturn, 1) := by decide +kernel
theorem dX2_row_0 : decode cX2_row 0 = .ok (.iload_n 1, 1) := by decide +kernel
theorem dX2_row_1 : decode cX2_row 1 = .ok (.ifCond .ge 10, 3) := by decide +kernel
theorem dX2_row_4 : decode cX2_row 4 = .ok (.aload_n 0, 1) := by decide +kernel
theorem dX2_row_5 : decode cX2_row 5 = .ok (.bipush (-4), 2) := by decide +kernel
theorem dX2_row_7 : decode cX2_row 7 = .ok (.invokevirtual 60, 3) := by decide +kernel
theorem dX2_row_10 : decode cX2_row 10 = .ok (.ireturn, 1) := by decide +kernel
theorem dX2_row_11 : decode cX2_row 11 = .ok (.iload_n 1, 1) := by decide +kernel
theorem dX2_row_12 : decode cX2_row 12 = .ok (.bipush 99, 2) := by decide +kernel
theorem dX2_row_14 : decode cX2_row 14 = .ok (.if_icmp .gt 12, 3) := by decide +kernel
theorem dX2_row_17 : decode cX2_row 17 = .ok (.aload_n 0, 1) := by decide +kernel
theorem dX2_row_18 : decode cX2_row 18 = .ok (.getfield 44, 3) := by decide +kernel
theorem dX2_row_21 : decode cX2_row 21 = .ok (.bipush 12, 2) := by decide +kernel
theorem dX2_row_23 : decode cX2_row 23 = .ok (.if_icmp .lt 10, 3) := by decide +kernel
theorem dX2_row_26 : decode cX2_row 26 = .ok (.aload_n 0, 1) := by decide +kernel
theorem dX2_row_27 : decode cX2_row 27 = .ok (.bipush (-6), 2) := by decide +kernel
theorem dX2_row_29 : decode cX2_row 29 = .ok (.invokevirtual 60, 3) := by decide +kernel
theorem dX2_row_32 : decode cX2_row 32 = .ok (.ireturn, 1) := by decide +kernel
theorem dX2_row_33 : decode cX2_row 33 = .ok (.aload_n 0, 1) := by decide +kernel
theorem dX2_row_34 : decode cX2_row 34 = .ok (.getfield 41, 3) := by decide +kernel
theorem dX2_row_37 : decode cX2_row 37 = .ok (.aload_n 0, 1) := by decide +kernel
theorem dX2_row_38 : decode cX2_row 38 = .ok (.getfield 44, 3) := by decide +kernel
theorem dX2_row_41 : decode cX2_row 41 = .ok (.iload_n 1, 1) := by decide +kernel
theorem dX2_row_42 : decode cX2_row 42 = .ok (.iastore, 1) := by decide +kernel
theorem dX2_row_43 : decode cX2_row 43 = .ok (.aload_n 0, 1) := by decide +kernel
theorem dX2_row_44 : decode cX2_row 44 = .ok (.dup, 1) := by decide +kernel
theorem dX2_row_45 : decode cX2_row 45 = .ok (.getfield 44, 3) := by decide +kernel
theorem dX2_row_48 : decode cX2_row 48 = .ok (.iconst 1, 1) := by decide +kernel
theorem dX2_row_49 : decode cX2_row 49 = .ok (.iadd, 1) := by decide +kernel
theorem dX2_row_50 : decode cX2_row 50 = .ok (.putfield 44, 3) := by decide +kernel
theorem dX2_row_53 : decode cX2_row 53 = .ok (.aload_n 0, 1) := by decide +kernel
theorem dX2_row_54 : decode cX2_row 54 = .ok (.getfield 44, 3) := by decide +kernel
theorem dX2_row_57 : decode cX2_row 57 = .ok (.ireturn, 1) := by decide +kernel
theorem dX2_judge_0 : decode cX2_judge 0 = .ok (.aload_n 0, 1) := by decide +kernel
theorem dX2_judge_1 : decode cX2_judge 1 = .ok (.getfield 12, 3) := by decide +kernel
theorem dX2_judge_4 : decode cX2_judge 4 = .ok (.iload_n 1, 1) := by decide +kernel
theorem dX2_judge_5 : decode cX2_judge 5 = .ok (.invokevirtual 135, 3) := by decide +kernel
theorem dX2_judge_8 : decode cX2_judge 8 = .ok (.ifCond .ne 9, 3) := by decide +kernel
theorem dX2_judge_11 : decode cX2_judge 11 = .ok (.aload_n 0, 1) := by decide +kernel
theorem dX2_judge_12 : decode cX2_judge 12 = .ok (.iconst (-1), 1) := by decide +kernel
theorem dX2_judge_13 : decode cX2_judge 13 = .ok (.invokevirtual 60, 3) := by decide +kernel
theorem dX2_judge_16 : decode cX2_judge 16 = .ok (.ireturn, 1) := by decide +kernel
theorem dX2_judge_17 : decode cX2_judge 17 = .ok (.aload_n 0, 1) := by decide +kernel
theorem dX2_judge_18 : decode cX2_judge 18 = .ok (.invokevirtual 67, 3) := by decide +kernel
theorem dX2_judge_21 : decode cX2_judge 21 = .ok (.aload_n 0, 1) := by decide +kernel
theorem dX2_judge_22 : decode cX2_judge 22 = .ok (.iload_n 1, 1) := by decide +kernel
theorem dX2_judge_23 : decode cX2_judge 23 = .ok (.invokevirtual 295, 3) := by decide +kernel
theorem dX2_judge_26 : decode cX2_judge 26 = .ok (.istore_n 2, 1) := by decide +kernel
theorem dX2_judge_27 : decode cX2_judge 27 = .ok (.aload_n 0, 1) := by decide +kernel
theorem dX2_judge_28 : decode cX2_judge 28 = .ok (.iconst 0, 1) := by decide +kernel
theorem dX2_judge_29 : decode cX2_judge 29 = .ok (.putfield 44, 3) := by decide +kernel
theorem dX2_judge_32 : decode cX2_judge 32 = .ok (.iload_n 2, 1) := by decide +kernel
theorem dX2_judge_33 : decode cX2_judge 33 = .ok (.ireturn, 1) := by decide +kernel
theorem dX2_clear_0 : decode cX2_clear 0 = .ok (.aload_n 0, 1) := by decide +kernel
theorem dX2_clear_1 : decode cX2_clear 1 = .ok (.getfield 44, 3) := by decide +kernel
theorem dX2_clear_4 : decode cX2_clear 4 = .ok (.istore_n 1, 1) := by decide +kernel
theorem dX2_clear_5 : decode cX2_clear 5 = .ok (.aload_n 0, 1) := by decide +kernel
theorem dX2_clear_6 : decode cX2_clear 6 = .ok (.iconst 0, 1) := by decide +kernel
theorem dX2_clear_7 : decode cX2_clear 7 = .ok (.putfield 44, 3) := by decide +kernel
theorem dX2_clear_10 : decode cX2_clear 10 = .ok (.iload_n 1, 1) := by decide +kernel
theorem dX2_clear_11 : decode cX2_clear 11 = .ok (.ireturn, 1) := by decide +kernel
theorem dX2_firstUntrue_0 : decode cX2_firstUntrue 0 = .ok (.iconst 0, 1) := by decide +kernel
theorem dX2_firstUntrue_1 : decode cX2_firstUntrue 1 = .ok (.istore_n 2, 1) := by decide +kernel
theorem dX2_firstUntrue_2 : decode cX2_firstUntrue 2 = .ok (.iload_n 2, 1) := by decide +kernel
theorem dX2_firstUntrue_3 : decode cX2_firstUntrue 3 = .ok (.aload_n 0, 1) := by decide +kernel
theorem dX2_firstUntrue_4 : decode cX2_firstUntrue 4 = .ok (.getfield 44, 3) := by decide +kernel
theorem dX2_firstUntrue_7 : decode cX2_firstUntrue 7 = .ok (.if_icmp .ge 37, 3) := by decide +kernel
theorem dX2_firstUntrue_10 : decode cX2_firstUntrue 10 = .ok (.aload_n 0, 1) := by decide +kernel
theorem dX2_firstUntrue_11 : decode cX2_firstUntrue 11 = .ok (.getfield 41, 3) := by decide +kernel
theorem dX2_firstUntrue_14 : decode cX2_firstUntrue 14 = .ok (.iload_n 2, 1) := by decide +kernel
theorem dX2_firstUntrue_15 : decode cX2_firstUntrue 15 = .ok (.iaload, 1) := by decide +kernel
theorem dX2_firstUntrue_16 : decode cX2_firstUntrue 16 = .ok (.aload_n 0, 1) := by decide +kernel
theorem dX2_firstUntrue_17 : decode cX2_firstUntrue 17 = .ok (.getfield 16, 3) := by decide +kernel
theorem dX2_firstUntrue_20 : decode cX2_firstUntrue 20 = .ok (.getfield 144, 3) := by decide +kernel
theorem dX2_firstUntrue_23 : decode cX2_firstUntrue 23 = .ok (.iload_n 1, 1) := by decide +kernel
theorem dX2_firstUntrue_24 : decode cX2_firstUntrue 24 = .ok (.iaload, 1) := by decide +kernel
theorem dX2_firstUntrue_25 : decode cX2_firstUntrue 25 = .ok (.if_icmp .eq 5, 3) := by decide +kernel
theorem dX2_firstUntrue_28 : decode cX2_firstUntrue 28 = .ok (.iload_n 2, 1) := by decide +kernel
theorem dX2_firstUntrue_29 : decode cX2_firstUntrue 29 = .ok (.ireturn, 1) := by decide +kernel
theorem dX2_firstUntrue_30 : decode cX2_firstUntrue 30 = .ok (.aload_n 0, 1) := by decide +kernel
theorem dX2_firstUntrue_31 : decode cX2_firstUntrue 31 = .ok (.getfield 16, 3) := by decide +kernel
theorem dX2_firstUntrue_34 : decode cX2_firstUntrue 34 = .ok (.iconst 1, 1) := by decide +kernel
theorem dX2_firstUntrue_35 : decode cX2_firstUntrue 35 = .ok (.invokevirtual 107, 3) := by decide +kernel
theorem dX2_firstUntrue_38 : decode cX2_firstUntrue 38 = .ok (.iinc 2 1, 3) := by decide +kernel
theorem dX2_firstUntrue_41 : decode cX2_firstUntrue 41 = .ok (.goto (-39), 3) := by decide +kernel
theorem dX2_firstUntrue_44 : decode cX2_firstUntrue 44 = .ok (.bipush (-9), 2) := by decide +kernel
theorem dX2_firstUntrue_46 : decode cX2_firstUntrue 46 = .ok (.ireturn, 1) := by decide +kernel
theorem dX2_whose_0 : decode cX2_whose 0 = .ok (.aload_n 0, 1) := by decide +kernel
theorem dX2_whose_1 : decode cX2_whose 1 = .ok (.getfield 12, 3) := by decide +kernel
theorem dX2_whose_4 : decode cX2_whose 4 = .ok (.iload_n 1, 1) := by decide +kernel
theorem dX2_whose_5 : decode cX2_whose 5 = .ok (.invokevirtual 135, 3) := by decide +kernel
theorem dX2_whose_8 : decode cX2_whose 8 = .ok (.ifCond .ne 9, 3) := by decide +kernel
theorem dX2_whose_11 : decode cX2_whose 11 = .ok (.aload_n 0, 1) := by decide +kernel
theorem dX2_whose_12 : decode cX2_whose 12 = .ok (.iconst (-1), 1) := by decide +kernel
theorem dX2_whose_13 : decode cX2_whose 13 = .ok (.invokevirtual 60, 3) := by decide +kernel
theorem dX2_whose_16 : decode cX2_whose 16 = .ok (.ireturn, 1) := by decide +kernel
theorem dX2_whose_17 : decode cX2_whose 17 = .ok (.iload_n 2, 1) := by decide +kernel
theorem dX2_whose_18 : decode cX2_whose 18 = .ok (.ifCond .lt 8, 3) := by decide +kernel
theorem dX2_whose_21 : decode cX2_whose 21 = .ok (.iload_n 2, 1) := by decide +kernel
theorem dX2_whose_22 : decode cX2_whose 22 = .ok (.iconst 3, 1) := by decide +kernel
theorem dX2_whose_23 : decode cX2_whose 23 = .ok (.if_icmp .le 10, 3) := by decide +kernel
theorem dX2_whose_26 : decode cX2_whose 26 = .ok (.aload_n 0, 1) := by decide +kernel
theorem dX2_whose_27 : decode cX2_whose 27 = .ok (.bipush (-2), 2) := by decide +kernel
theorem dX2_whose_29 : decode cX2_whose 29 = .ok (.invokevirtual 60, 3) := by decide +kernel
theorem dX2_whose_32 : decode cX2_whose 32 = .ok (.ireturn, 1) := by decide +kernel
theorem dX2_whose_33 : decode cX2_whose 33 = .ok (.aload_n 0, 1) := by decide +kernel
theorem dX2_whose_34 : decode cX2_whose 34 = .ok (.getfield 12, 3) := by decide +kernel
theorem dX2_whose_37 : decode cX2_whose 37 = .ok (.getfield 147, 3) := by decide +kernel
theorem dX2_whose_40 : decode cX2_whose 40 = .ok (.iload_n 1, 1) := by decide +kernel
theorem dX2_whose_41 : decode cX2_whose 41 = .ok (.iaload, 1) := by decide +kernel
theorem dX2_whose_42 : decode cX2_whose 42 = .ok (.istore_n 3, 1) := by decide +kernel
theorem dX2_whose_43 : decode cX2_whose 43 = .ok (.aload_n 0, 1) := by decide +kernel
theorem dX2_whose_44 : decode cX2_whose 44 = .ok (.getfield 12, 3) := by decide +kernel
theorem dX2_whose_47 : decode cX2_whose 47 = .ok (.iload_n 3, 1) := by decide +kernel
theorem dX2_whose_48 : decode cX2_whose 48 = .ok (.invokevirtual 111, 3) := by decide +kernel
theorem dX2_whose_51 : decode cX2_whose 51 = .ok (.ifCond .ne 5, 3) := by decide +kernel
theorem dX2_whose_54 : decode cX2_whose 54 = .ok (.iconst 0, 1) := by decide +kernel
theorem dX2_whose_55 : decode cX2_whose 55 = .ok (.ireturn, 1) := by decide +kernel
theorem dX2_whose_56 : decode cX2_whose 56 = .ok (.iload_n 2, 1) := by decide +kernel
theorem dX2_whose_57 : decode cX2_whose 57 = .ok (.ifCond .ne 8, 3) := by decide +kernel
theorem dX2_whose_60 : decode cX2_whose 60 = .ok (.bipush 6, 2) := by decide +kernel
theorem dX2_whose_62 : decode cX2_whose 62 = .ok (.goto 5, 3) := by decide +kernel
theorem dX2_whose_65 : decode cX2_whose 65 = .ok (.bipush 10, 2) := by decide +kernel
theorem dX2_whose_67 : decode cX2_whose 67 = .ok (.istore 4, 2) := by decide +kernel
theorem dX2_whose_69 : decode cX2_whose 69 = .ok (.iconst 0, 1) := by decide +kernel
theorem dX2_whose_70 : decode cX2_whose 70 = .ok (.istore 5, 2) := by decide +kernel
theorem dX2_whose_72 : decode cX2_whose 72 = .ok (.iconst 0, 1) := by decide +kernel
theorem dX2_whose_73 : decode cX2_whose 73 = .ok (.istore 6, 2) := by decide +kernel
theorem dX2_whose_75 : decode cX2_whose 75 = .ok (.iload 6, 2) := by decide +kernel
theorem dX2_whose_77 : decode cX2_whose 77 = .ok (.iload 4, 2) := by decide +kernel
theorem dX2_whose_79 : decode cX2_whose 79 = .ok (.if_icmp .ge 97, 3) := by decide +kernel
theorem dX2_whose_82 : decode cX2_whose 82 = .ok (.aload_n 0, 1) := by decide +kernel
theorem dX2_whose_83 : decode cX2_whose 83 = .ok (.invokevirtual 67, 3) := by decide +kernel
theorem dX2_whose_86 : decode cX2_whose 86 = .ok (.iload_n 2, 1) := by decide +kernel
theorem dX2_whose_87 : decode cX2_whose 87 = .ok (.ifCond .ne 17, 3) := by decide +kernel
theorem dX2_whose_90 : decode cX2_whose 90 = .ok (.aload_n 0, 1) := by decide +kernel
theorem dX2_whose_91 : decode cX2_whose 91 = .ok (.getfield 16, 3) := by decide +kernel
theorem dX2_whose_94 : decode cX2_whose 94 = .ok (.getfield 114, 3) := by decide +kernel
theorem dX2_whose_97 : decode cX2_whose 97 = .ok (.iload_n 3, 1) := by decide +kernel
theorem dX2_whose_98 : decode cX2_whose 98 = .ok (.iload 6, 2) := by decide +kernel
theorem dX2_whose_100 : decode cX2_whose 100 = .ok (.iastore, 1) := by decide +kernel
theorem dX2_whose_101 : decode cX2_whose 101 = .ok (.goto 52, 3) := by decide +kernel
theorem dX2_whose_104 : decode cX2_whose 104 = .ok (.iload_n 2, 1) := by decide +kernel
theorem dX2_whose_105 : decode cX2_whose 105 = .ok (.iconst 1, 1) := by decide +kernel
theorem dX2_whose_106 : decode cX2_whose 106 = .ok (.if_icmp .ne 17, 3) := by decide +kernel
theorem dX2_whose_109 : decode cX2_whose 109 = .ok (.aload_n 0, 1) := by decide +kernel
theorem dX2_whose_110 : decode cX2_whose 110 = .ok (.getfield 16, 3) := by decide +kernel
theorem dX2_whose_113 : decode cX2_whose 113 = .ok (.getfield 117, 3) := by decide +kernel
theorem dX2_whose_116 : decode cX2_whose 116 = .ok (.iload_n 3, 1) := by decide +kernel
theorem dX2_whose_117 : decode cX2_whose 117 = .ok (.iload 6, 2) := by decide +kernel
theorem dX2_whose_119 : decode cX2_whose 119 = .ok (.iastore, 1) := by decide +kernel
theorem dX2_whose_120 : decode cX2_whose 120 = .ok (.goto 33, 3) := by decide +kernel
theorem dX2_whose_123 : decode cX2_whose 123 = .ok (.iload_n 2, 1) := by decide +kernel
theorem dX2_whose_124 : decode cX2_whose 124 = .ok (.iconst 2, 1) := by decide +kernel
theorem dX2_whose_125 : decode cX2_whose 125 = .ok (.if_icmp .ne 17, 3) := by decide +kernel
theorem dX2_whose_128 : decode cX2_whose 128 = .ok (.aload_n 0, 1) := by decide +kernel
theorem dX2_whose_129 : decode cX2_whose 129 = .ok (.getfield 16, 3) := by decide +kernel
theorem dX2_whose_132 : decode cX2_whose 132 = .ok (.getfield 120, 3) := by decide +kernel
theorem dX2_whose_135 : decode cX2_whose 135 = .ok (.iload_n 3, 1) := by decide +kernel
theorem dX2_whose_136 : decode cX2_whose 136 = .ok (.iload 6, 2) := by decide +kernel
theorem dX2_whose_138 : decode cX2_whose 138 = .ok (.iastore, 1) := by decide +kernel
theorem dX2_whose_139 : decode cX2_whose 139 = .ok (.goto 14, 3) := by decide +kernel
theorem dX2_whose_142 : decode cX2_whose 142 = .ok (.aload_n 0, 1) := by decide +kernel
theorem dX2_whose_143 : decode cX2_whose 143 = .ok (.getfield 16, 3) := by decide +kernel
theorem dX2_whose_146 : decode cX2_whose 146 = .ok (.getfield 138, 3) := by decide +kernel
theorem dX2_whose_149 : decode cX2_whose 149 = .ok (.iload_n 1, 1) := by decide +kernel
theorem dX2_whose_150 : decode cX2_whose 150 = .ok (.iload 6, 2) := by decide +kernel
theorem dX2_whose_152 : decode cX2_whose 152 = .ok (.iastore, 1) := by decide +kernel
theorem dX2_whose_153 : decode cX2_whose 153 = .ok (.aload_n 0, 1) := by decide +kernel
theorem dX2_whose_154 : decode cX2_whose 154 = .ok (.iload_n 1, 1) := by decide +kernel
theorem dX2_whose_155 : decode cX2_whose 155 = .ok (.invokevirtual 295, 3) := by decide +kernel
theorem dX2_whose_158 : decode cX2_whose 158 = .ok (.ifCond .ge 12, 3) := by decide +kernel
theorem dX2_whose_161 : decode cX2_whose 161 = .ok (.iload 5, 2) := by decide +kernel
theorem dX2_whose_163 : decode cX2_whose 163 = .ok (.iconst 1, 1) := by decide +kernel
theorem dX2_whose_164 : decode cX2_whose 164 = .ok (.iload 6, 2) := by decide +kernel
theorem dX2_whose_166 : decode cX2_whose 166 = .ok (.ishl, 1) := by decide +kernel
theorem dX2_whose_167 : decode cX2_whose 167 = .ok (.ior, 1) := by decide +kernel
theorem dX2_whose_168 : decode cX2_whose 168 = .ok (.istore 5, 2) := by decide +kernel
theorem dX2_whose_170 : decode cX2_whose 170 = .ok (.iinc 6 1, 3) := by decide +kernel
theorem dX2_whose_173 : decode cX2_whose 173 = .ok (.goto (-98), 3) := by decide +kernel
theorem dX2_whose_176 : decode cX2_whose 176 = .ok (.iload 5, 2) := by decide +kernel
theorem dX2_whose_178 : decode cX2_whose 178 = .ok (.ireturn, 1) := by decide +kernel
theorem dX2_nextTell_0 : decode cX2_nextTell 0 = .ok (.aload_n 0, 1) := by decide +kernel
theorem dX2_nextTell_1 : decode cX2_nextTell 1 = .ok (.getfield 12, 3) := by decide +kernel
theorem dX2_nextTell_4 : decode cX2_nextTell 4 = .ok (.iload_n 1, 1) := by decide +kernel
theorem dX2_nextTell_5 : decode cX2_nextTell 5 = .ok (.invokevirtual 135, 3) := by decide +kernel
theorem dX2_nextTell_8 : decode cX2_nextTell 8 = .ok (.ifCond .ne 9, 3) := by decide +kernel
theorem dX2_nextTell_11 : decode cX2_nextTell 11 = .ok (.aload_n 0, 1) := by decide +kernel
theorem dX2_nextTell_12 : decode cX2_nextTell 12 = .ok (.iconst (-1), 1) := by decide +kernel
theorem dX2_nextTell_13 : decode cX2_nextTell 13 = .ok (.invokevirtual 60, 3) := by decide +kernel
theorem dX2_nextTell_16 : decode cX2_nextTell 16 = .ok (.ireturn, 1) := by decide +kernel
theorem dX2_nextTell_17 : decode cX2_nextTell 17 = .ok (.iload_n 2, 1) := by decide +kernel
theorem dX2_nextTell_18 : decode cX2_nextTell 18 = .ok (.iload_n 3, 1) := by decide +kernel
theorem dX2_nextTell_19 : decode cX2_nextTell 19 = .ok (.iconst 1, 1) := by decide +kernel
theorem dX2_nextTell_20 : decode cX2_nextTell 20 = .ok (.invokestatic 199, 3) := by decide +kernel
theorem dX2_nextTell_23 : decode cX2_nextTell 23 = .ok (.istore 4, 2) := by decide +kernel
theorem dX2_nextTell_25 : decode cX2_nextTell 25 = .ok (.iload 4, 2) := by decide +kernel
theorem dX2_nextTell_27 : decode cX2_nextTell 27 = .ok (.ifCond .eq 10, 3) := by decide +kernel
theorem dX2_nextTell_30 : decode cX2_nextTell 30 = .ok (.aload_n 0, 1) := by decide +kernel
theorem dX2_nextTell_31 : decode cX2_nextTell 31 = .ok (.iload 4, 2) := by decide +kernel
theorem dX2_nextTell_33 : decode cX2_nextTell 33 = .ok (.invokevirtual 60, 3) := by decide +kernel
theorem dX2_nextTell_36 : decode cX2_nextTell 36 = .ok (.ireturn, 1) := by decide +kernel
theorem dX2_nextTell_37 : decode cX2_nextTell 37 = .ok (.aload_n 0, 1) := by decide +kernel
theorem dX2_nextTell_38 : decode cX2_nextTell 38 = .ok (.getfield 12, 3) := by decide +kernel
theorem dX2_nextTell_41 : decode cX2_nextTell 41 = .ok (.getfield 147, 3) := by decide +kernel
theorem dX2_nextTell_44 : decode cX2_nextTell 44 = .ok (.iload_n 1, 1) := by decide +kernel
theorem dX2_nextTell_45 : decode cX2_nextTell 45 = .ok (.iaload, 1) := by decide +kernel
theorem dX2_nextTell_46 : decode cX2_nextTell 46 = .ok (.istore 5, 2) := by decide +kernel
theorem dX2_nextTell_48 : decode cX2_nextTell 48 = .ok (.aload_n 0, 1) := by decide +kernel
theorem dX2_nextTell_49 : decode cX2_nextTell 49 = .ok (.getfield 12, 3) := by decide +kernel
theorem dX2_nextTell_52 : decode cX2_nextTell 52 = .ok (.iload 5, 2) := by decide +kernel
theorem dX2_nextTell_54 : decode cX2_nextTell 54 = .ok (.invokevirtual 111, 3) := by decide +kernel
theorem dX2_nextTell_57 : decode cX2_nextTell 57 = .ok (.ifCond .ne 5, 3) := by decide +kernel
theorem dX2_nextTell_60 : decode cX2_nextTell 60 = .ok (.iload_n 3, 1) := by decide +kernel
theorem dX2_nextTell_61 : decode cX2_nextTell 61 = .ok (.ireturn, 1) := by decide +kernel
theorem dX2_nextTell_62 : decode cX2_nextTell 62 = .ok (.iconst 0, 1) := by decide +kernel
theorem dX2_nextTell_63 : decode cX2_nextTell 63 = .ok (.istore 6, 2) := by decide +kernel
theorem dX2_nextTell_65 : decode cX2_nextTell 65 = .ok (.iconst 0, 1) := by decide +kernel
theorem dX2_nextTell_66 : decode cX2_nextTell 66 = .ok (.istore 7, 2) := by decide +kernel
theorem dX2_nextTell_68 : decode cX2_nextTell 68 = .ok (.iconst 0, 1) := by decide +kernel
theorem dX2_nextTell_69 : decode cX2_nextTell 69 = .ok (.istore 8, 2) := by decide +kernel
theorem dX2_nextTell_71 : decode cX2_nextTell 71 = .ok (.iload 8, 2) := by decide +kernel
theorem dX2_nextTell_73 : decode cX2_nextTell 73 = .ok (.bipush 10, 2) := by decide +kernel
theorem dX2_nextTell_75 : decode cX2_nextTell 75 = .ok (.if_icmp .ge 36, 3) := by decide +kernel
theorem dX2_nextTell_78 : decode cX2_nextTell 78 = .ok (.aload_n 0, 1) := by decide +kernel
theorem dX2_nextTell_79 : decode cX2_nextTell 79 = .ok (.iload_n 1, 1) := by decide +kernel
theorem dX2_nextTell_80 : decode cX2_nextTell 80 = .ok (.iload 5, 2) := by decide +kernel
theorem dX2_nextTell_82 : decode cX2_nextTell 82 = .ok (.iload_n 2, 1) := by decide +kernel
theorem dX2_nextTell_83 : decode cX2_nextTell 83 = .ok (.iload 8, 2) := by decide +kernel
theorem dX2_nextTell_85 : decode cX2_nextTell 85 = .ok (.invokevirtual 298, 3) := by decide +kernel
theorem dX2_nextTell_88 : decode cX2_nextTell 88 = .ok (.istore 9, 2) := by decide +kernel
theorem dX2_nextTell_90 : decode cX2_nextTell 90 = .ok (.iload 9, 2) := by decide +kernel
theorem dX2_nextTell_92 : decode cX2_nextTell 92 = .ok (.iload 7, 2) := by decide +kernel
theorem dX2_nextTell_94 : decode cX2_nextTell 94 = .ok (.if_icmp .le 11, 3) := by decide +kernel
theorem dX2_nextTell_97 : decode cX2_nextTell 97 = .ok (.iload 9, 2) := by decide +kernel
theorem dX2_nextTell_99 : decode cX2_nextTell 99 = .ok (.istore 7, 2) := by decide +kernel
theorem dX2_nextTell_101 : decode cX2_nextTell 101 = .ok (.iload 8, 2) := by decide +kernel
theorem dX2_nextTell_103 : decode cX2_nextTell 103 = .ok (.istore 6, 2) := by decide +kernel
theorem dX2_nextTell_105 : decode cX2_nextTell 105 = .ok (.iinc 8 1, 3) := by decide +kernel
theorem dX2_nextTell_108 : decode cX2_nextTell 108 = .ok (.goto (-37), 3) := by decide +kernel
theorem dX2_nextTell_111 : decode cX2_nextTell 111 = .ok (.iload_n 3, 1) := by decide +kernel
theorem dX2_nextTell_112 : decode cX2_nextTell 112 = .ok (.ifCond .ne 8, 3) := by decide +kernel
theorem dX2_nextTell_115 : decode cX2_nextTell 115 = .ok (.iload 6, 2) := by decide +kernel
theorem dX2_nextTell_117 : decode cX2_nextTell 117 = .ok (.goto 5, 3) := by decide +kernel
theorem dX2_nextTell_120 : decode cX2_nextTell 120 = .ok (.iload 7, 2) := by decide +kernel
theorem dX2_nextTell_122 : decode cX2_nextTell 122 = .ok (.ireturn, 1) := by decide +kernel
theorem dX2_placesByKinds_0 : decode cX2_placesByKinds 0 = .ok (.iconst 0, 1) := by decide +kernel
theorem dX2_placesByKinds_1 : decode cX2_placesByKinds 1 = .ok (.istore 5, 2) := by decide +kernel
theorem dX2_placesByKinds_3 : decode cX2_placesByKinds 3 = .ok (.iconst 0, 1) := by decide +kernel
theorem dX2_placesByKinds_4 : decode cX2_placesByKinds 4 = .ok (.istore 6, 2) := by decide +kernel
theorem dX2_placesByKinds_6 : decode cX2_placesByKinds 6 = .ok (.iload 6, 2) := by decide +kernel
theorem dX2_placesByKinds_8 : decode cX2_placesByKinds 8 = .ok (.bipush 6, 2) := by decide +kernel
theorem dX2_placesByKinds_10 : decode cX2_placesByKinds 10 = .ok (.if_icmp .ge 57, 3) := by decide +kernel
theorem dX2_placesByKinds_13 : decode cX2_placesByKinds 13 = .ok (.aload_n 0, 1) := by decide +kernel
theorem dX2_placesByKinds_14 : decode cX2_placesByKinds 14 = .ok (.invokevirtual 67, 3) := by decide +kernel
theorem dX2_placesByKinds_17 : decode cX2_placesByKinds 17 = .ok (.aload_n 0, 1) := by decide +kernel
theorem dX2_placesByKinds_18 : decode cX2_placesByKinds 18 = .ok (.getfield 16, 3) := by decide +kernel
theorem dX2_placesByKinds_21 : decode cX2_placesByKinds 21 = .ok (.iload 4, 2) := by decide +kernel
theorem dX2_placesByKinds_23 : decode cX2_placesByKinds 23 = .ok (.putfield 101, 3) := by decide +kernel
theorem dX2_placesByKinds_26 : decode cX2_placesByKinds 26 = .ok (.aload_n 0, 1) := by decide +kernel
theorem dX2_placesByKinds_27 : decode cX2_placesByKinds 27 = .ok (.getfield 16, 3) := by decide +kernel
theorem dX2_placesByKinds_30 : decode cX2_placesByKinds 30 = .ok (.getfield 114, 3) := by decide +kernel
theorem dX2_placesByKinds_33 : decode cX2_placesByKinds 33 = .ok (.iload_n 2, 1) := by decide +kernel
theorem dX2_placesByKinds_34 : decode cX2_placesByKinds 34 = .ok (.iload 6, 2) := by decide +kernel
theorem dX2_placesByKinds_36 : decode cX2_placesByKinds 36 = .ok (.iastore, 1) := by decide +kernel
theorem dX2_placesByKinds_37 : decode cX2_placesByKinds 37 = .ok (.aload_n 0, 1) := by decide +kernel
theorem dX2_placesByKinds_38 : decode cX2_placesByKinds 38 = .ok (.getfield 16, 3) := by decide +kernel
theorem dX2_placesByKinds_41 : decode cX2_placesByKinds 41 = .ok (.iload_n 3, 1) := by decide +kernel
theorem dX2_placesByKinds_42 : decode cX2_placesByKinds 42 = .ok (.invokevirtual 107, 3) := by decide +kernel
theorem dX2_placesByKinds_45 : decode cX2_placesByKinds 45 = .ok (.iload 5, 2) := by decide +kernel
theorem dX2_placesByKinds_47 : decode cX2_placesByKinds 47 = .ok (.iconst 1, 1) := by decide +kernel
theorem dX2_placesByKinds_48 : decode cX2_placesByKinds 48 = .ok (.aload_n 0, 1) := by decide +kernel
theorem dX2_placesByKinds_49 : decode cX2_placesByKinds 49 = .ok (.getfield 16, 3) := by decide +kernel
theorem dX2_placesByKinds_52 : decode cX2_placesByKinds 52 = .ok (.getfield 144, 3) := by decide +kernel
theorem dX2_placesByKinds_55 : decode cX2_placesByKinds 55 = .ok (.iload_n 1, 1) := by decide +kernel
theorem dX2_placesByKinds_56 : decode cX2_placesByKinds 56 = .ok (.iaload, 1) := by decide +kernel
theorem dX2_placesByKinds_57 : decode cX2_placesByKinds 57 = .ok (.ishl, 1) := by decide +kernel
theorem dX2_placesByKinds_58 : decode cX2_placesByKinds 58 = .ok (.ior, 1) := by decide +kernel
theorem dX2_placesByKinds_59 : decode cX2_placesByKinds 59 = .ok (.istore 5, 2) := by decide +kernel
theorem dX2_placesByKinds_61 : decode cX2_placesByKinds 61 = .ok (.iinc 6 1, 3) := by decide +kernel
theorem dX2_placesByKinds_64 : decode cX2_placesByKinds 64 = .ok (.goto (-58), 3) := by decide +kernel
theorem dX2_placesByKinds_67 : decode cX2_placesByKinds 67 = .ok (.iload 5, 2) := by decide +kernel
theorem dX2_placesByKinds_69 : decode cX2_placesByKinds 69 = .ok (.invokestatic 302, 3) := by decide +kernel
theorem dX2_placesByKinds_72 : decode cX2_placesByKinds 72 = .ok (.ireturn, 1) := by decide +kernel
theorem dX2_arm_0 : decode cX2_arm 0 = .ok (.aload_n 0, 1) := by decide +kernel
theorem dX2_arm_1 : decode cX2_arm 1 = .ok (.iload_n 1, 1) := by decide +kernel
theorem dX2_arm_2 : decode cX2_arm 2 = .ok (.iload_n 2, 1) := by decide +kernel
theorem dX2_arm_3 : decode cX2_arm 3 = .ok (.invokevirtual 190, 3) := by decide +kernel
theorem dX2_arm_6 : decode cX2_arm 6 = .ok (.ifCond .ne 9, 3) := by decide +kernel
theorem dX2_arm_9 : decode cX2_arm 9 = .ok (.aload_n 0, 1) := by decide +kernel
theorem dX2_arm_10 : decode cX2_arm 10 = .ok (.iconst (-1), 1) := by decide +kernel
theorem dX2_arm_11 : decode cX2_arm 11 = .ok (.invokevirtual 60, 3) := by decide +kernel
theorem dX2_arm_14 : decode cX2_arm 14 = .ok (.ireturn, 1) := by decide +kernel
theorem dX2_arm_15 : decode cX2_arm 15 = .ok (.iload_n 3, 1) := by decide +kernel
theorem dX2_arm_16 : decode cX2_arm 16 = .ok (.invokestatic 184, 3) := by decide +kernel
theorem dX2_arm_19 : decode cX2_arm 19 = .ok (.istore 4, 2) := by decide +kernel
theorem dX2_arm_21 : decode cX2_arm 21 = .ok (.iload 4, 2) := by decide +kernel
theorem dX2_arm_23 : decode cX2_arm 23 = .ok (.ifCond .eq 10, 3) := by decide +kernel
theorem dX2_arm_26 : decode cX2_arm 26 = .ok (.aload_n 0, 1) := by decide +kernel
theorem dX2_arm_27 : decode cX2_arm 27 = .ok (.iload 4, 2) := by decide +kernel
theorem dX2_arm_29 : decode cX2_arm 29 = .ok (.invokevirtual 60, 3) := by decide +kernel
theorem dX2_arm_32 : decode cX2_arm 32 = .ok (.ireturn, 1) := by decide +kernel
theorem dX2_arm_33 : decode cX2_arm 33 = .ok (.aload_n 0, 1) := by decide +kernel
theorem dX2_arm_34 : decode cX2_arm 34 = .ok (.invokevirtual 67, 3) := by decide +kernel
theorem dX2_arm_37 : decode cX2_arm 37 = .ok (.aload_n 0, 1) := by decide +kernel
theorem dX2_arm_38 : decode cX2_arm 38 = .ok (.getfield 16, 3) := by decide +kernel
theorem dX2_arm_41 : decode cX2_arm 41 = .ok (.getfield 144, 3) := by decide +kernel
theorem dX2_arm_44 : decode cX2_arm 44 = .ok (.iload_n 2, 1) := by decide +kernel
theorem dX2_arm_45 : decode cX2_arm 45 = .ok (.aload_n 0, 1) := by decide +kernel
theorem dX2_arm_46 : decode cX2_arm 46 = .ok (.getfield 16, 3) := by decide +kernel
theorem dX2_arm_49 : decode cX2_arm 49 = .ok (.getfield 144, 3) := by decide +kernel
theorem dX2_arm_52 : decode cX2_arm 52 = .ok (.iload_n 1, 1) := by decide +kernel
theorem dX2_arm_53 : decode cX2_arm 53 = .ok (.iaload, 1) := by decide +kernel
theorem dX2_arm_54 : decode cX2_arm 54 = .ok (.iastore, 1) := by decide +kernel
theorem dX2_arm_55 : decode cX2_arm 55 = .ok (.iconst 0, 1) := by decide +kernel
theorem dX2_arm_56 : decode cX2_arm 56 = .ok (.istore 5, 2) := by decide +kernel
theorem dX2_arm_58 : decode cX2_arm 58 = .ok (.iload 5, 2) := by decide +kernel
theorem dX2_arm_60 : decode cX2_arm 60 = .ok (.iload_n 3, 1) := by decide +kernel
theorem dX2_arm_61 : decode cX2_arm 61 = .ok (.if_icmp .ge 18, 3) := by decide +kernel
theorem dX2_arm_64 : decode cX2_arm 64 = .ok (.aload_n 0, 1) := by decide +kernel
theorem dX2_arm_65 : decode cX2_arm 65 = .ok (.getfield 16, 3) := by decide +kernel
theorem dX2_arm_68 : decode cX2_arm 68 = .ok (.iload_n 1, 1) := by decide +kernel
theorem dX2_arm_69 : decode cX2_arm 69 = .ok (.iload_n 2, 1) := by decide +kernel
theorem dX2_arm_70 : decode cX2_arm 70 = .ok (.invokevirtual 307, 3) := by decide +kernel
theorem dX2_arm_73 : decode cX2_arm 73 = .ok (.iinc 5 1, 3) := by decide +kernel
theorem dX2_arm_76 : decode cX2_arm 76 = .ok (.goto (-18), 3) := by decide +kernel
theorem dX2_arm_79 : decode cX2_arm 79 = .ok (.aload_n 0, 1) := by decide +kernel
theorem dX2_arm_80 : decode cX2_arm 80 = .ok (.getfield 16, 3) := by decide +kernel
theorem dX2_arm_83 : decode cX2_arm 83 = .ok (.getfield 144, 3) := by decide +kernel
theorem dX2_arm_86 : decode cX2_arm 86 = .ok (.iload_n 1, 1) := by decide +kernel
theorem dX2_arm_87 : decode cX2_arm 87 = .ok (.iaload, 1) := by decide +kernel
theorem dX2_arm_88 : decode cX2_arm 88 = .ok (.ireturn, 1) := by decide +kernel
theorem dX2_sleep_0 : decode cX2_sleep 0 = .ok (.aload_n 0, 1) := by decide +kernel
theorem dX2_sleep_1 : decode cX2_sleep 1 = .ok (.iload_n 1, 1) := by decide +kernel
theorem dX2_sleep_2 : decode cX2_sleep 2 = .ok (.iload_n 2, 1) := by decide +kernel
theorem dX2_sleep_3 : decode cX2_sleep 3 = .ok (.iload_n 3, 1) := by decide +kernel
theorem dX2_sleep_4 : decode cX2_sleep 4 = .ok (.iload 4, 2) := by decide +kernel
theorem dX2_sleep_6 : decode cX2_sleep 6 = .ok (.iload 5, 2) := by decide +kernel
theorem dX2_sleep_8 : decode cX2_sleep 8 = .ok (.invokevirtual 310, 3) := by decide +kernel
theorem dX2_sleep_11 : decode cX2_sleep 11 = .ok (.istore 6, 2) := by decide +kernel
theorem dX2_sleep_13 : decode cX2_sleep 13 = .ok (.iload 6, 2) := by decide +kernel
theorem dX2_sleep_15 : decode cX2_sleep 15 = .ok (.ifCond .eq 15, 3) := by decide +kernel
theorem dX2_sleep_18 : decode cX2_sleep 18 = .ok (.ldc2_w 314, 3) := by decide +kernel
theorem dX2_sleep_21 : decode cX2_sleep 21 = .ok (.aload_n 0, 1) := by decide +kernel
theorem dX2_sleep_22 : decode cX2_sleep 22 = .ok (.iload 6, 2) := by decide +kernel
theorem dX2_sleep_24 : decode cX2_sleep 24 = .ok (.invokevirtual 60, 3) := by decide +kernel
theorem dX2_sleep_27 : decode cX2_sleep 27 = .ok (.i2l, 1) := by decide +kernel
theorem dX2_sleep_28 : decode cX2_sleep 28 = .ok (.lsub, 1) := by decide +kernel
theorem dX2_sleep_29 : decode cX2_sleep 29 = .ok (.lreturn, 1) := by decide +kernel
theorem dX2_sleep_30 : decode cX2_sleep 30 = .ok (.lconst 1, 1) := by decide +kernel
theorem dX2_sleep_31 : decode cX2_sleep 31 = .ok (.lstore 7, 2) := by decide +kernel
theorem dX2_sleep_33 : decode cX2_sleep 33 = .ok (.iconst 0, 1) := by decide +kernel
theorem dX2_sleep_34 : decode cX2_sleep 34 = .ok (.istore 9, 2) := by decide +kernel
theorem dX2_sleep_36 : decode cX2_sleep 36 = .ok (.iload 9, 2) := by decide +kernel
theorem dX2_sleep_38 : decode cX2_sleep 38 = .ok (.iload_n 3, 1) := by decide +kernel
theorem dX2_sleep_39 : decode cX2_sleep 39 = .ok (.if_icmp .ge 17, 3) := by decide +kernel
theorem dX2_sleep_42 : decode cX2_sleep 42 = .ok (.lload 7, 2) := by decide +kernel
theorem dX2_sleep_44 : decode cX2_sleep 44 = .ok (.iload 4, 2) := by decide +kernel
theorem dX2_sleep_46 : decode cX2_sleep 46 = .ok (.i2l, 1) := by decide +kernel
theorem dX2_sleep_47 : decode cX2_sleep 47 = .ok (.lmul, 1) := by decide +kernel
theorem dX2_sleep_48 : decode cX2_sleep 48 = .ok (.lstore 7, 2) := by decide +kernel
theorem dX2_sleep_50 : decode cX2_sleep 50 = .ok (.iinc 9 1, 3) := by decide +kernel
theorem dX2_sleep_53 : decode cX2_sleep 53 = .ok (.goto (-17), 3) := by decide +kernel
theorem dX2_sleep_56 : decode cX2_sleep 56 = .ok (.lconst 0, 1) := by decide +kernel
theorem dX2_sleep_57 : decode cX2_sleep 57 = .ok (.lstore 9, 2) := by decide +kernel
theorem dX2_sleep_59 : decode cX2_sleep 59 = .ok (.iconst 0, 1) := by decide +kernel
theorem dX2_sleep_60 : decode cX2_sleep 60 = .ok (.istore 11, 2) := by decide +kernel
theorem dX2_sleep_62 : decode cX2_sleep 62 = .ok (.iload 11, 2) := by decide +kernel
theorem dX2_sleep_64 : decode cX2_sleep 64 = .ok (.iconst 1, 1) := by decide +kernel
theorem dX2_sleep_65 : decode cX2_sleep 65 = .ok (.iload_n 3, 1) := by decide +kernel
theorem dX2_sleep_66 : decode cX2_sleep 66 = .ok (.ishl, 1) := by decide +kernel
theorem dX2_sleep_67 : decode cX2_sleep 67 = .ok (.if_icmp .ge 41, 3) := by decide +kernel
theorem dX2_sleep_70 : decode cX2_sleep 70 = .ok (.aload_n 0, 1) := by decide +kernel
theorem dX2_sleep_71 : decode cX2_sleep 71 = .ok (.iload_n 1, 1) := by decide +kernel
theorem dX2_sleep_72 : decode cX2_sleep 72 = .ok (.iload_n 3, 1) := by decide +kernel
theorem dX2_sleep_73 : decode cX2_sleep 73 = .ok (.iload 4, 2) := by decide +kernel
theorem dX2_sleep_75 : decode cX2_sleep 75 = .ok (.iload 11, 2) := by decide +kernel
theorem dX2_sleep_77 : decode cX2_sleep 77 = .ok (.invokevirtual 316, 3) := by decide +kernel
theorem dX2_sleep_80 : decode cX2_sleep 80 = .ok (.lstore 12, 2) := by decide +kernel
theorem dX2_sleep_82 : decode cX2_sleep 82 = .ok (.aload_n 0, 1) := by decide +kernel
theorem dX2_sleep_83 : decode cX2_sleep 83 = .ok (.getfield 16, 3) := by decide +kernel
theorem dX2_sleep_86 : decode cX2_sleep 86 = .ok (.getfield 144, 3) := by decide +kernel
theorem dX2_sleep_89 : decode cX2_sleep 89 = .ok (.iload_n 1, 1) := by decide +kernel
theorem dX2_sleep_90 : decode cX2_sleep 90 = .ok (.iaload, 1) := by decide +kernel
theorem dX2_sleep_91 : decode cX2_sleep 91 = .ok (.iload_n 2, 1) := by decide +kernel
theorem dX2_sleep_92 : decode cX2_sleep 92 = .ok (.if_icmp .ne 10, 3) := by decide +kernel
theorem dX2_sleep_95 : decode cX2_sleep 95 = .ok (.lload 9, 2) := by decide +kernel
theorem dX2_sleep_97 : decode cX2_sleep 97 = .ok (.lload 12, 2) := by decide +kernel
theorem dX2_sleep_99 : decode cX2_sleep 99 = .ok (.ladd, 1) := by decide +kernel
theorem dX2_sleep_100 : decode cX2_sleep 100 = .ok (.lstore 9, 2) := by decide +kernel
theorem dX2_sleep_102 : decode cX2_sleep 102 = .ok (.iinc 11 1, 3) := by decide +kernel
theorem dX2_sleep_105 : decode cX2_sleep 105 = .ok (.goto (-43), 3) := by decide +kernel
theorem dX2_sleep_108 : decode cX2_sleep 108 = .ok (.lload 9, 2) := by decide +kernel
theorem dX2_sleep_110 : decode cX2_sleep 110 = .ok (.lload 7, 2) := by decide +kernel
theorem dX2_sleep_112 : decode cX2_sleep 112 = .ok (.invokestatic 320, 3) := by decide +kernel
theorem dX2_sleep_115 : decode cX2_sleep 115 = .ok (.lstore 11, 2) := by decide +kernel
theorem dX2_sleep_117 : decode cX2_sleep 117 = .ok (.lload 11, 2) := by decide +kernel
theorem dX2_sleep_119 : decode cX2_sleep 119 = .ok (.lconst 1, 1) := by decide +kernel
theorem dX2_sleep_120 : decode cX2_sleep 120 = .ok (.lcmp, 1) := by decide +kernel
theorem dX2_sleep_121 : decode cX2_sleep 121 = .ok (.ifCond .ge 7, 3) := by decide +kernel
theorem dX2_sleep_124 : decode cX2_sleep 124 = .ok (.ldc2_w 324, 3) := by decide +kernel
theorem dX2_sleep_127 : decode cX2_sleep 127 = .ok (.lreturn, 1) := by decide +kernel
theorem dX2_sleep_128 : decode cX2_sleep 128 = .ok (.iload 5, 2) := by decide +kernel
theorem dX2_sleep_130 : decode cX2_sleep 130 = .ok (.ifCond .ne 11, 3) := by decide +kernel
theorem dX2_sleep_133 : decode cX2_sleep 133 = .ok (.lload 9, 2) := by decide +kernel
theorem dX2_sleep_135 : decode cX2_sleep 135 = .ok (.lload 11, 2) := by decide +kernel
theorem dX2_sleep_137 : decode cX2_sleep 137 = .ok (.ldiv, 1) := by decide +kernel
theorem dX2_sleep_138 : decode cX2_sleep 138 = .ok (.goto 8, 3) := by decide +kernel
theorem dX2_sleep_141 : decode cX2_sleep 141 = .ok (.lload 7, 2) := by decide +kernel
theorem dX2_sleep_143 : decode cX2_sleep 143 = .ok (.lload 11, 2) := by decide +kernel
theorem dX2_sleep_145 : decode cX2_sleep 145 = .ok (.ldiv, 1) := by decide +kernel
theorem dX2_sleep_146 : decode cX2_sleep 146 = .ok (.lreturn, 1) := by decide +kernel
theorem dX2_wrongSleep_0 : decode cX2_wrongSleep 0 = .ok (.aload_n 0, 1) := by decide +kernel
theorem dX2_wrongSleep_1 : decode cX2_wrongSleep 1 = .ok (.getfield 12, 3) := by decide +kernel
theorem dX2_wrongSleep_4 : decode cX2_wrongSleep 4 = .ok (.iload_n 1, 1) := by decide +kernel
theorem dX2_wrongSleep_5 : decode cX2_wrongSleep 5 = .ok (.invokevirtual 135, 3) := by decide +kernel
theorem dX2_wrongSleep_8 : decode cX2_wrongSleep 8 = .ok (.ifCond .eq 10, 3) := by decide +kernel
theorem dX2_wrongSleep_11 : decode cX2_wrongSleep 11 = .ok (.iload_n 2, 1) := by decide +kernel
theorem dX2_wrongSleep_12 : decode cX2_wrongSleep 12 = .ok (.invokestatic 175, 3) := by decide +kernel
theorem dX2_wrongSleep_15 : decode cX2_wrongSleep 15 = .ok (.ifCond .ne 5, 3) := by decide +kernel
theorem dX2_wrongSleep_18 : decode cX2_wrongSleep 18 = .ok (.iconst (-1), 1) := by decide +kernel
theorem dX2_wrongSleep_19 : decode cX2_wrongSleep 19 = .ok (.ireturn, 1) := by decide +kernel
theorem dX2_wrongSleep_20 : decode cX2_wrongSleep 20 = .ok (.iload_n 3, 1) := by decide +kernel
theorem dX2_wrongSleep_21 : decode cX2_wrongSleep 21 = .ok (.ifCond .lt 9, 3) := by decide +kernel
theorem dX2_wrongSleep_24 : decode cX2_wrongSleep 24 = .ok (.iload 4, 2) := by decide +kernel
theorem dX2_wrongSleep_26 : decode cX2_wrongSleep 26 = .ok (.iconst 2, 1) := by decide +kernel
theorem dX2_wrongSleep_27 : decode cX2_wrongSleep 27 = .ok (.if_icmp .ge 6, 3) := by decide +kernel
theorem dX2_wrongSleep_30 : decode cX2_wrongSleep 30 = .ok (.bipush (-4), 2) := by decide +kernel
theorem dX2_wrongSleep_32 : decode cX2_wrongSleep 32 = .ok (.ireturn, 1) := by decide +kernel
theorem dX2_wrongSleep_33 : decode cX2_wrongSleep 33 = .ok (.iload_n 3, 1) := by decide +kernel
theorem dX2_wrongSleep_34 : decode cX2_wrongSleep 34 = .ok (.bipush 8, 2) := by decide +kernel
theorem dX2_wrongSleep_36 : decode cX2_wrongSleep 36 = .ok (.if_icmp .gt 10, 3) := by decide +kernel
theorem dX2_wrongSleep_39 : decode cX2_wrongSleep 39 = .ok (.iload 4, 2) := by decide +kernel
theorem dX2_wrongSleep_41 : decode cX2_wrongSleep 41 = .ok (.bipush 20, 2) := by decide +kernel
theorem dX2_wrongSleep_43 : decode cX2_wrongSleep 43 = .ok (.if_icmp .le 6, 3) := by decide +kernel
theorem dX2_wrongSleep_46 : decode cX2_wrongSleep 46 = .ok (.bipush (-6), 2) := by decide +kernel
theorem dX2_wrongSleep_48 : decode cX2_wrongSleep 48 = .ok (.ireturn, 1) := by decide +kernel
theorem dX2_wrongSleep_49 : decode cX2_wrongSleep 49 = .ok (.iload 5, 2) := by decide +kernel
theorem dX2_wrongSleep_51 : decode cX2_wrongSleep 51 = .ok (.ifCond .lt 9, 3) := by decide +kernel
theorem dX2_wrongSleep_54 : decode cX2_wrongSleep 54 = .ok (.iload 5, 2) := by decide +kernel
theorem dX2_wrongSleep_56 : decode cX2_wrongSleep 56 = .ok (.iconst 1, 1) := by decide +kernel
theorem dX2_wrongSleep_57 : decode cX2_wrongSleep 57 = .ok (.if_icmp .le 8, 3) := by decide +kernel
theorem dX2_wrongSleep_60 : decode cX2_wrongSleep 60 = .ok (.bipush (-2), 2) := by decide +kernel
theorem dX2_wrongSleep_62 : decode cX2_wrongSleep 62 = .ok (.goto 4, 3) := by decide +kernel
theorem dX2_wrongSleep_65 : decode cX2_wrongSleep 65 = .ok (.iconst 0, 1) := by decide +kernel
theorem dX2_wrongSleep_66 : decode cX2_wrongSleep 66 = .ok (.ireturn, 1) := by decide +kernel
theorem dX2_walkAsleep_0 : decode cX2_walkAsleep 0 = .ok (.aload_n 0, 1) := by decide +kernel
theorem dX2_walkAsleep_1 : decode cX2_walkAsleep 1 = .ok (.invokevirtual 67, 3) := by decide +kernel
theorem dX2_walkAsleep_4 : decode cX2_walkAsleep 4 = .ok (.lconst 1, 1) := by decide +kernel
theorem dX2_walkAsleep_5 : decode cX2_walkAsleep 5 = .ok (.lstore 5, 2) := by decide +kernel
theorem dX2_walkAsleep_7 : decode cX2_walkAsleep 7 = .ok (.iconst 0, 1) := by decide +kernel
theorem dX2_walkAsleep_8 : decode cX2_walkAsleep 8 = .ok (.istore 7, 2) := by decide +kernel
theorem dX2_walkAsleep_10 : decode cX2_walkAsleep 10 = .ok (.iload 7, 2) := by decide +kernel
theorem dX2_walkAsleep_12 : decode cX2_walkAsleep 12 = .ok (.iload_n 2, 1) := by decide +kernel
theorem dX2_walkAsleep_13 : decode cX2_walkAsleep 13 = .ok (.if_icmp .ge 71, 3) := by decide +kernel
theorem dX2_walkAsleep_16 : decode cX2_walkAsleep 16 = .ok (.iload 4, 2) := by decide +kernel
theorem dX2_walkAsleep_18 : decode cX2_walkAsleep 18 = .ok (.iload 7, 2) := by decide +kernel
theorem dX2_walkAsleep_20 : decode cX2_walkAsleep 20 = .ok (.ishr, 1) := by decide +kernel
theorem dX2_walkAsleep_21 : decode cX2_walkAsleep 21 = .ok (.iconst 1, 1) := by decide +kernel
theorem dX2_walkAsleep_22 : decode cX2_walkAsleep 22 = .ok (.iand, 1) := by decide +kernel
theorem dX2_walkAsleep_23 : decode cX2_walkAsleep 23 = .ok (.iconst 1, 1) := by decide +kernel
theorem dX2_walkAsleep_24 : decode cX2_walkAsleep 24 = .ok (.if_icmp .ne 7, 3) := by decide +kernel
theorem dX2_walkAsleep_27 : decode cX2_walkAsleep 27 = .ok (.iconst 1, 1) := by decide +kernel
theorem dX2_walkAsleep_28 : decode cX2_walkAsleep 28 = .ok (.goto 4, 3) := by decide +kernel
theorem dX2_walkAsleep_31 : decode cX2_walkAsleep 31 = .ok (.iconst 0, 1) := by decide +kernel
theorem dX2_walkAsleep_32 : decode cX2_walkAsleep 32 = .ok (.istore 8, 2) := by decide +kernel
theorem dX2_walkAsleep_34 : decode cX2_walkAsleep 34 = .ok (.aload_n 0, 1) := by decide +kernel
theorem dX2_walkAsleep_35 : decode cX2_walkAsleep 35 = .ok (.getfield 16, 3) := by decide +kernel
theorem dX2_walkAsleep_38 : decode cX2_walkAsleep 38 = .ok (.iload 8, 2) := by decide +kernel
theorem dX2_walkAsleep_40 : decode cX2_walkAsleep 40 = .ok (.ifCond .eq 7, 3) := by decide +kernel
theorem dX2_walkAsleep_43 : decode cX2_walkAsleep 43 = .ok (.iload_n 1, 1) := by decide +kernel
theorem dX2_walkAsleep_44 : decode cX2_walkAsleep 44 = .ok (.goto 5, 3) := by decide +kernel
theorem dX2_walkAsleep_47 : decode cX2_walkAsleep 47 = .ok (.bipush (-9), 2) := by decide +kernel
theorem dX2_walkAsleep_49 : decode cX2_walkAsleep 49 = .ok (.putfield 326, 3) := by decide +kernel
theorem dX2_walkAsleep_52 : decode cX2_walkAsleep 52 = .ok (.lload 5, 2) := by decide +kernel
theorem dX2_walkAsleep_54 : decode cX2_walkAsleep 54 = .ok (.iload 8, 2) := by decide +kernel
theorem dX2_walkAsleep_56 : decode cX2_walkAsleep 56 = .ok (.ifCond .eq 7, 3) := by decide +kernel
theorem dX2_walkAsleep_59 : decode cX2_walkAsleep 59 = .ok (.lconst 1, 1) := by decide +kernel
theorem dX2_walkAsleep_60 : decode cX2_walkAsleep 60 = .ok (.goto 7, 3) := by decide +kernel
theorem dX2_walkAsleep_63 : decode cX2_walkAsleep 63 = .ok (.iload_n 3, 1) := by decide +kernel
theorem dX2_walkAsleep_64 : decode cX2_walkAsleep 64 = .ok (.iconst 1, 1) := by decide +kernel
theorem dX2_walkAsleep_65 : decode cX2_walkAsleep 65 = .ok (.isub, 1) := by decide +kernel
theorem dX2_walkAsleep_66 : decode cX2_walkAsleep 66 = .ok (.i2l, 1) := by decide +kernel
theorem dX2_walkAsleep_67 : decode cX2_walkAsleep 67 = .ok (.lmul, 1) := by decide +kernel
theorem dX2_walkAsleep_68 : decode cX2_walkAsleep 68 = .ok (.lstore 5, 2) := by decide +kernel
theorem dX2_walkAsleep_70 : decode cX2_walkAsleep 70 = .ok (.aload_n 0, 1) := by decide +kernel
theorem dX2_walkAsleep_71 : decode cX2_walkAsleep 71 = .ok (.getfield 16, 3) := by decide +kernel
theorem dX2_walkAsleep_74 : decode cX2_walkAsleep 74 = .ok (.iconst 1, 1) := by decide +kernel
theorem dX2_walkAsleep_75 : decode cX2_walkAsleep 75 = .ok (.invokevirtual 107, 3) := by decide +kernel
theorem dX2_walkAsleep_78 : decode cX2_walkAsleep 78 = .ok (.iinc 7 1, 3) := by decide +kernel
theorem dX2_walkAsleep_81 : decode cX2_walkAsleep 81 = .ok (.goto (-71), 3) := by decide +kernel
theorem dX2_walkAsleep_84 : decode cX2_walkAsleep 84 = .ok (.lload 5, 2) := by decide +kernel
theorem dX2_walkAsleep_86 : decode cX2_walkAsleep 86 = .ok (.lreturn, 1) := by decide +kernel
theorem dX2_commonDivisor_0 : decode cX2_commonDivisor 0 = .ok (.lload_n 0, 1) := by decide +kernel
theorem dX2_commonDivisor_1 : decode cX2_commonDivisor 1 = .ok (.lstore 4, 2) := by decide +kernel
theorem dX2_commonDivisor_3 : decode cX2_commonDivisor 3 = .ok (.lload_n 2, 1) := by decide +kernel
theorem dX2_commonDivisor_4 : decode cX2_commonDivisor 4 = .ok (.lstore 6, 2) := by decide +kernel
theorem dX2_commonDivisor_6 : decode cX2_commonDivisor 6 = .ok (.iconst 0, 1) := by decide +kernel
theorem dX2_commonDivisor_7 : decode cX2_commonDivisor 7 = .ok (.istore 8, 2) := by decide +kernel
theorem dX2_commonDivisor_9 : decode cX2_commonDivisor 9 = .ok (.iload 8, 2) := by decide +kernel
theorem dX2_commonDivisor_11 : decode cX2_commonDivisor 11 = .ok (.bipush 100, 2) := by decide +kernel
theorem dX2_commonDivisor_13 : decode cX2_commonDivisor 13 = .ok (.if_icmp .ge 31, 3) := by decide +kernel
theorem dX2_commonDivisor_16 : decode cX2_commonDivisor 16 = .ok (.lload 6, 2) := by decide +kernel
theorem dX2_commonDivisor_18 : decode cX2_commonDivisor 18 = .ok (.lconst 0, 1) := by decide +kernel
theorem dX2_commonDivisor_19 : decode cX2_commonDivisor 19 = .ok (.lcmp, 1) := by decide +kernel
theorem dX2_commonDivisor_20 : decode cX2_commonDivisor 20 = .ok (.ifCond .eq 24, 3) := by decide +kernel
theorem dX2_commonDivisor_23 : decode cX2_commonDivisor 23 = .ok (.lload 4, 2) := by decide +kernel
theorem dX2_commonDivisor_25 : decode cX2_commonDivisor 25 = .ok (.lload 6, 2) := by decide +kernel
theorem dX2_commonDivisor_27 : decode cX2_commonDivisor 27 = .ok (.lrem, 1) := by decide +kernel
theorem dX2_commonDivisor_28 : decode cX2_commonDivisor 28 = .ok (.lstore 9, 2) := by decide +kernel
theorem dX2_commonDivisor_30 : decode cX2_commonDivisor 30 = .ok (.lload 6, 2) := by decide +kernel
theorem dX2_commonDivisor_32 : decode cX2_commonDivisor 32 = .ok (.lstore 4, 2) := by decide +kernel
theorem dX2_commonDivisor_34 : decode cX2_commonDivisor 34 = .ok (.lload 9, 2) := by decide +kernel
theorem dX2_commonDivisor_36 : decode cX2_commonDivisor 36 = .ok (.lstore 6, 2) := by decide +kernel
theorem dX2_commonDivisor_38 : decode cX2_commonDivisor 38 = .ok (.iinc 8 1, 3) := by decide +kernel
theorem dX2_commonDivisor_41 : decode cX2_commonDivisor 41 = .ok (.goto (-32), 3) := by decide +kernel
theorem dX2_commonDivisor_44 : decode cX2_commonDivisor 44 = .ok (.lload 4, 2) := by decide +kernel
theorem dX2_commonDivisor_46 : decode cX2_commonDivisor 46 = .ok (.lreturn, 1) := by decide +kernel
theorem dX2_refuse_0 : decode cX2_refuse 0 = .ok (.iload_n 1, 1) := by decide +kernel
theorem dX2_refuse_1 : decode cX2_refuse 1 = .ok (.ineg, 1) := by decide +kernel
theorem dX2_refuse_2 : decode cX2_refuse 2 = .ok (.ifCond .le 21, 3) := by decide +kernel
theorem dX2_refuse_5 : decode cX2_refuse 5 = .ok (.iload_n 1, 1) := by decide +kernel
theorem dX2_refuse_6 : decode cX2_refuse 6 = .ok (.ineg, 1) := by decide +kernel
theorem dX2_refuse_7 : decode cX2_refuse 7 = .ok (.bipush 7, 2) := by decide +kernel
theorem dX2_refuse_9 : decode cX2_refuse 9 = .ok (.if_icmp .ge 14, 3) := by decide +kernel
theorem dX2_refuse_12 : decode cX2_refuse 12 = .ok (.aload_n 0, 1) := by decide +kernel
theorem dX2_refuse_13 : decode cX2_refuse 13 = .ok (.getfield 47, 3) := by decide +kernel
theorem dX2_refuse_16 : decode cX2_refuse 16 = .ok (.iload_n 1, 1) := by decide +kernel
theorem dX2_refuse_17 : decode cX2_refuse 17 = .ok (.ineg, 1) := by decide +kernel
theorem dX2_refuse_18 : decode cX2_refuse 18 = .ok (.dup2, 1) := by decide +kernel
theorem dX2_refuse_19 : decode cX2_refuse 19 = .ok (.iaload, 1) := by decide +kernel
theorem dX2_refuse_20 : decode cX2_refuse 20 = .ok (.iconst 1, 1) := by decide +kernel
theorem dX2_refuse_21 : decode cX2_refuse 21 = .ok (.iadd, 1) := by decide +kernel
theorem dX2_refuse_22 : decode cX2_refuse 22 = .ok (.iastore, 1) := by decide +kernel
theorem dX2_refuse_23 : decode cX2_refuse 23 = .ok (.iload_n 1, 1) := by decide +kernel
theorem dX2_refuse_24 : decode cX2_refuse 24 = .ok (.ireturn, 1) := by decide +kernel
theorem dX2_wrongHours_0 : decode cX2_wrongHours 0 = .ok (.iload_n 0, 1) := by decide +kernel
theorem dX2_wrongHours_1 : decode cX2_wrongHours 1 = .ok (.ifCond .ge 6, 3) := by decide +kernel
theorem dX2_wrongHours_4 : decode cX2_wrongHours 4 = .ok (.bipush (-4), 2) := by decide +kernel
theorem dX2_wrongHours_6 : decode cX2_wrongHours 6 = .ok (.ireturn, 1) := by decide +kernel
theorem dX2_wrongHours_7 : decode cX2_wrongHours 7 = .ok (.iload_n 0, 1) := by decide +kernel
theorem dX2_wrongHours_8 : decode cX2_wrongHours 8 = .ok (.bipush 60, 2) := by decide +kernel
theorem dX2_wrongHours_10 : decode cX2_wrongHours 10 = .ok (.if_icmp .le 8, 3) := by decide +kernel
theorem dX2_wrongHours_13 : decode cX2_wrongHours 13 = .ok (.bipush (-6), 2) := by decide +kernel
theorem dX2_wrongHours_15 : decode cX2_wrongHours 15 = .ok (.goto 4, 3) := by decide +kernel
theorem dX2_wrongHours_18 : decode cX2_wrongHours 18 = .ok (.iconst 0, 1) := by decide +kernel
theorem dX2_wrongHours_19 : decode cX2_wrongHours 19 = .ok (.ireturn, 1) := by decide +kernel
theorem dX2_wrongHoursOrWhat_0 : decode cX2_wrongHoursOrWhat 0 = .ok (.iload_n 0, 1) := by decide +kernel
theorem dX2_wrongHoursOrWhat_1 : decode cX2_wrongHoursOrWhat 1 = .ok (.invokestatic 184, 3) := by decide +kernel
theorem dX2_wrongHoursOrWhat_4 : decode cX2_wrongHoursOrWhat 4 = .ok (.istore_n 3, 1) := by decide +kernel
theorem dX2_wrongHoursOrWhat_5 : decode cX2_wrongHoursOrWhat 5 = .ok (.iload_n 3, 1) := by decide +kernel
theorem dX2_wrongHoursOrWhat_6 : decode cX2_wrongHoursOrWhat 6 = .ok (.ifCond .eq 5, 3) := by decide +kernel
theorem dX2_wrongHoursOrWhat_9 : decode cX2_wrongHoursOrWhat 9 = .ok (.iload_n 3, 1) := by decide +kernel
theorem dX2_wrongHoursOrWhat_10 : decode cX2_wrongHoursOrWhat 10 = .ok (.ireturn, 1) := by decide +kernel
theorem dX2_wrongHoursOrWhat_11 : decode cX2_wrongHoursOrWhat 11 = .ok (.iload_n 1, 1) := by decide +kernel
theorem dX2_wrongHoursOrWhat_12 : decode cX2_wrongHoursOrWhat 12 = .ok (.ifCond .lt 8, 3) := by decide +kernel
theorem dX2_wrongHoursOrWhat_15 : decode cX2_wrongHoursOrWhat 15 = .ok (.iload_n 1, 1) := by decide +kernel
theorem dX2_wrongHoursOrWhat_16 : decode cX2_wrongHoursOrWhat 16 = .ok (.iload_n 2, 1) := by decide +kernel
theorem dX2_wrongHoursOrWhat_17 : decode cX2_wrongHoursOrWhat 17 = .ok (.if_icmp .le 8, 3) := by decide +kernel
theorem dX2_wrongHoursOrWhat_20 : decode cX2_wrongHoursOrWhat 20 = .ok (.bipush (-2), 2) := by decide +kernel
theorem dX2_wrongHoursOrWhat_22 : decode cX2_wrongHoursOrWhat 22 = .ok (.goto 4, 3) := by decide +kernel
theorem dX2_wrongHoursOrWhat_25 : decode cX2_wrongHoursOrWhat 25 = .ok (.iconst 0, 1) := by decide +kernel
theorem dX2_wrongHoursOrWhat_26 : decode cX2_wrongHoursOrWhat 26 = .ok (.ireturn, 1) := by decide +kernel
theorem dX2_areTwo_0 : decode cX2_areTwo 0 = .ok (.aload_n 0, 1) := by decide +kernel
theorem dX2_areTwo_1 : decode cX2_areTwo 1 = .ok (.getfield 12, 3) := by decide +kernel
theorem dX2_areTwo_4 : decode cX2_areTwo 4 = .ok (.iload_n 1, 1) := by decide +kernel
theorem dX2_areTwo_5 : decode cX2_areTwo 5 = .ok (.invokevirtual 135, 3) := by decide +kernel
theorem dX2_areTwo_8 : decode cX2_areTwo 8 = .ok (.ifCond .eq 23, 3) := by decide +kernel
theorem dX2_areTwo_11 : decode cX2_areTwo 11 = .ok (.aload_n 0, 1) := by decide +kernel
theorem dX2_areTwo_12 : decode cX2_areTwo 12 = .ok (.getfield 12, 3) := by decide +kernel
theorem dX2_areTwo_15 : decode cX2_areTwo 15 = .ok (.iload_n 2, 1) := by decide +kernel
theorem dX2_areTwo_16 : decode cX2_areTwo 16 = .ok (.invokevirtual 135, 3) := by decide +kernel
theorem dX2_areTwo_19 : decode cX2_areTwo 19 = .ok (.ifCond .eq 12, 3) := by decide +kernel
theorem dX2_areTwo_22 : decode cX2_areTwo 22 = .ok (.iload_n 1, 1) := by decide +kernel
theorem dX2_areTwo_23 : decode cX2_areTwo 23 = .ok (.iload_n 2, 1) := by decide +kernel
theorem dX2_areTwo_24 : decode cX2_areTwo 24 = .ok (.if_icmp .eq 7, 3) := by decide +kernel
theorem dX2_areTwo_27 : decode cX2_areTwo 27 = .ok (.iconst 1, 1) := by decide +kernel
theorem dX2_areTwo_28 : decode cX2_areTwo 28 = .ok (.goto 4, 3) := by decide +kernel
theorem dX2_areTwo_31 : decode cX2_areTwo 31 = .ok (.iconst 0, 1) := by decide +kernel
theorem dX2_areTwo_32 : decode cX2_areTwo 32 = .ok (.ireturn, 1) := by decide +kernel
theorem dX2_isPlace_0 : decode cX2_isPlace 0 = .ok (.iload_n 0, 1) := by decide +kernel
theorem dX2_isPlace_1 : decode cX2_isPlace 1 = .ok (.ifCond .lt 13, 3) := by decide +kernel
theorem dX2_isPlace_4 : decode cX2_isPlace 4 = .ok (.iload_n 0, 1) := by decide +kernel
theorem dX2_isPlace_5 : decode cX2_isPlace 5 = .ok (.bipush 10, 2) := by decide +kernel
theorem dX2_isPlace_7 : decode cX2_isPlace 7 = .ok (.if_icmp .ge 7, 3) := by decide +kernel
theorem dX2_isPlace_10 : decode cX2_isPlace 10 = .ok (.iconst 1, 1) := by decide +kernel
theorem dX2_isPlace_11 : decode cX2_isPlace 11 = .ok (.goto 4, 3) := by decide +kernel
theorem dX2_isPlace_14 : decode cX2_isPlace 14 = .ok (.iconst 0, 1) := by decide +kernel
theorem dX2_isPlace_15 : decode cX2_isPlace 15 = .ok (.ireturn, 1) := by decide +kernel
theorem dX2_orNone_0 : decode cX2_orNone 0 = .ok (.iload_n 0, 1) := by decide +kernel
theorem dX2_orNone_1 : decode cX2_orNone 1 = .ok (.bipush 60, 2) := by decide +kernel
theorem dX2_orNone_3 : decode cX2_orNone 3 = .ok (.if_icmp .le 8, 3) := by decide +kernel
theorem dX2_orNone_6 : decode cX2_orNone 6 = .ok (.bipush (-9), 2) := by decide +kernel
theorem dX2_orNone_8 : decode cX2_orNone 8 = .ok (.goto 4, 3) := by decide +kernel
theorem dX2_orNone_11 : decode cX2_orNone 11 = .ok (.iload_n 0, 1) := by decide +kernel
theorem dX2_orNone_12 : decode cX2_orNone 12 = .ok (.ireturn, 1) := by decide +kernel
theorem dX2_placesApart_0 : decode cX2_placesApart 0 = .ok (.iload_n 1, 1) := by decide +kernel
theorem dX2_placesApart_1 : decode cX2_placesApart 1 = .ok (.iload_n 0, 1) := by decide +kernel
theorem dX2_placesApart_2 : decode cX2_placesApart 2 = .ok (.isub, 1) := by decide +kernel
theorem dX2_placesApart_3 : decode cX2_placesApart 3 = .ok (.bipush 10, 2) := by decide +kernel
theorem dX2_placesApart_5 : decode cX2_placesApart 5 = .ok (.invokestatic 329, 3) := by decide +kernel
theorem dX2_placesApart_8 : decode cX2_placesApart 8 = .ok (.istore_n 2, 1) := by decide +kernel
theorem dX2_placesApart_9 : decode cX2_placesApart 9 = .ok (.iload_n 2, 1) := by decide +kernel
theorem dX2_placesApart_10 : decode cX2_placesApart 10 = .ok (.bipush 10, 2) := by decide +kernel
theorem dX2_placesApart_12 : decode cX2_placesApart 12 = .ok (.iload_n 2, 1) := by decide +kernel
theorem dX2_placesApart_13 : decode cX2_placesApart 13 = .ok (.isub, 1) := by decide +kernel
theorem dX2_placesApart_14 : decode cX2_placesApart 14 = .ok (.invokestatic 263, 3) := by decide +kernel
theorem dX2_placesApart_17 : decode cX2_placesApart 17 = .ok (.ireturn, 1) := by decide +kernel
theorem dX2_think_0 : decode cX2_think 0 = .ok (.aload_n 0, 1) := by decide +kernel
theorem dX2_think_1 : decode cX2_think 1 = .ok (.getfield 16, 3) := by decide +kernel
theorem dX2_think_4 : decode cX2_think 4 = .ok (.aload_n 0, 1) := by decide +kernel
theorem dX2_think_5 : decode cX2_think 5 = .ok (.getfield 12, 3) := by decide +kernel
theorem dX2_think_8 : decode cX2_think 8 = .ok (.invokevirtual 74, 3) := by decide +kernel
theorem dX2_think_11 : decode cX2_think 11 = .ok (.return_, 1) := by decide +kernel
theorem dX2_firstAt_0 : decode cX2_firstAt 0 = .ok (.iconst 0, 1) := by decide +kernel
theorem dX2_firstAt_1 : decode cX2_firstAt 1 = .ok (.istore 4, 2) := by decide +kernel
theorem dX2_firstAt_3 : decode cX2_firstAt 3 = .ok (.iload 4, 2) := by decide +kernel
theorem dX2_firstAt_5 : decode cX2_firstAt 5 = .ok (.iload_n 3, 1) := by decide +kernel
theorem dX2_firstAt_6 : decode cX2_firstAt 6 = .ok (.if_icmp .gt 33, 3) := by decide +kernel
theorem dX2_firstAt_9 : decode cX2_firstAt 9 = .ok (.aload_n 0, 1) := by decide +kernel
theorem dX2_firstAt_10 : decode cX2_firstAt 10 = .ok (.getfield 16, 3) := by decide +kernel
theorem dX2_firstAt_13 : decode cX2_firstAt 13 = .ok (.getfield 144, 3) := by decide +kernel
theorem dX2_firstAt_16 : decode cX2_firstAt 16 = .ok (.iload_n 1, 1) := by decide +kernel
theorem dX2_firstAt_17 : decode cX2_firstAt 17 = .ok (.iaload, 1) := by decide +kernel
theorem dX2_firstAt_18 : decode cX2_firstAt 18 = .ok (.iload_n 2, 1) := by decide +kernel
theorem dX2_firstAt_19 : decode cX2_firstAt 19 = .ok (.if_icmp .ne 6, 3) := by decide +kernel
theorem dX2_firstAt_22 : decode cX2_firstAt 22 = .ok (.iload 4, 2) := by decide +kernel
theorem dX2_firstAt_24 : decode cX2_firstAt 24 = .ok (.ireturn, 1) := by decide +kernel
theorem dX2_firstAt_25 : decode cX2_firstAt 25 = .ok (.aload_n 0, 1) := by decide +kernel
theorem dX2_firstAt_26 : decode cX2_firstAt 26 = .ok (.getfield 16, 3) := by decide +kernel
theorem dX2_firstAt_29 : decode cX2_firstAt 29 = .ok (.iconst 1, 1) := by decide +kernel
theorem dX2_firstAt_30 : decode cX2_firstAt 30 = .ok (.invokevirtual 107, 3) := by decide +kernel
theorem dX2_firstAt_33 : decode cX2_firstAt 33 = .ok (.iinc 4 1, 3) := by decide +kernel
theorem dX2_firstAt_36 : decode cX2_firstAt 36 = .ok (.goto (-33), 3) := by decide +kernel
theorem dX2_firstAt_39 : decode cX2_firstAt 39 = .ok (.bipush 61, 2) := by decide +kernel
theorem dX2_firstAt_41 : decode cX2_firstAt 41 = .ok (.ireturn, 1) := by decide +kernel
theorem dX2_firstMeeting_0 : decode cX2_firstMeeting 0 = .ok (.iconst 0, 1) := by decide +kernel
theorem dX2_firstMeeting_1 : decode cX2_firstMeeting 1 = .ok (.istore 4, 2) := by decide +kernel
theorem dX2_firstMeeting_3 : decode cX2_firstMeeting 3 = .ok (.iload 4, 2) := by decide +kernel
theorem dX2_firstMeeting_5 : decode cX2_firstMeeting 5 = .ok (.iload_n 3, 1) := by decide +kernel
theorem dX2_firstMeeting_6 : decode cX2_firstMeeting 6 = .ok (.if_icmp .gt 41, 3) := by decide +kernel
theorem dX2_firstMeeting_9 : decode cX2_firstMeeting 9 = .ok (.aload_n 0, 1) := by decide +kernel
theorem dX2_firstMeeting_10 : decode cX2_firstMeeting 10 = .ok (.getfield 16, 3) := by decide +kernel
theorem dX2_firstMeeting_13 : decode cX2_firstMeeting 13 = .ok (.getfield 144, 3) := by decide +kernel
theorem dX2_firstMeeting_16 : decode cX2_firstMeeting 16 = .ok (.iload_n 1, 1) := by decide +kernel
theorem dX2_firstMeeting_17 : decode cX2_firstMeeting 17 = .ok (.iaload, 1) := by decide +kernel
theorem dX2_firstMeeting_18 : decode cX2_firstMeeting 18 = .ok (.aload_n 0, 1) := by decide +kernel
theorem dX2_firstMeeting_19 : decode cX2_firstMeeting 19 = .ok (.getfield 16, 3) := by decide +kernel
theorem dX2_firstMeeting_22 : decode cX2_firstMeeting 22 = .ok (.getfield 144, 3) := by decide +kernel
theorem dX2_firstMeeting_25 : decode cX2_firstMeeting 25 = .ok (.iload_n 2, 1) := by decide +kernel
theorem dX2_firstMeeting_26 : decode cX2_firstMeeting 26 = .ok (.iaload, 1) := by decide +kernel
theorem dX2_firstMeeting_27 : decode cX2_firstMeeting 27 = .ok (.if_icmp .ne 6, 3) := by decide +kernel
theorem dX2_firstMeeting_30 : decode cX2_firstMeeting 30 = .ok (.iload 4, 2) := by decide +kernel
theorem dX2_firstMeeting_32 : decode cX2_firstMeeting 32 = .ok (.ireturn, 1) := by decide +kernel
theorem dX2_firstMeeting_33 : decode cX2_firstMeeting 33 = .ok (.aload_n 0, 1) := by decide +kernel
theorem dX2_firstMeeting_34 : decode cX2_firstMeeting 34 = .ok (.getfield 16, 3) := by decide +kernel
theorem dX2_firstMeeting_37 : decode cX2_firstMeeting 37 = .ok (.iconst 1, 1) := by decide +kernel
theorem dX2_firstMeeting_38 : decode cX2_firstMeeting 38 = .ok (.invokevirtual 107, 3) := by decide +kernel
theorem dX2_firstMeeting_41 : decode cX2_firstMeeting 41 = .ok (.iinc 4 1, 3) := by decide +kernel
theorem dX2_firstMeeting_44 : decode cX2_firstMeeting 44 = .ok (.goto (-41), 3) := by decide +kernel
theorem dX2_firstMeeting_47 : decode cX2_firstMeeting 47 = .ok (.bipush 61, 2) := by decide +kernel
theorem dX2_firstMeeting_49 : decode cX2_firstMeeting 49 = .ok (.ireturn, 1) := by decide +kernel

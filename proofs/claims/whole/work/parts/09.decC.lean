theorem dX3_no_0 : decode cX3_no 0 = .ok (.aload_n 0, 1) := by decide +kernel
theorem dX3_no_1 : decode cX3_no 1 = .ok (.getfield 7, 3) := by decide +kernel
theorem dX3_no_4 : decode cX3_no 4 = .ok (.iload_n 1, 1) := by decide +kernel
theorem dX3_no_5 : decode cX3_no 5 = .ok (.ineg, 1) := by decide +kernel
theorem dX3_no_6 : decode cX3_no 6 = .ok (.dup2, 1) := by decide +kernel
theorem dX3_no_7 : decode cX3_no 7 = .ok (.iaload, 1) := by decide +kernel
theorem dX3_no_8 : decode cX3_no 8 = .ok (.iconst 1, 1) := by decide +kernel
theorem dX3_no_9 : decode cX3_no 9 = .ok (.iadd, 1) := by decide +kernel
theorem dX3_no_10 : decode cX3_no 10 = .ok (.iastore, 1) := by decide +kernel
theorem dX3_no_11 : decode cX3_no 11 = .ok (.iload_n 1, 1) := by decide +kernel
theorem dX3_no_12 : decode cX3_no 12 = .ok (.ireturn, 1) := by decide +kernel
theorem dX3_lowest_0 : decode cX3_lowest 0 = .ok (.aload_n 0, 1) := by decide +kernel
theorem dX3_lowest_1 : decode cX3_lowest 1 = .ok (.getfield 7, 3) := by decide +kernel
theorem dX3_lowest_4 : decode cX3_lowest 4 = .ok (.iload_n 1, 1) := by decide +kernel
theorem dX3_lowest_5 : decode cX3_lowest 5 = .ok (.ineg, 1) := by decide +kernel
theorem dX3_lowest_6 : decode cX3_lowest 6 = .ok (.dup2, 1) := by decide +kernel
theorem dX3_lowest_7 : decode cX3_lowest 7 = .ok (.iaload, 1) := by decide +kernel
theorem dX3_lowest_8 : decode cX3_lowest 8 = .ok (.iconst 1, 1) := by decide +kernel
theorem dX3_lowest_9 : decode cX3_lowest 9 = .ok (.iadd, 1) := by decide +kernel
theorem dX3_lowest_10 : decode cX3_lowest 10 = .ok (.iastore, 1) := by decide +kernel
theorem dX3_lowest_11 : decode cX3_lowest 11 = .ok (.ldc2_w 86, 3) := by decide +kernel
theorem dX3_lowest_14 : decode cX3_lowest 14 = .ok (.iload_n 1, 1) := by decide +kernel
theorem dX3_lowest_15 : decode cX3_lowest 15 = .ok (.i2l, 1) := by decide +kernel
theorem dX3_lowest_16 : decode cX3_lowest 16 = .ok (.lsub, 1) := by decide +kernel
theorem dX3_lowest_17 : decode cX3_lowest 17 = .ok (.lreturn, 1) := by decide +kernel
theorem dX3_isIn_0 : decode cX3_isIn 0 = .ok (.iload_n 0, 1) := by decide +kernel
theorem dX3_isIn_1 : decode cX3_isIn 1 = .ok (.iload_n 1, 1) := by decide +kernel
theorem dX3_isIn_2 : decode cX3_isIn 2 = .ok (.if_icmp .lt 12, 3) := by decide +kernel
theorem dX3_isIn_5 : decode cX3_isIn 5 = .ok (.iload_n 0, 1) := by decide +kernel
theorem dX3_isIn_6 : decode cX3_isIn 6 = .ok (.iload_n 2, 1) := by decide +kernel
theorem dX3_isIn_7 : decode cX3_isIn 7 = .ok (.if_icmp .gt 7, 3) := by decide +kernel
theorem dX3_isIn_10 : decode cX3_isIn 10 = .ok (.iconst 1, 1) := by decide +kernel
theorem dX3_isIn_11 : decode cX3_isIn 11 = .ok (.goto 4, 3) := by decide +kernel
theorem dX3_isIn_14 : decode cX3_isIn 14 = .ok (.iconst 0, 1) := by decide +kernel
theorem dX3_isIn_15 : decode cX3_isIn 15 = .ok (.ireturn, 1) := by decide +kernel
theorem dX3_bound_0 : decode cX3_bound 0 = .ok (.iload_n 0, 1) := by decide +kernel
theorem dX3_bound_1 : decode cX3_bound 1 = .ok (.iload_n 1, 1) := by decide +kernel
theorem dX3_bound_2 : decode cX3_bound 2 = .ok (.if_icmp .ge 8, 3) := by decide +kernel
theorem dX3_bound_5 : decode cX3_bound 5 = .ok (.bipush (-4), 2) := by decide +kernel
theorem dX3_bound_7 : decode cX3_bound 7 = .ok (.goto 14, 3) := by decide +kernel
theorem dX3_bound_10 : decode cX3_bound 10 = .ok (.iload_n 0, 1) := by decide +kernel
theorem dX3_bound_11 : decode cX3_bound 11 = .ok (.iload_n 2, 1) := by decide +kernel
theorem dX3_bound_12 : decode cX3_bound 12 = .ok (.if_icmp .le 8, 3) := by decide +kernel
theorem dX3_bound_15 : decode cX3_bound 15 = .ok (.bipush (-6), 2) := by decide +kernel
theorem dX3_bound_17 : decode cX3_bound 17 = .ok (.goto 4, 3) := by decide +kernel
theorem dX3_bound_20 : decode cX3_bound 20 = .ok (.iconst 0, 1) := by decide +kernel
theorem dX3_bound_21 : decode cX3_bound 21 = .ok (.ireturn, 1) := by decide +kernel
theorem dX3_isBag_0 : decode cX3_isBag 0 = .ok (.iload_n 1, 1) := by decide +kernel
theorem dX3_isBag_1 : decode cX3_isBag 1 = .ok (.ifCond .lt 15, 3) := by decide +kernel
theorem dX3_isBag_4 : decode cX3_isBag 4 = .ok (.iload_n 1, 1) := by decide +kernel
theorem dX3_isBag_5 : decode cX3_isBag 5 = .ok (.aload_n 0, 1) := by decide +kernel
theorem dX3_isBag_6 : decode cX3_isBag 6 = .ok (.getfield 83, 3) := by decide +kernel
theorem dX3_isBag_9 : decode cX3_isBag 9 = .ok (.if_icmp .ge 7, 3) := by decide +kernel
theorem dX3_isBag_12 : decode cX3_isBag 12 = .ok (.iconst 1, 1) := by decide +kernel
theorem dX3_isBag_13 : decode cX3_isBag 13 = .ok (.goto 4, 3) := by decide +kernel
theorem dX3_isBag_16 : decode cX3_isBag 16 = .ok (.iconst 0, 1) := by decide +kernel
theorem dX3_isBag_17 : decode cX3_isBag 17 = .ok (.ireturn, 1) := by decide +kernel
theorem dX3_isBearer_0 : decode cX3_isBearer 0 = .ok (.iload_n 1, 1) := by decide +kernel
theorem dX3_isBearer_1 : decode cX3_isBearer 1 = .ok (.ifCond .lt 15, 3) := by decide +kernel
theorem dX3_isBearer_4 : decode cX3_isBearer 4 = .ok (.iload_n 1, 1) := by decide +kernel
theorem dX3_isBearer_5 : decode cX3_isBearer 5 = .ok (.aload_n 0, 1) := by decide +kernel
theorem dX3_isBearer_6 : decode cX3_isBearer 6 = .ok (.getfield 88, 3) := by decide +kernel
theorem dX3_isBearer_9 : decode cX3_isBearer 9 = .ok (.if_icmp .ge 7, 3) := by decide +kernel
theorem dX3_isBearer_12 : decode cX3_isBearer 12 = .ok (.iconst 1, 1) := by decide +kernel
theorem dX3_isBearer_13 : decode cX3_isBearer 13 = .ok (.goto 4, 3) := by decide +kernel
theorem dX3_isBearer_16 : decode cX3_isBearer 16 = .ok (.iconst 0, 1) := by decide +kernel
theorem dX3_isBearer_17 : decode cX3_isBearer 17 = .ok (.ireturn, 1) := by decide +kernel
theorem dX3_isPlace_0 : decode cX3_isPlace 0 = .ok (.iload_n 0, 1) := by decide +kernel
theorem dX3_isPlace_1 : decode cX3_isPlace 1 = .ok (.ifCond .lt 13, 3) := by decide +kernel
theorem dX3_isPlace_4 : decode cX3_isPlace 4 = .ok (.iload_n 0, 1) := by decide +kernel
theorem dX3_isPlace_5 : decode cX3_isPlace 5 = .ok (.bipush 10, 2) := by decide +kernel
theorem dX3_isPlace_7 : decode cX3_isPlace 7 = .ok (.if_icmp .ge 7, 3) := by decide +kernel
theorem dX3_isPlace_10 : decode cX3_isPlace 10 = .ok (.iconst 1, 1) := by decide +kernel
theorem dX3_isPlace_11 : decode cX3_isPlace 11 = .ok (.goto 4, 3) := by decide +kernel
theorem dX3_isPlace_14 : decode cX3_isPlace 14 = .ok (.iconst 0, 1) := by decide +kernel
theorem dX3_isPlace_15 : decode cX3_isPlace 15 = .ok (.ireturn, 1) := by decide +kernel
theorem dX3_areTwo_0 : decode cX3_areTwo 0 = .ok (.aload_n 0, 1) := by decide +kernel
theorem dX3_areTwo_1 : decode cX3_areTwo 1 = .ok (.iload_n 1, 1) := by decide +kernel
theorem dX3_areTwo_2 : decode cX3_areTwo 2 = .ok (.invokevirtual 91, 3) := by decide +kernel
theorem dX3_areTwo_5 : decode cX3_areTwo 5 = .ok (.ifCond .eq 20, 3) := by decide +kernel
theorem dX3_areTwo_8 : decode cX3_areTwo 8 = .ok (.aload_n 0, 1) := by decide +kernel
theorem dX3_areTwo_9 : decode cX3_areTwo 9 = .ok (.iload_n 2, 1) := by decide +kernel
theorem dX3_areTwo_10 : decode cX3_areTwo 10 = .ok (.invokevirtual 91, 3) := by decide +kernel
theorem dX3_areTwo_13 : decode cX3_areTwo 13 = .ok (.ifCond .eq 12, 3) := by decide +kernel
theorem dX3_areTwo_16 : decode cX3_areTwo 16 = .ok (.iload_n 1, 1) := by decide +kernel
theorem dX3_areTwo_17 : decode cX3_areTwo 17 = .ok (.iload_n 2, 1) := by decide +kernel
theorem dX3_areTwo_18 : decode cX3_areTwo 18 = .ok (.if_icmp .eq 7, 3) := by decide +kernel
theorem dX3_areTwo_21 : decode cX3_areTwo 21 = .ok (.iconst 1, 1) := by decide +kernel
theorem dX3_areTwo_22 : decode cX3_areTwo 22 = .ok (.goto 4, 3) := by decide +kernel
theorem dX3_areTwo_25 : decode cX3_areTwo 25 = .ok (.iconst 0, 1) := by decide +kernel
theorem dX3_areTwo_26 : decode cX3_areTwo 26 = .ok (.ireturn, 1) := by decide +kernel
theorem dX3_feed_0 : decode cX3_feed 0 = .ok (.iload_n 1, 1) := by decide +kernel
theorem dX3_feed_1 : decode cX3_feed 1 = .ok (.iconst 0, 1) := by decide +kernel
theorem dX3_feed_2 : decode cX3_feed 2 = .ok (.sipush 255, 3) := by decide +kernel
theorem dX3_feed_5 : decode cX3_feed 5 = .ok (.invokestatic 95, 3) := by decide +kernel
theorem dX3_feed_8 : decode cX3_feed 8 = .ok (.istore_n 2, 1) := by decide +kernel
theorem dX3_feed_9 : decode cX3_feed 9 = .ok (.iload_n 2, 1) := by decide +kernel
theorem dX3_feed_10 : decode cX3_feed 10 = .ok (.ifCond .ne 15, 3) := by decide +kernel
theorem dX3_feed_13 : decode cX3_feed 13 = .ok (.aload_n 0, 1) := by decide +kernel
theorem dX3_feed_14 : decode cX3_feed 14 = .ok (.getfield 99, 3) := by decide +kernel
theorem dX3_feed_17 : decode cX3_feed 17 = .ok (.bipush 96, 2) := by decide +kernel
theorem dX3_feed_19 : decode cX3_feed 19 = .ok (.if_icmp .ne 6, 3) := by decide +kernel
theorem dX3_feed_22 : decode cX3_feed 22 = .ok (.bipush (-6), 2) := by decide +kernel
theorem dX3_feed_24 : decode cX3_feed 24 = .ok (.istore_n 2, 1) := by decide +kernel
theorem dX3_feed_25 : decode cX3_feed 25 = .ok (.iload_n 2, 1) := by decide +kernel
theorem dX3_feed_26 : decode cX3_feed 26 = .ok (.ifCond .eq 9, 3) := by decide +kernel
theorem dX3_feed_29 : decode cX3_feed 29 = .ok (.aload_n 0, 1) := by decide +kernel
theorem dX3_feed_30 : decode cX3_feed 30 = .ok (.iload_n 2, 1) := by decide +kernel
theorem dX3_feed_31 : decode cX3_feed 31 = .ok (.invokevirtual 102, 3) := by decide +kernel
theorem dX3_feed_34 : decode cX3_feed 34 = .ok (.ireturn, 1) := by decide +kernel
theorem dX3_feed_35 : decode cX3_feed 35 = .ok (.aload_n 0, 1) := by decide +kernel
theorem dX3_feed_36 : decode cX3_feed 36 = .ok (.getfield 43, 3) := by decide +kernel
theorem dX3_feed_39 : decode cX3_feed 39 = .ok (.aload_n 0, 1) := by decide +kernel
theorem dX3_feed_40 : decode cX3_feed 40 = .ok (.getfield 99, 3) := by decide +kernel
theorem dX3_feed_43 : decode cX3_feed 43 = .ok (.iload_n 1, 1) := by decide +kernel
theorem dX3_feed_44 : decode cX3_feed 44 = .ok (.iastore, 1) := by decide +kernel
theorem dX3_feed_45 : decode cX3_feed 45 = .ok (.aload_n 0, 1) := by decide +kernel
theorem dX3_feed_46 : decode cX3_feed 46 = .ok (.dup, 1) := by decide +kernel
theorem dX3_feed_47 : decode cX3_feed 47 = .ok (.getfield 99, 3) := by decide +kernel
theorem dX3_feed_50 : decode cX3_feed 50 = .ok (.iconst 1, 1) := by decide +kernel
theorem dX3_feed_51 : decode cX3_feed 51 = .ok (.iadd, 1) := by decide +kernel
theorem dX3_feed_52 : decode cX3_feed 52 = .ok (.putfield 99, 3) := by decide +kernel
theorem dX3_feed_55 : decode cX3_feed 55 = .ok (.aload_n 0, 1) := by decide +kernel
theorem dX3_feed_56 : decode cX3_feed 56 = .ok (.getfield 99, 3) := by decide +kernel
theorem dX3_feed_59 : decode cX3_feed 59 = .ok (.ireturn, 1) := by decide +kernel
theorem dX3_next_0 : decode cX3_next 0 = .ok (.aload_n 0, 1) := by decide +kernel
theorem dX3_next_1 : decode cX3_next 1 = .ok (.getfield 106, 3) := by decide +kernel
theorem dX3_next_4 : decode cX3_next 4 = .ok (.aload_n 0, 1) := by decide +kernel
theorem dX3_next_5 : decode cX3_next 5 = .ok (.getfield 99, 3) := by decide +kernel
theorem dX3_next_8 : decode cX3_next 8 = .ok (.if_icmp .ge 15, 3) := by decide +kernel
theorem dX3_next_11 : decode cX3_next 11 = .ok (.aload_n 0, 1) := by decide +kernel
theorem dX3_next_12 : decode cX3_next 12 = .ok (.getfield 43, 3) := by decide +kernel
theorem dX3_next_15 : decode cX3_next 15 = .ok (.aload_n 0, 1) := by decide +kernel
theorem dX3_next_16 : decode cX3_next 16 = .ok (.getfield 106, 3) := by decide +kernel
theorem dX3_next_19 : decode cX3_next 19 = .ok (.iaload, 1) := by decide +kernel
theorem dX3_next_20 : decode cX3_next 20 = .ok (.goto 4, 3) := by decide +kernel
theorem dX3_next_23 : decode cX3_next 23 = .ok (.iconst (-1), 1) := by decide +kernel
theorem dX3_next_24 : decode cX3_next 24 = .ok (.ireturn, 1) := by decide +kernel
theorem dX3_readsDigits_0 : decode cX3_readsDigits 0 = .ok (.iconst 0, 1) := by decide +kernel
theorem dX3_readsDigits_1 : decode cX3_readsDigits 1 = .ok (.istore_n 3, 1) := by decide +kernel
theorem dX3_readsDigits_2 : decode cX3_readsDigits 2 = .ok (.iconst 0, 1) := by decide +kernel
theorem dX3_readsDigits_3 : decode cX3_readsDigits 3 = .ok (.istore 4, 2) := by decide +kernel
theorem dX3_readsDigits_5 : decode cX3_readsDigits 5 = .ok (.iload 4, 2) := by decide +kernel
theorem dX3_readsDigits_7 : decode cX3_readsDigits 7 = .ok (.iload_n 2, 1) := by decide +kernel
theorem dX3_readsDigits_8 : decode cX3_readsDigits 8 = .ok (.if_icmp .ge 48, 3) := by decide +kernel
theorem dX3_readsDigits_11 : decode cX3_readsDigits 11 = .ok (.aload_n 0, 1) := by decide +kernel
theorem dX3_readsDigits_12 : decode cX3_readsDigits 12 = .ok (.invokevirtual 109, 3) := by decide +kernel
theorem dX3_readsDigits_15 : decode cX3_readsDigits 15 = .ok (.bipush 48, 2) := by decide +kernel
theorem dX3_readsDigits_17 : decode cX3_readsDigits 17 = .ok (.bipush 57, 2) := by decide +kernel
theorem dX3_readsDigits_19 : decode cX3_readsDigits 19 = .ok (.invokestatic 113, 3) := by decide +kernel
theorem dX3_readsDigits_22 : decode cX3_readsDigits 22 = .ok (.ifCond .ne 5, 3) := by decide +kernel
theorem dX3_readsDigits_25 : decode cX3_readsDigits 25 = .ok (.iconst 0, 1) := by decide +kernel
theorem dX3_readsDigits_26 : decode cX3_readsDigits 26 = .ok (.ireturn, 1) := by decide +kernel
theorem dX3_readsDigits_27 : decode cX3_readsDigits 27 = .ok (.bipush 10, 2) := by decide +kernel
theorem dX3_readsDigits_29 : decode cX3_readsDigits 29 = .ok (.iload_n 3, 1) := by decide +kernel
theorem dX3_readsDigits_30 : decode cX3_readsDigits 30 = .ok (.imul, 1) := by decide +kernel
theorem dX3_readsDigits_31 : decode cX3_readsDigits 31 = .ok (.aload_n 0, 1) := by decide +kernel
theorem dX3_readsDigits_32 : decode cX3_readsDigits 32 = .ok (.invokevirtual 109, 3) := by decide +kernel
theorem dX3_readsDigits_35 : decode cX3_readsDigits 35 = .ok (.iadd, 1) := by decide +kernel
theorem dX3_readsDigits_36 : decode cX3_readsDigits 36 = .ok (.bipush 48, 2) := by decide +kernel
theorem dX3_readsDigits_38 : decode cX3_readsDigits 38 = .ok (.isub, 1) := by decide +kernel
theorem dX3_readsDigits_39 : decode cX3_readsDigits 39 = .ok (.istore_n 3, 1) := by decide +kernel
theorem dX3_readsDigits_40 : decode cX3_readsDigits 40 = .ok (.aload_n 0, 1) := by decide +kernel
theorem dX3_readsDigits_41 : decode cX3_readsDigits 41 = .ok (.dup, 1) := by decide +kernel
theorem dX3_readsDigits_42 : decode cX3_readsDigits 42 = .ok (.getfield 106, 3) := by decide +kernel
theorem dX3_readsDigits_45 : decode cX3_readsDigits 45 = .ok (.iconst 1, 1) := by decide +kernel
theorem dX3_readsDigits_46 : decode cX3_readsDigits 46 = .ok (.iadd, 1) := by decide +kernel
theorem dX3_readsDigits_47 : decode cX3_readsDigits 47 = .ok (.putfield 106, 3) := by decide +kernel
theorem dX3_readsDigits_50 : decode cX3_readsDigits 50 = .ok (.iinc 4 1, 3) := by decide +kernel
theorem dX3_readsDigits_53 : decode cX3_readsDigits 53 = .ok (.goto (-48), 3) := by decide +kernel
theorem dX3_readsDigits_56 : decode cX3_readsDigits 56 = .ok (.aload_n 0, 1) := by decide +kernel
theorem dX3_readsDigits_57 : decode cX3_readsDigits 57 = .ok (.getfield 52, 3) := by decide +kernel
theorem dX3_readsDigits_60 : decode cX3_readsDigits 60 = .ok (.iload_n 1, 1) := by decide +kernel
theorem dX3_readsDigits_61 : decode cX3_readsDigits 61 = .ok (.iload_n 3, 1) := by decide +kernel
theorem dX3_readsDigits_62 : decode cX3_readsDigits 62 = .ok (.iastore, 1) := by decide +kernel
theorem dX3_readsDigits_63 : decode cX3_readsDigits 63 = .ok (.iconst 1, 1) := by decide +kernel
theorem dX3_readsDigits_64 : decode cX3_readsDigits 64 = .ok (.ireturn, 1) := by decide +kernel
theorem dX3_readsAll_0 : decode cX3_readsAll 0 = .ok (.iload_n 1, 1) := by decide +kernel
theorem dX3_readsAll_1 : decode cX3_readsAll 1 = .ok (.lookupswitch 94 #[(98, 43), (99, 80), (104, 87), (108, 43)], 43) := by decide +kernel
theorem dX3_readsAll_44 : decode cX3_readsAll 44 = .ok (.aload_n 0, 1) := by decide +kernel
theorem dX3_readsAll_45 : decode cX3_readsAll 45 = .ok (.iload_n 2, 1) := by decide +kernel
theorem dX3_readsAll_46 : decode cX3_readsAll 46 = .ok (.iconst 1, 1) := by decide +kernel
theorem dX3_readsAll_47 : decode cX3_readsAll 47 = .ok (.invokevirtual 117, 3) := by decide +kernel
theorem dX3_readsAll_50 : decode cX3_readsAll 50 = .ok (.ifCond .eq 29, 3) := by decide +kernel
theorem dX3_readsAll_53 : decode cX3_readsAll 53 = .ok (.aload_n 0, 1) := by decide +kernel
theorem dX3_readsAll_54 : decode cX3_readsAll 54 = .ok (.iload_n 2, 1) := by decide +kernel
theorem dX3_readsAll_55 : decode cX3_readsAll 55 = .ok (.iconst 1, 1) := by decide +kernel
theorem dX3_readsAll_56 : decode cX3_readsAll 56 = .ok (.iadd, 1) := by decide +kernel
theorem dX3_readsAll_57 : decode cX3_readsAll 57 = .ok (.iconst 1, 1) := by decide +kernel
theorem dX3_readsAll_58 : decode cX3_readsAll 58 = .ok (.invokevirtual 117, 3) := by decide +kernel
theorem dX3_readsAll_61 : decode cX3_readsAll 61 = .ok (.ifCond .eq 18, 3) := by decide +kernel
theorem dX3_readsAll_64 : decode cX3_readsAll 64 = .ok (.aload_n 0, 1) := by decide +kernel
theorem dX3_readsAll_65 : decode cX3_readsAll 65 = .ok (.iload_n 2, 1) := by decide +kernel
theorem dX3_readsAll_66 : decode cX3_readsAll 66 = .ok (.iconst 2, 1) := by decide +kernel
theorem dX3_readsAll_67 : decode cX3_readsAll 67 = .ok (.iadd, 1) := by decide +kernel
theorem dX3_readsAll_68 : decode cX3_readsAll 68 = .ok (.iconst 1, 1) := by decide +kernel
theorem dX3_readsAll_69 : decode cX3_readsAll 69 = .ok (.invokevirtual 117, 3) := by decide +kernel
theorem dX3_readsAll_72 : decode cX3_readsAll 72 = .ok (.ifCond .eq 7, 3) := by decide +kernel
theorem dX3_readsAll_75 : decode cX3_readsAll 75 = .ok (.iconst 1, 1) := by decide +kernel
theorem dX3_readsAll_76 : decode cX3_readsAll 76 = .ok (.goto 4, 3) := by decide +kernel
theorem dX3_readsAll_79 : decode cX3_readsAll 79 = .ok (.iconst 0, 1) := by decide +kernel
theorem dX3_readsAll_80 : decode cX3_readsAll 80 = .ok (.ireturn, 1) := by decide +kernel
theorem dX3_readsAll_81 : decode cX3_readsAll 81 = .ok (.aload_n 0, 1) := by decide +kernel
theorem dX3_readsAll_82 : decode cX3_readsAll 82 = .ok (.iload_n 2, 1) := by decide +kernel
theorem dX3_readsAll_83 : decode cX3_readsAll 83 = .ok (.iconst 1, 1) := by decide +kernel
theorem dX3_readsAll_84 : decode cX3_readsAll 84 = .ok (.invokevirtual 117, 3) := by decide +kernel
theorem dX3_readsAll_87 : decode cX3_readsAll 87 = .ok (.ireturn, 1) := by decide +kernel
theorem dX3_readsAll_88 : decode cX3_readsAll 88 = .ok (.aload_n 0, 1) := by decide +kernel
theorem dX3_readsAll_89 : decode cX3_readsAll 89 = .ok (.iload_n 2, 1) := by decide +kernel
theorem dX3_readsAll_90 : decode cX3_readsAll 90 = .ok (.iconst 2, 1) := by decide +kernel
theorem dX3_readsAll_91 : decode cX3_readsAll 91 = .ok (.invokevirtual 117, 3) := by decide +kernel
theorem dX3_readsAll_94 : decode cX3_readsAll 94 = .ok (.ireturn, 1) := by decide +kernel
theorem dX3_readsAll_95 : decode cX3_readsAll 95 = .ok (.aload_n 0, 1) := by decide +kernel
theorem dX3_readsAll_96 : decode cX3_readsAll 96 = .ok (.iload_n 2, 1) := by decide +kernel
theorem dX3_readsAll_97 : decode cX3_readsAll 97 = .ok (.iconst 1, 1) := by decide +kernel
theorem dX3_readsAll_98 : decode cX3_readsAll 98 = .ok (.invokevirtual 117, 3) := by decide +kernel
theorem dX3_readsAll_101 : decode cX3_readsAll 101 = .ok (.ifCond .eq 18, 3) := by decide +kernel
theorem dX3_readsAll_104 : decode cX3_readsAll 104 = .ok (.aload_n 0, 1) := by decide +kernel
theorem dX3_readsAll_105 : decode cX3_readsAll 105 = .ok (.iload_n 2, 1) := by decide +kernel
theorem dX3_readsAll_106 : decode cX3_readsAll 106 = .ok (.iconst 1, 1) := by decide +kernel
theorem dX3_readsAll_107 : decode cX3_readsAll 107 = .ok (.iadd, 1) := by decide +kernel
theorem dX3_readsAll_108 : decode cX3_readsAll 108 = .ok (.iconst 1, 1) := by decide +kernel
theorem dX3_readsAll_109 : decode cX3_readsAll 109 = .ok (.invokevirtual 117, 3) := by decide +kernel
theorem dX3_readsAll_112 : decode cX3_readsAll 112 = .ok (.ifCond .eq 7, 3) := by decide +kernel
theorem dX3_readsAll_115 : decode cX3_readsAll 115 = .ok (.iconst 1, 1) := by decide +kernel
theorem dX3_readsAll_116 : decode cX3_readsAll 116 = .ok (.goto 4, 3) := by decide +kernel
theorem dX3_readsAll_119 : decode cX3_readsAll 119 = .ok (.iconst 0, 1) := by decide +kernel
theorem dX3_readsAll_120 : decode cX3_readsAll 120 = .ok (.ireturn, 1) := by decide +kernel
theorem dX3_statement_0 : decode cX3_statement 0 = .ok (.aload_n 0, 1) := by decide +kernel
theorem dX3_statement_1 : decode cX3_statement 1 = .ok (.invokevirtual 109, 3) := by decide +kernel
theorem dX3_statement_4 : decode cX3_statement 4 = .ok (.istore_n 1, 1) := by decide +kernel
theorem dX3_statement_5 : decode cX3_statement 5 = .ok (.iload_n 1, 1) := by decide +kernel
theorem dX3_statement_6 : decode cX3_statement 6 = .ok (.bipush 98, 2) := by decide +kernel
theorem dX3_statement_8 : decode cX3_statement 8 = .ok (.if_icmp .eq 35, 3) := by decide +kernel
theorem dX3_statement_11 : decode cX3_statement 11 = .ok (.iload_n 1, 1) := by decide +kernel
theorem dX3_statement_12 : decode cX3_statement 12 = .ok (.bipush 108, 2) := by decide +kernel
theorem dX3_statement_14 : decode cX3_statement 14 = .ok (.if_icmp .eq 29, 3) := by decide +kernel
theorem dX3_statement_17 : decode cX3_statement 17 = .ok (.iload_n 1, 1) := by decide +kernel
theorem dX3_statement_18 : decode cX3_statement 18 = .ok (.bipush 103, 2) := by decide +kernel
theorem dX3_statement_20 : decode cX3_statement 20 = .ok (.if_icmp .eq 23, 3) := by decide +kernel
theorem dX3_statement_23 : decode cX3_statement 23 = .ok (.iload_n 1, 1) := by decide +kernel
theorem dX3_statement_24 : decode cX3_statement 24 = .ok (.bipush 102, 2) := by decide +kernel
theorem dX3_statement_26 : decode cX3_statement 26 = .ok (.if_icmp .eq 17, 3) := by decide +kernel
theorem dX3_statement_29 : decode cX3_statement 29 = .ok (.iload_n 1, 1) := by decide +kernel
theorem dX3_statement_30 : decode cX3_statement 30 = .ok (.bipush 99, 2) := by decide +kernel
theorem dX3_statement_32 : decode cX3_statement 32 = .ok (.if_icmp .eq 11, 3) := by decide +kernel
theorem dX3_statement_35 : decode cX3_statement 35 = .ok (.iload_n 1, 1) := by decide +kernel
theorem dX3_statement_36 : decode cX3_statement 36 = .ok (.bipush 104, 2) := by decide +kernel
theorem dX3_statement_38 : decode cX3_statement 38 = .ok (.if_icmp .eq 5, 3) := by decide +kernel
theorem dX3_statement_41 : decode cX3_statement 41 = .ok (.iconst 0, 1) := by decide +kernel
theorem dX3_statement_42 : decode cX3_statement 42 = .ok (.ireturn, 1) := by decide +kernel
theorem dX3_statement_43 : decode cX3_statement 43 = .ok (.aload_n 0, 1) := by decide +kernel
theorem dX3_statement_44 : decode cX3_statement 44 = .ok (.getfield 46, 3) := by decide +kernel
theorem dX3_statement_47 : decode cX3_statement 47 = .ok (.aload_n 0, 1) := by decide +kernel
theorem dX3_statement_48 : decode cX3_statement 48 = .ok (.getfield 121, 3) := by decide +kernel
theorem dX3_statement_51 : decode cX3_statement 51 = .ok (.iload_n 1, 1) := by decide +kernel
theorem dX3_statement_52 : decode cX3_statement 52 = .ok (.iastore, 1) := by decide +kernel
theorem dX3_statement_53 : decode cX3_statement 53 = .ok (.aload_n 0, 1) := by decide +kernel
theorem dX3_statement_54 : decode cX3_statement 54 = .ok (.getfield 49, 3) := by decide +kernel
theorem dX3_statement_57 : decode cX3_statement 57 = .ok (.aload_n 0, 1) := by decide +kernel
theorem dX3_statement_58 : decode cX3_statement 58 = .ok (.getfield 121, 3) := by decide +kernel
theorem dX3_statement_61 : decode cX3_statement 61 = .ok (.aload_n 0, 1) := by decide +kernel
theorem dX3_statement_62 : decode cX3_statement 62 = .ok (.getfield 106, 3) := by decide +kernel
theorem dX3_statement_65 : decode cX3_statement 65 = .ok (.iastore, 1) := by decide +kernel
theorem dX3_statement_66 : decode cX3_statement 66 = .ok (.aload_n 0, 1) := by decide +kernel
theorem dX3_statement_67 : decode cX3_statement 67 = .ok (.dup, 1) := by decide +kernel
theorem dX3_statement_68 : decode cX3_statement 68 = .ok (.getfield 106, 3) := by decide +kernel
theorem dX3_statement_71 : decode cX3_statement 71 = .ok (.iconst 1, 1) := by decide +kernel
theorem dX3_statement_72 : decode cX3_statement 72 = .ok (.iadd, 1) := by decide +kernel
theorem dX3_statement_73 : decode cX3_statement 73 = .ok (.putfield 106, 3) := by decide +kernel
theorem dX3_statement_76 : decode cX3_statement 76 = .ok (.aload_n 0, 1) := by decide +kernel
theorem dX3_statement_77 : decode cX3_statement 77 = .ok (.iload_n 1, 1) := by decide +kernel
theorem dX3_statement_78 : decode cX3_statement 78 = .ok (.iconst 3, 1) := by decide +kernel
theorem dX3_statement_79 : decode cX3_statement 79 = .ok (.aload_n 0, 1) := by decide +kernel
theorem dX3_statement_80 : decode cX3_statement 80 = .ok (.getfield 121, 3) := by decide +kernel
theorem dX3_statement_83 : decode cX3_statement 83 = .ok (.imul, 1) := by decide +kernel
theorem dX3_statement_84 : decode cX3_statement 84 = .ok (.invokevirtual 124, 3) := by decide +kernel
theorem dX3_statement_87 : decode cX3_statement 87 = .ok (.ifCond .eq 12, 3) := by decide +kernel
theorem dX3_statement_90 : decode cX3_statement 90 = .ok (.aload_n 0, 1) := by decide +kernel
theorem dX3_statement_91 : decode cX3_statement 91 = .ok (.invokevirtual 109, 3) := by decide +kernel
theorem dX3_statement_94 : decode cX3_statement 94 = .ok (.bipush 59, 2) := by decide +kernel
theorem dX3_statement_96 : decode cX3_statement 96 = .ok (.if_icmp .eq 5, 3) := by decide +kernel
theorem dX3_statement_99 : decode cX3_statement 99 = .ok (.iconst 0, 1) := by decide +kernel
theorem dX3_statement_100 : decode cX3_statement 100 = .ok (.ireturn, 1) := by decide +kernel
theorem dX3_statement_101 : decode cX3_statement 101 = .ok (.aload_n 0, 1) := by decide +kernel
theorem dX3_statement_102 : decode cX3_statement 102 = .ok (.dup, 1) := by decide +kernel
theorem dX3_statement_103 : decode cX3_statement 103 = .ok (.getfield 106, 3) := by decide +kernel
theorem dX3_statement_106 : decode cX3_statement 106 = .ok (.iconst 1, 1) := by decide +kernel
theorem dX3_statement_107 : decode cX3_statement 107 = .ok (.iadd, 1) := by decide +kernel
theorem dX3_statement_108 : decode cX3_statement 108 = .ok (.putfield 106, 3) := by decide +kernel
theorem dX3_statement_111 : decode cX3_statement 111 = .ok (.iconst 1, 1) := by decide +kernel
theorem dX3_statement_112 : decode cX3_statement 112 = .ok (.ireturn, 1) := by decide +kernel
theorem dX3_comesHours_0 : decode cX3_comesHours 0 = .ok (.iload_n 1, 1) := by decide +kernel
theorem dX3_comesHours_1 : decode cX3_comesHours 1 = .ok (.iconst 1, 1) := by decide +kernel
theorem dX3_comesHours_2 : decode cX3_comesHours 2 = .ok (.bipush 60, 2) := by decide +kernel
theorem dX3_comesHours_4 : decode cX3_comesHours 4 = .ok (.invokestatic 113, 3) := by decide +kernel
theorem dX3_comesHours_7 : decode cX3_comesHours 7 = .ok (.ifCond .eq 15, 3) := by decide +kernel
theorem dX3_comesHours_10 : decode cX3_comesHours 10 = .ok (.aload_n 0, 1) := by decide +kernel
theorem dX3_comesHours_11 : decode cX3_comesHours 11 = .ok (.getfield 127, 3) := by decide +kernel
theorem dX3_comesHours_14 : decode cX3_comesHours 14 = .ok (.iload_n 1, 1) := by decide +kernel
theorem dX3_comesHours_15 : decode cX3_comesHours 15 = .ok (.iadd, 1) := by decide +kernel
theorem dX3_comesHours_16 : decode cX3_comesHours 16 = .ok (.sipush 999, 3) := by decide +kernel
theorem dX3_comesHours_19 : decode cX3_comesHours 19 = .ok (.if_icmp .le 5, 3) := by decide +kernel
theorem dX3_comesHours_22 : decode cX3_comesHours 22 = .ok (.iconst 0, 1) := by decide +kernel
theorem dX3_comesHours_23 : decode cX3_comesHours 23 = .ok (.ireturn, 1) := by decide +kernel
theorem dX3_comesHours_24 : decode cX3_comesHours 24 = .ok (.iconst 0, 1) := by decide +kernel
theorem dX3_comesHours_25 : decode cX3_comesHours 25 = .ok (.istore_n 2, 1) := by decide +kernel
theorem dX3_comesHours_26 : decode cX3_comesHours 26 = .ok (.iload_n 2, 1) := by decide +kernel
theorem dX3_comesHours_27 : decode cX3_comesHours 27 = .ok (.iload_n 1, 1) := by decide +kernel
theorem dX3_comesHours_28 : decode cX3_comesHours 28 = .ok (.if_icmp .ge 14, 3) := by decide +kernel
theorem dX3_comesHours_31 : decode cX3_comesHours 31 = .ok (.aload_n 0, 1) := by decide +kernel
theorem dX3_comesHours_32 : decode cX3_comesHours 32 = .ok (.iconst 0, 1) := by decide +kernel
theorem dX3_comesHours_33 : decode cX3_comesHours 33 = .ok (.invokevirtual 130, 3) := by decide +kernel
theorem dX3_comesHours_36 : decode cX3_comesHours 36 = .ok (.iinc 2 1, 3) := by decide +kernel
theorem dX3_comesHours_39 : decode cX3_comesHours 39 = .ok (.goto (-13), 3) := by decide +kernel
theorem dX3_comesHours_42 : decode cX3_comesHours 42 = .ok (.iconst 1, 1) := by decide +kernel
theorem dX3_comesHours_43 : decode cX3_comesHours 43 = .ok (.ireturn, 1) := by decide +kernel
theorem dX3_comes_0 : decode cX3_comes 0 = .ok (.aload_n 0, 1) := by decide +kernel
theorem dX3_comes_1 : decode cX3_comes 1 = .ok (.getfield 52, 3) := by decide +kernel
theorem dX3_comes_4 : decode cX3_comes 4 = .ok (.iconst 3, 1) := by decide +kernel
theorem dX3_comes_5 : decode cX3_comes 5 = .ok (.iload_n 1, 1) := by decide +kernel
theorem dX3_comes_6 : decode cX3_comes 6 = .ok (.imul, 1) := by decide +kernel
theorem dX3_comes_7 : decode cX3_comes 7 = .ok (.iaload, 1) := by decide +kernel
theorem dX3_comes_8 : decode cX3_comes 8 = .ok (.istore_n 2, 1) := by decide +kernel
theorem dX3_comes_9 : decode cX3_comes 9 = .ok (.aload_n 0, 1) := by decide +kernel
theorem dX3_comes_10 : decode cX3_comes 10 = .ok (.getfield 52, 3) := by decide +kernel
theorem dX3_comes_13 : decode cX3_comes 13 = .ok (.iconst 3, 1) := by decide +kernel
theorem dX3_comes_14 : decode cX3_comes 14 = .ok (.iload_n 1, 1) := by decide +kernel
theorem dX3_comes_15 : decode cX3_comes 15 = .ok (.imul, 1) := by decide +kernel
theorem dX3_comes_16 : decode cX3_comes 16 = .ok (.iconst 1, 1) := by decide +kernel
theorem dX3_comes_17 : decode cX3_comes 17 = .ok (.iadd, 1) := by decide +kernel
theorem dX3_comes_18 : decode cX3_comes 18 = .ok (.iaload, 1) := by decide +kernel
theorem dX3_comes_19 : decode cX3_comes 19 = .ok (.istore_n 3, 1) := by decide +kernel
theorem dX3_comes_20 : decode cX3_comes 20 = .ok (.aload_n 0, 1) := by decide +kernel
theorem dX3_comes_21 : decode cX3_comes 21 = .ok (.getfield 46, 3) := by decide +kernel
theorem dX3_comes_24 : decode cX3_comes 24 = .ok (.iload_n 1, 1) := by decide +kernel
theorem dX3_comes_25 : decode cX3_comes 25 = .ok (.iaload, 1) := by decide +kernel
theorem dX3_comes_26 : decode cX3_comes 26 = .ok (.tableswitch 179 98 108 #[58, 172, 179, 179, 146, 120, 179, 179, 179, 179, 92], 58) := by decide +kernel
theorem dX3_comes_84 : decode cX3_comes 84 = .ok (.iload_n 2, 1) := by decide +kernel
theorem dX3_comes_85 : decode cX3_comes 85 = .ok (.iconst 5, 1) := by decide +kernel
theorem dX3_comes_86 : decode cX3_comes 86 = .ok (.if_icmp .gt 12, 3) := by decide +kernel
theorem dX3_comes_89 : decode cX3_comes 89 = .ok (.aload_n 0, 1) := by decide +kernel
theorem dX3_comes_90 : decode cX3_comes 90 = .ok (.getfield 83, 3) := by decide +kernel
theorem dX3_comes_93 : decode cX3_comes 93 = .ok (.bipush 6, 2) := by decide +kernel
theorem dX3_comes_95 : decode cX3_comes 95 = .ok (.if_icmp .ne 5, 3) := by decide +kernel
theorem dX3_comes_98 : decode cX3_comes 98 = .ok (.iconst 0, 1) := by decide +kernel
theorem dX3_comes_99 : decode cX3_comes 99 = .ok (.ireturn, 1) := by decide +kernel
theorem dX3_comes_100 : decode cX3_comes 100 = .ok (.aload_n 0, 1) := by decide +kernel
theorem dX3_comes_101 : decode cX3_comes 101 = .ok (.iload_n 2, 1) := by decide +kernel
theorem dX3_comes_102 : decode cX3_comes 102 = .ok (.iload_n 3, 1) := by decide +kernel
theorem dX3_comes_103 : decode cX3_comes 103 = .ok (.aload_n 0, 1) := by decide +kernel
theorem dX3_comes_104 : decode cX3_comes 104 = .ok (.getfield 52, 3) := by decide +kernel
theorem dX3_comes_107 : decode cX3_comes 107 = .ok (.iconst 3, 1) := by decide +kernel
theorem dX3_comes_108 : decode cX3_comes 108 = .ok (.iload_n 1, 1) := by decide +kernel
theorem dX3_comes_109 : decode cX3_comes 109 = .ok (.imul, 1) := by decide +kernel
theorem dX3_comes_110 : decode cX3_comes 110 = .ok (.iconst 2, 1) := by decide +kernel
theorem dX3_comes_111 : decode cX3_comes 111 = .ok (.iadd, 1) := by decide +kernel
theorem dX3_comes_112 : decode cX3_comes 112 = .ok (.iaload, 1) := by decide +kernel
theorem dX3_comes_113 : decode cX3_comes 113 = .ok (.invokevirtual 134, 3) := by decide +kernel
theorem dX3_comes_116 : decode cX3_comes 116 = .ok (.iconst 1, 1) := by decide +kernel
theorem dX3_comes_117 : decode cX3_comes 117 = .ok (.ireturn, 1) := by decide +kernel
theorem dX3_comes_118 : decode cX3_comes 118 = .ok (.aload_n 0, 1) := by decide +kernel
theorem dX3_comes_119 : decode cX3_comes 119 = .ok (.getfield 88, 3) := by decide +kernel
theorem dX3_comes_122 : decode cX3_comes 122 = .ok (.iconst 5, 1) := by decide +kernel
theorem dX3_comes_123 : decode cX3_comes 123 = .ok (.if_icmp .ne 5, 3) := by decide +kernel
theorem dX3_comes_126 : decode cX3_comes 126 = .ok (.iconst 0, 1) := by decide +kernel
theorem dX3_comes_127 : decode cX3_comes 127 = .ok (.ireturn, 1) := by decide +kernel
theorem dX3_comes_128 : decode cX3_comes 128 = .ok (.aload_n 0, 1) := by decide +kernel
theorem dX3_comes_129 : decode cX3_comes 129 = .ok (.iload_n 2, 1) := by decide +kernel
theorem dX3_comes_130 : decode cX3_comes 130 = .ok (.iload_n 3, 1) := by decide +kernel
theorem dX3_comes_131 : decode cX3_comes 131 = .ok (.aload_n 0, 1) := by decide +kernel
theorem dX3_comes_132 : decode cX3_comes 132 = .ok (.getfield 52, 3) := by decide +kernel
theorem dX3_comes_135 : decode cX3_comes 135 = .ok (.iconst 3, 1) := by decide +kernel
theorem dX3_comes_136 : decode cX3_comes 136 = .ok (.iload_n 1, 1) := by decide +kernel
theorem dX3_comes_137 : decode cX3_comes 137 = .ok (.imul, 1) := by decide +kernel
theorem dX3_comes_138 : decode cX3_comes 138 = .ok (.iconst 2, 1) := by decide +kernel
theorem dX3_comes_139 : decode cX3_comes 139 = .ok (.iadd, 1) := by decide +kernel
theorem dX3_comes_140 : decode cX3_comes 140 = .ok (.iaload, 1) := by decide +kernel
theorem dX3_comes_141 : decode cX3_comes 141 = .ok (.invokevirtual 138, 3) := by decide +kernel
theorem dX3_comes_144 : decode cX3_comes 144 = .ok (.iconst 1, 1) := by decide +kernel
theorem dX3_comes_145 : decode cX3_comes 145 = .ok (.ireturn, 1) := by decide +kernel
theorem dX3_comes_146 : decode cX3_comes 146 = .ok (.aload_n 0, 1) := by decide +kernel
theorem dX3_comes_147 : decode cX3_comes 147 = .ok (.iload_n 2, 1) := by decide +kernel
theorem dX3_comes_148 : decode cX3_comes 148 = .ok (.invokevirtual 141, 3) := by decide +kernel
theorem dX3_comes_151 : decode cX3_comes 151 = .ok (.ifCond .eq 11, 3) := by decide +kernel
theorem dX3_comes_154 : decode cX3_comes 154 = .ok (.aload_n 0, 1) := by decide +kernel
theorem dX3_comes_155 : decode cX3_comes 155 = .ok (.iload_n 3, 1) := by decide +kernel
theorem dX3_comes_156 : decode cX3_comes 156 = .ok (.invokevirtual 91, 3) := by decide +kernel
theorem dX3_comes_159 : decode cX3_comes 159 = .ok (.ifCond .ne 5, 3) := by decide +kernel
theorem dX3_comes_162 : decode cX3_comes 162 = .ok (.iconst 0, 1) := by decide +kernel
theorem dX3_comes_163 : decode cX3_comes 163 = .ok (.ireturn, 1) := by decide +kernel
theorem dX3_comes_164 : decode cX3_comes 164 = .ok (.aload_n 0, 1) := by decide +kernel
theorem dX3_comes_165 : decode cX3_comes 165 = .ok (.iload_n 2, 1) := by decide +kernel
theorem dX3_comes_166 : decode cX3_comes 166 = .ok (.iload_n 3, 1) := by decide +kernel
theorem dX3_comes_167 : decode cX3_comes 167 = .ok (.invokevirtual 144, 3) := by decide +kernel
theorem dX3_comes_170 : decode cX3_comes 170 = .ok (.iconst 1, 1) := by decide +kernel
theorem dX3_comes_171 : decode cX3_comes 171 = .ok (.ireturn, 1) := by decide +kernel
theorem dX3_comes_172 : decode cX3_comes 172 = .ok (.aload_n 0, 1) := by decide +kernel
theorem dX3_comes_173 : decode cX3_comes 173 = .ok (.iload_n 2, 1) := by decide +kernel
theorem dX3_comes_174 : decode cX3_comes 174 = .ok (.invokevirtual 141, 3) := by decide +kernel
theorem dX3_comes_177 : decode cX3_comes 177 = .ok (.ifCond .eq 11, 3) := by decide +kernel
theorem dX3_comes_180 : decode cX3_comes 180 = .ok (.aload_n 0, 1) := by decide +kernel
theorem dX3_comes_181 : decode cX3_comes 181 = .ok (.iload_n 3, 1) := by decide +kernel
theorem dX3_comes_182 : decode cX3_comes 182 = .ok (.invokevirtual 141, 3) := by decide +kernel
theorem dX3_comes_185 : decode cX3_comes 185 = .ok (.ifCond .ne 5, 3) := by decide +kernel
theorem dX3_comes_188 : decode cX3_comes 188 = .ok (.iconst 0, 1) := by decide +kernel
theorem dX3_comes_189 : decode cX3_comes 189 = .ok (.ireturn, 1) := by decide +kernel
theorem dX3_comes_190 : decode cX3_comes 190 = .ok (.aload_n 0, 1) := by decide +kernel
theorem dX3_comes_191 : decode cX3_comes 191 = .ok (.iload_n 2, 1) := by decide +kernel
theorem dX3_comes_192 : decode cX3_comes 192 = .ok (.iload_n 3, 1) := by decide +kernel
theorem dX3_comes_193 : decode cX3_comes 193 = .ok (.invokevirtual 148, 3) := by decide +kernel
theorem dX3_comes_196 : decode cX3_comes 196 = .ok (.iconst 1, 1) := by decide +kernel
theorem dX3_comes_197 : decode cX3_comes 197 = .ok (.ireturn, 1) := by decide +kernel
theorem dX3_comes_198 : decode cX3_comes 198 = .ok (.aload_n 0, 1) := by decide +kernel
theorem dX3_comes_199 : decode cX3_comes 199 = .ok (.iload_n 2, 1) := by decide +kernel
theorem dX3_comes_200 : decode cX3_comes 200 = .ok (.putfield 151, 3) := by decide +kernel
theorem dX3_comes_203 : decode cX3_comes 203 = .ok (.iconst 1, 1) := by decide +kernel
theorem dX3_comes_204 : decode cX3_comes 204 = .ok (.ireturn, 1) := by decide +kernel
theorem dX3_comes_205 : decode cX3_comes 205 = .ok (.aload_n 0, 1) := by decide +kernel
theorem dX3_comes_206 : decode cX3_comes 206 = .ok (.iload_n 2, 1) := by decide +kernel
theorem dX3_comes_207 : decode cX3_comes 207 = .ok (.invokevirtual 154, 3) := by decide +kernel
theorem dX3_comes_210 : decode cX3_comes 210 = .ok (.ireturn, 1) := by decide +kernel
theorem dX3_bequest_0 : decode cX3_bequest 0 = .ok (.aload_n 0, 1) := by decide +kernel
theorem dX3_bequest_1 : decode cX3_bequest 1 = .ok (.iconst 0, 1) := by decide +kernel
theorem dX3_bequest_2 : decode cX3_bequest 2 = .ok (.putfield 106, 3) := by decide +kernel
theorem dX3_bequest_5 : decode cX3_bequest 5 = .ok (.aload_n 0, 1) := by decide +kernel
theorem dX3_bequest_6 : decode cX3_bequest 6 = .ok (.iconst 0, 1) := by decide +kernel
theorem dX3_bequest_7 : decode cX3_bequest 7 = .ok (.putfield 121, 3) := by decide +kernel
theorem dX3_bequest_10 : decode cX3_bequest 10 = .ok (.iconst 1, 1) := by decide +kernel
theorem dX3_bequest_11 : decode cX3_bequest 11 = .ok (.istore_n 1, 1) := by decide +kernel
theorem dX3_bequest_12 : decode cX3_bequest 12 = .ok (.iload_n 1, 1) := by decide +kernel
theorem dX3_bequest_13 : decode cX3_bequest 13 = .ok (.ifCond .eq 47, 3) := by decide +kernel
theorem dX3_bequest_16 : decode cX3_bequest 16 = .ok (.aload_n 0, 1) := by decide +kernel
theorem dX3_bequest_17 : decode cX3_bequest 17 = .ok (.getfield 106, 3) := by decide +kernel
theorem dX3_bequest_20 : decode cX3_bequest 20 = .ok (.aload_n 0, 1) := by decide +kernel
theorem dX3_bequest_21 : decode cX3_bequest 21 = .ok (.getfield 99, 3) := by decide +kernel
theorem dX3_bequest_24 : decode cX3_bequest 24 = .ok (.if_icmp .lt 10, 3) := by decide +kernel
theorem dX3_bequest_27 : decode cX3_bequest 27 = .ok (.aload_n 0, 1) := by decide +kernel
theorem dX3_bequest_28 : decode cX3_bequest 28 = .ok (.getfield 121, 3) := by decide +kernel
theorem dX3_bequest_31 : decode cX3_bequest 31 = .ok (.ifCond .ne 29, 3) := by decide +kernel
theorem dX3_bequest_34 : decode cX3_bequest 34 = .ok (.aload_n 0, 1) := by decide +kernel
theorem dX3_bequest_35 : decode cX3_bequest 35 = .ok (.invokevirtual 157, 3) := by decide +kernel
theorem dX3_bequest_38 : decode cX3_bequest 38 = .ok (.istore_n 1, 1) := by decide +kernel
theorem dX3_bequest_39 : decode cX3_bequest 39 = .ok (.aload_n 0, 1) := by decide +kernel
theorem dX3_bequest_40 : decode cX3_bequest 40 = .ok (.dup, 1) := by decide +kernel
theorem dX3_bequest_41 : decode cX3_bequest 41 = .ok (.getfield 121, 3) := by decide +kernel
theorem dX3_bequest_44 : decode cX3_bequest 44 = .ok (.iload_n 1, 1) := by decide +kernel
theorem dX3_bequest_45 : decode cX3_bequest 45 = .ok (.ifCond .eq 7, 3) := by decide +kernel
theorem dX3_bequest_48 : decode cX3_bequest 48 = .ok (.iconst 1, 1) := by decide +kernel
theorem dX3_bequest_49 : decode cX3_bequest 49 = .ok (.goto 4, 3) := by decide +kernel
theorem dX3_bequest_52 : decode cX3_bequest 52 = .ok (.iconst 0, 1) := by decide +kernel
theorem dX3_bequest_53 : decode cX3_bequest 53 = .ok (.iadd, 1) := by decide +kernel
theorem dX3_bequest_54 : decode cX3_bequest 54 = .ok (.putfield 121, 3) := by decide +kernel
theorem dX3_bequest_57 : decode cX3_bequest 57 = .ok (.goto (-45), 3) := by decide +kernel
theorem dX3_bequest_60 : decode cX3_bequest 60 = .ok (.aload_n 0, 1) := by decide +kernel
theorem dX3_bequest_61 : decode cX3_bequest 61 = .ok (.iconst 0, 1) := by decide +kernel
theorem dX3_bequest_62 : decode cX3_bequest 62 = .ok (.putfield 99, 3) := by decide +kernel
theorem dX3_bequest_65 : decode cX3_bequest 65 = .ok (.iload_n 1, 1) := by decide +kernel
theorem dX3_bequest_66 : decode cX3_bequest 66 = .ok (.ifCond .ne 12, 3) := by decide +kernel
theorem dX3_bequest_69 : decode cX3_bequest 69 = .ok (.sipush (-1000), 3) := by decide +kernel
theorem dX3_bequest_72 : decode cX3_bequest 72 = .ok (.aload_n 0, 1) := by decide +kernel
theorem dX3_bequest_73 : decode cX3_bequest 73 = .ok (.getfield 106, 3) := by decide +kernel
theorem dX3_bequest_76 : decode cX3_bequest 76 = .ok (.isub, 1) := by decide +kernel
theorem dX3_bequest_77 : decode cX3_bequest 77 = .ok (.ireturn, 1) := by decide +kernel
theorem dX3_bequest_78 : decode cX3_bequest 78 = .ok (.aload_n 0, 1) := by decide +kernel
theorem dX3_bequest_79 : decode cX3_bequest 79 = .ok (.iconst 1, 1) := by decide +kernel
theorem dX3_bequest_80 : decode cX3_bequest 80 = .ok (.iconst 1, 1) := by decide +kernel
theorem dX3_bequest_81 : decode cX3_bequest 81 = .ok (.invokevirtual 161, 3) := by decide +kernel
theorem dX3_bequest_84 : decode cX3_bequest 84 = .ok (.iconst 0, 1) := by decide +kernel
theorem dX3_bequest_85 : decode cX3_bequest 85 = .ok (.istore_n 2, 1) := by decide +kernel
theorem dX3_bequest_86 : decode cX3_bequest 86 = .ok (.iload_n 2, 1) := by decide +kernel
theorem dX3_bequest_87 : decode cX3_bequest 87 = .ok (.aload_n 0, 1) := by decide +kernel
theorem dX3_bequest_88 : decode cX3_bequest 88 = .ok (.getfield 121, 3) := by decide +kernel
theorem dX3_bequest_91 : decode cX3_bequest 91 = .ok (.if_icmp .ge 37, 3) := by decide +kernel
theorem dX3_bequest_94 : decode cX3_bequest 94 = .ok (.aload_n 0, 1) := by decide +kernel
theorem dX3_bequest_95 : decode cX3_bequest 95 = .ok (.iload_n 2, 1) := by decide +kernel
theorem dX3_bequest_96 : decode cX3_bequest 96 = .ok (.invokevirtual 165, 3) := by decide +kernel
theorem dX3_bequest_99 : decode cX3_bequest 99 = .ok (.ifCond .eq 6, 3) := by decide +kernel
theorem dX3_bequest_102 : decode cX3_bequest 102 = .ok (.goto 20, 3) := by decide +kernel
theorem dX3_bequest_105 : decode cX3_bequest 105 = .ok (.aload_n 0, 1) := by decide +kernel
theorem dX3_bequest_106 : decode cX3_bequest 106 = .ok (.iconst 1, 1) := by decide +kernel
theorem dX3_bequest_107 : decode cX3_bequest 107 = .ok (.iconst 0, 1) := by decide +kernel
theorem dX3_bequest_108 : decode cX3_bequest 108 = .ok (.invokevirtual 161, 3) := by decide +kernel
theorem dX3_bequest_111 : decode cX3_bequest 111 = .ok (.sipush (-2000), 3) := by decide +kernel
theorem dX3_bequest_114 : decode cX3_bequest 114 = .ok (.aload_n 0, 1) := by decide +kernel
theorem dX3_bequest_115 : decode cX3_bequest 115 = .ok (.getfield 49, 3) := by decide +kernel
theorem dX3_bequest_118 : decode cX3_bequest 118 = .ok (.iload_n 2, 1) := by decide +kernel
theorem dX3_bequest_119 : decode cX3_bequest 119 = .ok (.iaload, 1) := by decide +kernel
theorem dX3_bequest_120 : decode cX3_bequest 120 = .ok (.isub, 1) := by decide +kernel
theorem dX3_bequest_121 : decode cX3_bequest 121 = .ok (.ireturn, 1) := by decide +kernel
theorem dX3_bequest_122 : decode cX3_bequest 122 = .ok (.iinc 2 1, 3) := by decide +kernel
theorem dX3_bequest_125 : decode cX3_bequest 125 = .ok (.goto (-39), 3) := by decide +kernel
theorem dX3_bequest_128 : decode cX3_bequest 128 = .ok (.aload_n 0, 1) := by decide +kernel
theorem dX3_bequest_129 : decode cX3_bequest 129 = .ok (.iconst 0, 1) := by decide +kernel
theorem dX3_bequest_130 : decode cX3_bequest 130 = .ok (.putfield 168, 3) := by decide +kernel
theorem dX3_bequest_133 : decode cX3_bequest 133 = .ok (.aload_n 0, 1) := by decide +kernel
theorem dX3_bequest_134 : decode cX3_bequest 134 = .ok (.getfield 121, 3) := by decide +kernel
theorem dX3_bequest_137 : decode cX3_bequest 137 = .ok (.ireturn, 1) := by decide +kernel
theorem dX3_passes_0 : decode cX3_passes 0 = .ok (.iconst 0, 1) := by decide +kernel
theorem dX3_passes_1 : decode cX3_passes 1 = .ok (.istore_n 2, 1) := by decide +kernel
theorem dX3_passes_2 : decode cX3_passes 2 = .ok (.iload_n 2, 1) := by decide +kernel
theorem dX3_passes_3 : decode cX3_passes 3 = .ok (.aload_n 1, 1) := by decide +kernel
theorem dX3_passes_4 : decode cX3_passes 4 = .ok (.arraylength, 1) := by decide +kernel
theorem dX3_passes_5 : decode cX3_passes 5 = .ok (.if_icmp .ge 53, 3) := by decide +kernel
theorem dX3_passes_8 : decode cX3_passes 8 = .ok (.aload_n 0, 1) := by decide +kernel
theorem dX3_passes_9 : decode cX3_passes 9 = .ok (.getfield 171, 3) := by decide +kernel
theorem dX3_passes_12 : decode cX3_passes 12 = .ok (.ifCond .eq 18, 3) := by decide +kernel
theorem dX3_passes_15 : decode cX3_passes 15 = .ok (.aload_n 0, 1) := by decide +kernel
theorem dX3_passes_16 : decode cX3_passes 16 = .ok (.getfield 55, 3) := by decide +kernel
theorem dX3_passes_19 : decode cX3_passes 19 = .ok (.aload_n 0, 1) := by decide +kernel
theorem dX3_passes_20 : decode cX3_passes 20 = .ok (.getfield 175, 3) := by decide +kernel
theorem dX3_passes_23 : decode cX3_passes 23 = .ok (.aload_n 1, 1) := by decide +kernel
theorem dX3_passes_24 : decode cX3_passes 24 = .ok (.iload_n 2, 1) := by decide +kernel
theorem dX3_passes_25 : decode cX3_passes 25 = .ok (.iaload, 1) := by decide +kernel
theorem dX3_passes_26 : decode cX3_passes 26 = .ok (.iastore, 1) := by decide +kernel
theorem dX3_passes_27 : decode cX3_passes 27 = .ok (.goto 15, 3) := by decide +kernel
theorem dX3_passes_30 : decode cX3_passes 30 = .ok (.aload_n 1, 1) := by decide +kernel
theorem dX3_passes_31 : decode cX3_passes 31 = .ok (.iload_n 2, 1) := by decide +kernel
theorem dX3_passes_32 : decode cX3_passes 32 = .ok (.aload_n 0, 1) := by decide +kernel
theorem dX3_passes_33 : decode cX3_passes 33 = .ok (.getfield 55, 3) := by decide +kernel
theorem dX3_passes_36 : decode cX3_passes 36 = .ok (.aload_n 0, 1) := by decide +kernel
theorem dX3_passes_37 : decode cX3_passes 37 = .ok (.getfield 175, 3) := by decide +kernel
theorem dX3_passes_40 : decode cX3_passes 40 = .ok (.iaload, 1) := by decide +kernel
theorem dX3_passes_41 : decode cX3_passes 41 = .ok (.iastore, 1) := by decide +kernel
theorem dX3_passes_42 : decode cX3_passes 42 = .ok (.aload_n 0, 1) := by decide +kernel
theorem dX3_passes_43 : decode cX3_passes 43 = .ok (.dup, 1) := by decide +kernel
theorem dX3_passes_44 : decode cX3_passes 44 = .ok (.getfield 175, 3) := by decide +kernel
theorem dX3_passes_47 : decode cX3_passes 47 = .ok (.iconst 1, 1) := by decide +kernel
theorem dX3_passes_48 : decode cX3_passes 48 = .ok (.iadd, 1) := by decide +kernel
theorem dX3_passes_49 : decode cX3_passes 49 = .ok (.putfield 175, 3) := by decide +kernel
theorem dX3_passes_52 : decode cX3_passes 52 = .ok (.iinc 2 1, 3) := by decide +kernel
theorem dX3_passes_55 : decode cX3_passes 55 = .ok (.goto (-53), 3) := by decide +kernel
theorem dX3_passes_58 : decode cX3_passes 58 = .ok (.return_, 1) := by decide +kernel
theorem dX3_passOne_0 : decode cX3_passOne 0 = .ok (.aload_n 0, 1) := by decide +kernel
theorem dX3_passOne_1 : decode cX3_passOne 1 = .ok (.getfield 171, 3) := by decide +kernel
theorem dX3_passOne_4 : decode cX3_passOne 4 = .ok (.ifCond .eq 7, 3) := by decide +kernel
theorem dX3_passOne_7 : decode cX3_passOne 7 = .ok (.iload_n 1, 1) := by decide +kernel
theorem dX3_passOne_8 : decode cX3_passOne 8 = .ok (.goto 12, 3) := by decide +kernel
theorem dX3_passOne_11 : decode cX3_passOne 11 = .ok (.aload_n 0, 1) := by decide +kernel
theorem dX3_passOne_12 : decode cX3_passOne 12 = .ok (.getfield 55, 3) := by decide +kernel
theorem dX3_passOne_15 : decode cX3_passOne 15 = .ok (.aload_n 0, 1) := by decide +kernel
theorem dX3_passOne_16 : decode cX3_passOne 16 = .ok (.getfield 175, 3) := by decide +kernel
theorem dX3_passOne_19 : decode cX3_passOne 19 = .ok (.iaload, 1) := by decide +kernel
theorem dX3_passOne_20 : decode cX3_passOne 20 = .ok (.istore_n 2, 1) := by decide +kernel
theorem dX3_passOne_21 : decode cX3_passOne 21 = .ok (.aload_n 0, 1) := by decide +kernel
theorem dX3_passOne_22 : decode cX3_passOne 22 = .ok (.getfield 171, 3) := by decide +kernel
theorem dX3_passOne_25 : decode cX3_passOne 25 = .ok (.ifCond .eq 13, 3) := by decide +kernel
theorem dX3_passOne_28 : decode cX3_passOne 28 = .ok (.aload_n 0, 1) := by decide +kernel
theorem dX3_passOne_29 : decode cX3_passOne 29 = .ok (.getfield 55, 3) := by decide +kernel
theorem dX3_passOne_32 : decode cX3_passOne 32 = .ok (.aload_n 0, 1) := by decide +kernel
theorem dX3_passOne_33 : decode cX3_passOne 33 = .ok (.getfield 175, 3) := by decide +kernel
theorem dX3_passOne_36 : decode cX3_passOne 36 = .ok (.iload_n 1, 1) := by decide +kernel
theorem dX3_passOne_37 : decode cX3_passOne 37 = .ok (.iastore, 1) := by decide +kernel
theorem dX3_passOne_38 : decode cX3_passOne 38 = .ok (.aload_n 0, 1) := by decide +kernel
theorem dX3_passOne_39 : decode cX3_passOne 39 = .ok (.dup, 1) := by decide +kernel
theorem dX3_passOne_40 : decode cX3_passOne 40 = .ok (.getfield 175, 3) := by decide +kernel
theorem dX3_passOne_43 : decode cX3_passOne 43 = .ok (.iconst 1, 1) := by decide +kernel
theorem dX3_passOne_44 : decode cX3_passOne 44 = .ok (.iadd, 1) := by decide +kernel
theorem dX3_passOne_45 : decode cX3_passOne 45 = .ok (.putfield 175, 3) := by decide +kernel
theorem dX3_passOne_48 : decode cX3_passOne 48 = .ok (.iload_n 2, 1) := by decide +kernel
theorem dX3_passOne_49 : decode cX3_passOne 49 = .ok (.ireturn, 1) := by decide +kernel
theorem dX3_passesAll_0 : decode cX3_passesAll 0 = .ok (.aload_n 0, 1) := by decide +kernel
theorem dX3_passesAll_1 : decode cX3_passesAll 1 = .ok (.bipush 60, 2) := by decide +kernel
theorem dX3_passesAll_3 : decode cX3_passesAll 3 = .ok (.iload_n 1, 1) := by decide +kernel
theorem dX3_passesAll_4 : decode cX3_passesAll 4 = .ok (.imul, 1) := by decide +kernel
theorem dX3_passesAll_5 : decode cX3_passesAll 5 = .ok (.putfield 175, 3) := by decide +kernel
theorem dX3_passesAll_8 : decode cX3_passesAll 8 = .ok (.aload_n 0, 1) := by decide +kernel
theorem dX3_passesAll_9 : decode cX3_passesAll 9 = .ok (.iload_n 2, 1) := by decide +kernel
theorem dX3_passesAll_10 : decode cX3_passesAll 10 = .ok (.putfield 171, 3) := by decide +kernel
theorem dX3_passesAll_13 : decode cX3_passesAll 13 = .ok (.aload_n 0, 1) := by decide +kernel
theorem dX3_passesAll_14 : decode cX3_passesAll 14 = .ok (.aload_n 0, 1) := by decide +kernel
theorem dX3_passesAll_15 : decode cX3_passesAll 15 = .ok (.getfield 13, 3) := by decide +kernel
theorem dX3_passesAll_18 : decode cX3_passesAll 18 = .ok (.invokevirtual 178, 3) := by decide +kernel
theorem dX3_passesAll_21 : decode cX3_passesAll 21 = .ok (.aload_n 0, 1) := by decide +kernel
theorem dX3_passesAll_22 : decode cX3_passesAll 22 = .ok (.aload_n 0, 1) := by decide +kernel
theorem dX3_passesAll_23 : decode cX3_passesAll 23 = .ok (.getfield 16, 3) := by decide +kernel
theorem dX3_passesAll_26 : decode cX3_passesAll 26 = .ok (.invokevirtual 178, 3) := by decide +kernel
theorem dX3_passesAll_29 : decode cX3_passesAll 29 = .ok (.aload_n 0, 1) := by decide +kernel
theorem dX3_passesAll_30 : decode cX3_passesAll 30 = .ok (.aload_n 0, 1) := by decide +kernel
theorem dX3_passesAll_31 : decode cX3_passesAll 31 = .ok (.getfield 19, 3) := by decide +kernel
theorem dX3_passesAll_34 : decode cX3_passesAll 34 = .ok (.invokevirtual 178, 3) := by decide +kernel
theorem dX3_passesAll_37 : decode cX3_passesAll 37 = .ok (.aload_n 0, 1) := by decide +kernel
theorem dX3_passesAll_38 : decode cX3_passesAll 38 = .ok (.aload_n 0, 1) := by decide +kernel
theorem dX3_passesAll_39 : decode cX3_passesAll 39 = .ok (.getfield 22, 3) := by decide +kernel
theorem dX3_passesAll_42 : decode cX3_passesAll 42 = .ok (.invokevirtual 178, 3) := by decide +kernel
theorem dX3_passesAll_45 : decode cX3_passesAll 45 = .ok (.aload_n 0, 1) := by decide +kernel
theorem dX3_passesAll_46 : decode cX3_passesAll 46 = .ok (.aload_n 0, 1) := by decide +kernel
theorem dX3_passesAll_47 : decode cX3_passesAll 47 = .ok (.getfield 25, 3) := by decide +kernel
theorem dX3_passesAll_50 : decode cX3_passesAll 50 = .ok (.invokevirtual 178, 3) := by decide +kernel
theorem dX3_passesAll_53 : decode cX3_passesAll 53 = .ok (.aload_n 0, 1) := by decide +kernel
theorem dX3_passesAll_54 : decode cX3_passesAll 54 = .ok (.aload_n 0, 1) := by decide +kernel
theorem dX3_passesAll_55 : decode cX3_passesAll 55 = .ok (.getfield 28, 3) := by decide +kernel
theorem dX3_passesAll_58 : decode cX3_passesAll 58 = .ok (.invokevirtual 178, 3) := by decide +kernel
theorem dX3_passesAll_61 : decode cX3_passesAll 61 = .ok (.aload_n 0, 1) := by decide +kernel
theorem dX3_passesAll_62 : decode cX3_passesAll 62 = .ok (.aload_n 0, 1) := by decide +kernel
theorem dX3_passesAll_63 : decode cX3_passesAll 63 = .ok (.getfield 31, 3) := by decide +kernel
theorem dX3_passesAll_66 : decode cX3_passesAll 66 = .ok (.invokevirtual 178, 3) := by decide +kernel
theorem dX3_passesAll_69 : decode cX3_passesAll 69 = .ok (.aload_n 0, 1) := by decide +kernel
theorem dX3_passesAll_70 : decode cX3_passesAll 70 = .ok (.aload_n 0, 1) := by decide +kernel
theorem dX3_passesAll_71 : decode cX3_passesAll 71 = .ok (.getfield 34, 3) := by decide +kernel
theorem dX3_passesAll_74 : decode cX3_passesAll 74 = .ok (.invokevirtual 178, 3) := by decide +kernel
theorem dX3_passesAll_77 : decode cX3_passesAll 77 = .ok (.aload_n 0, 1) := by decide +kernel
theorem dX3_passesAll_78 : decode cX3_passesAll 78 = .ok (.aload_n 0, 1) := by decide +kernel
theorem dX3_passesAll_79 : decode cX3_passesAll 79 = .ok (.getfield 37, 3) := by decide +kernel
theorem dX3_passesAll_82 : decode cX3_passesAll 82 = .ok (.invokevirtual 178, 3) := by decide +kernel
theorem dX3_passesAll_85 : decode cX3_passesAll 85 = .ok (.aload_n 0, 1) := by decide +kernel
theorem dX3_passesAll_86 : decode cX3_passesAll 86 = .ok (.aload_n 0, 1) := by decide +kernel
theorem dX3_passesAll_87 : decode cX3_passesAll 87 = .ok (.getfield 40, 3) := by decide +kernel
theorem dX3_passesAll_90 : decode cX3_passesAll 90 = .ok (.invokevirtual 178, 3) := by decide +kernel
theorem dX3_passesAll_93 : decode cX3_passesAll 93 = .ok (.aload_n 0, 1) := by decide +kernel
theorem dX3_passesAll_94 : decode cX3_passesAll 94 = .ok (.aload_n 0, 1) := by decide +kernel
theorem dX3_passesAll_95 : decode cX3_passesAll 95 = .ok (.aload_n 0, 1) := by decide +kernel
theorem dX3_passesAll_96 : decode cX3_passesAll 96 = .ok (.getfield 83, 3) := by decide +kernel
theorem dX3_passesAll_99 : decode cX3_passesAll 99 = .ok (.invokevirtual 182, 3) := by decide +kernel
theorem dX3_passesAll_102 : decode cX3_passesAll 102 = .ok (.putfield 83, 3) := by decide +kernel
theorem dX3_passesAll_105 : decode cX3_passesAll 105 = .ok (.aload_n 0, 1) := by decide +kernel
theorem dX3_passesAll_106 : decode cX3_passesAll 106 = .ok (.aload_n 0, 1) := by decide +kernel
theorem dX3_passesAll_107 : decode cX3_passesAll 107 = .ok (.aload_n 0, 1) := by decide +kernel
theorem dX3_passesAll_108 : decode cX3_passesAll 108 = .ok (.getfield 88, 3) := by decide +kernel
theorem dX3_passesAll_111 : decode cX3_passesAll 111 = .ok (.invokevirtual 182, 3) := by decide +kernel
theorem dX3_passesAll_114 : decode cX3_passesAll 114 = .ok (.putfield 88, 3) := by decide +kernel
theorem dX3_passesAll_117 : decode cX3_passesAll 117 = .ok (.aload_n 0, 1) := by decide +kernel
theorem dX3_passesAll_118 : decode cX3_passesAll 118 = .ok (.aload_n 0, 1) := by decide +kernel
theorem dX3_passesAll_119 : decode cX3_passesAll 119 = .ok (.aload_n 0, 1) := by decide +kernel
theorem dX3_passesAll_120 : decode cX3_passesAll 120 = .ok (.getfield 127, 3) := by decide +kernel
theorem dX3_passesAll_123 : decode cX3_passesAll 123 = .ok (.invokevirtual 182, 3) := by decide +kernel
theorem dX3_passesAll_126 : decode cX3_passesAll 126 = .ok (.putfield 127, 3) := by decide +kernel
theorem dX3_passesAll_129 : decode cX3_passesAll 129 = .ok (.aload_n 0, 1) := by decide +kernel
theorem dX3_passesAll_130 : decode cX3_passesAll 130 = .ok (.aload_n 0, 1) := by decide +kernel
theorem dX3_passesAll_131 : decode cX3_passesAll 131 = .ok (.aload_n 0, 1) := by decide +kernel
theorem dX3_passesAll_132 : decode cX3_passesAll 132 = .ok (.getfield 151, 3) := by decide +kernel
theorem dX3_passesAll_135 : decode cX3_passesAll 135 = .ok (.invokevirtual 182, 3) := by decide +kernel
theorem dX3_passesAll_138 : decode cX3_passesAll 138 = .ok (.putfield 151, 3) := by decide +kernel
theorem dX3_passesAll_141 : decode cX3_passesAll 141 = .ok (.return_, 1) := by decide +kernel
theorem dX3_thinks_0 : decode cX3_thinks 0 = .ok (.aload_n 0, 1) := by decide +kernel
theorem dX3_thinks_1 : decode cX3_thinks 1 = .ok (.iconst 2, 1) := by decide +kernel
theorem dX3_thinks_2 : decode cX3_thinks 2 = .ok (.iconst 1, 1) := by decide +kernel
theorem dX3_thinks_3 : decode cX3_thinks 3 = .ok (.invokevirtual 161, 3) := by decide +kernel
theorem dX3_thinks_6 : decode cX3_thinks 6 = .ok (.return_, 1) := by decide +kernel
theorem dX3_forgets_0 : decode cX3_forgets 0 = .ok (.aload_n 0, 1) := by decide +kernel
theorem dX3_forgets_1 : decode cX3_forgets 1 = .ok (.iconst 2, 1) := by decide +kernel
theorem dX3_forgets_2 : decode cX3_forgets 2 = .ok (.iconst 0, 1) := by decide +kernel
theorem dX3_forgets_3 : decode cX3_forgets 3 = .ok (.invokevirtual 161, 3) := by decide +kernel
theorem dX3_forgets_6 : decode cX3_forgets 6 = .ok (.return_, 1) := by decide +kernel
theorem dX3_keepsBack_0 : decode cX3_keepsBack 0 = .ok (.aload_n 0, 1) := by decide +kernel
theorem dX3_keepsBack_1 : decode cX3_keepsBack 1 = .ok (.getfield 168, 3) := by decide +kernel
theorem dX3_keepsBack_4 : decode cX3_keepsBack 4 = .ok (.bipush 8, 2) := by decide +kernel
theorem dX3_keepsBack_6 : decode cX3_keepsBack 6 = .ok (.if_icmp .ne 45, 3) := by decide +kernel
theorem dX3_keepsBack_9 : decode cX3_keepsBack 9 = .ok (.sipush 180, 3) := by decide +kernel
theorem dX3_keepsBack_12 : decode cX3_keepsBack 12 = .ok (.istore_n 1, 1) := by decide +kernel
theorem dX3_keepsBack_13 : decode cX3_keepsBack 13 = .ok (.iload_n 1, 1) := by decide +kernel
theorem dX3_keepsBack_14 : decode cX3_keepsBack 14 = .ok (.sipush 600, 3) := by decide +kernel
theorem dX3_keepsBack_17 : decode cX3_keepsBack 17 = .ok (.if_icmp .ge 24, 3) := by decide +kernel
theorem dX3_keepsBack_20 : decode cX3_keepsBack 20 = .ok (.aload_n 0, 1) := by decide +kernel
theorem dX3_keepsBack_21 : decode cX3_keepsBack 21 = .ok (.getfield 55, 3) := by decide +kernel
theorem dX3_keepsBack_24 : decode cX3_keepsBack 24 = .ok (.iload_n 1, 1) := by decide +kernel
theorem dX3_keepsBack_25 : decode cX3_keepsBack 25 = .ok (.aload_n 0, 1) := by decide +kernel
theorem dX3_keepsBack_26 : decode cX3_keepsBack 26 = .ok (.getfield 55, 3) := by decide +kernel
theorem dX3_keepsBack_29 : decode cX3_keepsBack 29 = .ok (.iload_n 1, 1) := by decide +kernel
theorem dX3_keepsBack_30 : decode cX3_keepsBack 30 = .ok (.bipush 60, 2) := by decide +kernel
theorem dX3_keepsBack_32 : decode cX3_keepsBack 32 = .ok (.iadd, 1) := by decide +kernel
theorem dX3_keepsBack_33 : decode cX3_keepsBack 33 = .ok (.iaload, 1) := by decide +kernel
theorem dX3_keepsBack_34 : decode cX3_keepsBack 34 = .ok (.iastore, 1) := by decide +kernel
theorem dX3_keepsBack_35 : decode cX3_keepsBack 35 = .ok (.iinc 1 1, 3) := by decide +kernel
theorem dX3_keepsBack_38 : decode cX3_keepsBack 38 = .ok (.goto (-25), 3) := by decide +kernel
theorem dX3_keepsBack_41 : decode cX3_keepsBack 41 = .ok (.aload_n 0, 1) := by decide +kernel
theorem dX3_keepsBack_42 : decode cX3_keepsBack 42 = .ok (.dup, 1) := by decide +kernel
theorem dX3_keepsBack_43 : decode cX3_keepsBack 43 = .ok (.getfield 168, 3) := by decide +kernel
theorem dX3_keepsBack_46 : decode cX3_keepsBack 46 = .ok (.iconst 1, 1) := by decide +kernel
theorem dX3_keepsBack_47 : decode cX3_keepsBack 47 = .ok (.isub, 1) := by decide +kernel
theorem dX3_keepsBack_48 : decode cX3_keepsBack 48 = .ok (.putfield 168, 3) := by decide +kernel
theorem dX3_keepsBack_51 : decode cX3_keepsBack 51 = .ok (.aload_n 0, 1) := by decide +kernel
theorem dX3_keepsBack_52 : decode cX3_keepsBack 52 = .ok (.iconst 3, 1) := by decide +kernel
theorem dX3_keepsBack_53 : decode cX3_keepsBack 53 = .ok (.aload_n 0, 1) := by decide +kernel
theorem dX3_keepsBack_54 : decode cX3_keepsBack 54 = .ok (.getfield 168, 3) := by decide +kernel
theorem dX3_keepsBack_57 : decode cX3_keepsBack 57 = .ok (.iadd, 1) := by decide +kernel
theorem dX3_keepsBack_58 : decode cX3_keepsBack 58 = .ok (.iconst 1, 1) := by decide +kernel
theorem dX3_keepsBack_59 : decode cX3_keepsBack 59 = .ok (.invokevirtual 161, 3) := by decide +kernel
theorem dX3_keepsBack_62 : decode cX3_keepsBack 62 = .ok (.aload_n 0, 1) := by decide +kernel
theorem dX3_keepsBack_63 : decode cX3_keepsBack 63 = .ok (.dup, 1) := by decide +kernel
theorem dX3_keepsBack_64 : decode cX3_keepsBack 64 = .ok (.getfield 168, 3) := by decide +kernel
theorem dX3_keepsBack_67 : decode cX3_keepsBack 67 = .ok (.iconst 1, 1) := by decide +kernel
theorem dX3_keepsBack_68 : decode cX3_keepsBack 68 = .ok (.iadd, 1) := by decide +kernel
theorem dX3_keepsBack_69 : decode cX3_keepsBack 69 = .ok (.putfield 168, 3) := by decide +kernel
theorem dX3_keepsBack_72 : decode cX3_keepsBack 72 = .ok (.return_, 1) := by decide +kernel
theorem dX3_back_0 : decode cX3_back 0 = .ok (.aload_n 0, 1) := by decide +kernel
theorem dX3_back_1 : decode cX3_back 1 = .ok (.getfield 168, 3) := by decide +kernel
theorem dX3_back_4 : decode cX3_back 4 = .ok (.ifCond .ne 10, 3) := by decide +kernel
theorem dX3_back_7 : decode cX3_back 7 = .ok (.aload_n 0, 1) := by decide +kernel
theorem dX3_back_8 : decode cX3_back 8 = .ok (.bipush (-3), 2) := by decide +kernel
theorem dX3_back_10 : decode cX3_back 10 = .ok (.invokevirtual 102, 3) := by decide +kernel
theorem dX3_back_13 : decode cX3_back 13 = .ok (.ireturn, 1) := by decide +kernel
theorem dX3_back_14 : decode cX3_back 14 = .ok (.aload_n 0, 1) := by decide +kernel
theorem dX3_back_15 : decode cX3_back 15 = .ok (.dup, 1) := by decide +kernel
theorem dX3_back_16 : decode cX3_back 16 = .ok (.getfield 168, 3) := by decide +kernel
theorem dX3_back_19 : decode cX3_back 19 = .ok (.iconst 1, 1) := by decide +kernel
theorem dX3_back_20 : decode cX3_back 20 = .ok (.isub, 1) := by decide +kernel
theorem dX3_back_21 : decode cX3_back 21 = .ok (.putfield 168, 3) := by decide +kernel
theorem dX3_back_24 : decode cX3_back 24 = .ok (.aload_n 0, 1) := by decide +kernel
theorem dX3_back_25 : decode cX3_back 25 = .ok (.iconst 3, 1) := by decide +kernel
theorem dX3_back_26 : decode cX3_back 26 = .ok (.aload_n 0, 1) := by decide +kernel
theorem dX3_back_27 : decode cX3_back 27 = .ok (.getfield 168, 3) := by decide +kernel
theorem dX3_back_30 : decode cX3_back 30 = .ok (.iadd, 1) := by decide +kernel
theorem dX3_back_31 : decode cX3_back 31 = .ok (.iconst 0, 1) := by decide +kernel
theorem dX3_back_32 : decode cX3_back 32 = .ok (.invokevirtual 161, 3) := by decide +kernel
theorem dX3_back_35 : decode cX3_back 35 = .ok (.aload_n 0, 1) := by decide +kernel
theorem dX3_back_36 : decode cX3_back 36 = .ok (.getfield 168, 3) := by decide +kernel
theorem dX3_back_39 : decode cX3_back 39 = .ok (.ireturn, 1) := by decide +kernel
theorem dX3_image_0 : decode cX3_image 0 = .ok (.aload_n 0, 1) := by decide +kernel
theorem dX3_image_1 : decode cX3_image 1 = .ok (.iconst 1, 1) := by decide +kernel
theorem dX3_image_2 : decode cX3_image 2 = .ok (.putfield 185, 3) := by decide +kernel
theorem dX3_image_5 : decode cX3_image 5 = .ok (.aload_n 0, 1) := by decide +kernel
theorem dX3_image_6 : decode cX3_image 6 = .ok (.iconst 0, 1) := by decide +kernel
theorem dX3_image_7 : decode cX3_image 7 = .ok (.iconst 1, 1) := by decide +kernel
theorem dX3_image_8 : decode cX3_image 8 = .ok (.invokevirtual 161, 3) := by decide +kernel
theorem dX3_image_11 : decode cX3_image 11 = .ok (.aload_n 0, 1) := by decide +kernel
theorem dX3_image_12 : decode cX3_image 12 = .ok (.getfield 127, 3) := by decide +kernel
theorem dX3_image_15 : decode cX3_image 15 = .ok (.ireturn, 1) := by decide +kernel
theorem dX3_restore_0 : decode cX3_restore 0 = .ok (.aload_n 0, 1) := by decide +kernel
theorem dX3_restore_1 : decode cX3_restore 1 = .ok (.getfield 185, 3) := by decide +kernel
theorem dX3_restore_4 : decode cX3_restore 4 = .ok (.ifCond .ne 10, 3) := by decide +kernel
theorem dX3_restore_7 : decode cX3_restore 7 = .ok (.aload_n 0, 1) := by decide +kernel
theorem dX3_restore_8 : decode cX3_restore 8 = .ok (.bipush (-3), 2) := by decide +kernel
theorem dX3_restore_10 : decode cX3_restore 10 = .ok (.invokevirtual 102, 3) := by decide +kernel
theorem dX3_restore_13 : decode cX3_restore 13 = .ok (.ireturn, 1) := by decide +kernel
theorem dX3_restore_14 : decode cX3_restore 14 = .ok (.aload_n 0, 1) := by decide +kernel
theorem dX3_restore_15 : decode cX3_restore 15 = .ok (.iconst 0, 1) := by decide +kernel
theorem dX3_restore_16 : decode cX3_restore 16 = .ok (.iconst 0, 1) := by decide +kernel
theorem dX3_restore_17 : decode cX3_restore 17 = .ok (.invokevirtual 161, 3) := by decide +kernel
theorem dX3_restore_20 : decode cX3_restore 20 = .ok (.aload_n 0, 1) := by decide +kernel
theorem dX3_restore_21 : decode cX3_restore 21 = .ok (.iconst 0, 1) := by decide +kernel
theorem dX3_restore_22 : decode cX3_restore 22 = .ok (.putfield 168, 3) := by decide +kernel
theorem dX3_restore_25 : decode cX3_restore 25 = .ok (.aload_n 0, 1) := by decide +kernel
theorem dX3_restore_26 : decode cX3_restore 26 = .ok (.getfield 127, 3) := by decide +kernel
theorem dX3_restore_29 : decode cX3_restore 29 = .ok (.ireturn, 1) := by decide +kernel
theorem dX3_addsBag_0 : decode cX3_addsBag 0 = .ok (.aload_n 0, 1) := by decide +kernel
theorem dX3_addsBag_1 : decode cX3_addsBag 1 = .ok (.getfield 13, 3) := by decide +kernel
theorem dX3_addsBag_4 : decode cX3_addsBag 4 = .ok (.aload_n 0, 1) := by decide +kernel
theorem dX3_addsBag_5 : decode cX3_addsBag 5 = .ok (.getfield 83, 3) := by decide +kernel
theorem dX3_addsBag_8 : decode cX3_addsBag 8 = .ok (.iload_n 1, 1) := by decide +kernel
theorem dX3_addsBag_9 : decode cX3_addsBag 9 = .ok (.iastore, 1) := by decide +kernel
theorem dX3_addsBag_10 : decode cX3_addsBag 10 = .ok (.aload_n 0, 1) := by decide +kernel
theorem dX3_addsBag_11 : decode cX3_addsBag 11 = .ok (.getfield 16, 3) := by decide +kernel
theorem dX3_addsBag_14 : decode cX3_addsBag 14 = .ok (.aload_n 0, 1) := by decide +kernel
theorem dX3_addsBag_15 : decode cX3_addsBag 15 = .ok (.getfield 83, 3) := by decide +kernel
theorem dX3_addsBag_18 : decode cX3_addsBag 18 = .ok (.iload_n 2, 1) := by decide +kernel
theorem dX3_addsBag_19 : decode cX3_addsBag 19 = .ok (.iastore, 1) := by decide +kernel
theorem dX3_addsBag_20 : decode cX3_addsBag 20 = .ok (.aload_n 0, 1) := by decide +kernel
theorem dX3_addsBag_21 : decode cX3_addsBag 21 = .ok (.getfield 19, 3) := by decide +kernel
theorem dX3_addsBag_24 : decode cX3_addsBag 24 = .ok (.aload_n 0, 1) := by decide +kernel
theorem dX3_addsBag_25 : decode cX3_addsBag 25 = .ok (.getfield 83, 3) := by decide +kernel
theorem dX3_addsBag_28 : decode cX3_addsBag 28 = .ok (.iload_n 3, 1) := by decide +kernel
theorem dX3_addsBag_29 : decode cX3_addsBag 29 = .ok (.iastore, 1) := by decide +kernel
theorem dX3_addsBag_30 : decode cX3_addsBag 30 = .ok (.aload_n 0, 1) := by decide +kernel
theorem dX3_addsBag_31 : decode cX3_addsBag 31 = .ok (.getfield 22, 3) := by decide +kernel
theorem dX3_addsBag_34 : decode cX3_addsBag 34 = .ok (.aload_n 0, 1) := by decide +kernel
theorem dX3_addsBag_35 : decode cX3_addsBag 35 = .ok (.getfield 83, 3) := by decide +kernel
theorem dX3_addsBag_38 : decode cX3_addsBag 38 = .ok (.bipush 9, 2) := by decide +kernel
theorem dX3_addsBag_40 : decode cX3_addsBag 40 = .ok (.iastore, 1) := by decide +kernel
theorem dX3_addsBag_41 : decode cX3_addsBag 41 = .ok (.aload_n 0, 1) := by decide +kernel
theorem dX3_addsBag_42 : decode cX3_addsBag 42 = .ok (.getfield 25, 3) := by decide +kernel
theorem dX3_addsBag_45 : decode cX3_addsBag 45 = .ok (.aload_n 0, 1) := by decide +kernel
theorem dX3_addsBag_46 : decode cX3_addsBag 46 = .ok (.getfield 83, 3) := by decide +kernel
theorem dX3_addsBag_49 : decode cX3_addsBag 49 = .ok (.iconst 0, 1) := by decide +kernel
theorem dX3_addsBag_50 : decode cX3_addsBag 50 = .ok (.iastore, 1) := by decide +kernel
theorem dX3_addsBag_51 : decode cX3_addsBag 51 = .ok (.aload_n 0, 1) := by decide +kernel
theorem dX3_addsBag_52 : decode cX3_addsBag 52 = .ok (.dup, 1) := by decide +kernel
theorem dX3_addsBag_53 : decode cX3_addsBag 53 = .ok (.getfield 83, 3) := by decide +kernel
theorem dX3_addsBag_56 : decode cX3_addsBag 56 = .ok (.iconst 1, 1) := by decide +kernel
theorem dX3_addsBag_57 : decode cX3_addsBag 57 = .ok (.iadd, 1) := by decide +kernel
theorem dX3_addsBag_58 : decode cX3_addsBag 58 = .ok (.putfield 83, 3) := by decide +kernel
theorem dX3_addsBag_61 : decode cX3_addsBag 61 = .ok (.return_, 1) := by decide +kernel
theorem dX3_addsBearer_0 : decode cX3_addsBearer 0 = .ok (.aload_n 0, 1) := by decide +kernel
theorem dX3_addsBearer_1 : decode cX3_addsBearer 1 = .ok (.getfield 28, 3) := by decide +kernel
theorem dX3_addsBearer_4 : decode cX3_addsBearer 4 = .ok (.aload_n 0, 1) := by decide +kernel
theorem dX3_addsBearer_5 : decode cX3_addsBearer 5 = .ok (.getfield 88, 3) := by decide +kernel
theorem dX3_addsBearer_8 : decode cX3_addsBearer 8 = .ok (.iload_n 1, 1) := by decide +kernel
theorem dX3_addsBearer_9 : decode cX3_addsBearer 9 = .ok (.iastore, 1) := by decide +kernel
theorem dX3_addsBearer_10 : decode cX3_addsBearer 10 = .ok (.aload_n 0, 1) := by decide +kernel
theorem dX3_addsBearer_11 : decode cX3_addsBearer 11 = .ok (.getfield 31, 3) := by decide +kernel
theorem dX3_addsBearer_14 : decode cX3_addsBearer 14 = .ok (.aload_n 0, 1) := by decide +kernel
theorem dX3_addsBearer_15 : decode cX3_addsBearer 15 = .ok (.getfield 88, 3) := by decide +kernel
theorem dX3_addsBearer_18 : decode cX3_addsBearer 18 = .ok (.iload_n 2, 1) := by decide +kernel
theorem dX3_addsBearer_19 : decode cX3_addsBearer 19 = .ok (.iastore, 1) := by decide +kernel
theorem dX3_addsBearer_20 : decode cX3_addsBearer 20 = .ok (.aload_n 0, 1) := by decide +kernel
theorem dX3_addsBearer_21 : decode cX3_addsBearer 21 = .ok (.getfield 34, 3) := by decide +kernel
theorem dX3_addsBearer_24 : decode cX3_addsBearer 24 = .ok (.aload_n 0, 1) := by decide +kernel
theorem dX3_addsBearer_25 : decode cX3_addsBearer 25 = .ok (.getfield 88, 3) := by decide +kernel
theorem dX3_addsBearer_28 : decode cX3_addsBearer 28 = .ok (.iload_n 3, 1) := by decide +kernel
theorem dX3_addsBearer_29 : decode cX3_addsBearer 29 = .ok (.iastore, 1) := by decide +kernel
theorem dX3_addsBearer_30 : decode cX3_addsBearer 30 = .ok (.aload_n 0, 1) := by decide +kernel
theorem dX3_addsBearer_31 : decode cX3_addsBearer 31 = .ok (.getfield 37, 3) := by decide +kernel
theorem dX3_addsBearer_34 : decode cX3_addsBearer 34 = .ok (.aload_n 0, 1) := by decide +kernel
theorem dX3_addsBearer_35 : decode cX3_addsBearer 35 = .ok (.getfield 88, 3) := by decide +kernel
theorem dX3_addsBearer_38 : decode cX3_addsBearer 38 = .ok (.bipush 9, 2) := by decide +kernel
theorem dX3_addsBearer_40 : decode cX3_addsBearer 40 = .ok (.iastore, 1) := by decide +kernel
theorem dX3_addsBearer_41 : decode cX3_addsBearer 41 = .ok (.aload_n 0, 1) := by decide +kernel
theorem dX3_addsBearer_42 : decode cX3_addsBearer 42 = .ok (.getfield 40, 3) := by decide +kernel
theorem dX3_addsBearer_45 : decode cX3_addsBearer 45 = .ok (.aload_n 0, 1) := by decide +kernel
theorem dX3_addsBearer_46 : decode cX3_addsBearer 46 = .ok (.getfield 88, 3) := by decide +kernel
theorem dX3_addsBearer_49 : decode cX3_addsBearer 49 = .ok (.bipush 9, 2) := by decide +kernel
theorem dX3_addsBearer_51 : decode cX3_addsBearer 51 = .ok (.iastore, 1) := by decide +kernel
theorem dX3_addsBearer_52 : decode cX3_addsBearer 52 = .ok (.aload_n 0, 1) := by decide +kernel
theorem dX3_addsBearer_53 : decode cX3_addsBearer 53 = .ok (.dup, 1) := by decide +kernel
theorem dX3_addsBearer_54 : decode cX3_addsBearer 54 = .ok (.getfield 88, 3) := by decide +kernel
theorem dX3_addsBearer_57 : decode cX3_addsBearer 57 = .ok (.iconst 1, 1) := by decide +kernel
theorem dX3_addsBearer_58 : decode cX3_addsBearer 58 = .ok (.iadd, 1) := by decide +kernel
theorem dX3_addsBearer_59 : decode cX3_addsBearer 59 = .ok (.putfield 88, 3) := by decide +kernel
theorem dX3_addsBearer_62 : decode cX3_addsBearer 62 = .ok (.return_, 1) := by decide +kernel
theorem dX3_whoHas_0 : decode cX3_whoHas 0 = .ok (.iconst 0, 1) := by decide +kernel
theorem dX3_whoHas_1 : decode cX3_whoHas 1 = .ok (.istore_n 2, 1) := by decide +kernel
theorem dX3_whoHas_2 : decode cX3_whoHas 2 = .ok (.iload_n 2, 1) := by decide +kernel
theorem dX3_whoHas_3 : decode cX3_whoHas 3 = .ok (.aload_n 0, 1) := by decide +kernel
theorem dX3_whoHas_4 : decode cX3_whoHas 4 = .ok (.getfield 88, 3) := by decide +kernel
theorem dX3_whoHas_7 : decode cX3_whoHas 7 = .ok (.if_icmp .ge 21, 3) := by decide +kernel
theorem dX3_whoHas_10 : decode cX3_whoHas 10 = .ok (.aload_n 0, 1) := by decide +kernel
theorem dX3_whoHas_11 : decode cX3_whoHas 11 = .ok (.getfield 37, 3) := by decide +kernel
theorem dX3_whoHas_14 : decode cX3_whoHas 14 = .ok (.iload_n 2, 1) := by decide +kernel
theorem dX3_whoHas_15 : decode cX3_whoHas 15 = .ok (.iaload, 1) := by decide +kernel
theorem dX3_whoHas_16 : decode cX3_whoHas 16 = .ok (.iload_n 1, 1) := by decide +kernel
theorem dX3_whoHas_17 : decode cX3_whoHas 17 = .ok (.if_icmp .ne 5, 3) := by decide +kernel
theorem dX3_whoHas_20 : decode cX3_whoHas 20 = .ok (.iload_n 2, 1) := by decide +kernel
theorem dX3_whoHas_21 : decode cX3_whoHas 21 = .ok (.ireturn, 1) := by decide +kernel
theorem dX3_whoHas_22 : decode cX3_whoHas 22 = .ok (.iinc 2 1, 3) := by decide +kernel
theorem dX3_whoHas_25 : decode cX3_whoHas 25 = .ok (.goto (-23), 3) := by decide +kernel
theorem dX3_whoHas_28 : decode cX3_whoHas 28 = .ok (.bipush 9, 2) := by decide +kernel
theorem dX3_whoHas_30 : decode cX3_whoHas 30 = .ok (.ireturn, 1) := by decide +kernel
theorem dX3_givesHer_0 : decode cX3_givesHer 0 = .ok (.aload_n 0, 1) := by decide +kernel
theorem dX3_givesHer_1 : decode cX3_givesHer 1 = .ok (.iload_n 1, 1) := by decide +kernel
theorem dX3_givesHer_2 : decode cX3_givesHer 2 = .ok (.invokevirtual 188, 3) := by decide +kernel
theorem dX3_givesHer_5 : decode cX3_givesHer 5 = .ok (.istore_n 3, 1) := by decide +kernel
theorem dX3_givesHer_6 : decode cX3_givesHer 6 = .ok (.iload_n 3, 1) := by decide +kernel
theorem dX3_givesHer_7 : decode cX3_givesHer 7 = .ok (.bipush 9, 2) := by decide +kernel
theorem dX3_givesHer_9 : decode cX3_givesHer 9 = .ok (.if_icmp .ge 11, 3) := by decide +kernel
theorem dX3_givesHer_12 : decode cX3_givesHer 12 = .ok (.aload_n 0, 1) := by decide +kernel
theorem dX3_givesHer_13 : decode cX3_givesHer 13 = .ok (.getfield 37, 3) := by decide +kernel
theorem dX3_givesHer_16 : decode cX3_givesHer 16 = .ok (.iload_n 3, 1) := by decide +kernel
theorem dX3_givesHer_17 : decode cX3_givesHer 17 = .ok (.bipush 9, 2) := by decide +kernel
theorem dX3_givesHer_19 : decode cX3_givesHer 19 = .ok (.iastore, 1) := by decide +kernel
theorem dX3_givesHer_20 : decode cX3_givesHer 20 = .ok (.aload_n 0, 1) := by decide +kernel
theorem dX3_givesHer_21 : decode cX3_givesHer 21 = .ok (.getfield 37, 3) := by decide +kernel
theorem dX3_givesHer_24 : decode cX3_givesHer 24 = .ok (.iload_n 2, 1) := by decide +kernel
theorem dX3_givesHer_25 : decode cX3_givesHer 25 = .ok (.iload_n 1, 1) := by decide +kernel
theorem dX3_givesHer_26 : decode cX3_givesHer 26 = .ok (.iastore, 1) := by decide +kernel
theorem dX3_givesHer_27 : decode cX3_givesHer 27 = .ok (.aload_n 0, 1) := by decide +kernel
theorem dX3_givesHer_28 : decode cX3_givesHer 28 = .ok (.getfield 25, 3) := by decide +kernel
theorem dX3_givesHer_31 : decode cX3_givesHer 31 = .ok (.iload_n 1, 1) := by decide +kernel
theorem dX3_givesHer_32 : decode cX3_givesHer 32 = .ok (.iconst 0, 1) := by decide +kernel
theorem dX3_givesHer_33 : decode cX3_givesHer 33 = .ok (.iastore, 1) := by decide +kernel
theorem dX3_givesHer_34 : decode cX3_givesHer 34 = .ok (.return_, 1) := by decide +kernel
theorem dX3_unfriends_0 : decode cX3_unfriends 0 = .ok (.aload_n 0, 1) := by decide +kernel
theorem dX3_unfriends_1 : decode cX3_unfriends 1 = .ok (.getfield 22, 3) := by decide +kernel
theorem dX3_unfriends_4 : decode cX3_unfriends 4 = .ok (.iload_n 1, 1) := by decide +kernel
theorem dX3_unfriends_5 : decode cX3_unfriends 5 = .ok (.iaload, 1) := by decide +kernel
theorem dX3_unfriends_6 : decode cX3_unfriends 6 = .ok (.bipush 9, 2) := by decide +kernel
theorem dX3_unfriends_8 : decode cX3_unfriends 8 = .ok (.if_icmp .ge 16, 3) := by decide +kernel
theorem dX3_unfriends_11 : decode cX3_unfriends 11 = .ok (.aload_n 0, 1) := by decide +kernel
theorem dX3_unfriends_12 : decode cX3_unfriends 12 = .ok (.getfield 22, 3) := by decide +kernel
theorem dX3_unfriends_15 : decode cX3_unfriends 15 = .ok (.aload_n 0, 1) := by decide +kernel
theorem dX3_unfriends_16 : decode cX3_unfriends 16 = .ok (.getfield 22, 3) := by decide +kernel
theorem dX3_unfriends_19 : decode cX3_unfriends 19 = .ok (.iload_n 1, 1) := by decide +kernel
theorem dX3_unfriends_20 : decode cX3_unfriends 20 = .ok (.iaload, 1) := by decide +kernel
theorem dX3_unfriends_21 : decode cX3_unfriends 21 = .ok (.bipush 9, 2) := by decide +kernel
theorem dX3_unfriends_23 : decode cX3_unfriends 23 = .ok (.iastore, 1) := by decide +kernel
theorem dX3_unfriends_24 : decode cX3_unfriends 24 = .ok (.aload_n 0, 1) := by decide +kernel
theorem dX3_unfriends_25 : decode cX3_unfriends 25 = .ok (.getfield 22, 3) := by decide +kernel
theorem dX3_unfriends_28 : decode cX3_unfriends 28 = .ok (.iload_n 1, 1) := by decide +kernel
theorem dX3_unfriends_29 : decode cX3_unfriends 29 = .ok (.bipush 9, 2) := by decide +kernel
theorem dX3_unfriends_31 : decode cX3_unfriends 31 = .ok (.iastore, 1) := by decide +kernel
theorem dX3_unfriends_32 : decode cX3_unfriends 32 = .ok (.return_, 1) := by decide +kernel
theorem dX3_befriends_0 : decode cX3_befriends 0 = .ok (.aload_n 0, 1) := by decide +kernel
theorem dX3_befriends_1 : decode cX3_befriends 1 = .ok (.iload_n 1, 1) := by decide +kernel
theorem dX3_befriends_2 : decode cX3_befriends 2 = .ok (.invokevirtual 191, 3) := by decide +kernel
theorem dX3_befriends_5 : decode cX3_befriends 5 = .ok (.aload_n 0, 1) := by decide +kernel
theorem dX3_befriends_6 : decode cX3_befriends 6 = .ok (.iload_n 2, 1) := by decide +kernel
theorem dX3_befriends_7 : decode cX3_befriends 7 = .ok (.invokevirtual 191, 3) := by decide +kernel
theorem dX3_befriends_10 : decode cX3_befriends 10 = .ok (.iload_n 1, 1) := by decide +kernel
theorem dX3_befriends_11 : decode cX3_befriends 11 = .ok (.iload_n 2, 1) := by decide +kernel
theorem dX3_befriends_12 : decode cX3_befriends 12 = .ok (.if_icmp .ne 4, 3) := by decide +kernel
theorem dX3_befriends_15 : decode cX3_befriends 15 = .ok (.return_, 1) := by decide +kernel
theorem dX3_befriends_16 : decode cX3_befriends 16 = .ok (.aload_n 0, 1) := by decide +kernel
theorem dX3_befriends_17 : decode cX3_befriends 17 = .ok (.getfield 22, 3) := by decide +kernel
theorem dX3_befriends_20 : decode cX3_befriends 20 = .ok (.iload_n 1, 1) := by decide +kernel
theorem dX3_befriends_21 : decode cX3_befriends 21 = .ok (.iload_n 2, 1) := by decide +kernel
theorem dX3_befriends_22 : decode cX3_befriends 22 = .ok (.iastore, 1) := by decide +kernel
theorem dX3_befriends_23 : decode cX3_befriends 23 = .ok (.aload_n 0, 1) := by decide +kernel
theorem dX3_befriends_24 : decode cX3_befriends 24 = .ok (.getfield 22, 3) := by decide +kernel
theorem dX3_befriends_27 : decode cX3_befriends 27 = .ok (.iload_n 2, 1) := by decide +kernel
theorem dX3_befriends_28 : decode cX3_befriends 28 = .ok (.iload_n 1, 1) := by decide +kernel
theorem dX3_befriends_29 : decode cX3_befriends 29 = .ok (.iastore, 1) := by decide +kernel
theorem dX3_befriends_30 : decode cX3_befriends 30 = .ok (.return_, 1) := by decide +kernel
theorem dX3_isFriendOut_0 : decode cX3_isFriendOut 0 = .ok (.aload_n 0, 1) := by decide +kernel
theorem dX3_isFriendOut_1 : decode cX3_isFriendOut 1 = .ok (.getfield 22, 3) := by decide +kernel
theorem dX3_isFriendOut_4 : decode cX3_isFriendOut 4 = .ok (.iload_n 1, 1) := by decide +kernel
theorem dX3_isFriendOut_5 : decode cX3_isFriendOut 5 = .ok (.iaload, 1) := by decide +kernel
theorem dX3_isFriendOut_6 : decode cX3_isFriendOut 6 = .ok (.bipush 9, 2) := by decide +kernel
theorem dX3_isFriendOut_8 : decode cX3_isFriendOut 8 = .ok (.if_icmp .ge 22, 3) := by decide +kernel
theorem dX3_isFriendOut_11 : decode cX3_isFriendOut 11 = .ok (.aload_n 0, 1) := by decide +kernel
theorem dX3_isFriendOut_12 : decode cX3_isFriendOut 12 = .ok (.aload_n 0, 1) := by decide +kernel
theorem dX3_isFriendOut_13 : decode cX3_isFriendOut 13 = .ok (.getfield 22, 3) := by decide +kernel
theorem dX3_isFriendOut_16 : decode cX3_isFriendOut 16 = .ok (.iload_n 1, 1) := by decide +kernel
theorem dX3_isFriendOut_17 : decode cX3_isFriendOut 17 = .ok (.iaload, 1) := by decide +kernel
theorem dX3_isFriendOut_18 : decode cX3_isFriendOut 18 = .ok (.invokevirtual 188, 3) := by decide +kernel
theorem dX3_isFriendOut_21 : decode cX3_isFriendOut 21 = .ok (.bipush 9, 2) := by decide +kernel
theorem dX3_isFriendOut_23 : decode cX3_isFriendOut 23 = .ok (.if_icmp .ge 7, 3) := by decide +kernel
theorem dX3_isFriendOut_26 : decode cX3_isFriendOut 26 = .ok (.iconst 1, 1) := by decide +kernel
theorem dX3_isFriendOut_27 : decode cX3_isFriendOut 27 = .ok (.goto 4, 3) := by decide +kernel
theorem dX3_isFriendOut_30 : decode cX3_isFriendOut 30 = .ok (.iconst 0, 1) := by decide +kernel
theorem dX3_isFriendOut_31 : decode cX3_isFriendOut 31 = .ok (.ireturn, 1) := by decide +kernel
theorem dX3_pullOf_0 : decode cX3_pullOf 0 = .ok (.aload_n 0, 1) := by decide +kernel
theorem dX3_pullOf_1 : decode cX3_pullOf 1 = .ok (.getfield 13, 3) := by decide +kernel
theorem dX3_pullOf_4 : decode cX3_pullOf 4 = .ok (.iload_n 1, 1) := by decide +kernel
theorem dX3_pullOf_5 : decode cX3_pullOf 5 = .ok (.iaload, 1) := by decide +kernel
theorem dX3_pullOf_6 : decode cX3_pullOf 6 = .ok (.tableswitch 103 1 5 #[34, 48, 57, 66, 87], 34) := by decide +kernel
theorem dX3_pullOf_40 : decode cX3_pullOf 40 = .ok (.aload_n 0, 1) := by decide +kernel
theorem dX3_pullOf_41 : decode cX3_pullOf 41 = .ok (.getfield 16, 3) := by decide +kernel
theorem dX3_pullOf_44 : decode cX3_pullOf 44 = .ok (.iload_n 1, 1) := by decide +kernel
theorem dX3_pullOf_45 : decode cX3_pullOf 45 = .ok (.iaload, 1) := by decide +kernel
theorem dX3_pullOf_46 : decode cX3_pullOf 46 = .ok (.aload_n 0, 1) := by decide +kernel
theorem dX3_pullOf_47 : decode cX3_pullOf 47 = .ok (.getfield 25, 3) := by decide +kernel
theorem dX3_pullOf_50 : decode cX3_pullOf 50 = .ok (.iload_n 1, 1) := by decide +kernel
theorem dX3_pullOf_51 : decode cX3_pullOf 51 = .ok (.iaload, 1) := by decide +kernel
theorem dX3_pullOf_52 : decode cX3_pullOf 52 = .ok (.iadd, 1) := by decide +kernel
theorem dX3_pullOf_53 : decode cX3_pullOf 53 = .ok (.ireturn, 1) := by decide +kernel
theorem dX3_pullOf_54 : decode cX3_pullOf 54 = .ok (.aload_n 0, 1) := by decide +kernel
theorem dX3_pullOf_55 : decode cX3_pullOf 55 = .ok (.getfield 16, 3) := by decide +kernel
theorem dX3_pullOf_58 : decode cX3_pullOf 58 = .ok (.iload_n 1, 1) := by decide +kernel
theorem dX3_pullOf_59 : decode cX3_pullOf 59 = .ok (.iaload, 1) := by decide +kernel
theorem dX3_pullOf_60 : decode cX3_pullOf 60 = .ok (.iconst 4, 1) := by decide +kernel
theorem dX3_pullOf_61 : decode cX3_pullOf 61 = .ok (.iadd, 1) := by decide +kernel
theorem dX3_pullOf_62 : decode cX3_pullOf 62 = .ok (.ireturn, 1) := by decide +kernel
theorem dX3_pullOf_63 : decode cX3_pullOf 63 = .ok (.aload_n 0, 1) := by decide +kernel
theorem dX3_pullOf_64 : decode cX3_pullOf 64 = .ok (.getfield 16, 3) := by decide +kernel
theorem dX3_pullOf_67 : decode cX3_pullOf 67 = .ok (.iload_n 1, 1) := by decide +kernel
theorem dX3_pullOf_68 : decode cX3_pullOf 68 = .ok (.iaload, 1) := by decide +kernel
theorem dX3_pullOf_69 : decode cX3_pullOf 69 = .ok (.iconst 2, 1) := by decide +kernel
theorem dX3_pullOf_70 : decode cX3_pullOf 70 = .ok (.idiv, 1) := by decide +kernel
theorem dX3_pullOf_71 : decode cX3_pullOf 71 = .ok (.ireturn, 1) := by decide +kernel
theorem dX3_pullOf_72 : decode cX3_pullOf 72 = .ok (.aload_n 0, 1) := by decide +kernel
theorem dX3_pullOf_73 : decode cX3_pullOf 73 = .ok (.getfield 16, 3) := by decide +kernel
theorem dX3_pullOf_76 : decode cX3_pullOf 76 = .ok (.iload_n 1, 1) := by decide +kernel
theorem dX3_pullOf_77 : decode cX3_pullOf 77 = .ok (.iaload, 1) := by decide +kernel
theorem dX3_pullOf_78 : decode cX3_pullOf 78 = .ok (.aload_n 0, 1) := by decide +kernel
theorem dX3_pullOf_79 : decode cX3_pullOf 79 = .ok (.iload_n 1, 1) := by decide +kernel
theorem dX3_pullOf_80 : decode cX3_pullOf 80 = .ok (.invokevirtual 195, 3) := by decide +kernel
theorem dX3_pullOf_83 : decode cX3_pullOf 83 = .ok (.ifCond .eq 7, 3) := by decide +kernel
theorem dX3_pullOf_86 : decode cX3_pullOf 86 = .ok (.iconst 2, 1) := by decide +kernel
theorem dX3_pullOf_87 : decode cX3_pullOf 87 = .ok (.goto 4, 3) := by decide +kernel
theorem dX3_pullOf_90 : decode cX3_pullOf 90 = .ok (.iconst 0, 1) := by decide +kernel
theorem dX3_pullOf_91 : decode cX3_pullOf 91 = .ok (.iadd, 1) := by decide +kernel
theorem dX3_pullOf_92 : decode cX3_pullOf 92 = .ok (.ireturn, 1) := by decide +kernel
theorem dX3_pullOf_93 : decode cX3_pullOf 93 = .ok (.iconst 2, 1) := by decide +kernel
theorem dX3_pullOf_94 : decode cX3_pullOf 94 = .ok (.aload_n 0, 1) := by decide +kernel
theorem dX3_pullOf_95 : decode cX3_pullOf 95 = .ok (.getfield 16, 3) := by decide +kernel
theorem dX3_pullOf_98 : decode cX3_pullOf 98 = .ok (.iload_n 1, 1) := by decide +kernel
theorem dX3_pullOf_99 : decode cX3_pullOf 99 = .ok (.iaload, 1) := by decide +kernel
theorem dX3_pullOf_100 : decode cX3_pullOf 100 = .ok (.aload_n 0, 1) := by decide +kernel
theorem dX3_pullOf_101 : decode cX3_pullOf 101 = .ok (.getfield 25, 3) := by decide +kernel
theorem dX3_pullOf_104 : decode cX3_pullOf 104 = .ok (.iload_n 1, 1) := by decide +kernel
theorem dX3_pullOf_105 : decode cX3_pullOf 105 = .ok (.iaload, 1) := by decide +kernel
theorem dX3_pullOf_106 : decode cX3_pullOf 106 = .ok (.iadd, 1) := by decide +kernel
theorem dX3_pullOf_107 : decode cX3_pullOf 107 = .ok (.imul, 1) := by decide +kernel
theorem dX3_pullOf_108 : decode cX3_pullOf 108 = .ok (.ireturn, 1) := by decide +kernel
theorem dX3_pullOf_109 : decode cX3_pullOf 109 = .ok (.aload_n 0, 1) := by decide +kernel
theorem dX3_pullOf_110 : decode cX3_pullOf 110 = .ok (.getfield 16, 3) := by decide +kernel
theorem dX3_pullOf_113 : decode cX3_pullOf 113 = .ok (.iload_n 1, 1) := by decide +kernel
theorem dX3_pullOf_114 : decode cX3_pullOf 114 = .ok (.iaload, 1) := by decide +kernel
theorem dX3_pullOf_115 : decode cX3_pullOf 115 = .ok (.ireturn, 1) := by decide +kernel
theorem dX3_goalOf_0 : decode cX3_goalOf 0 = .ok (.aload_n 0, 1) := by decide +kernel
theorem dX3_goalOf_1 : decode cX3_goalOf 1 = .ok (.getfield 13, 3) := by decide +kernel
theorem dX3_goalOf_4 : decode cX3_goalOf 4 = .ok (.iload_n 1, 1) := by decide +kernel
theorem dX3_goalOf_5 : decode cX3_goalOf 5 = .ok (.iaload, 1) := by decide +kernel
theorem dX3_goalOf_6 : decode cX3_goalOf 6 = .ok (.iconst 2, 1) := by decide +kernel
theorem dX3_goalOf_7 : decode cX3_goalOf 7 = .ok (.if_icmp .ne 13, 3) := by decide +kernel
theorem dX3_goalOf_10 : decode cX3_goalOf 10 = .ok (.aload_n 0, 1) := by decide +kernel
theorem dX3_goalOf_11 : decode cX3_goalOf 11 = .ok (.getfield 151, 3) := by decide +kernel
theorem dX3_goalOf_14 : decode cX3_goalOf 14 = .ok (.iconst 5, 1) := by decide +kernel
theorem dX3_goalOf_15 : decode cX3_goalOf 15 = .ok (.iadd, 1) := by decide +kernel
theorem dX3_goalOf_16 : decode cX3_goalOf 16 = .ok (.bipush 10, 2) := by decide +kernel
theorem dX3_goalOf_18 : decode cX3_goalOf 18 = .ok (.irem, 1) := by decide +kernel
theorem dX3_goalOf_19 : decode cX3_goalOf 19 = .ok (.ireturn, 1) := by decide +kernel
theorem dX3_goalOf_20 : decode cX3_goalOf 20 = .ok (.aload_n 0, 1) := by decide +kernel
theorem dX3_goalOf_21 : decode cX3_goalOf 21 = .ok (.getfield 13, 3) := by decide +kernel
theorem dX3_goalOf_24 : decode cX3_goalOf 24 = .ok (.iload_n 1, 1) := by decide +kernel
theorem dX3_goalOf_25 : decode cX3_goalOf 25 = .ok (.iaload, 1) := by decide +kernel
theorem dX3_goalOf_26 : decode cX3_goalOf 26 = .ok (.iconst 3, 1) := by decide +kernel
theorem dX3_goalOf_27 : decode cX3_goalOf 27 = .ok (.if_icmp .ne 15, 3) := by decide +kernel
theorem dX3_goalOf_30 : decode cX3_goalOf 30 = .ok (.aload_n 0, 1) := by decide +kernel
theorem dX3_goalOf_31 : decode cX3_goalOf 31 = .ok (.getfield 127, 3) := by decide +kernel
theorem dX3_goalOf_34 : decode cX3_goalOf 34 = .ok (.iconst 2, 1) := by decide +kernel
theorem dX3_goalOf_35 : decode cX3_goalOf 35 = .ok (.irem, 1) := by decide +kernel
theorem dX3_goalOf_36 : decode cX3_goalOf 36 = .ok (.iconst 1, 1) := by decide +kernel
theorem dX3_goalOf_37 : decode cX3_goalOf 37 = .ok (.if_icmp .ne 5, 3) := by decide +kernel
theorem dX3_goalOf_40 : decode cX3_goalOf 40 = .ok (.iload_n 2, 1) := by decide +kernel
theorem dX3_goalOf_41 : decode cX3_goalOf 41 = .ok (.ireturn, 1) := by decide +kernel
theorem dX3_goalOf_42 : decode cX3_goalOf 42 = .ok (.aload_n 0, 1) := by decide +kernel
theorem dX3_goalOf_43 : decode cX3_goalOf 43 = .ok (.getfield 13, 3) := by decide +kernel
theorem dX3_goalOf_46 : decode cX3_goalOf 46 = .ok (.iload_n 1, 1) := by decide +kernel
theorem dX3_goalOf_47 : decode cX3_goalOf 47 = .ok (.iaload, 1) := by decide +kernel
theorem dX3_goalOf_48 : decode cX3_goalOf 48 = .ok (.iconst 4, 1) := by decide +kernel
theorem dX3_goalOf_49 : decode cX3_goalOf 49 = .ok (.if_icmp .ne 29, 3) := by decide +kernel
theorem dX3_goalOf_52 : decode cX3_goalOf 52 = .ok (.aload_n 0, 1) := by decide +kernel
theorem dX3_goalOf_53 : decode cX3_goalOf 53 = .ok (.iload_n 1, 1) := by decide +kernel
theorem dX3_goalOf_54 : decode cX3_goalOf 54 = .ok (.invokevirtual 195, 3) := by decide +kernel
theorem dX3_goalOf_57 : decode cX3_goalOf 57 = .ok (.ifCond .eq 21, 3) := by decide +kernel
theorem dX3_goalOf_60 : decode cX3_goalOf 60 = .ok (.aload_n 0, 1) := by decide +kernel
theorem dX3_goalOf_61 : decode cX3_goalOf 61 = .ok (.getfield 34, 3) := by decide +kernel
theorem dX3_goalOf_64 : decode cX3_goalOf 64 = .ok (.aload_n 0, 1) := by decide +kernel
theorem dX3_goalOf_65 : decode cX3_goalOf 65 = .ok (.aload_n 0, 1) := by decide +kernel
theorem dX3_goalOf_66 : decode cX3_goalOf 66 = .ok (.getfield 22, 3) := by decide +kernel
theorem dX3_goalOf_69 : decode cX3_goalOf 69 = .ok (.iload_n 1, 1) := by decide +kernel
theorem dX3_goalOf_70 : decode cX3_goalOf 70 = .ok (.iaload, 1) := by decide +kernel
theorem dX3_goalOf_71 : decode cX3_goalOf 71 = .ok (.invokevirtual 188, 3) := by decide +kernel
theorem dX3_goalOf_74 : decode cX3_goalOf 74 = .ok (.iaload, 1) := by decide +kernel
theorem dX3_goalOf_75 : decode cX3_goalOf 75 = .ok (.goto 9, 3) := by decide +kernel
theorem dX3_goalOf_78 : decode cX3_goalOf 78 = .ok (.aload_n 0, 1) := by decide +kernel
theorem dX3_goalOf_79 : decode cX3_goalOf 79 = .ok (.getfield 19, 3) := by decide +kernel
theorem dX3_goalOf_82 : decode cX3_goalOf 82 = .ok (.iload_n 1, 1) := by decide +kernel
theorem dX3_goalOf_83 : decode cX3_goalOf 83 = .ok (.iaload, 1) := by decide +kernel
theorem dX3_goalOf_84 : decode cX3_goalOf 84 = .ok (.ireturn, 1) := by decide +kernel
theorem dX3_isLed_0 : decode cX3_isLed 0 = .ok (.aload_n 0, 1) := by decide +kernel
theorem dX3_isLed_1 : decode cX3_isLed 1 = .ok (.getfield 37, 3) := by decide +kernel
theorem dX3_isLed_4 : decode cX3_isLed 4 = .ok (.iload_n 1, 1) := by decide +kernel
theorem dX3_isLed_5 : decode cX3_isLed 5 = .ok (.iaload, 1) := by decide +kernel
theorem dX3_isLed_6 : decode cX3_isLed 6 = .ok (.bipush 9, 2) := by decide +kernel
theorem dX3_isLed_8 : decode cX3_isLed 8 = .ok (.if_icmp .ge 26, 3) := by decide +kernel
theorem dX3_isLed_11 : decode cX3_isLed 11 = .ok (.aload_n 0, 1) := by decide +kernel
theorem dX3_isLed_12 : decode cX3_isLed 12 = .ok (.aload_n 0, 1) := by decide +kernel
theorem dX3_isLed_13 : decode cX3_isLed 13 = .ok (.getfield 37, 3) := by decide +kernel
theorem dX3_isLed_16 : decode cX3_isLed 16 = .ok (.iload_n 1, 1) := by decide +kernel
theorem dX3_isLed_17 : decode cX3_isLed 17 = .ok (.iaload, 1) := by decide +kernel
theorem dX3_isLed_18 : decode cX3_isLed 18 = .ok (.invokevirtual 198, 3) := by decide +kernel
theorem dX3_isLed_21 : decode cX3_isLed 21 = .ok (.aload_n 0, 1) := by decide +kernel
theorem dX3_isLed_22 : decode cX3_isLed 22 = .ok (.getfield 28, 3) := by decide +kernel
theorem dX3_isLed_25 : decode cX3_isLed 25 = .ok (.iload_n 1, 1) := by decide +kernel
theorem dX3_isLed_26 : decode cX3_isLed 26 = .ok (.iaload, 1) := by decide +kernel
theorem dX3_isLed_27 : decode cX3_isLed 27 = .ok (.if_icmp .le 7, 3) := by decide +kernel
theorem dX3_isLed_30 : decode cX3_isLed 30 = .ok (.iconst 1, 1) := by decide +kernel
theorem dX3_isLed_31 : decode cX3_isLed 31 = .ok (.goto 4, 3) := by decide +kernel
theorem dX3_isLed_34 : decode cX3_isLed 34 = .ok (.iconst 0, 1) := by decide +kernel
theorem dX3_isLed_35 : decode cX3_isLed 35 = .ok (.ireturn, 1) := by decide +kernel
theorem dX3_towards_0 : decode cX3_towards 0 = .ok (.iload_n 1, 1) := by decide +kernel
theorem dX3_towards_1 : decode cX3_towards 1 = .ok (.iload_n 0, 1) := by decide +kernel
theorem dX3_towards_2 : decode cX3_towards 2 = .ok (.isub, 1) := by decide +kernel
theorem dX3_towards_3 : decode cX3_towards 3 = .ok (.bipush 10, 2) := by decide +kernel
theorem dX3_towards_5 : decode cX3_towards 5 = .ok (.iadd, 1) := by decide +kernel
theorem dX3_towards_6 : decode cX3_towards 6 = .ok (.bipush 10, 2) := by decide +kernel
theorem dX3_towards_8 : decode cX3_towards 8 = .ok (.irem, 1) := by decide +kernel
theorem dX3_towards_9 : decode cX3_towards 9 = .ok (.istore_n 2, 1) := by decide +kernel
theorem dX3_towards_10 : decode cX3_towards 10 = .ok (.iload_n 2, 1) := by decide +kernel
theorem dX3_towards_11 : decode cX3_towards 11 = .ok (.ifCond .ne 7, 3) := by decide +kernel
theorem dX3_towards_14 : decode cX3_towards 14 = .ok (.iload_n 0, 1) := by decide +kernel
theorem dX3_towards_15 : decode cX3_towards 15 = .ok (.goto 24, 3) := by decide +kernel
theorem dX3_towards_18 : decode cX3_towards 18 = .ok (.iload_n 2, 1) := by decide +kernel
theorem dX3_towards_19 : decode cX3_towards 19 = .ok (.iconst 5, 1) := by decide +kernel
theorem dX3_towards_20 : decode cX3_towards 20 = .ok (.if_icmp .gt 12, 3) := by decide +kernel
theorem dX3_towards_23 : decode cX3_towards 23 = .ok (.iload_n 0, 1) := by decide +kernel
theorem dX3_towards_24 : decode cX3_towards 24 = .ok (.iconst 1, 1) := by decide +kernel
theorem dX3_towards_25 : decode cX3_towards 25 = .ok (.iadd, 1) := by decide +kernel
theorem dX3_towards_26 : decode cX3_towards 26 = .ok (.bipush 10, 2) := by decide +kernel
theorem dX3_towards_28 : decode cX3_towards 28 = .ok (.irem, 1) := by decide +kernel
theorem dX3_towards_29 : decode cX3_towards 29 = .ok (.goto 10, 3) := by decide +kernel
theorem dX3_towards_32 : decode cX3_towards 32 = .ok (.iload_n 0, 1) := by decide +kernel
theorem dX3_towards_33 : decode cX3_towards 33 = .ok (.bipush 9, 2) := by decide +kernel
theorem dX3_towards_35 : decode cX3_towards 35 = .ok (.iadd, 1) := by decide +kernel
theorem dX3_towards_36 : decode cX3_towards 36 = .ok (.bipush 10, 2) := by decide +kernel
theorem dX3_towards_38 : decode cX3_towards 38 = .ok (.irem, 1) := by decide +kernel
theorem dX3_towards_39 : decode cX3_towards 39 = .ok (.ireturn, 1) := by decide +kernel
theorem dX3_goesLed_0 : decode cX3_goesLed 0 = .ok (.aload_n 0, 1) := by decide +kernel
theorem dX3_goesLed_1 : decode cX3_goesLed 1 = .ok (.getfield 37, 3) := by decide +kernel
theorem dX3_goesLed_4 : decode cX3_goesLed 4 = .ok (.iload_n 1, 1) := by decide +kernel
theorem dX3_goesLed_5 : decode cX3_goesLed 5 = .ok (.iaload, 1) := by decide +kernel
theorem dX3_goesLed_6 : decode cX3_goesLed 6 = .ok (.istore_n 2, 1) := by decide +kernel
theorem dX3_goesLed_7 : decode cX3_goesLed 7 = .ok (.aload_n 0, 1) := by decide +kernel
theorem dX3_goesLed_8 : decode cX3_goesLed 8 = .ok (.iload_n 2, 1) := by decide +kernel
theorem dX3_goesLed_9 : decode cX3_goesLed 9 = .ok (.aload_n 0, 1) := by decide +kernel
theorem dX3_goesLed_10 : decode cX3_goesLed 10 = .ok (.getfield 31, 3) := by decide +kernel
theorem dX3_goesLed_13 : decode cX3_goesLed 13 = .ok (.iload_n 1, 1) := by decide +kernel
theorem dX3_goesLed_14 : decode cX3_goesLed 14 = .ok (.iaload, 1) := by decide +kernel
theorem dX3_goesLed_15 : decode cX3_goesLed 15 = .ok (.invokevirtual 201, 3) := by decide +kernel
theorem dX3_goesLed_18 : decode cX3_goesLed 18 = .ok (.istore_n 3, 1) := by decide +kernel
theorem dX3_goesLed_19 : decode cX3_goesLed 19 = .ok (.aload_n 0, 1) := by decide +kernel
theorem dX3_goesLed_20 : decode cX3_goesLed 20 = .ok (.getfield 13, 3) := by decide +kernel
theorem dX3_goesLed_23 : decode cX3_goesLed 23 = .ok (.iload_n 2, 1) := by decide +kernel
theorem dX3_goesLed_24 : decode cX3_goesLed 24 = .ok (.iaload, 1) := by decide +kernel
theorem dX3_goesLed_25 : decode cX3_goesLed 25 = .ok (.iconst 5, 1) := by decide +kernel
theorem dX3_goesLed_26 : decode cX3_goesLed 26 = .ok (.if_icmp .ne 7, 3) := by decide +kernel
theorem dX3_goesLed_29 : decode cX3_goesLed 29 = .ok (.iconst 2, 1) := by decide +kernel
theorem dX3_goesLed_30 : decode cX3_goesLed 30 = .ok (.goto 4, 3) := by decide +kernel
theorem dX3_goesLed_33 : decode cX3_goesLed 33 = .ok (.iconst 1, 1) := by decide +kernel
theorem dX3_goesLed_34 : decode cX3_goesLed 34 = .ok (.istore 4, 2) := by decide +kernel
theorem dX3_goesLed_36 : decode cX3_goesLed 36 = .ok (.iload 4, 2) := by decide +kernel
theorem dX3_goesLed_38 : decode cX3_goesLed 38 = .ok (.ifCond .le 58, 3) := by decide +kernel
theorem dX3_goesLed_41 : decode cX3_goesLed 41 = .ok (.aload_n 0, 1) := by decide +kernel
theorem dX3_goesLed_42 : decode cX3_goesLed 42 = .ok (.getfield 34, 3) := by decide +kernel
theorem dX3_goesLed_45 : decode cX3_goesLed 45 = .ok (.iload_n 1, 1) := by decide +kernel
theorem dX3_goesLed_46 : decode cX3_goesLed 46 = .ok (.iaload, 1) := by decide +kernel
theorem dX3_goesLed_47 : decode cX3_goesLed 47 = .ok (.iload_n 3, 1) := by decide +kernel
theorem dX3_goesLed_48 : decode cX3_goesLed 48 = .ok (.if_icmp .eq 48, 3) := by decide +kernel
theorem dX3_goesLed_51 : decode cX3_goesLed 51 = .ok (.aload_n 0, 1) := by decide +kernel
theorem dX3_goesLed_52 : decode cX3_goesLed 52 = .ok (.getfield 34, 3) := by decide +kernel
theorem dX3_goesLed_55 : decode cX3_goesLed 55 = .ok (.iload_n 1, 1) := by decide +kernel
theorem dX3_goesLed_56 : decode cX3_goesLed 56 = .ok (.aload_n 0, 1) := by decide +kernel
theorem dX3_goesLed_57 : decode cX3_goesLed 57 = .ok (.getfield 34, 3) := by decide +kernel
theorem dX3_goesLed_60 : decode cX3_goesLed 60 = .ok (.iload_n 1, 1) := by decide +kernel
theorem dX3_goesLed_61 : decode cX3_goesLed 61 = .ok (.iaload, 1) := by decide +kernel
theorem dX3_goesLed_62 : decode cX3_goesLed 62 = .ok (.iload_n 3, 1) := by decide +kernel
theorem dX3_goesLed_63 : decode cX3_goesLed 63 = .ok (.invokestatic 205, 3) := by decide +kernel
theorem dX3_goesLed_66 : decode cX3_goesLed 66 = .ok (.iastore, 1) := by decide +kernel
theorem dX3_goesLed_67 : decode cX3_goesLed 67 = .ok (.aload_n 0, 1) := by decide +kernel
theorem dX3_goesLed_68 : decode cX3_goesLed 68 = .ok (.getfield 40, 3) := by decide +kernel
theorem dX3_goesLed_71 : decode cX3_goesLed 71 = .ok (.iload_n 1, 1) := by decide +kernel
theorem dX3_goesLed_72 : decode cX3_goesLed 72 = .ok (.dup2, 1) := by decide +kernel
theorem dX3_goesLed_73 : decode cX3_goesLed 73 = .ok (.iaload, 1) := by decide +kernel
theorem dX3_goesLed_74 : decode cX3_goesLed 74 = .ok (.aload_n 0, 1) := by decide +kernel
theorem dX3_goesLed_75 : decode cX3_goesLed 75 = .ok (.getfield 40, 3) := by decide +kernel
theorem dX3_goesLed_78 : decode cX3_goesLed 78 = .ok (.iload_n 1, 1) := by decide +kernel
theorem dX3_goesLed_79 : decode cX3_goesLed 79 = .ok (.iaload, 1) := by decide +kernel
theorem dX3_goesLed_80 : decode cX3_goesLed 80 = .ok (.ifCond .le 7, 3) := by decide +kernel
theorem dX3_goesLed_83 : decode cX3_goesLed 83 = .ok (.iconst 1, 1) := by decide +kernel
theorem dX3_goesLed_84 : decode cX3_goesLed 84 = .ok (.goto 4, 3) := by decide +kernel
theorem dX3_goesLed_87 : decode cX3_goesLed 87 = .ok (.iconst 0, 1) := by decide +kernel
theorem dX3_goesLed_88 : decode cX3_goesLed 88 = .ok (.isub, 1) := by decide +kernel
theorem dX3_goesLed_89 : decode cX3_goesLed 89 = .ok (.iastore, 1) := by decide +kernel
theorem dX3_goesLed_90 : decode cX3_goesLed 90 = .ok (.iinc 4 (-1), 3) := by decide +kernel
theorem dX3_goesLed_93 : decode cX3_goesLed 93 = .ok (.goto (-57), 3) := by decide +kernel
theorem dX3_goesLed_96 : decode cX3_goesLed 96 = .ok (.return_, 1) := by decide +kernel
theorem dX3_goesOne_0 : decode cX3_goesOne 0 = .ok (.aload_n 0, 1) := by decide +kernel
theorem dX3_goesOne_1 : decode cX3_goesOne 1 = .ok (.getfield 40, 3) := by decide +kernel
theorem dX3_goesOne_4 : decode cX3_goesOne 4 = .ok (.iload_n 1, 1) := by decide +kernel
theorem dX3_goesOne_5 : decode cX3_goesOne 5 = .ok (.iaload, 1) := by decide +kernel
theorem dX3_goesOne_6 : decode cX3_goesOne 6 = .ok (.ifCond .ne 21, 3) := by decide +kernel
theorem dX3_goesOne_9 : decode cX3_goesOne 9 = .ok (.aload_n 0, 1) := by decide +kernel
theorem dX3_goesOne_10 : decode cX3_goesOne 10 = .ok (.getfield 40, 3) := by decide +kernel
theorem dX3_goesOne_13 : decode cX3_goesOne 13 = .ok (.iload_n 1, 1) := by decide +kernel
theorem dX3_goesOne_14 : decode cX3_goesOne 14 = .ok (.iconst 3, 1) := by decide +kernel
theorem dX3_goesOne_15 : decode cX3_goesOne 15 = .ok (.iastore, 1) := by decide +kernel
theorem dX3_goesOne_16 : decode cX3_goesOne 16 = .ok (.aload_n 0, 1) := by decide +kernel
theorem dX3_goesOne_17 : decode cX3_goesOne 17 = .ok (.getfield 61, 3) := by decide +kernel
theorem dX3_goesOne_20 : decode cX3_goesOne 20 = .ok (.iload_n 1, 1) := by decide +kernel
theorem dX3_goesOne_21 : decode cX3_goesOne 21 = .ok (.dup2, 1) := by decide +kernel
theorem dX3_goesOne_22 : decode cX3_goesOne 22 = .ok (.iaload, 1) := by decide +kernel
theorem dX3_goesOne_23 : decode cX3_goesOne 23 = .ok (.iconst 1, 1) := by decide +kernel
theorem dX3_goesOne_24 : decode cX3_goesOne 24 = .ok (.iadd, 1) := by decide +kernel
theorem dX3_goesOne_25 : decode cX3_goesOne 25 = .ok (.iastore, 1) := by decide +kernel
theorem dX3_goesOne_26 : decode cX3_goesOne 26 = .ok (.return_, 1) := by decide +kernel
theorem dX3_goesOne_27 : decode cX3_goesOne 27 = .ok (.aload_n 0, 1) := by decide +kernel
theorem dX3_goesOne_28 : decode cX3_goesOne 28 = .ok (.iload_n 1, 1) := by decide +kernel
theorem dX3_goesOne_29 : decode cX3_goesOne 29 = .ok (.invokevirtual 208, 3) := by decide +kernel
theorem dX3_goesOne_32 : decode cX3_goesOne 32 = .ok (.ifCond .eq 23, 3) := by decide +kernel
theorem dX3_goesOne_35 : decode cX3_goesOne 35 = .ok (.iload_n 2, 1) := by decide +kernel
theorem dX3_goesOne_36 : decode cX3_goesOne 36 = .ok (.ifCond .ne 19, 3) := by decide +kernel
theorem dX3_goesOne_39 : decode cX3_goesOne 39 = .ok (.aload_n 0, 1) := by decide +kernel
theorem dX3_goesOne_40 : decode cX3_goesOne 40 = .ok (.getfield 58, 3) := by decide +kernel
theorem dX3_goesOne_43 : decode cX3_goesOne 43 = .ok (.iload_n 1, 1) := by decide +kernel
theorem dX3_goesOne_44 : decode cX3_goesOne 44 = .ok (.dup2, 1) := by decide +kernel
theorem dX3_goesOne_45 : decode cX3_goesOne 45 = .ok (.iaload, 1) := by decide +kernel
theorem dX3_goesOne_46 : decode cX3_goesOne 46 = .ok (.iconst 1, 1) := by decide +kernel
theorem dX3_goesOne_47 : decode cX3_goesOne 47 = .ok (.iadd, 1) := by decide +kernel
theorem dX3_goesOne_48 : decode cX3_goesOne 48 = .ok (.iastore, 1) := by decide +kernel
theorem dX3_goesOne_49 : decode cX3_goesOne 49 = .ok (.aload_n 0, 1) := by decide +kernel
theorem dX3_goesOne_50 : decode cX3_goesOne 50 = .ok (.iload_n 1, 1) := by decide +kernel
theorem dX3_goesOne_51 : decode cX3_goesOne 51 = .ok (.invokevirtual 211, 3) := by decide +kernel
theorem dX3_goesOne_54 : decode cX3_goesOne 54 = .ok (.return_, 1) := by decide +kernel
theorem dX3_goesOne_55 : decode cX3_goesOne 55 = .ok (.aload_n 0, 1) := by decide +kernel
theorem dX3_goesOne_56 : decode cX3_goesOne 56 = .ok (.getfield 34, 3) := by decide +kernel
theorem dX3_goesOne_59 : decode cX3_goesOne 59 = .ok (.iload_n 1, 1) := by decide +kernel
theorem dX3_goesOne_60 : decode cX3_goesOne 60 = .ok (.aload_n 0, 1) := by decide +kernel
theorem dX3_goesOne_61 : decode cX3_goesOne 61 = .ok (.getfield 34, 3) := by decide +kernel
theorem dX3_goesOne_64 : decode cX3_goesOne 64 = .ok (.iload_n 1, 1) := by decide +kernel
theorem dX3_goesOne_65 : decode cX3_goesOne 65 = .ok (.iaload, 1) := by decide +kernel
theorem dX3_goesOne_66 : decode cX3_goesOne 66 = .ok (.aload_n 0, 1) := by decide +kernel
theorem dX3_goesOne_67 : decode cX3_goesOne 67 = .ok (.getfield 31, 3) := by decide +kernel
theorem dX3_goesOne_70 : decode cX3_goesOne 70 = .ok (.iload_n 1, 1) := by decide +kernel
theorem dX3_goesOne_71 : decode cX3_goesOne 71 = .ok (.iaload, 1) := by decide +kernel
theorem dX3_goesOne_72 : decode cX3_goesOne 72 = .ok (.invokestatic 205, 3) := by decide +kernel
theorem dX3_goesOne_75 : decode cX3_goesOne 75 = .ok (.iastore, 1) := by decide +kernel
theorem dX3_goesOne_76 : decode cX3_goesOne 76 = .ok (.aload_n 0, 1) := by decide +kernel
theorem dX3_goesOne_77 : decode cX3_goesOne 77 = .ok (.getfield 40, 3) := by decide +kernel
theorem dX3_goesOne_80 : decode cX3_goesOne 80 = .ok (.iload_n 1, 1) := by decide +kernel
theorem dX3_goesOne_81 : decode cX3_goesOne 81 = .ok (.dup2, 1) := by decide +kernel
theorem dX3_goesOne_82 : decode cX3_goesOne 82 = .ok (.iaload, 1) := by decide +kernel
theorem dX3_goesOne_83 : decode cX3_goesOne 83 = .ok (.aload_n 0, 1) := by decide +kernel
theorem dX3_goesOne_84 : decode cX3_goesOne 84 = .ok (.getfield 40, 3) := by decide +kernel
theorem dX3_goesOne_87 : decode cX3_goesOne 87 = .ok (.iload_n 1, 1) := by decide +kernel
theorem dX3_goesOne_88 : decode cX3_goesOne 88 = .ok (.iaload, 1) := by decide +kernel
theorem dX3_goesOne_89 : decode cX3_goesOne 89 = .ok (.bipush 9, 2) := by decide +kernel
theorem dX3_goesOne_91 : decode cX3_goesOne 91 = .ok (.if_icmp .ge 7, 3) := by decide +kernel
theorem dX3_goesOne_94 : decode cX3_goesOne 94 = .ok (.iconst 1, 1) := by decide +kernel
theorem dX3_goesOne_95 : decode cX3_goesOne 95 = .ok (.goto 4, 3) := by decide +kernel
theorem dX3_goesOne_98 : decode cX3_goesOne 98 = .ok (.iconst 0, 1) := by decide +kernel
theorem dX3_goesOne_99 : decode cX3_goesOne 99 = .ok (.iadd, 1) := by decide +kernel
theorem dX3_goesOne_100 : decode cX3_goesOne 100 = .ok (.iastore, 1) := by decide +kernel
theorem dX3_goesOne_101 : decode cX3_goesOne 101 = .ok (.return_, 1) := by decide +kernel
theorem dX3_goesHour_0 : decode cX3_goesHour 0 = .ok (.aload_n 0, 1) := by decide +kernel
theorem dX3_goesHour_1 : decode cX3_goesHour 1 = .ok (.dup, 1) := by decide +kernel
theorem dX3_goesHour_2 : decode cX3_goesHour 2 = .ok (.getfield 127, 3) := by decide +kernel
theorem dX3_goesHour_5 : decode cX3_goesHour 5 = .ok (.iconst 1, 1) := by decide +kernel
theorem dX3_goesHour_6 : decode cX3_goesHour 6 = .ok (.iadd, 1) := by decide +kernel
theorem dX3_goesHour_7 : decode cX3_goesHour 7 = .ok (.putfield 127, 3) := by decide +kernel
theorem dX3_goesHour_10 : decode cX3_goesHour 10 = .ok (.iconst 0, 1) := by decide +kernel
theorem dX3_goesHour_11 : decode cX3_goesHour 11 = .ok (.istore_n 2, 1) := by decide +kernel
theorem dX3_goesHour_12 : decode cX3_goesHour 12 = .ok (.iload_n 2, 1) := by decide +kernel
theorem dX3_goesHour_13 : decode cX3_goesHour 13 = .ok (.aload_n 0, 1) := by decide +kernel
theorem dX3_goesHour_14 : decode cX3_goesHour 14 = .ok (.getfield 88, 3) := by decide +kernel
theorem dX3_goesHour_17 : decode cX3_goesHour 17 = .ok (.if_icmp .ge 31, 3) := by decide +kernel
theorem dX3_goesHour_20 : decode cX3_goesHour 20 = .ok (.aload_n 0, 1) := by decide +kernel
theorem dX3_goesHour_21 : decode cX3_goesHour 21 = .ok (.iload_n 2, 1) := by decide +kernel
theorem dX3_goesHour_22 : decode cX3_goesHour 22 = .ok (.iload_n 1, 1) := by decide +kernel
theorem dX3_goesHour_23 : decode cX3_goesHour 23 = .ok (.ifCond .eq 15, 3) := by decide +kernel
theorem dX3_goesHour_26 : decode cX3_goesHour 26 = .ok (.iload_n 2, 1) := by decide +kernel
theorem dX3_goesHour_27 : decode cX3_goesHour 27 = .ok (.aload_n 0, 1) := by decide +kernel
theorem dX3_goesHour_28 : decode cX3_goesHour 28 = .ok (.getfield 64, 3) := by decide +kernel
theorem dX3_goesHour_31 : decode cX3_goesHour 31 = .ok (.if_icmp .ne 7, 3) := by decide +kernel
theorem dX3_goesHour_34 : decode cX3_goesHour 34 = .ok (.iconst 1, 1) := by decide +kernel
theorem dX3_goesHour_35 : decode cX3_goesHour 35 = .ok (.goto 4, 3) := by decide +kernel
theorem dX3_goesHour_38 : decode cX3_goesHour 38 = .ok (.iconst 0, 1) := by decide +kernel
theorem dX3_goesHour_39 : decode cX3_goesHour 39 = .ok (.invokevirtual 214, 3) := by decide +kernel
theorem dX3_goesHour_42 : decode cX3_goesHour 42 = .ok (.iinc 2 1, 3) := by decide +kernel
theorem dX3_goesHour_45 : decode cX3_goesHour 45 = .ok (.goto (-33), 3) := by decide +kernel
theorem dX3_goesHour_48 : decode cX3_goesHour 48 = .ok (.iconst 0, 1) := by decide +kernel
theorem dX3_goesHour_49 : decode cX3_goesHour 49 = .ok (.istore_n 2, 1) := by decide +kernel
theorem dX3_goesHour_50 : decode cX3_goesHour 50 = .ok (.iload_n 2, 1) := by decide +kernel
theorem dX3_goesHour_51 : decode cX3_goesHour 51 = .ok (.aload_n 0, 1) := by decide +kernel
theorem dX3_goesHour_52 : decode cX3_goesHour 52 = .ok (.getfield 88, 3) := by decide +kernel
theorem dX3_goesHour_55 : decode cX3_goesHour 55 = .ok (.if_icmp .ge 100, 3) := by decide +kernel
theorem dX3_goesHour_58 : decode cX3_goesHour 58 = .ok (.aload_n 0, 1) := by decide +kernel
theorem dX3_goesHour_59 : decode cX3_goesHour 59 = .ok (.getfield 37, 3) := by decide +kernel
theorem dX3_goesHour_62 : decode cX3_goesHour 62 = .ok (.iload_n 2, 1) := by decide +kernel
theorem dX3_goesHour_63 : decode cX3_goesHour 63 = .ok (.iaload, 1) := by decide +kernel
theorem dX3_goesHour_64 : decode cX3_goesHour 64 = .ok (.bipush 9, 2) := by decide +kernel
theorem dX3_goesHour_66 : decode cX3_goesHour 66 = .ok (.if_icmp .ne 6, 3) := by decide +kernel
theorem dX3_goesHour_69 : decode cX3_goesHour 69 = .ok (.goto 80, 3) := by decide +kernel
theorem dX3_goesHour_72 : decode cX3_goesHour 72 = .ok (.aload_n 0, 1) := by decide +kernel
theorem dX3_goesHour_73 : decode cX3_goesHour 73 = .ok (.getfield 25, 3) := by decide +kernel
theorem dX3_goesHour_76 : decode cX3_goesHour 76 = .ok (.aload_n 0, 1) := by decide +kernel
theorem dX3_goesHour_77 : decode cX3_goesHour 77 = .ok (.getfield 37, 3) := by decide +kernel
theorem dX3_goesHour_80 : decode cX3_goesHour 80 = .ok (.iload_n 2, 1) := by decide +kernel
theorem dX3_goesHour_81 : decode cX3_goesHour 81 = .ok (.iaload, 1) := by decide +kernel
theorem dX3_goesHour_82 : decode cX3_goesHour 82 = .ok (.dup2, 1) := by decide +kernel
theorem dX3_goesHour_83 : decode cX3_goesHour 83 = .ok (.iaload, 1) := by decide +kernel
theorem dX3_goesHour_84 : decode cX3_goesHour 84 = .ok (.aload_n 0, 1) := by decide +kernel
theorem dX3_goesHour_85 : decode cX3_goesHour 85 = .ok (.getfield 25, 3) := by decide +kernel
theorem dX3_goesHour_88 : decode cX3_goesHour 88 = .ok (.aload_n 0, 1) := by decide +kernel
theorem dX3_goesHour_89 : decode cX3_goesHour 89 = .ok (.getfield 37, 3) := by decide +kernel
theorem dX3_goesHour_92 : decode cX3_goesHour 92 = .ok (.iload_n 2, 1) := by decide +kernel
theorem dX3_goesHour_93 : decode cX3_goesHour 93 = .ok (.iaload, 1) := by decide +kernel
theorem dX3_goesHour_94 : decode cX3_goesHour 94 = .ok (.iaload, 1) := by decide +kernel
theorem dX3_goesHour_95 : decode cX3_goesHour 95 = .ok (.bipush 99, 2) := by decide +kernel
theorem dX3_goesHour_97 : decode cX3_goesHour 97 = .ok (.if_icmp .ge 7, 3) := by decide +kernel
theorem dX3_goesHour_100 : decode cX3_goesHour 100 = .ok (.iconst 1, 1) := by decide +kernel
theorem dX3_goesHour_101 : decode cX3_goesHour 101 = .ok (.goto 4, 3) := by decide +kernel
theorem dX3_goesHour_104 : decode cX3_goesHour 104 = .ok (.iconst 0, 1) := by decide +kernel
theorem dX3_goesHour_105 : decode cX3_goesHour 105 = .ok (.iadd, 1) := by decide +kernel
theorem dX3_goesHour_106 : decode cX3_goesHour 106 = .ok (.iastore, 1) := by decide +kernel
theorem dX3_goesHour_107 : decode cX3_goesHour 107 = .ok (.aload_n 0, 1) := by decide +kernel
theorem dX3_goesHour_108 : decode cX3_goesHour 108 = .ok (.dup, 1) := by decide +kernel
theorem dX3_goesHour_109 : decode cX3_goesHour 109 = .ok (.getfield 217, 3) := by decide +kernel
theorem dX3_goesHour_112 : decode cX3_goesHour 112 = .ok (.aload_n 0, 1) := by decide +kernel
theorem dX3_goesHour_113 : decode cX3_goesHour 113 = .ok (.getfield 13, 3) := by decide +kernel
theorem dX3_goesHour_116 : decode cX3_goesHour 116 = .ok (.aload_n 0, 1) := by decide +kernel
theorem dX3_goesHour_117 : decode cX3_goesHour 117 = .ok (.getfield 37, 3) := by decide +kernel
theorem dX3_goesHour_120 : decode cX3_goesHour 120 = .ok (.iload_n 2, 1) := by decide +kernel
theorem dX3_goesHour_121 : decode cX3_goesHour 121 = .ok (.iaload, 1) := by decide +kernel
theorem dX3_goesHour_122 : decode cX3_goesHour 122 = .ok (.iaload, 1) := by decide +kernel
theorem dX3_goesHour_123 : decode cX3_goesHour 123 = .ok (.iconst 2, 1) := by decide +kernel
theorem dX3_goesHour_124 : decode cX3_goesHour 124 = .ok (.if_icmp .ne 20, 3) := by decide +kernel
theorem dX3_goesHour_127 : decode cX3_goesHour 127 = .ok (.aload_n 0, 1) := by decide +kernel
theorem dX3_goesHour_128 : decode cX3_goesHour 128 = .ok (.getfield 34, 3) := by decide +kernel
theorem dX3_goesHour_131 : decode cX3_goesHour 131 = .ok (.iload_n 2, 1) := by decide +kernel
theorem dX3_goesHour_132 : decode cX3_goesHour 132 = .ok (.iaload, 1) := by decide +kernel
theorem dX3_goesHour_133 : decode cX3_goesHour 133 = .ok (.aload_n 0, 1) := by decide +kernel
theorem dX3_goesHour_134 : decode cX3_goesHour 134 = .ok (.getfield 151, 3) := by decide +kernel
theorem dX3_goesHour_137 : decode cX3_goesHour 137 = .ok (.if_icmp .ne 7, 3) := by decide +kernel
theorem dX3_goesHour_140 : decode cX3_goesHour 140 = .ok (.iconst 1, 1) := by decide +kernel
theorem dX3_goesHour_141 : decode cX3_goesHour 141 = .ok (.goto 4, 3) := by decide +kernel
theorem dX3_goesHour_144 : decode cX3_goesHour 144 = .ok (.iconst 0, 1) := by decide +kernel
theorem dX3_goesHour_145 : decode cX3_goesHour 145 = .ok (.iadd, 1) := by decide +kernel
theorem dX3_goesHour_146 : decode cX3_goesHour 146 = .ok (.putfield 217, 3) := by decide +kernel
theorem dX3_goesHour_149 : decode cX3_goesHour 149 = .ok (.iinc 2 1, 3) := by decide +kernel
theorem dX3_goesHour_152 : decode cX3_goesHour 152 = .ok (.goto (-102), 3) := by decide +kernel
theorem dX3_goesHour_155 : decode cX3_goesHour 155 = .ok (.return_, 1) := by decide +kernel
theorem dX3_counts_0 : decode cX3_counts 0 = .ok (.aload_n 0, 1) := by decide +kernel
theorem dX3_counts_1 : decode cX3_counts 1 = .ok (.iconst 0, 1) := by decide +kernel
theorem dX3_counts_2 : decode cX3_counts 2 = .ok (.putfield 217, 3) := by decide +kernel
theorem dX3_counts_5 : decode cX3_counts 5 = .ok (.iconst 0, 1) := by decide +kernel
theorem dX3_counts_6 : decode cX3_counts 6 = .ok (.istore_n 1, 1) := by decide +kernel
theorem dX3_counts_7 : decode cX3_counts 7 = .ok (.iload_n 1, 1) := by decide +kernel
theorem dX3_counts_8 : decode cX3_counts 8 = .ok (.iconst 5, 1) := by decide +kernel
theorem dX3_counts_9 : decode cX3_counts 9 = .ok (.if_icmp .ge 23, 3) := by decide +kernel
theorem dX3_counts_12 : decode cX3_counts 12 = .ok (.aload_n 0, 1) := by decide +kernel
theorem dX3_counts_13 : decode cX3_counts 13 = .ok (.getfield 58, 3) := by decide +kernel
theorem dX3_counts_16 : decode cX3_counts 16 = .ok (.iload_n 1, 1) := by decide +kernel
theorem dX3_counts_17 : decode cX3_counts 17 = .ok (.iconst 0, 1) := by decide +kernel
theorem dX3_counts_18 : decode cX3_counts 18 = .ok (.iastore, 1) := by decide +kernel
theorem dX3_counts_19 : decode cX3_counts 19 = .ok (.aload_n 0, 1) := by decide +kernel
theorem dX3_counts_20 : decode cX3_counts 20 = .ok (.getfield 61, 3) := by decide +kernel
theorem dX3_counts_23 : decode cX3_counts 23 = .ok (.iload_n 1, 1) := by decide +kernel
theorem dX3_counts_24 : decode cX3_counts 24 = .ok (.iconst 0, 1) := by decide +kernel
theorem dX3_counts_25 : decode cX3_counts 25 = .ok (.iastore, 1) := by decide +kernel
theorem dX3_counts_26 : decode cX3_counts 26 = .ok (.iinc 1 1, 3) := by decide +kernel
theorem dX3_counts_29 : decode cX3_counts 29 = .ok (.goto (-22), 3) := by decide +kernel
theorem dX3_counts_32 : decode cX3_counts 32 = .ok (.return_, 1) := by decide +kernel
theorem dX3_goes_0 : decode cX3_goes 0 = .ok (.iconst 0, 1) := by decide +kernel
theorem dX3_goes_1 : decode cX3_goes 1 = .ok (.istore_n 2, 1) := by decide +kernel
theorem dX3_goes_2 : decode cX3_goes 2 = .ok (.iload_n 2, 1) := by decide +kernel
theorem dX3_goes_3 : decode cX3_goes 3 = .ok (.iload_n 1, 1) := by decide +kernel
theorem dX3_goes_4 : decode cX3_goes 4 = .ok (.if_icmp .ge 14, 3) := by decide +kernel
theorem dX3_goes_7 : decode cX3_goes 7 = .ok (.aload_n 0, 1) := by decide +kernel
theorem dX3_goes_8 : decode cX3_goes 8 = .ok (.iconst 0, 1) := by decide +kernel
theorem dX3_goes_9 : decode cX3_goes 9 = .ok (.invokevirtual 130, 3) := by decide +kernel
theorem dX3_goes_12 : decode cX3_goes 12 = .ok (.iinc 2 1, 3) := by decide +kernel
theorem dX3_goes_15 : decode cX3_goes 15 = .ok (.goto (-13), 3) := by decide +kernel
theorem dX3_goes_18 : decode cX3_goes 18 = .ok (.return_, 1) := by decide +kernel
theorem dX3_bagOf_0 : decode cX3_bagOf 0 = .ok (.aload_n 0, 1) := by decide +kernel
theorem dX3_bagOf_1 : decode cX3_bagOf 1 = .ok (.iload_n 1, 1) := by decide +kernel
theorem dX3_bagOf_2 : decode cX3_bagOf 2 = .ok (.invokevirtual 141, 3) := by decide +kernel
theorem dX3_bagOf_5 : decode cX3_bagOf 5 = .ok (.ifCond .ne 9, 3) := by decide +kernel
theorem dX3_bagOf_8 : decode cX3_bagOf 8 = .ok (.aload_n 0, 1) := by decide +kernel
theorem dX3_bagOf_9 : decode cX3_bagOf 9 = .ok (.iconst (-1), 1) := by decide +kernel
theorem dX3_bagOf_10 : decode cX3_bagOf 10 = .ok (.invokevirtual 102, 3) := by decide +kernel
theorem dX3_bagOf_13 : decode cX3_bagOf 13 = .ok (.ireturn, 1) := by decide +kernel
theorem dX3_bagOf_14 : decode cX3_bagOf 14 = .ok (.iload_n 2, 1) := by decide +kernel
theorem dX3_bagOf_15 : decode cX3_bagOf 15 = .ok (.tableswitch 119 0 6 #[41, 48, 55, 62, 85, 92, 113], 41) := by decide +kernel
theorem dX3_bagOf_56 : decode cX3_bagOf 56 = .ok (.aload_n 0, 1) := by decide +kernel
theorem dX3_bagOf_57 : decode cX3_bagOf 57 = .ok (.getfield 13, 3) := by decide +kernel
theorem dX3_bagOf_60 : decode cX3_bagOf 60 = .ok (.iload_n 1, 1) := by decide +kernel
theorem dX3_bagOf_61 : decode cX3_bagOf 61 = .ok (.iaload, 1) := by decide +kernel
theorem dX3_bagOf_62 : decode cX3_bagOf 62 = .ok (.ireturn, 1) := by decide +kernel
theorem dX3_bagOf_63 : decode cX3_bagOf 63 = .ok (.aload_n 0, 1) := by decide +kernel
theorem dX3_bagOf_64 : decode cX3_bagOf 64 = .ok (.getfield 16, 3) := by decide +kernel
theorem dX3_bagOf_67 : decode cX3_bagOf 67 = .ok (.iload_n 1, 1) := by decide +kernel
theorem dX3_bagOf_68 : decode cX3_bagOf 68 = .ok (.iaload, 1) := by decide +kernel
theorem dX3_bagOf_69 : decode cX3_bagOf 69 = .ok (.ireturn, 1) := by decide +kernel
theorem dX3_bagOf_70 : decode cX3_bagOf 70 = .ok (.aload_n 0, 1) := by decide +kernel
theorem dX3_bagOf_71 : decode cX3_bagOf 71 = .ok (.getfield 19, 3) := by decide +kernel
theorem dX3_bagOf_74 : decode cX3_bagOf 74 = .ok (.iload_n 1, 1) := by decide +kernel
theorem dX3_bagOf_75 : decode cX3_bagOf 75 = .ok (.iaload, 1) := by decide +kernel
theorem dX3_bagOf_76 : decode cX3_bagOf 76 = .ok (.ireturn, 1) := by decide +kernel
theorem dX3_bagOf_77 : decode cX3_bagOf 77 = .ok (.aload_n 0, 1) := by decide +kernel
theorem dX3_bagOf_78 : decode cX3_bagOf 78 = .ok (.getfield 22, 3) := by decide +kernel
theorem dX3_bagOf_81 : decode cX3_bagOf 81 = .ok (.iload_n 1, 1) := by decide +kernel
theorem dX3_bagOf_82 : decode cX3_bagOf 82 = .ok (.iaload, 1) := by decide +kernel
theorem dX3_bagOf_83 : decode cX3_bagOf 83 = .ok (.bipush 9, 2) := by decide +kernel
theorem dX3_bagOf_85 : decode cX3_bagOf 85 = .ok (.if_icmp .ge 12, 3) := by decide +kernel
theorem dX3_bagOf_88 : decode cX3_bagOf 88 = .ok (.aload_n 0, 1) := by decide +kernel
theorem dX3_bagOf_89 : decode cX3_bagOf 89 = .ok (.getfield 22, 3) := by decide +kernel
theorem dX3_bagOf_92 : decode cX3_bagOf 92 = .ok (.iload_n 1, 1) := by decide +kernel
theorem dX3_bagOf_93 : decode cX3_bagOf 93 = .ok (.iaload, 1) := by decide +kernel
theorem dX3_bagOf_94 : decode cX3_bagOf 94 = .ok (.goto 5, 3) := by decide +kernel
theorem dX3_bagOf_97 : decode cX3_bagOf 97 = .ok (.bipush (-9), 2) := by decide +kernel
theorem dX3_bagOf_99 : decode cX3_bagOf 99 = .ok (.ireturn, 1) := by decide +kernel
theorem dX3_bagOf_100 : decode cX3_bagOf 100 = .ok (.aload_n 0, 1) := by decide +kernel
theorem dX3_bagOf_101 : decode cX3_bagOf 101 = .ok (.getfield 25, 3) := by decide +kernel
theorem dX3_bagOf_104 : decode cX3_bagOf 104 = .ok (.iload_n 1, 1) := by decide +kernel
theorem dX3_bagOf_105 : decode cX3_bagOf 105 = .ok (.iaload, 1) := by decide +kernel
theorem dX3_bagOf_106 : decode cX3_bagOf 106 = .ok (.ireturn, 1) := by decide +kernel
theorem dX3_bagOf_107 : decode cX3_bagOf 107 = .ok (.aload_n 0, 1) := by decide +kernel
theorem dX3_bagOf_108 : decode cX3_bagOf 108 = .ok (.iload_n 1, 1) := by decide +kernel
theorem dX3_bagOf_109 : decode cX3_bagOf 109 = .ok (.invokevirtual 188, 3) := by decide +kernel
theorem dX3_bagOf_112 : decode cX3_bagOf 112 = .ok (.bipush 9, 2) := by decide +kernel
theorem dX3_bagOf_114 : decode cX3_bagOf 114 = .ok (.if_icmp .ge 11, 3) := by decide +kernel
theorem dX3_bagOf_117 : decode cX3_bagOf 117 = .ok (.aload_n 0, 1) := by decide +kernel
theorem dX3_bagOf_118 : decode cX3_bagOf 118 = .ok (.iload_n 1, 1) := by decide +kernel
theorem dX3_bagOf_119 : decode cX3_bagOf 119 = .ok (.invokevirtual 188, 3) := by decide +kernel
theorem dX3_bagOf_122 : decode cX3_bagOf 122 = .ok (.goto 5, 3) := by decide +kernel
theorem dX3_bagOf_125 : decode cX3_bagOf 125 = .ok (.bipush (-9), 2) := by decide +kernel
theorem dX3_bagOf_127 : decode cX3_bagOf 127 = .ok (.ireturn, 1) := by decide +kernel
theorem dX3_bagOf_128 : decode cX3_bagOf 128 = .ok (.aload_n 0, 1) := by decide +kernel
theorem dX3_bagOf_129 : decode cX3_bagOf 129 = .ok (.iload_n 1, 1) := by decide +kernel
theorem dX3_bagOf_130 : decode cX3_bagOf 130 = .ok (.invokevirtual 198, 3) := by decide +kernel
theorem dX3_bagOf_133 : decode cX3_bagOf 133 = .ok (.ireturn, 1) := by decide +kernel
theorem dX3_bagOf_134 : decode cX3_bagOf 134 = .ok (.aload_n 0, 1) := by decide +kernel
theorem dX3_bagOf_135 : decode cX3_bagOf 135 = .ok (.bipush (-2), 2) := by decide +kernel
theorem dX3_bagOf_137 : decode cX3_bagOf 137 = .ok (.invokevirtual 102, 3) := by decide +kernel
theorem dX3_bagOf_140 : decode cX3_bagOf 140 = .ok (.ireturn, 1) := by decide +kernel
theorem dX3_bagNow_0 : decode cX3_bagNow 0 = .ok (.aload_n 0, 1) := by decide +kernel
theorem dX3_bagNow_1 : decode cX3_bagNow 1 = .ok (.getfield 37, 3) := by decide +kernel
theorem dX3_bagNow_4 : decode cX3_bagNow 4 = .ok (.iload_n 1, 1) := by decide +kernel
theorem dX3_bagNow_5 : decode cX3_bagNow 5 = .ok (.iaload, 1) := by decide +kernel
theorem dX3_bagNow_6 : decode cX3_bagNow 6 = .ok (.bipush 9, 2) := by decide +kernel
theorem dX3_bagNow_8 : decode cX3_bagNow 8 = .ok (.if_icmp .ge 12, 3) := by decide +kernel
theorem dX3_bagNow_11 : decode cX3_bagNow 11 = .ok (.aload_n 0, 1) := by decide +kernel
theorem dX3_bagNow_12 : decode cX3_bagNow 12 = .ok (.getfield 37, 3) := by decide +kernel
theorem dX3_bagNow_15 : decode cX3_bagNow 15 = .ok (.iload_n 1, 1) := by decide +kernel
theorem dX3_bagNow_16 : decode cX3_bagNow 16 = .ok (.iaload, 1) := by decide +kernel
theorem dX3_bagNow_17 : decode cX3_bagNow 17 = .ok (.goto 5, 3) := by decide +kernel
theorem dX3_bagNow_20 : decode cX3_bagNow 20 = .ok (.bipush (-9), 2) := by decide +kernel
theorem dX3_bagNow_22 : decode cX3_bagNow 22 = .ok (.ireturn, 1) := by decide +kernel
theorem dX3_bearerOf_0 : decode cX3_bearerOf 0 = .ok (.aload_n 0, 1) := by decide +kernel
theorem dX3_bearerOf_1 : decode cX3_bearerOf 1 = .ok (.iload_n 1, 1) := by decide +kernel
theorem dX3_bearerOf_2 : decode cX3_bearerOf 2 = .ok (.invokevirtual 91, 3) := by decide +kernel
theorem dX3_bearerOf_5 : decode cX3_bearerOf 5 = .ok (.ifCond .ne 9, 3) := by decide +kernel
theorem dX3_bearerOf_8 : decode cX3_bearerOf 8 = .ok (.aload_n 0, 1) := by decide +kernel
theorem dX3_bearerOf_9 : decode cX3_bearerOf 9 = .ok (.iconst (-1), 1) := by decide +kernel
theorem dX3_bearerOf_10 : decode cX3_bearerOf 10 = .ok (.invokevirtual 102, 3) := by decide +kernel
theorem dX3_bearerOf_13 : decode cX3_bearerOf 13 = .ok (.ireturn, 1) := by decide +kernel
theorem dX3_bearerOf_14 : decode cX3_bearerOf 14 = .ok (.iload_n 2, 1) := by decide +kernel
theorem dX3_bearerOf_15 : decode cX3_bearerOf 15 = .ok (.tableswitch 85 0 5 #[37, 44, 51, 58, 64, 71], 37) := by decide +kernel
theorem dX3_bearerOf_52 : decode cX3_bearerOf 52 = .ok (.aload_n 0, 1) := by decide +kernel
theorem dX3_bearerOf_53 : decode cX3_bearerOf 53 = .ok (.getfield 28, 3) := by decide +kernel
theorem dX3_bearerOf_56 : decode cX3_bearerOf 56 = .ok (.iload_n 1, 1) := by decide +kernel
theorem dX3_bearerOf_57 : decode cX3_bearerOf 57 = .ok (.iaload, 1) := by decide +kernel
theorem dX3_bearerOf_58 : decode cX3_bearerOf 58 = .ok (.ireturn, 1) := by decide +kernel
theorem dX3_bearerOf_59 : decode cX3_bearerOf 59 = .ok (.aload_n 0, 1) := by decide +kernel
theorem dX3_bearerOf_60 : decode cX3_bearerOf 60 = .ok (.getfield 31, 3) := by decide +kernel
theorem dX3_bearerOf_63 : decode cX3_bearerOf 63 = .ok (.iload_n 1, 1) := by decide +kernel
theorem dX3_bearerOf_64 : decode cX3_bearerOf 64 = .ok (.iaload, 1) := by decide +kernel
theorem dX3_bearerOf_65 : decode cX3_bearerOf 65 = .ok (.ireturn, 1) := by decide +kernel
theorem dX3_bearerOf_66 : decode cX3_bearerOf 66 = .ok (.aload_n 0, 1) := by decide +kernel
theorem dX3_bearerOf_67 : decode cX3_bearerOf 67 = .ok (.getfield 34, 3) := by decide +kernel
theorem dX3_bearerOf_70 : decode cX3_bearerOf 70 = .ok (.iload_n 1, 1) := by decide +kernel
theorem dX3_bearerOf_71 : decode cX3_bearerOf 71 = .ok (.iaload, 1) := by decide +kernel
theorem dX3_bearerOf_72 : decode cX3_bearerOf 72 = .ok (.ireturn, 1) := by decide +kernel
theorem dX3_bearerOf_73 : decode cX3_bearerOf 73 = .ok (.aload_n 0, 1) := by decide +kernel
theorem dX3_bearerOf_74 : decode cX3_bearerOf 74 = .ok (.iload_n 1, 1) := by decide +kernel
theorem dX3_bearerOf_75 : decode cX3_bearerOf 75 = .ok (.invokevirtual 220, 3) := by decide +kernel
theorem dX3_bearerOf_78 : decode cX3_bearerOf 78 = .ok (.ireturn, 1) := by decide +kernel
theorem dX3_bearerOf_79 : decode cX3_bearerOf 79 = .ok (.aload_n 0, 1) := by decide +kernel
theorem dX3_bearerOf_80 : decode cX3_bearerOf 80 = .ok (.getfield 40, 3) := by decide +kernel
theorem dX3_bearerOf_83 : decode cX3_bearerOf 83 = .ok (.iload_n 1, 1) := by decide +kernel
theorem dX3_bearerOf_84 : decode cX3_bearerOf 84 = .ok (.iaload, 1) := by decide +kernel
theorem dX3_bearerOf_85 : decode cX3_bearerOf 85 = .ok (.ireturn, 1) := by decide +kernel
theorem dX3_bearerOf_86 : decode cX3_bearerOf 86 = .ok (.aload_n 0, 1) := by decide +kernel
theorem dX3_bearerOf_87 : decode cX3_bearerOf 87 = .ok (.iload_n 1, 1) := by decide +kernel
theorem dX3_bearerOf_88 : decode cX3_bearerOf 88 = .ok (.invokevirtual 208, 3) := by decide +kernel
theorem dX3_bearerOf_91 : decode cX3_bearerOf 91 = .ok (.ifCond .eq 7, 3) := by decide +kernel
theorem dX3_bearerOf_94 : decode cX3_bearerOf 94 = .ok (.iconst 1, 1) := by decide +kernel
theorem dX3_bearerOf_95 : decode cX3_bearerOf 95 = .ok (.goto 4, 3) := by decide +kernel
theorem dX3_bearerOf_98 : decode cX3_bearerOf 98 = .ok (.iconst 0, 1) := by decide +kernel
theorem dX3_bearerOf_99 : decode cX3_bearerOf 99 = .ok (.ireturn, 1) := by decide +kernel
theorem dX3_bearerOf_100 : decode cX3_bearerOf 100 = .ok (.aload_n 0, 1) := by decide +kernel
theorem dX3_bearerOf_101 : decode cX3_bearerOf 101 = .ok (.bipush (-2), 2) := by decide +kernel
theorem dX3_bearerOf_103 : decode cX3_bearerOf 103 = .ok (.invokevirtual 102, 3) := by decide +kernel
theorem dX3_bearerOf_106 : decode cX3_bearerOf 106 = .ok (.ireturn, 1) := by decide +kernel
theorem dX3_bag_0 : decode cX3_bag 0 = .ok (.iload_n 1, 1) := by decide +kernel
theorem dX3_bag_1 : decode cX3_bag 1 = .ok (.iconst 0, 1) := by decide +kernel
theorem dX3_bag_2 : decode cX3_bag 2 = .ok (.iconst 5, 1) := by decide +kernel
theorem dX3_bag_3 : decode cX3_bag 3 = .ok (.invokestatic 113, 3) := by decide +kernel
theorem dX3_bag_6 : decode cX3_bag 6 = .ok (.ifCond .ne 8, 3) := by decide +kernel
theorem dX3_bag_9 : decode cX3_bag 9 = .ok (.bipush (-2), 2) := by decide +kernel
theorem dX3_bag_11 : decode cX3_bag 11 = .ok (.goto 43, 3) := by decide +kernel
theorem dX3_bag_14 : decode cX3_bag 14 = .ok (.iload_n 2, 1) := by decide +kernel
theorem dX3_bag_15 : decode cX3_bag 15 = .ok (.ifCond .lt 7, 3) := by decide +kernel
theorem dX3_bag_18 : decode cX3_bag 18 = .ok (.iload_n 3, 1) := by decide +kernel
theorem dX3_bag_19 : decode cX3_bag 19 = .ok (.ifCond .ge 8, 3) := by decide +kernel
theorem dX3_bag_22 : decode cX3_bag 22 = .ok (.bipush (-4), 2) := by decide +kernel
theorem dX3_bag_24 : decode cX3_bag 24 = .ok (.goto 30, 3) := by decide +kernel
theorem dX3_bag_27 : decode cX3_bag 27 = .ok (.iload_n 2, 1) := by decide +kernel
theorem dX3_bag_28 : decode cX3_bag 28 = .ok (.bipush 9, 2) := by decide +kernel
theorem dX3_bag_30 : decode cX3_bag 30 = .ok (.if_icmp .gt 18, 3) := by decide +kernel
theorem dX3_bag_33 : decode cX3_bag 33 = .ok (.iload_n 3, 1) := by decide +kernel
theorem dX3_bag_34 : decode cX3_bag 34 = .ok (.bipush 9, 2) := by decide +kernel
theorem dX3_bag_36 : decode cX3_bag 36 = .ok (.if_icmp .gt 12, 3) := by decide +kernel
theorem dX3_bag_39 : decode cX3_bag 39 = .ok (.aload_n 0, 1) := by decide +kernel
theorem dX3_bag_40 : decode cX3_bag 40 = .ok (.getfield 83, 3) := by decide +kernel
theorem dX3_bag_43 : decode cX3_bag 43 = .ok (.bipush 6, 2) := by decide +kernel
theorem dX3_bag_45 : decode cX3_bag 45 = .ok (.if_icmp .ne 8, 3) := by decide +kernel
theorem dX3_bag_48 : decode cX3_bag 48 = .ok (.bipush (-6), 2) := by decide +kernel
theorem dX3_bag_50 : decode cX3_bag 50 = .ok (.goto 4, 3) := by decide +kernel
theorem dX3_bag_53 : decode cX3_bag 53 = .ok (.iconst 0, 1) := by decide +kernel
theorem dX3_bag_54 : decode cX3_bag 54 = .ok (.istore 4, 2) := by decide +kernel
theorem dX3_bag_56 : decode cX3_bag 56 = .ok (.iload 4, 2) := by decide +kernel
theorem dX3_bag_58 : decode cX3_bag 58 = .ok (.ifCond .eq 10, 3) := by decide +kernel
theorem dX3_bag_61 : decode cX3_bag 61 = .ok (.aload_n 0, 1) := by decide +kernel
theorem dX3_bag_62 : decode cX3_bag 62 = .ok (.iload 4, 2) := by decide +kernel
theorem dX3_bag_64 : decode cX3_bag 64 = .ok (.invokevirtual 102, 3) := by decide +kernel
theorem dX3_bag_67 : decode cX3_bag 67 = .ok (.ireturn, 1) := by decide +kernel
theorem dX3_bag_68 : decode cX3_bag 68 = .ok (.aload_n 0, 1) := by decide +kernel
theorem dX3_bag_69 : decode cX3_bag 69 = .ok (.iconst 0, 1) := by decide +kernel
theorem dX3_bag_70 : decode cX3_bag 70 = .ok (.putfield 168, 3) := by decide +kernel
theorem dX3_bag_73 : decode cX3_bag 73 = .ok (.aload_n 0, 1) := by decide +kernel
theorem dX3_bag_74 : decode cX3_bag 74 = .ok (.iload_n 1, 1) := by decide +kernel
theorem dX3_bag_75 : decode cX3_bag 75 = .ok (.iload_n 2, 1) := by decide +kernel
theorem dX3_bag_76 : decode cX3_bag 76 = .ok (.iload_n 3, 1) := by decide +kernel
theorem dX3_bag_77 : decode cX3_bag 77 = .ok (.invokevirtual 134, 3) := by decide +kernel
theorem dX3_bag_80 : decode cX3_bag 80 = .ok (.aload_n 0, 1) := by decide +kernel
theorem dX3_bag_81 : decode cX3_bag 81 = .ok (.getfield 83, 3) := by decide +kernel
theorem dX3_bag_84 : decode cX3_bag 84 = .ok (.iconst 1, 1) := by decide +kernel
theorem dX3_bag_85 : decode cX3_bag 85 = .ok (.isub, 1) := by decide +kernel
theorem dX3_bag_86 : decode cX3_bag 86 = .ok (.ireturn, 1) := by decide +kernel
theorem dX3_bearer_0 : decode cX3_bearer 0 = .ok (.iload_n 1, 1) := by decide +kernel
theorem dX3_bearer_1 : decode cX3_bearer 1 = .ok (.ifCond .lt 11, 3) := by decide +kernel
theorem dX3_bearer_4 : decode cX3_bearer 4 = .ok (.iload_n 2, 1) := by decide +kernel
theorem dX3_bearer_5 : decode cX3_bearer 5 = .ok (.ifCond .lt 7, 3) := by decide +kernel
theorem dX3_bearer_8 : decode cX3_bearer 8 = .ok (.iload_n 3, 1) := by decide +kernel
theorem dX3_bearer_9 : decode cX3_bearer 9 = .ok (.ifCond .ge 8, 3) := by decide +kernel
theorem dX3_bearer_12 : decode cX3_bearer 12 = .ok (.bipush (-4), 2) := by decide +kernel
theorem dX3_bearer_14 : decode cX3_bearer 14 = .ok (.goto 35, 3) := by decide +kernel
theorem dX3_bearer_17 : decode cX3_bearer 17 = .ok (.iload_n 1, 1) := by decide +kernel
theorem dX3_bearer_18 : decode cX3_bearer 18 = .ok (.bipush 9, 2) := by decide +kernel
theorem dX3_bearer_20 : decode cX3_bearer 20 = .ok (.if_icmp .gt 23, 3) := by decide +kernel
theorem dX3_bearer_23 : decode cX3_bearer 23 = .ok (.iload_n 2, 1) := by decide +kernel
theorem dX3_bearer_24 : decode cX3_bearer 24 = .ok (.bipush 9, 2) := by decide +kernel
theorem dX3_bearer_26 : decode cX3_bearer 26 = .ok (.if_icmp .gt 17, 3) := by decide +kernel
theorem dX3_bearer_29 : decode cX3_bearer 29 = .ok (.iload_n 3, 1) := by decide +kernel
theorem dX3_bearer_30 : decode cX3_bearer 30 = .ok (.bipush 9, 2) := by decide +kernel
theorem dX3_bearer_32 : decode cX3_bearer 32 = .ok (.if_icmp .gt 11, 3) := by decide +kernel
theorem dX3_bearer_35 : decode cX3_bearer 35 = .ok (.aload_n 0, 1) := by decide +kernel
theorem dX3_bearer_36 : decode cX3_bearer 36 = .ok (.getfield 88, 3) := by decide +kernel
theorem dX3_bearer_39 : decode cX3_bearer 39 = .ok (.iconst 5, 1) := by decide +kernel
theorem dX3_bearer_40 : decode cX3_bearer 40 = .ok (.if_icmp .ne 8, 3) := by decide +kernel
theorem dX3_bearer_43 : decode cX3_bearer 43 = .ok (.bipush (-6), 2) := by decide +kernel
theorem dX3_bearer_45 : decode cX3_bearer 45 = .ok (.goto 4, 3) := by decide +kernel
theorem dX3_bearer_48 : decode cX3_bearer 48 = .ok (.iconst 0, 1) := by decide +kernel
theorem dX3_bearer_49 : decode cX3_bearer 49 = .ok (.istore 4, 2) := by decide +kernel
theorem dX3_bearer_51 : decode cX3_bearer 51 = .ok (.iload 4, 2) := by decide +kernel
theorem dX3_bearer_53 : decode cX3_bearer 53 = .ok (.ifCond .eq 10, 3) := by decide +kernel
theorem dX3_bearer_56 : decode cX3_bearer 56 = .ok (.aload_n 0, 1) := by decide +kernel
theorem dX3_bearer_57 : decode cX3_bearer 57 = .ok (.iload 4, 2) := by decide +kernel
theorem dX3_bearer_59 : decode cX3_bearer 59 = .ok (.invokevirtual 102, 3) := by decide +kernel
theorem dX3_bearer_62 : decode cX3_bearer 62 = .ok (.ireturn, 1) := by decide +kernel
theorem dX3_bearer_63 : decode cX3_bearer 63 = .ok (.aload_n 0, 1) := by decide +kernel
theorem dX3_bearer_64 : decode cX3_bearer 64 = .ok (.iconst 0, 1) := by decide +kernel
theorem dX3_bearer_65 : decode cX3_bearer 65 = .ok (.putfield 168, 3) := by decide +kernel
theorem dX3_bearer_68 : decode cX3_bearer 68 = .ok (.aload_n 0, 1) := by decide +kernel
theorem dX3_bearer_69 : decode cX3_bearer 69 = .ok (.iload_n 1, 1) := by decide +kernel
theorem dX3_bearer_70 : decode cX3_bearer 70 = .ok (.iload_n 2, 1) := by decide +kernel
theorem dX3_bearer_71 : decode cX3_bearer 71 = .ok (.iload_n 3, 1) := by decide +kernel
theorem dX3_bearer_72 : decode cX3_bearer 72 = .ok (.invokevirtual 138, 3) := by decide +kernel
theorem dX3_bearer_75 : decode cX3_bearer 75 = .ok (.aload_n 0, 1) := by decide +kernel
theorem dX3_bearer_76 : decode cX3_bearer 76 = .ok (.getfield 88, 3) := by decide +kernel
theorem dX3_bearer_79 : decode cX3_bearer 79 = .ok (.iconst 1, 1) := by decide +kernel
theorem dX3_bearer_80 : decode cX3_bearer 80 = .ok (.isub, 1) := by decide +kernel
theorem dX3_bearer_81 : decode cX3_bearer 81 = .ok (.ireturn, 1) := by decide +kernel
theorem dX3_gives_0 : decode cX3_gives 0 = .ok (.aload_n 0, 1) := by decide +kernel
theorem dX3_gives_1 : decode cX3_gives 1 = .ok (.iload_n 1, 1) := by decide +kernel
theorem dX3_gives_2 : decode cX3_gives 2 = .ok (.invokevirtual 141, 3) := by decide +kernel
theorem dX3_gives_5 : decode cX3_gives 5 = .ok (.ifCond .eq 11, 3) := by decide +kernel
theorem dX3_gives_8 : decode cX3_gives 8 = .ok (.aload_n 0, 1) := by decide +kernel
theorem dX3_gives_9 : decode cX3_gives 9 = .ok (.iload_n 2, 1) := by decide +kernel
theorem dX3_gives_10 : decode cX3_gives 10 = .ok (.invokevirtual 91, 3) := by decide +kernel
theorem dX3_gives_13 : decode cX3_gives 13 = .ok (.ifCond .ne 9, 3) := by decide +kernel
theorem dX3_gives_16 : decode cX3_gives 16 = .ok (.aload_n 0, 1) := by decide +kernel
theorem dX3_gives_17 : decode cX3_gives 17 = .ok (.iconst (-1), 1) := by decide +kernel
theorem dX3_gives_18 : decode cX3_gives 18 = .ok (.invokevirtual 102, 3) := by decide +kernel
theorem dX3_gives_21 : decode cX3_gives 21 = .ok (.ireturn, 1) := by decide +kernel
theorem dX3_gives_22 : decode cX3_gives 22 = .ok (.aload_n 0, 1) := by decide +kernel
theorem dX3_gives_23 : decode cX3_gives 23 = .ok (.invokevirtual 223, 3) := by decide +kernel
theorem dX3_gives_26 : decode cX3_gives 26 = .ok (.aload_n 0, 1) := by decide +kernel
theorem dX3_gives_27 : decode cX3_gives 27 = .ok (.iload_n 2, 1) := by decide +kernel
theorem dX3_gives_28 : decode cX3_gives 28 = .ok (.invokevirtual 220, 3) := by decide +kernel
theorem dX3_gives_31 : decode cX3_gives 31 = .ok (.istore_n 3, 1) := by decide +kernel
theorem dX3_gives_32 : decode cX3_gives 32 = .ok (.aload_n 0, 1) := by decide +kernel
theorem dX3_gives_33 : decode cX3_gives 33 = .ok (.iload_n 1, 1) := by decide +kernel
theorem dX3_gives_34 : decode cX3_gives 34 = .ok (.iload_n 2, 1) := by decide +kernel
theorem dX3_gives_35 : decode cX3_gives 35 = .ok (.invokevirtual 144, 3) := by decide +kernel
theorem dX3_gives_38 : decode cX3_gives 38 = .ok (.iload_n 3, 1) := by decide +kernel
theorem dX3_gives_39 : decode cX3_gives 39 = .ok (.ireturn, 1) := by decide +kernel
theorem dX3_friends_0 : decode cX3_friends 0 = .ok (.aload_n 0, 1) := by decide +kernel
theorem dX3_friends_1 : decode cX3_friends 1 = .ok (.iload_n 1, 1) := by decide +kernel
theorem dX3_friends_2 : decode cX3_friends 2 = .ok (.invokevirtual 141, 3) := by decide +kernel
theorem dX3_friends_5 : decode cX3_friends 5 = .ok (.ifCond .eq 11, 3) := by decide +kernel
theorem dX3_friends_8 : decode cX3_friends 8 = .ok (.aload_n 0, 1) := by decide +kernel
theorem dX3_friends_9 : decode cX3_friends 9 = .ok (.iload_n 2, 1) := by decide +kernel
theorem dX3_friends_10 : decode cX3_friends 10 = .ok (.invokevirtual 141, 3) := by decide +kernel
theorem dX3_friends_13 : decode cX3_friends 13 = .ok (.ifCond .ne 9, 3) := by decide +kernel
theorem dX3_friends_16 : decode cX3_friends 16 = .ok (.aload_n 0, 1) := by decide +kernel
theorem dX3_friends_17 : decode cX3_friends 17 = .ok (.iconst (-1), 1) := by decide +kernel
theorem dX3_friends_18 : decode cX3_friends 18 = .ok (.invokevirtual 102, 3) := by decide +kernel
theorem dX3_friends_21 : decode cX3_friends 21 = .ok (.ireturn, 1) := by decide +kernel
theorem dX3_friends_22 : decode cX3_friends 22 = .ok (.aload_n 0, 1) := by decide +kernel
theorem dX3_friends_23 : decode cX3_friends 23 = .ok (.iconst 0, 1) := by decide +kernel
theorem dX3_friends_24 : decode cX3_friends 24 = .ok (.putfield 168, 3) := by decide +kernel
theorem dX3_friends_27 : decode cX3_friends 27 = .ok (.aload_n 0, 1) := by decide +kernel
theorem dX3_friends_28 : decode cX3_friends 28 = .ok (.iload_n 1, 1) := by decide +kernel
theorem dX3_friends_29 : decode cX3_friends 29 = .ok (.iload_n 2, 1) := by decide +kernel
theorem dX3_friends_30 : decode cX3_friends 30 = .ok (.invokevirtual 148, 3) := by decide +kernel
theorem dX3_friends_33 : decode cX3_friends 33 = .ok (.iload_n 1, 1) := by decide +kernel
theorem dX3_friends_34 : decode cX3_friends 34 = .ok (.iload_n 2, 1) := by decide +kernel
theorem dX3_friends_35 : decode cX3_friends 35 = .ok (.if_icmp .ne 7, 3) := by decide +kernel
theorem dX3_friends_38 : decode cX3_friends 38 = .ok (.iconst 0, 1) := by decide +kernel
theorem dX3_friends_39 : decode cX3_friends 39 = .ok (.goto 4, 3) := by decide +kernel
theorem dX3_friends_42 : decode cX3_friends 42 = .ok (.iconst 1, 1) := by decide +kernel
theorem dX3_friends_43 : decode cX3_friends 43 = .ok (.ireturn, 1) := by decide +kernel
theorem dX3_wants_0 : decode cX3_wants 0 = .ok (.aload_n 0, 1) := by decide +kernel
theorem dX3_wants_1 : decode cX3_wants 1 = .ok (.iload_n 1, 1) := by decide +kernel
theorem dX3_wants_2 : decode cX3_wants 2 = .ok (.invokevirtual 91, 3) := by decide +kernel
theorem dX3_wants_5 : decode cX3_wants 5 = .ok (.ifCond .eq 10, 3) := by decide +kernel
theorem dX3_wants_8 : decode cX3_wants 8 = .ok (.iload_n 2, 1) := by decide +kernel
theorem dX3_wants_9 : decode cX3_wants 9 = .ok (.invokestatic 226, 3) := by decide +kernel
theorem dX3_wants_12 : decode cX3_wants 12 = .ok (.ifCond .ne 9, 3) := by decide +kernel
theorem dX3_wants_15 : decode cX3_wants 15 = .ok (.aload_n 0, 1) := by decide +kernel
theorem dX3_wants_16 : decode cX3_wants 16 = .ok (.iconst (-1), 1) := by decide +kernel
theorem dX3_wants_17 : decode cX3_wants 17 = .ok (.invokevirtual 102, 3) := by decide +kernel
theorem dX3_wants_20 : decode cX3_wants 20 = .ok (.ireturn, 1) := by decide +kernel
theorem dX3_wants_21 : decode cX3_wants 21 = .ok (.aload_n 0, 1) := by decide +kernel
theorem dX3_wants_22 : decode cX3_wants 22 = .ok (.invokevirtual 223, 3) := by decide +kernel
theorem dX3_wants_25 : decode cX3_wants 25 = .ok (.aload_n 0, 1) := by decide +kernel
theorem dX3_wants_26 : decode cX3_wants 26 = .ok (.getfield 31, 3) := by decide +kernel
theorem dX3_wants_29 : decode cX3_wants 29 = .ok (.iload_n 1, 1) := by decide +kernel
theorem dX3_wants_30 : decode cX3_wants 30 = .ok (.iaload, 1) := by decide +kernel
theorem dX3_wants_31 : decode cX3_wants 31 = .ok (.istore_n 3, 1) := by decide +kernel
theorem dX3_wants_32 : decode cX3_wants 32 = .ok (.aload_n 0, 1) := by decide +kernel
theorem dX3_wants_33 : decode cX3_wants 33 = .ok (.getfield 31, 3) := by decide +kernel
theorem dX3_wants_36 : decode cX3_wants 36 = .ok (.iload_n 1, 1) := by decide +kernel
theorem dX3_wants_37 : decode cX3_wants 37 = .ok (.iload_n 2, 1) := by decide +kernel
theorem dX3_wants_38 : decode cX3_wants 38 = .ok (.iastore, 1) := by decide +kernel
theorem dX3_wants_39 : decode cX3_wants 39 = .ok (.iload_n 3, 1) := by decide +kernel
theorem dX3_wants_40 : decode cX3_wants 40 = .ok (.ireturn, 1) := by decide +kernel
theorem dX3_put_0 : decode cX3_put 0 = .ok (.aload_n 0, 1) := by decide +kernel
theorem dX3_put_1 : decode cX3_put 1 = .ok (.iload_n 1, 1) := by decide +kernel
theorem dX3_put_2 : decode cX3_put 2 = .ok (.invokevirtual 91, 3) := by decide +kernel
theorem dX3_put_5 : decode cX3_put 5 = .ok (.ifCond .eq 10, 3) := by decide +kernel
theorem dX3_put_8 : decode cX3_put 8 = .ok (.iload_n 2, 1) := by decide +kernel
theorem dX3_put_9 : decode cX3_put 9 = .ok (.invokestatic 226, 3) := by decide +kernel
theorem dX3_put_12 : decode cX3_put 12 = .ok (.ifCond .ne 9, 3) := by decide +kernel
theorem dX3_put_15 : decode cX3_put 15 = .ok (.aload_n 0, 1) := by decide +kernel
theorem dX3_put_16 : decode cX3_put 16 = .ok (.iconst (-1), 1) := by decide +kernel
theorem dX3_put_17 : decode cX3_put 17 = .ok (.invokevirtual 102, 3) := by decide +kernel
theorem dX3_put_20 : decode cX3_put 20 = .ok (.ireturn, 1) := by decide +kernel
theorem dX3_put_21 : decode cX3_put 21 = .ok (.aload_n 0, 1) := by decide +kernel
theorem dX3_put_22 : decode cX3_put 22 = .ok (.invokevirtual 223, 3) := by decide +kernel
theorem dX3_put_25 : decode cX3_put 25 = .ok (.aload_n 0, 1) := by decide +kernel
theorem dX3_put_26 : decode cX3_put 26 = .ok (.getfield 34, 3) := by decide +kernel
theorem dX3_put_29 : decode cX3_put 29 = .ok (.iload_n 1, 1) := by decide +kernel
theorem dX3_put_30 : decode cX3_put 30 = .ok (.iaload, 1) := by decide +kernel
theorem dX3_put_31 : decode cX3_put 31 = .ok (.istore_n 3, 1) := by decide +kernel
theorem dX3_put_32 : decode cX3_put 32 = .ok (.aload_n 0, 1) := by decide +kernel
theorem dX3_put_33 : decode cX3_put 33 = .ok (.getfield 34, 3) := by decide +kernel
theorem dX3_put_36 : decode cX3_put 36 = .ok (.iload_n 1, 1) := by decide +kernel
theorem dX3_put_37 : decode cX3_put 37 = .ok (.iload_n 2, 1) := by decide +kernel
theorem dX3_put_38 : decode cX3_put 38 = .ok (.iastore, 1) := by decide +kernel
theorem dX3_put_39 : decode cX3_put 39 = .ok (.iload_n 3, 1) := by decide +kernel
theorem dX3_put_40 : decode cX3_put 40 = .ok (.ireturn, 1) := by decide +kernel
theorem dX3_colonel_0 : decode cX3_colonel 0 = .ok (.iload_n 1, 1) := by decide +kernel
theorem dX3_colonel_1 : decode cX3_colonel 1 = .ok (.invokestatic 226, 3) := by decide +kernel
theorem dX3_colonel_4 : decode cX3_colonel 4 = .ok (.ifCond .ne 9, 3) := by decide +kernel
theorem dX3_colonel_7 : decode cX3_colonel 7 = .ok (.aload_n 0, 1) := by decide +kernel
theorem dX3_colonel_8 : decode cX3_colonel 8 = .ok (.iconst (-1), 1) := by decide +kernel
theorem dX3_colonel_9 : decode cX3_colonel 9 = .ok (.invokevirtual 102, 3) := by decide +kernel
theorem dX3_colonel_12 : decode cX3_colonel 12 = .ok (.ireturn, 1) := by decide +kernel
theorem dX3_colonel_13 : decode cX3_colonel 13 = .ok (.aload_n 0, 1) := by decide +kernel
theorem dX3_colonel_14 : decode cX3_colonel 14 = .ok (.invokevirtual 223, 3) := by decide +kernel
theorem dX3_colonel_17 : decode cX3_colonel 17 = .ok (.aload_n 0, 1) := by decide +kernel
theorem dX3_colonel_18 : decode cX3_colonel 18 = .ok (.getfield 151, 3) := by decide +kernel
theorem dX3_colonel_21 : decode cX3_colonel 21 = .ok (.istore_n 2, 1) := by decide +kernel
theorem dX3_colonel_22 : decode cX3_colonel 22 = .ok (.aload_n 0, 1) := by decide +kernel
theorem dX3_colonel_23 : decode cX3_colonel 23 = .ok (.iload_n 1, 1) := by decide +kernel
theorem dX3_colonel_24 : decode cX3_colonel 24 = .ok (.putfield 151, 3) := by decide +kernel
theorem dX3_colonel_27 : decode cX3_colonel 27 = .ok (.iload_n 2, 1) := by decide +kernel
theorem dX3_colonel_28 : decode cX3_colonel 28 = .ok (.ireturn, 1) := by decide +kernel
theorem dX3_hours_0 : decode cX3_hours 0 = .ok (.iload_n 1, 1) := by decide +kernel
theorem dX3_hours_1 : decode cX3_hours 1 = .ok (.iconst 1, 1) := by decide +kernel
theorem dX3_hours_2 : decode cX3_hours 2 = .ok (.bipush 60, 2) := by decide +kernel
theorem dX3_hours_4 : decode cX3_hours 4 = .ok (.invokestatic 95, 3) := by decide +kernel
theorem dX3_hours_7 : decode cX3_hours 7 = .ok (.istore_n 2, 1) := by decide +kernel
theorem dX3_hours_8 : decode cX3_hours 8 = .ok (.iload_n 2, 1) := by decide +kernel
theorem dX3_hours_9 : decode cX3_hours 9 = .ok (.ifCond .ne 18, 3) := by decide +kernel
theorem dX3_hours_12 : decode cX3_hours 12 = .ok (.aload_n 0, 1) := by decide +kernel
theorem dX3_hours_13 : decode cX3_hours 13 = .ok (.getfield 127, 3) := by decide +kernel
theorem dX3_hours_16 : decode cX3_hours 16 = .ok (.iload_n 1, 1) := by decide +kernel
theorem dX3_hours_17 : decode cX3_hours 17 = .ok (.iadd, 1) := by decide +kernel
theorem dX3_hours_18 : decode cX3_hours 18 = .ok (.sipush 999, 3) := by decide +kernel
theorem dX3_hours_21 : decode cX3_hours 21 = .ok (.if_icmp .le 6, 3) := by decide +kernel
theorem dX3_hours_24 : decode cX3_hours 24 = .ok (.bipush (-6), 2) := by decide +kernel
theorem dX3_hours_26 : decode cX3_hours 26 = .ok (.istore_n 2, 1) := by decide +kernel
theorem dX3_hours_27 : decode cX3_hours 27 = .ok (.iload_n 2, 1) := by decide +kernel
theorem dX3_hours_28 : decode cX3_hours 28 = .ok (.ifCond .eq 9, 3) := by decide +kernel
theorem dX3_hours_31 : decode cX3_hours 31 = .ok (.aload_n 0, 1) := by decide +kernel
theorem dX3_hours_32 : decode cX3_hours 32 = .ok (.iload_n 2, 1) := by decide +kernel
theorem dX3_hours_33 : decode cX3_hours 33 = .ok (.invokevirtual 102, 3) := by decide +kernel
theorem dX3_hours_36 : decode cX3_hours 36 = .ok (.ireturn, 1) := by decide +kernel
theorem dX3_hours_37 : decode cX3_hours 37 = .ok (.aload_n 0, 1) := by decide +kernel
theorem dX3_hours_38 : decode cX3_hours 38 = .ok (.iconst 0, 1) := by decide +kernel
theorem dX3_hours_39 : decode cX3_hours 39 = .ok (.putfield 168, 3) := by decide +kernel
theorem dX3_hours_42 : decode cX3_hours 42 = .ok (.aload_n 0, 1) := by decide +kernel
theorem dX3_hours_43 : decode cX3_hours 43 = .ok (.invokevirtual 229, 3) := by decide +kernel
theorem dX3_hours_46 : decode cX3_hours 46 = .ok (.aload_n 0, 1) := by decide +kernel
theorem dX3_hours_47 : decode cX3_hours 47 = .ok (.iload_n 1, 1) := by decide +kernel
theorem dX3_hours_48 : decode cX3_hours 48 = .ok (.invokevirtual 232, 3) := by decide +kernel
theorem dX3_hours_51 : decode cX3_hours 51 = .ok (.aload_n 0, 1) := by decide +kernel
theorem dX3_hours_52 : decode cX3_hours 52 = .ok (.getfield 217, 3) := by decide +kernel
theorem dX3_hours_55 : decode cX3_hours 55 = .ok (.ireturn, 1) := by decide +kernel
theorem dX3_notHours_0 : decode cX3_notHours 0 = .ok (.iload_n 0, 1) := by decide +kernel
theorem dX3_notHours_1 : decode cX3_notHours 1 = .ok (.iconst 0, 1) := by decide +kernel
theorem dX3_notHours_2 : decode cX3_notHours 2 = .ok (.bipush 60, 2) := by decide +kernel
theorem dX3_notHours_4 : decode cX3_notHours 4 = .ok (.invokestatic 95, 3) := by decide +kernel
theorem dX3_notHours_7 : decode cX3_notHours 7 = .ok (.ireturn, 1) := by decide +kernel
theorem dX3_behind_0 : decode cX3_behind 0 = .ok (.aload_n 0, 1) := by decide +kernel
theorem dX3_behind_1 : decode cX3_behind 1 = .ok (.iload_n 1, 1) := by decide +kernel
theorem dX3_behind_2 : decode cX3_behind 2 = .ok (.invokevirtual 91, 3) := by decide +kernel
theorem dX3_behind_5 : decode cX3_behind 5 = .ok (.ifCond .ne 7, 3) := by decide +kernel
theorem dX3_behind_8 : decode cX3_behind 8 = .ok (.iconst (-1), 1) := by decide +kernel
theorem dX3_behind_9 : decode cX3_behind 9 = .ok (.goto 7, 3) := by decide +kernel
theorem dX3_behind_12 : decode cX3_behind 12 = .ok (.iload_n 2, 1) := by decide +kernel
theorem dX3_behind_13 : decode cX3_behind 13 = .ok (.invokestatic 235, 3) := by decide +kernel
theorem dX3_behind_16 : decode cX3_behind 16 = .ok (.istore 4, 2) := by decide +kernel
theorem dX3_behind_18 : decode cX3_behind 18 = .ok (.iload 4, 2) := by decide +kernel
theorem dX3_behind_20 : decode cX3_behind 20 = .ok (.ifCond .ne 16, 3) := by decide +kernel
theorem dX3_behind_23 : decode cX3_behind 23 = .ok (.iload_n 3, 1) := by decide +kernel
theorem dX3_behind_24 : decode cX3_behind 24 = .ok (.iconst 0, 1) := by decide +kernel
theorem dX3_behind_25 : decode cX3_behind 25 = .ok (.iconst 3, 1) := by decide +kernel
theorem dX3_behind_26 : decode cX3_behind 26 = .ok (.invokestatic 113, 3) := by decide +kernel
theorem dX3_behind_29 : decode cX3_behind 29 = .ok (.ifCond .ne 7, 3) := by decide +kernel
theorem dX3_behind_32 : decode cX3_behind 32 = .ok (.bipush (-2), 2) := by decide +kernel
theorem dX3_behind_34 : decode cX3_behind 34 = .ok (.istore 4, 2) := by decide +kernel
theorem dX3_behind_36 : decode cX3_behind 36 = .ok (.iload 4, 2) := by decide +kernel
theorem dX3_behind_38 : decode cX3_behind 38 = .ok (.ifCond .eq 10, 3) := by decide +kernel
theorem dX3_behind_41 : decode cX3_behind 41 = .ok (.aload_n 0, 1) := by decide +kernel
theorem dX3_behind_42 : decode cX3_behind 42 = .ok (.iload 4, 2) := by decide +kernel
theorem dX3_behind_44 : decode cX3_behind 44 = .ok (.invokevirtual 102, 3) := by decide +kernel
theorem dX3_behind_47 : decode cX3_behind 47 = .ok (.ireturn, 1) := by decide +kernel
theorem dX3_behind_48 : decode cX3_behind 48 = .ok (.aload_n 0, 1) := by decide +kernel
theorem dX3_behind_49 : decode cX3_behind 49 = .ok (.invokevirtual 238, 3) := by decide +kernel
theorem dX3_behind_52 : decode cX3_behind 52 = .ok (.aload_n 0, 1) := by decide +kernel
theorem dX3_behind_53 : decode cX3_behind 53 = .ok (.invokevirtual 229, 3) := by decide +kernel
theorem dX3_behind_56 : decode cX3_behind 56 = .ok (.aload_n 0, 1) := by decide +kernel
theorem dX3_behind_57 : decode cX3_behind 57 = .ok (.iload_n 2, 1) := by decide +kernel
theorem dX3_behind_58 : decode cX3_behind 58 = .ok (.invokevirtual 232, 3) := by decide +kernel
theorem dX3_behind_61 : decode cX3_behind 61 = .ok (.aload_n 0, 1) := by decide +kernel
theorem dX3_behind_62 : decode cX3_behind 62 = .ok (.getfield 37, 3) := by decide +kernel
theorem dX3_behind_65 : decode cX3_behind 65 = .ok (.iload_n 1, 1) := by decide +kernel
theorem dX3_behind_66 : decode cX3_behind 66 = .ok (.iaload, 1) := by decide +kernel
theorem dX3_behind_67 : decode cX3_behind 67 = .ok (.bipush 9, 2) := by decide +kernel
theorem dX3_behind_69 : decode cX3_behind 69 = .ok (.if_icmp .ge 16, 3) := by decide +kernel
theorem dX3_behind_72 : decode cX3_behind 72 = .ok (.aload_n 0, 1) := by decide +kernel
theorem dX3_behind_73 : decode cX3_behind 73 = .ok (.aload_n 0, 1) := by decide +kernel
theorem dX3_behind_74 : decode cX3_behind 74 = .ok (.getfield 37, 3) := by decide +kernel
theorem dX3_behind_77 : decode cX3_behind 77 = .ok (.iload_n 1, 1) := by decide +kernel
theorem dX3_behind_78 : decode cX3_behind 78 = .ok (.iaload, 1) := by decide +kernel
theorem dX3_behind_79 : decode cX3_behind 79 = .ok (.invokevirtual 198, 3) := by decide +kernel
theorem dX3_behind_82 : decode cX3_behind 82 = .ok (.goto 5, 3) := by decide +kernel
theorem dX3_behind_85 : decode cX3_behind 85 = .ok (.bipush (-9), 2) := by decide +kernel
theorem dX3_behind_87 : decode cX3_behind 87 = .ok (.istore 5, 2) := by decide +kernel
theorem dX3_behind_89 : decode cX3_behind 89 = .ok (.iload_n 3, 1) := by decide +kernel
theorem dX3_behind_90 : decode cX3_behind 90 = .ok (.ifCond .ne 12, 3) := by decide +kernel
theorem dX3_behind_93 : decode cX3_behind 93 = .ok (.aload_n 0, 1) := by decide +kernel
theorem dX3_behind_94 : decode cX3_behind 94 = .ok (.getfield 34, 3) := by decide +kernel
theorem dX3_behind_97 : decode cX3_behind 97 = .ok (.iload_n 1, 1) := by decide +kernel
theorem dX3_behind_98 : decode cX3_behind 98 = .ok (.iaload, 1) := by decide +kernel
theorem dX3_behind_99 : decode cX3_behind 99 = .ok (.goto 33, 3) := by decide +kernel
theorem dX3_behind_102 : decode cX3_behind 102 = .ok (.iload_n 3, 1) := by decide +kernel
theorem dX3_behind_103 : decode cX3_behind 103 = .ok (.iconst 1, 1) := by decide +kernel
theorem dX3_behind_104 : decode cX3_behind 104 = .ok (.if_icmp .ne 12, 3) := by decide +kernel
theorem dX3_behind_107 : decode cX3_behind 107 = .ok (.aload_n 0, 1) := by decide +kernel
theorem dX3_behind_108 : decode cX3_behind 108 = .ok (.getfield 40, 3) := by decide +kernel
theorem dX3_behind_111 : decode cX3_behind 111 = .ok (.iload_n 1, 1) := by decide +kernel
theorem dX3_behind_112 : decode cX3_behind 112 = .ok (.iaload, 1) := by decide +kernel
theorem dX3_behind_113 : decode cX3_behind 113 = .ok (.goto 19, 3) := by decide +kernel
theorem dX3_behind_116 : decode cX3_behind 116 = .ok (.iload_n 3, 1) := by decide +kernel
theorem dX3_behind_117 : decode cX3_behind 117 = .ok (.iconst 2, 1) := by decide +kernel
theorem dX3_behind_118 : decode cX3_behind 118 = .ok (.if_icmp .ne 12, 3) := by decide +kernel
theorem dX3_behind_121 : decode cX3_behind 121 = .ok (.aload_n 0, 1) := by decide +kernel
theorem dX3_behind_122 : decode cX3_behind 122 = .ok (.getfield 58, 3) := by decide +kernel
theorem dX3_behind_125 : decode cX3_behind 125 = .ok (.iload_n 1, 1) := by decide +kernel
theorem dX3_behind_126 : decode cX3_behind 126 = .ok (.iaload, 1) := by decide +kernel
theorem dX3_behind_127 : decode cX3_behind 127 = .ok (.goto 5, 3) := by decide +kernel
theorem dX3_behind_130 : decode cX3_behind 130 = .ok (.iload 5, 2) := by decide +kernel
theorem dX3_behind_132 : decode cX3_behind 132 = .ok (.istore 6, 2) := by decide +kernel
theorem dX3_behind_134 : decode cX3_behind 134 = .ok (.aload_n 0, 1) := by decide +kernel
theorem dX3_behind_135 : decode cX3_behind 135 = .ok (.invokevirtual 241, 3) := by decide +kernel
theorem dX3_behind_138 : decode cX3_behind 138 = .ok (.iload 6, 2) := by decide +kernel
theorem dX3_behind_140 : decode cX3_behind 140 = .ok (.ireturn, 1) := by decide +kernel
theorem dX3_meetsIn_0 : decode cX3_meetsIn 0 = .ok (.aload_n 0, 1) := by decide +kernel
theorem dX3_meetsIn_1 : decode cX3_meetsIn 1 = .ok (.invokevirtual 238, 3) := by decide +kernel
theorem dX3_meetsIn_4 : decode cX3_meetsIn 4 = .ok (.bipush (-9), 2) := by decide +kernel
theorem dX3_meetsIn_6 : decode cX3_meetsIn 6 = .ok (.istore_n 3, 1) := by decide +kernel
theorem dX3_meetsIn_7 : decode cX3_meetsIn 7 = .ok (.iconst 0, 1) := by decide +kernel
theorem dX3_meetsIn_8 : decode cX3_meetsIn 8 = .ok (.istore 4, 2) := by decide +kernel
theorem dX3_meetsIn_10 : decode cX3_meetsIn 10 = .ok (.iload 4, 2) := by decide +kernel
theorem dX3_meetsIn_12 : decode cX3_meetsIn 12 = .ok (.bipush 60, 2) := by decide +kernel
theorem dX3_meetsIn_14 : decode cX3_meetsIn 14 = .ok (.if_icmp .gt 41, 3) := by decide +kernel
theorem dX3_meetsIn_17 : decode cX3_meetsIn 17 = .ok (.iload_n 3, 1) := by decide +kernel
theorem dX3_meetsIn_18 : decode cX3_meetsIn 18 = .ok (.ifCond .ge 37, 3) := by decide +kernel
theorem dX3_meetsIn_21 : decode cX3_meetsIn 21 = .ok (.aload_n 0, 1) := by decide +kernel
theorem dX3_meetsIn_22 : decode cX3_meetsIn 22 = .ok (.getfield 34, 3) := by decide +kernel
theorem dX3_meetsIn_25 : decode cX3_meetsIn 25 = .ok (.iload_n 1, 1) := by decide +kernel
theorem dX3_meetsIn_26 : decode cX3_meetsIn 26 = .ok (.iaload, 1) := by decide +kernel
theorem dX3_meetsIn_27 : decode cX3_meetsIn 27 = .ok (.aload_n 0, 1) := by decide +kernel
theorem dX3_meetsIn_28 : decode cX3_meetsIn 28 = .ok (.getfield 34, 3) := by decide +kernel
theorem dX3_meetsIn_31 : decode cX3_meetsIn 31 = .ok (.iload_n 2, 1) := by decide +kernel
theorem dX3_meetsIn_32 : decode cX3_meetsIn 32 = .ok (.iaload, 1) := by decide +kernel
theorem dX3_meetsIn_33 : decode cX3_meetsIn 33 = .ok (.if_icmp .ne 8, 3) := by decide +kernel
theorem dX3_meetsIn_36 : decode cX3_meetsIn 36 = .ok (.iload 4, 2) := by decide +kernel
theorem dX3_meetsIn_38 : decode cX3_meetsIn 38 = .ok (.goto 5, 3) := by decide +kernel
theorem dX3_meetsIn_41 : decode cX3_meetsIn 41 = .ok (.bipush (-9), 2) := by decide +kernel
theorem dX3_meetsIn_43 : decode cX3_meetsIn 43 = .ok (.istore_n 3, 1) := by decide +kernel
theorem dX3_meetsIn_44 : decode cX3_meetsIn 44 = .ok (.aload_n 0, 1) := by decide +kernel
theorem dX3_meetsIn_45 : decode cX3_meetsIn 45 = .ok (.iconst 0, 1) := by decide +kernel
theorem dX3_meetsIn_46 : decode cX3_meetsIn 46 = .ok (.invokevirtual 130, 3) := by decide +kernel
theorem dX3_meetsIn_49 : decode cX3_meetsIn 49 = .ok (.iinc 4 1, 3) := by decide +kernel
theorem dX3_meetsIn_52 : decode cX3_meetsIn 52 = .ok (.goto (-42), 3) := by decide +kernel
theorem dX3_meetsIn_55 : decode cX3_meetsIn 55 = .ok (.aload_n 0, 1) := by decide +kernel
theorem dX3_meetsIn_56 : decode cX3_meetsIn 56 = .ok (.invokevirtual 241, 3) := by decide +kernel
theorem dX3_meetsIn_59 : decode cX3_meetsIn 59 = .ok (.iload_n 3, 1) := by decide +kernel
theorem dX3_meetsIn_60 : decode cX3_meetsIn 60 = .ok (.ireturn, 1) := by decide +kernel
theorem dX3_meet_0 : decode cX3_meet 0 = .ok (.aload_n 0, 1) := by decide +kernel
theorem dX3_meet_1 : decode cX3_meet 1 = .ok (.iload_n 1, 1) := by decide +kernel
theorem dX3_meet_2 : decode cX3_meet 2 = .ok (.iload_n 2, 1) := by decide +kernel
theorem dX3_meet_3 : decode cX3_meet 3 = .ok (.invokevirtual 244, 3) := by decide +kernel
theorem dX3_meet_6 : decode cX3_meet 6 = .ok (.ifCond .eq 12, 3) := by decide +kernel
theorem dX3_meet_9 : decode cX3_meet 9 = .ok (.aload_n 0, 1) := by decide +kernel
theorem dX3_meet_10 : decode cX3_meet 10 = .ok (.iload_n 1, 1) := by decide +kernel
theorem dX3_meet_11 : decode cX3_meet 11 = .ok (.iload_n 2, 1) := by decide +kernel
theorem dX3_meet_12 : decode cX3_meet 12 = .ok (.invokevirtual 247, 3) := by decide +kernel
theorem dX3_meet_15 : decode cX3_meet 15 = .ok (.goto 8, 3) := by decide +kernel
theorem dX3_meet_18 : decode cX3_meet 18 = .ok (.aload_n 0, 1) := by decide +kernel
theorem dX3_meet_19 : decode cX3_meet 19 = .ok (.iconst (-1), 1) := by decide +kernel
theorem dX3_meet_20 : decode cX3_meet 20 = .ok (.invokevirtual 102, 3) := by decide +kernel
theorem dX3_meet_23 : decode cX3_meet 23 = .ok (.ireturn, 1) := by decide +kernel
theorem dX3_manyAt_0 : decode cX3_manyAt 0 = .ok (.iconst 0, 1) := by decide +kernel
theorem dX3_manyAt_1 : decode cX3_manyAt 1 = .ok (.istore_n 2, 1) := by decide +kernel
theorem dX3_manyAt_2 : decode cX3_manyAt 2 = .ok (.iconst 0, 1) := by decide +kernel
theorem dX3_manyAt_3 : decode cX3_manyAt 3 = .ok (.istore_n 3, 1) := by decide +kernel
theorem dX3_manyAt_4 : decode cX3_manyAt 4 = .ok (.iload_n 3, 1) := by decide +kernel
theorem dX3_manyAt_5 : decode cX3_manyAt 5 = .ok (.aload_n 0, 1) := by decide +kernel
theorem dX3_manyAt_6 : decode cX3_manyAt 6 = .ok (.getfield 88, 3) := by decide +kernel
theorem dX3_manyAt_9 : decode cX3_manyAt 9 = .ok (.if_icmp .ge 27, 3) := by decide +kernel
theorem dX3_manyAt_12 : decode cX3_manyAt 12 = .ok (.iload_n 2, 1) := by decide +kernel
theorem dX3_manyAt_13 : decode cX3_manyAt 13 = .ok (.aload_n 0, 1) := by decide +kernel
theorem dX3_manyAt_14 : decode cX3_manyAt 14 = .ok (.getfield 34, 3) := by decide +kernel
theorem dX3_manyAt_17 : decode cX3_manyAt 17 = .ok (.iload_n 3, 1) := by decide +kernel
theorem dX3_manyAt_18 : decode cX3_manyAt 18 = .ok (.iaload, 1) := by decide +kernel
theorem dX3_manyAt_19 : decode cX3_manyAt 19 = .ok (.iload_n 1, 1) := by decide +kernel
theorem dX3_manyAt_20 : decode cX3_manyAt 20 = .ok (.if_icmp .ne 7, 3) := by decide +kernel
theorem dX3_manyAt_23 : decode cX3_manyAt 23 = .ok (.iconst 1, 1) := by decide +kernel
theorem dX3_manyAt_24 : decode cX3_manyAt 24 = .ok (.goto 4, 3) := by decide +kernel
theorem dX3_manyAt_27 : decode cX3_manyAt 27 = .ok (.iconst 0, 1) := by decide +kernel
theorem dX3_manyAt_28 : decode cX3_manyAt 28 = .ok (.iadd, 1) := by decide +kernel
theorem dX3_manyAt_29 : decode cX3_manyAt 29 = .ok (.istore_n 2, 1) := by decide +kernel
theorem dX3_manyAt_30 : decode cX3_manyAt 30 = .ok (.iinc 3 1, 3) := by decide +kernel
theorem dX3_manyAt_33 : decode cX3_manyAt 33 = .ok (.goto (-29), 3) := by decide +kernel
theorem dX3_manyAt_36 : decode cX3_manyAt 36 = .ok (.iload_n 2, 1) := by decide +kernel
theorem dX3_manyAt_37 : decode cX3_manyAt 37 = .ok (.ireturn, 1) := by decide +kernel
theorem dX3_company_0 : decode cX3_company 0 = .ok (.iload_n 1, 1) := by decide +kernel
theorem dX3_company_1 : decode cX3_company 1 = .ok (.invokestatic 235, 3) := by decide +kernel
theorem dX3_company_4 : decode cX3_company 4 = .ok (.istore_n 3, 1) := by decide +kernel
theorem dX3_company_5 : decode cX3_company 5 = .ok (.iload_n 3, 1) := by decide +kernel
theorem dX3_company_6 : decode cX3_company 6 = .ok (.ifCond .ne 15, 3) := by decide +kernel
theorem dX3_company_9 : decode cX3_company 9 = .ok (.iload_n 2, 1) := by decide +kernel
theorem dX3_company_10 : decode cX3_company 10 = .ok (.iconst 0, 1) := by decide +kernel
theorem dX3_company_11 : decode cX3_company 11 = .ok (.iconst 1, 1) := by decide +kernel
theorem dX3_company_12 : decode cX3_company 12 = .ok (.invokestatic 113, 3) := by decide +kernel
theorem dX3_company_15 : decode cX3_company 15 = .ok (.ifCond .ne 6, 3) := by decide +kernel
theorem dX3_company_18 : decode cX3_company 18 = .ok (.bipush (-2), 2) := by decide +kernel
theorem dX3_company_20 : decode cX3_company 20 = .ok (.istore_n 3, 1) := by decide +kernel
theorem dX3_company_21 : decode cX3_company 21 = .ok (.iload_n 3, 1) := by decide +kernel
theorem dX3_company_22 : decode cX3_company 22 = .ok (.ifCond .eq 9, 3) := by decide +kernel
theorem dX3_company_25 : decode cX3_company 25 = .ok (.aload_n 0, 1) := by decide +kernel
theorem dX3_company_26 : decode cX3_company 26 = .ok (.iload_n 3, 1) := by decide +kernel
theorem dX3_company_27 : decode cX3_company 27 = .ok (.invokevirtual 102, 3) := by decide +kernel
theorem dX3_company_30 : decode cX3_company 30 = .ok (.ireturn, 1) := by decide +kernel
theorem dX3_company_31 : decode cX3_company 31 = .ok (.aload_n 0, 1) := by decide +kernel
theorem dX3_company_32 : decode cX3_company 32 = .ok (.invokevirtual 238, 3) := by decide +kernel
theorem dX3_company_35 : decode cX3_company 35 = .ok (.aload_n 0, 1) := by decide +kernel
theorem dX3_company_36 : decode cX3_company 36 = .ok (.iload_n 1, 1) := by decide +kernel
theorem dX3_company_37 : decode cX3_company 37 = .ok (.invokevirtual 232, 3) := by decide +kernel
theorem dX3_company_40 : decode cX3_company 40 = .ok (.iconst 0, 1) := by decide +kernel
theorem dX3_company_41 : decode cX3_company 41 = .ok (.istore 4, 2) := by decide +kernel
theorem dX3_company_43 : decode cX3_company 43 = .ok (.iconst 1, 1) := by decide +kernel
theorem dX3_company_44 : decode cX3_company 44 = .ok (.istore 5, 2) := by decide +kernel
theorem dX3_company_46 : decode cX3_company 46 = .ok (.iload 5, 2) := by decide +kernel
theorem dX3_company_48 : decode cX3_company 48 = .ok (.bipush 10, 2) := by decide +kernel
theorem dX3_company_50 : decode cX3_company 50 = .ok (.if_icmp .ge 33, 3) := by decide +kernel
theorem dX3_company_53 : decode cX3_company 53 = .ok (.aload_n 0, 1) := by decide +kernel
theorem dX3_company_54 : decode cX3_company 54 = .ok (.iload 5, 2) := by decide +kernel
theorem dX3_company_56 : decode cX3_company 56 = .ok (.invokevirtual 250, 3) := by decide +kernel
theorem dX3_company_59 : decode cX3_company 59 = .ok (.aload_n 0, 1) := by decide +kernel
theorem dX3_company_60 : decode cX3_company 60 = .ok (.iload 4, 2) := by decide +kernel
theorem dX3_company_62 : decode cX3_company 62 = .ok (.invokevirtual 250, 3) := by decide +kernel
theorem dX3_company_65 : decode cX3_company 65 = .ok (.if_icmp .le 8, 3) := by decide +kernel
theorem dX3_company_68 : decode cX3_company 68 = .ok (.iload 5, 2) := by decide +kernel
theorem dX3_company_70 : decode cX3_company 70 = .ok (.goto 5, 3) := by decide +kernel
theorem dX3_company_73 : decode cX3_company 73 = .ok (.iload 4, 2) := by decide +kernel
theorem dX3_company_75 : decode cX3_company 75 = .ok (.istore 4, 2) := by decide +kernel
theorem dX3_company_77 : decode cX3_company 77 = .ok (.iinc 5 1, 3) := by decide +kernel
theorem dX3_company_80 : decode cX3_company 80 = .ok (.goto (-34), 3) := by decide +kernel
theorem dX3_company_83 : decode cX3_company 83 = .ok (.aload_n 0, 1) := by decide +kernel
theorem dX3_company_84 : decode cX3_company 84 = .ok (.iload 4, 2) := by decide +kernel
theorem dX3_company_86 : decode cX3_company 86 = .ok (.invokevirtual 250, 3) := by decide +kernel
theorem dX3_company_89 : decode cX3_company 89 = .ok (.istore 5, 2) := by decide +kernel
theorem dX3_company_91 : decode cX3_company 91 = .ok (.aload_n 0, 1) := by decide +kernel
theorem dX3_company_92 : decode cX3_company 92 = .ok (.invokevirtual 241, 3) := by decide +kernel
theorem dX3_company_95 : decode cX3_company 95 = .ok (.iload_n 2, 1) := by decide +kernel
theorem dX3_company_96 : decode cX3_company 96 = .ok (.ifCond .ne 8, 3) := by decide +kernel
theorem dX3_company_99 : decode cX3_company 99 = .ok (.iload 5, 2) := by decide +kernel
theorem dX3_company_101 : decode cX3_company 101 = .ok (.goto 5, 3) := by decide +kernel
theorem dX3_company_104 : decode cX3_company 104 = .ok (.iload 4, 2) := by decide +kernel
theorem dX3_company_106 : decode cX3_company 106 = .ok (.ireturn, 1) := by decide +kernel
theorem dX3_outOf_0 : decode cX3_outOf 0 = .ok (.aload_n 0, 1) := by decide +kernel
theorem dX3_outOf_1 : decode cX3_outOf 1 = .ok (.invokevirtual 238, 3) := by decide +kernel
theorem dX3_outOf_4 : decode cX3_outOf 4 = .ok (.bipush (-9), 2) := by decide +kernel
theorem dX3_outOf_6 : decode cX3_outOf 6 = .ok (.istore_n 2, 1) := by decide +kernel
theorem dX3_outOf_7 : decode cX3_outOf 7 = .ok (.iconst 0, 1) := by decide +kernel
theorem dX3_outOf_8 : decode cX3_outOf 8 = .ok (.istore_n 3, 1) := by decide +kernel
theorem dX3_outOf_9 : decode cX3_outOf 9 = .ok (.iload_n 3, 1) := by decide +kernel
theorem dX3_outOf_10 : decode cX3_outOf 10 = .ok (.bipush 60, 2) := by decide +kernel
theorem dX3_outOf_12 : decode cX3_outOf 12 = .ok (.if_icmp .gt 34, 3) := by decide +kernel
theorem dX3_outOf_15 : decode cX3_outOf 15 = .ok (.iload_n 2, 1) := by decide +kernel
theorem dX3_outOf_16 : decode cX3_outOf 16 = .ok (.ifCond .ge 30, 3) := by decide +kernel
theorem dX3_outOf_19 : decode cX3_outOf 19 = .ok (.aload_n 0, 1) := by decide +kernel
theorem dX3_outOf_20 : decode cX3_outOf 20 = .ok (.getfield 40, 3) := by decide +kernel
theorem dX3_outOf_23 : decode cX3_outOf 23 = .ok (.iload_n 1, 1) := by decide +kernel
theorem dX3_outOf_24 : decode cX3_outOf 24 = .ok (.iaload, 1) := by decide +kernel
theorem dX3_outOf_25 : decode cX3_outOf 25 = .ok (.ifCond .ne 7, 3) := by decide +kernel
theorem dX3_outOf_28 : decode cX3_outOf 28 = .ok (.iload_n 3, 1) := by decide +kernel
theorem dX3_outOf_29 : decode cX3_outOf 29 = .ok (.goto 5, 3) := by decide +kernel
theorem dX3_outOf_32 : decode cX3_outOf 32 = .ok (.bipush (-9), 2) := by decide +kernel
theorem dX3_outOf_34 : decode cX3_outOf 34 = .ok (.istore_n 2, 1) := by decide +kernel
theorem dX3_outOf_35 : decode cX3_outOf 35 = .ok (.aload_n 0, 1) := by decide +kernel
theorem dX3_outOf_36 : decode cX3_outOf 36 = .ok (.iconst 0, 1) := by decide +kernel
theorem dX3_outOf_37 : decode cX3_outOf 37 = .ok (.invokevirtual 130, 3) := by decide +kernel
theorem dX3_outOf_40 : decode cX3_outOf 40 = .ok (.iinc 3 1, 3) := by decide +kernel
theorem dX3_outOf_43 : decode cX3_outOf 43 = .ok (.goto (-34), 3) := by decide +kernel
theorem dX3_outOf_46 : decode cX3_outOf 46 = .ok (.aload_n 0, 1) := by decide +kernel
theorem dX3_outOf_47 : decode cX3_outOf 47 = .ok (.invokevirtual 241, 3) := by decide +kernel
theorem dX3_outOf_50 : decode cX3_outOf 50 = .ok (.iload_n 2, 1) := by decide +kernel
theorem dX3_outOf_51 : decode cX3_outOf 51 = .ok (.ireturn, 1) := by decide +kernel
theorem dX3_breathless_0 : decode cX3_breathless 0 = .ok (.iload_n 1, 1) := by decide +kernel
theorem dX3_breathless_1 : decode cX3_breathless 1 = .ok (.iconst (-1), 1) := by decide +kernel
theorem dX3_breathless_2 : decode cX3_breathless 2 = .ok (.if_icmp .eq 17, 3) := by decide +kernel
theorem dX3_breathless_5 : decode cX3_breathless 5 = .ok (.aload_n 0, 1) := by decide +kernel
theorem dX3_breathless_6 : decode cX3_breathless 6 = .ok (.iload_n 1, 1) := by decide +kernel
theorem dX3_breathless_7 : decode cX3_breathless 7 = .ok (.invokevirtual 91, 3) := by decide +kernel
theorem dX3_breathless_10 : decode cX3_breathless 10 = .ok (.ifCond .ne 9, 3) := by decide +kernel
theorem dX3_breathless_13 : decode cX3_breathless 13 = .ok (.aload_n 0, 1) := by decide +kernel
theorem dX3_breathless_14 : decode cX3_breathless 14 = .ok (.iconst (-1), 1) := by decide +kernel
theorem dX3_breathless_15 : decode cX3_breathless 15 = .ok (.invokevirtual 102, 3) := by decide +kernel
theorem dX3_breathless_18 : decode cX3_breathless 18 = .ok (.ireturn, 1) := by decide +kernel
theorem dX3_breathless_19 : decode cX3_breathless 19 = .ok (.iload_n 1, 1) := by decide +kernel
theorem dX3_breathless_20 : decode cX3_breathless 20 = .ok (.ifCond .lt 9, 3) := by decide +kernel
theorem dX3_breathless_23 : decode cX3_breathless 23 = .ok (.aload_n 0, 1) := by decide +kernel
theorem dX3_breathless_24 : decode cX3_breathless 24 = .ok (.iload_n 1, 1) := by decide +kernel
theorem dX3_breathless_25 : decode cX3_breathless 25 = .ok (.invokevirtual 253, 3) := by decide +kernel
theorem dX3_breathless_28 : decode cX3_breathless 28 = .ok (.ireturn, 1) := by decide +kernel
theorem dX3_breathless_29 : decode cX3_breathless 29 = .ok (.bipush (-9), 2) := by decide +kernel
theorem dX3_breathless_31 : decode cX3_breathless 31 = .ok (.istore_n 2, 1) := by decide +kernel
theorem dX3_breathless_32 : decode cX3_breathless 32 = .ok (.iconst 0, 1) := by decide +kernel
theorem dX3_breathless_33 : decode cX3_breathless 33 = .ok (.istore_n 3, 1) := by decide +kernel
theorem dX3_breathless_34 : decode cX3_breathless 34 = .ok (.iload_n 3, 1) := by decide +kernel
theorem dX3_breathless_35 : decode cX3_breathless 35 = .ok (.aload_n 0, 1) := by decide +kernel
theorem dX3_breathless_36 : decode cX3_breathless 36 = .ok (.getfield 88, 3) := by decide +kernel
theorem dX3_breathless_39 : decode cX3_breathless 39 = .ok (.if_icmp .ge 36, 3) := by decide +kernel
theorem dX3_breathless_42 : decode cX3_breathless 42 = .ok (.aload_n 0, 1) := by decide +kernel
theorem dX3_breathless_43 : decode cX3_breathless 43 = .ok (.iload_n 3, 1) := by decide +kernel
theorem dX3_breathless_44 : decode cX3_breathless 44 = .ok (.invokevirtual 253, 3) := by decide +kernel
theorem dX3_breathless_47 : decode cX3_breathless 47 = .ok (.ifCond .lt 22, 3) := by decide +kernel
theorem dX3_breathless_50 : decode cX3_breathless 50 = .ok (.iload_n 2, 1) := by decide +kernel
theorem dX3_breathless_51 : decode cX3_breathless 51 = .ok (.ifCond .lt 16, 3) := by decide +kernel
theorem dX3_breathless_54 : decode cX3_breathless 54 = .ok (.aload_n 0, 1) := by decide +kernel
theorem dX3_breathless_55 : decode cX3_breathless 55 = .ok (.iload_n 3, 1) := by decide +kernel
theorem dX3_breathless_56 : decode cX3_breathless 56 = .ok (.invokevirtual 253, 3) := by decide +kernel
theorem dX3_breathless_59 : decode cX3_breathless 59 = .ok (.aload_n 0, 1) := by decide +kernel
theorem dX3_breathless_60 : decode cX3_breathless 60 = .ok (.iload_n 2, 1) := by decide +kernel
theorem dX3_breathless_61 : decode cX3_breathless 61 = .ok (.invokevirtual 253, 3) := by decide +kernel
theorem dX3_breathless_64 : decode cX3_breathless 64 = .ok (.if_icmp .ge 5, 3) := by decide +kernel
theorem dX3_breathless_67 : decode cX3_breathless 67 = .ok (.iload_n 3, 1) := by decide +kernel
theorem dX3_breathless_68 : decode cX3_breathless 68 = .ok (.istore_n 2, 1) := by decide +kernel
theorem dX3_breathless_69 : decode cX3_breathless 69 = .ok (.iinc 3 1, 3) := by decide +kernel
theorem dX3_breathless_72 : decode cX3_breathless 72 = .ok (.goto (-38), 3) := by decide +kernel
theorem dX3_breathless_75 : decode cX3_breathless 75 = .ok (.iload_n 2, 1) := by decide +kernel
theorem dX3_breathless_76 : decode cX3_breathless 76 = .ok (.ireturn, 1) := by decide +kernel
theorem dX3_snapsIn_0 : decode cX3_snapsIn 0 = .ok (.aload_n 0, 1) := by decide +kernel
theorem dX3_snapsIn_1 : decode cX3_snapsIn 1 = .ok (.invokevirtual 238, 3) := by decide +kernel
theorem dX3_snapsIn_4 : decode cX3_snapsIn 4 = .ok (.aload_n 0, 1) := by decide +kernel
theorem dX3_snapsIn_5 : decode cX3_snapsIn 5 = .ok (.invokevirtual 229, 3) := by decide +kernel
theorem dX3_snapsIn_8 : decode cX3_snapsIn 8 = .ok (.aload_n 0, 1) := by decide +kernel
theorem dX3_snapsIn_9 : decode cX3_snapsIn 9 = .ok (.iload_n 1, 1) := by decide +kernel
theorem dX3_snapsIn_10 : decode cX3_snapsIn 10 = .ok (.invokevirtual 232, 3) := by decide +kernel
theorem dX3_snapsIn_13 : decode cX3_snapsIn 13 = .ok (.aload_n 0, 1) := by decide +kernel
theorem dX3_snapsIn_14 : decode cX3_snapsIn 14 = .ok (.invokevirtual 241, 3) := by decide +kernel
theorem dX3_snapsIn_17 : decode cX3_snapsIn 17 = .ok (.aload_n 0, 1) := by decide +kernel
theorem dX3_snapsIn_18 : decode cX3_snapsIn 18 = .ok (.getfield 217, 3) := by decide +kernel
theorem dX3_snapsIn_21 : decode cX3_snapsIn 21 = .ok (.ireturn, 1) := by decide +kernel
theorem dX3_bestColonel_0 : decode cX3_bestColonel 0 = .ok (.aload_n 0, 1) := by decide +kernel
theorem dX3_bestColonel_1 : decode cX3_bestColonel 1 = .ok (.getfield 151, 3) := by decide +kernel
theorem dX3_bestColonel_4 : decode cX3_bestColonel 4 = .ok (.istore_n 2, 1) := by decide +kernel
theorem dX3_bestColonel_5 : decode cX3_bestColonel 5 = .ok (.iconst 0, 1) := by decide +kernel
theorem dX3_bestColonel_6 : decode cX3_bestColonel 6 = .ok (.istore_n 3, 1) := by decide +kernel
theorem dX3_bestColonel_7 : decode cX3_bestColonel 7 = .ok (.sipush 1000, 3) := by decide +kernel
theorem dX3_bestColonel_10 : decode cX3_bestColonel 10 = .ok (.istore 4, 2) := by decide +kernel
theorem dX3_bestColonel_12 : decode cX3_bestColonel 12 = .ok (.iconst 0, 1) := by decide +kernel
theorem dX3_bestColonel_13 : decode cX3_bestColonel 13 = .ok (.istore 5, 2) := by decide +kernel
theorem dX3_bestColonel_15 : decode cX3_bestColonel 15 = .ok (.iload 5, 2) := by decide +kernel
theorem dX3_bestColonel_17 : decode cX3_bestColonel 17 = .ok (.bipush 10, 2) := by decide +kernel
theorem dX3_bestColonel_19 : decode cX3_bestColonel 19 = .ok (.if_icmp .ge 39, 3) := by decide +kernel
theorem dX3_bestColonel_22 : decode cX3_bestColonel 22 = .ok (.aload_n 0, 1) := by decide +kernel
theorem dX3_bestColonel_23 : decode cX3_bestColonel 23 = .ok (.iload 5, 2) := by decide +kernel
theorem dX3_bestColonel_25 : decode cX3_bestColonel 25 = .ok (.putfield 151, 3) := by decide +kernel
theorem dX3_bestColonel_28 : decode cX3_bestColonel 28 = .ok (.aload_n 0, 1) := by decide +kernel
theorem dX3_bestColonel_29 : decode cX3_bestColonel 29 = .ok (.iload_n 1, 1) := by decide +kernel
theorem dX3_bestColonel_30 : decode cX3_bestColonel 30 = .ok (.invokevirtual 256, 3) := by decide +kernel
theorem dX3_bestColonel_33 : decode cX3_bestColonel 33 = .ok (.istore 6, 2) := by decide +kernel
theorem dX3_bestColonel_35 : decode cX3_bestColonel 35 = .ok (.iload 6, 2) := by decide +kernel
theorem dX3_bestColonel_37 : decode cX3_bestColonel 37 = .ok (.iload 4, 2) := by decide +kernel
theorem dX3_bestColonel_39 : decode cX3_bestColonel 39 = .ok (.if_icmp .lt 6, 3) := by decide +kernel
theorem dX3_bestColonel_42 : decode cX3_bestColonel 42 = .ok (.goto 10, 3) := by decide +kernel
theorem dX3_bestColonel_45 : decode cX3_bestColonel 45 = .ok (.iload 5, 2) := by decide +kernel
theorem dX3_bestColonel_47 : decode cX3_bestColonel 47 = .ok (.istore_n 3, 1) := by decide +kernel
theorem dX3_bestColonel_48 : decode cX3_bestColonel 48 = .ok (.iload 6, 2) := by decide +kernel
theorem dX3_bestColonel_50 : decode cX3_bestColonel 50 = .ok (.istore 4, 2) := by decide +kernel
theorem dX3_bestColonel_52 : decode cX3_bestColonel 52 = .ok (.iinc 5 1, 3) := by decide +kernel
theorem dX3_bestColonel_55 : decode cX3_bestColonel 55 = .ok (.goto (-40), 3) := by decide +kernel
theorem dX3_bestColonel_58 : decode cX3_bestColonel 58 = .ok (.aload_n 0, 1) := by decide +kernel
theorem dX3_bestColonel_59 : decode cX3_bestColonel 59 = .ok (.iload_n 2, 1) := by decide +kernel
theorem dX3_bestColonel_60 : decode cX3_bestColonel 60 = .ok (.putfield 151, 3) := by decide +kernel
theorem dX3_bestColonel_63 : decode cX3_bestColonel 63 = .ok (.iload_n 3, 1) := by decide +kernel
theorem dX3_bestColonel_64 : decode cX3_bestColonel 64 = .ok (.ireturn, 1) := by decide +kernel
theorem dX3_leastLed_0 : decode cX3_leastLed 0 = .ok (.aload_n 0, 1) := by decide +kernel
theorem dX3_leastLed_1 : decode cX3_leastLed 1 = .ok (.iload_n 1, 1) := by decide +kernel
theorem dX3_leastLed_2 : decode cX3_leastLed 2 = .ok (.invokevirtual 256, 3) := by decide +kernel
theorem dX3_leastLed_5 : decode cX3_leastLed 5 = .ok (.pop, 1) := by decide +kernel
theorem dX3_leastLed_6 : decode cX3_leastLed 6 = .ok (.aload_n 0, 1) := by decide +kernel
theorem dX3_leastLed_7 : decode cX3_leastLed 7 = .ok (.getfield 88, 3) := by decide +kernel
theorem dX3_leastLed_10 : decode cX3_leastLed 10 = .ok (.ifCond .ne 8, 3) := by decide +kernel
theorem dX3_leastLed_13 : decode cX3_leastLed 13 = .ok (.bipush (-9), 2) := by decide +kernel
theorem dX3_leastLed_15 : decode cX3_leastLed 15 = .ok (.goto 4, 3) := by decide +kernel
theorem dX3_leastLed_18 : decode cX3_leastLed 18 = .ok (.iconst 0, 1) := by decide +kernel
theorem dX3_leastLed_19 : decode cX3_leastLed 19 = .ok (.istore_n 2, 1) := by decide +kernel
theorem dX3_leastLed_20 : decode cX3_leastLed 20 = .ok (.iconst 1, 1) := by decide +kernel
theorem dX3_leastLed_21 : decode cX3_leastLed 21 = .ok (.istore_n 3, 1) := by decide +kernel
theorem dX3_leastLed_22 : decode cX3_leastLed 22 = .ok (.iload_n 3, 1) := by decide +kernel
theorem dX3_leastLed_23 : decode cX3_leastLed 23 = .ok (.aload_n 0, 1) := by decide +kernel
theorem dX3_leastLed_24 : decode cX3_leastLed 24 = .ok (.getfield 88, 3) := by decide +kernel
theorem dX3_leastLed_27 : decode cX3_leastLed 27 = .ok (.if_icmp .ge 30, 3) := by decide +kernel
theorem dX3_leastLed_30 : decode cX3_leastLed 30 = .ok (.aload_n 0, 1) := by decide +kernel
theorem dX3_leastLed_31 : decode cX3_leastLed 31 = .ok (.getfield 58, 3) := by decide +kernel
theorem dX3_leastLed_34 : decode cX3_leastLed 34 = .ok (.iload_n 3, 1) := by decide +kernel
theorem dX3_leastLed_35 : decode cX3_leastLed 35 = .ok (.iaload, 1) := by decide +kernel
theorem dX3_leastLed_36 : decode cX3_leastLed 36 = .ok (.aload_n 0, 1) := by decide +kernel
theorem dX3_leastLed_37 : decode cX3_leastLed 37 = .ok (.getfield 58, 3) := by decide +kernel
theorem dX3_leastLed_40 : decode cX3_leastLed 40 = .ok (.iload_n 2, 1) := by decide +kernel
theorem dX3_leastLed_41 : decode cX3_leastLed 41 = .ok (.iaload, 1) := by decide +kernel
theorem dX3_leastLed_42 : decode cX3_leastLed 42 = .ok (.if_icmp .ge 7, 3) := by decide +kernel
theorem dX3_leastLed_45 : decode cX3_leastLed 45 = .ok (.iload_n 3, 1) := by decide +kernel
theorem dX3_leastLed_46 : decode cX3_leastLed 46 = .ok (.goto 4, 3) := by decide +kernel
theorem dX3_leastLed_49 : decode cX3_leastLed 49 = .ok (.iload_n 2, 1) := by decide +kernel
theorem dX3_leastLed_50 : decode cX3_leastLed 50 = .ok (.istore_n 2, 1) := by decide +kernel
theorem dX3_leastLed_51 : decode cX3_leastLed 51 = .ok (.iinc 3 1, 3) := by decide +kernel
theorem dX3_leastLed_54 : decode cX3_leastLed 54 = .ok (.goto (-32), 3) := by decide +kernel
theorem dX3_leastLed_57 : decode cX3_leastLed 57 = .ok (.iload_n 2, 1) := by decide +kernel
theorem dX3_leastLed_58 : decode cX3_leastLed 58 = .ok (.ireturn, 1) := by decide +kernel
theorem dX3_snaps_0 : decode cX3_snaps 0 = .ok (.iload_n 1, 1) := by decide +kernel
theorem dX3_snaps_1 : decode cX3_snaps 1 = .ok (.invokestatic 235, 3) := by decide +kernel
theorem dX3_snaps_4 : decode cX3_snaps 4 = .ok (.istore_n 3, 1) := by decide +kernel
theorem dX3_snaps_5 : decode cX3_snaps 5 = .ok (.iload_n 3, 1) := by decide +kernel
theorem dX3_snaps_6 : decode cX3_snaps 6 = .ok (.ifCond .ne 15, 3) := by decide +kernel
theorem dX3_snaps_9 : decode cX3_snaps 9 = .ok (.iload_n 2, 1) := by decide +kernel
theorem dX3_snaps_10 : decode cX3_snaps 10 = .ok (.iconst 0, 1) := by decide +kernel
theorem dX3_snaps_11 : decode cX3_snaps 11 = .ok (.iconst 2, 1) := by decide +kernel
theorem dX3_snaps_12 : decode cX3_snaps 12 = .ok (.invokestatic 113, 3) := by decide +kernel
theorem dX3_snaps_15 : decode cX3_snaps 15 = .ok (.ifCond .ne 6, 3) := by decide +kernel
theorem dX3_snaps_18 : decode cX3_snaps 18 = .ok (.bipush (-2), 2) := by decide +kernel
theorem dX3_snaps_20 : decode cX3_snaps 20 = .ok (.istore_n 3, 1) := by decide +kernel
theorem dX3_snaps_21 : decode cX3_snaps 21 = .ok (.iload_n 3, 1) := by decide +kernel
theorem dX3_snaps_22 : decode cX3_snaps 22 = .ok (.ifCond .eq 9, 3) := by decide +kernel
theorem dX3_snaps_25 : decode cX3_snaps 25 = .ok (.aload_n 0, 1) := by decide +kernel
theorem dX3_snaps_26 : decode cX3_snaps 26 = .ok (.iload_n 3, 1) := by decide +kernel
theorem dX3_snaps_27 : decode cX3_snaps 27 = .ok (.invokevirtual 102, 3) := by decide +kernel
theorem dX3_snaps_30 : decode cX3_snaps 30 = .ok (.ireturn, 1) := by decide +kernel
theorem dX3_snaps_31 : decode cX3_snaps 31 = .ok (.iload_n 2, 1) := by decide +kernel
theorem dX3_snaps_32 : decode cX3_snaps 32 = .ok (.ifCond .ne 11, 3) := by decide +kernel
theorem dX3_snaps_35 : decode cX3_snaps 35 = .ok (.aload_n 0, 1) := by decide +kernel
theorem dX3_snaps_36 : decode cX3_snaps 36 = .ok (.iload_n 1, 1) := by decide +kernel
theorem dX3_snaps_37 : decode cX3_snaps 37 = .ok (.invokevirtual 256, 3) := by decide +kernel
theorem dX3_snaps_40 : decode cX3_snaps 40 = .ok (.goto 21, 3) := by decide +kernel
theorem dX3_snaps_43 : decode cX3_snaps 43 = .ok (.iload_n 2, 1) := by decide +kernel
theorem dX3_snaps_44 : decode cX3_snaps 44 = .ok (.iconst 1, 1) := by decide +kernel
theorem dX3_snaps_45 : decode cX3_snaps 45 = .ok (.if_icmp .ne 11, 3) := by decide +kernel
theorem dX3_snaps_48 : decode cX3_snaps 48 = .ok (.aload_n 0, 1) := by decide +kernel
theorem dX3_snaps_49 : decode cX3_snaps 49 = .ok (.iload_n 1, 1) := by decide +kernel
theorem dX3_snaps_50 : decode cX3_snaps 50 = .ok (.invokevirtual 259, 3) := by decide +kernel
theorem dX3_snaps_53 : decode cX3_snaps 53 = .ok (.goto 8, 3) := by decide +kernel
theorem dX3_snaps_56 : decode cX3_snaps 56 = .ok (.aload_n 0, 1) := by decide +kernel
theorem dX3_snaps_57 : decode cX3_snaps 57 = .ok (.iload_n 1, 1) := by decide +kernel
theorem dX3_snaps_58 : decode cX3_snaps 58 = .ok (.invokevirtual 262, 3) := by decide +kernel
theorem dX3_snaps_61 : decode cX3_snaps 61 = .ok (.ireturn, 1) := by decide +kernel
theorem dX3_comesTo_0 : decode cX3_comesTo 0 = .ok (.aload_n 0, 1) := by decide +kernel
theorem dX3_comesTo_1 : decode cX3_comesTo 1 = .ok (.invokevirtual 238, 3) := by decide +kernel
theorem dX3_comesTo_4 : decode cX3_comesTo 4 = .ok (.bipush (-9), 2) := by decide +kernel
theorem dX3_comesTo_6 : decode cX3_comesTo 6 = .ok (.istore 4, 2) := by decide +kernel
theorem dX3_comesTo_8 : decode cX3_comesTo 8 = .ok (.iconst 0, 1) := by decide +kernel
theorem dX3_comesTo_9 : decode cX3_comesTo 9 = .ok (.istore 5, 2) := by decide +kernel
theorem dX3_comesTo_11 : decode cX3_comesTo 11 = .ok (.iload 5, 2) := by decide +kernel
theorem dX3_comesTo_13 : decode cX3_comesTo 13 = .ok (.iload_n 3, 1) := by decide +kernel
theorem dX3_comesTo_14 : decode cX3_comesTo 14 = .ok (.if_icmp .gt 38, 3) := by decide +kernel
theorem dX3_comesTo_17 : decode cX3_comesTo 17 = .ok (.iload 4, 2) := by decide +kernel
theorem dX3_comesTo_19 : decode cX3_comesTo 19 = .ok (.ifCond .ge 33, 3) := by decide +kernel
theorem dX3_comesTo_22 : decode cX3_comesTo 22 = .ok (.aload_n 0, 1) := by decide +kernel
theorem dX3_comesTo_23 : decode cX3_comesTo 23 = .ok (.getfield 34, 3) := by decide +kernel
theorem dX3_comesTo_26 : decode cX3_comesTo 26 = .ok (.iload_n 1, 1) := by decide +kernel
theorem dX3_comesTo_27 : decode cX3_comesTo 27 = .ok (.iaload, 1) := by decide +kernel
theorem dX3_comesTo_28 : decode cX3_comesTo 28 = .ok (.iload_n 2, 1) := by decide +kernel
theorem dX3_comesTo_29 : decode cX3_comesTo 29 = .ok (.if_icmp .ne 8, 3) := by decide +kernel
theorem dX3_comesTo_32 : decode cX3_comesTo 32 = .ok (.iload 5, 2) := by decide +kernel
theorem dX3_comesTo_34 : decode cX3_comesTo 34 = .ok (.goto 5, 3) := by decide +kernel
theorem dX3_comesTo_37 : decode cX3_comesTo 37 = .ok (.bipush (-9), 2) := by decide +kernel
theorem dX3_comesTo_39 : decode cX3_comesTo 39 = .ok (.istore 4, 2) := by decide +kernel
theorem dX3_comesTo_41 : decode cX3_comesTo 41 = .ok (.aload_n 0, 1) := by decide +kernel
theorem dX3_comesTo_42 : decode cX3_comesTo 42 = .ok (.iconst 0, 1) := by decide +kernel
theorem dX3_comesTo_43 : decode cX3_comesTo 43 = .ok (.invokevirtual 130, 3) := by decide +kernel
theorem dX3_comesTo_46 : decode cX3_comesTo 46 = .ok (.iinc 5 1, 3) := by decide +kernel
theorem dX3_comesTo_49 : decode cX3_comesTo 49 = .ok (.goto (-38), 3) := by decide +kernel
theorem dX3_comesTo_52 : decode cX3_comesTo 52 = .ok (.aload_n 0, 1) := by decide +kernel
theorem dX3_comesTo_53 : decode cX3_comesTo 53 = .ok (.invokevirtual 241, 3) := by decide +kernel
theorem dX3_comesTo_56 : decode cX3_comesTo 56 = .ok (.iload 4, 2) := by decide +kernel
theorem dX3_comesTo_58 : decode cX3_comesTo 58 = .ok (.ireturn, 1) := by decide +kernel
theorem dX3_comesWith_0 : decode cX3_comesWith 0 = .ok (.aload_n 0, 1) := by decide +kernel
theorem dX3_comesWith_1 : decode cX3_comesWith 1 = .ok (.iconst 1, 1) := by decide +kernel
theorem dX3_comesWith_2 : decode cX3_comesWith 2 = .ok (.iconst 1, 1) := by decide +kernel
theorem dX3_comesWith_3 : decode cX3_comesWith 3 = .ok (.invokevirtual 161, 3) := by decide +kernel
theorem dX3_comesWith_6 : decode cX3_comesWith 6 = .ok (.aload_n 0, 1) := by decide +kernel
theorem dX3_comesWith_7 : decode cX3_comesWith 7 = .ok (.iload_n 2, 1) := by decide +kernel
theorem dX3_comesWith_8 : decode cX3_comesWith 8 = .ok (.iload_n 1, 1) := by decide +kernel
theorem dX3_comesWith_9 : decode cX3_comesWith 9 = .ok (.invokevirtual 144, 3) := by decide +kernel
theorem dX3_comesWith_12 : decode cX3_comesWith 12 = .ok (.aload_n 0, 1) := by decide +kernel
theorem dX3_comesWith_13 : decode cX3_comesWith 13 = .ok (.iload_n 1, 1) := by decide +kernel
theorem dX3_comesWith_14 : decode cX3_comesWith 14 = .ok (.iload_n 3, 1) := by decide +kernel
theorem dX3_comesWith_15 : decode cX3_comesWith 15 = .ok (.bipush 60, 2) := by decide +kernel
theorem dX3_comesWith_17 : decode cX3_comesWith 17 = .ok (.invokevirtual 265, 3) := by decide +kernel
theorem dX3_comesWith_20 : decode cX3_comesWith 20 = .ok (.istore 4, 2) := by decide +kernel
theorem dX3_comesWith_22 : decode cX3_comesWith 22 = .ok (.aload_n 0, 1) := by decide +kernel
theorem dX3_comesWith_23 : decode cX3_comesWith 23 = .ok (.iconst 1, 1) := by decide +kernel
theorem dX3_comesWith_24 : decode cX3_comesWith 24 = .ok (.iconst 0, 1) := by decide +kernel
theorem dX3_comesWith_25 : decode cX3_comesWith 25 = .ok (.invokevirtual 161, 3) := by decide +kernel
theorem dX3_comesWith_28 : decode cX3_comesWith 28 = .ok (.iload 4, 2) := by decide +kernel
theorem dX3_comesWith_30 : decode cX3_comesWith 30 = .ok (.ireturn, 1) := by decide +kernel
theorem dX3_bestBag_0 : decode cX3_bestBag 0 = .ok (.aload_n 0, 1) := by decide +kernel
theorem dX3_bestBag_1 : decode cX3_bestBag 1 = .ok (.iload_n 1, 1) := by decide +kernel
theorem dX3_bestBag_2 : decode cX3_bestBag 2 = .ok (.invokevirtual 91, 3) := by decide +kernel
theorem dX3_bestBag_5 : decode cX3_bestBag 5 = .ok (.ifCond .eq 10, 3) := by decide +kernel
theorem dX3_bestBag_8 : decode cX3_bestBag 8 = .ok (.iload_n 2, 1) := by decide +kernel
theorem dX3_bestBag_9 : decode cX3_bestBag 9 = .ok (.invokestatic 226, 3) := by decide +kernel
theorem dX3_bestBag_12 : decode cX3_bestBag 12 = .ok (.ifCond .ne 7, 3) := by decide +kernel
theorem dX3_bestBag_15 : decode cX3_bestBag 15 = .ok (.iconst (-1), 1) := by decide +kernel
theorem dX3_bestBag_16 : decode cX3_bestBag 16 = .ok (.goto 18, 3) := by decide +kernel
theorem dX3_bestBag_19 : decode cX3_bestBag 19 = .ok (.iload_n 3, 1) := by decide +kernel
theorem dX3_bestBag_20 : decode cX3_bestBag 20 = .ok (.iconst 0, 1) := by decide +kernel
theorem dX3_bestBag_21 : decode cX3_bestBag 21 = .ok (.iconst 1, 1) := by decide +kernel
theorem dX3_bestBag_22 : decode cX3_bestBag 22 = .ok (.invokestatic 113, 3) := by decide +kernel
theorem dX3_bestBag_25 : decode cX3_bestBag 25 = .ok (.ifCond .ne 8, 3) := by decide +kernel
theorem dX3_bestBag_28 : decode cX3_bestBag 28 = .ok (.bipush (-2), 2) := by decide +kernel
theorem dX3_bestBag_30 : decode cX3_bestBag 30 = .ok (.goto 4, 3) := by decide +kernel
theorem dX3_bestBag_33 : decode cX3_bestBag 33 = .ok (.iconst 0, 1) := by decide +kernel
theorem dX3_bestBag_34 : decode cX3_bestBag 34 = .ok (.istore 4, 2) := by decide +kernel
theorem dX3_bestBag_36 : decode cX3_bestBag 36 = .ok (.iload 4, 2) := by decide +kernel
theorem dX3_bestBag_38 : decode cX3_bestBag 38 = .ok (.ifCond .eq 10, 3) := by decide +kernel
theorem dX3_bestBag_41 : decode cX3_bestBag 41 = .ok (.aload_n 0, 1) := by decide +kernel
theorem dX3_bestBag_42 : decode cX3_bestBag 42 = .ok (.iload 4, 2) := by decide +kernel
theorem dX3_bestBag_44 : decode cX3_bestBag 44 = .ok (.invokevirtual 102, 3) := by decide +kernel
theorem dX3_bestBag_47 : decode cX3_bestBag 47 = .ok (.ireturn, 1) := by decide +kernel
theorem dX3_bestBag_48 : decode cX3_bestBag 48 = .ok (.bipush (-9), 2) := by decide +kernel
theorem dX3_bestBag_50 : decode cX3_bestBag 50 = .ok (.istore 5, 2) := by decide +kernel
theorem dX3_bestBag_52 : decode cX3_bestBag 52 = .ok (.bipush (-9), 2) := by decide +kernel
theorem dX3_bestBag_54 : decode cX3_bestBag 54 = .ok (.istore 6, 2) := by decide +kernel
theorem dX3_bestBag_56 : decode cX3_bestBag 56 = .ok (.iconst 0, 1) := by decide +kernel
theorem dX3_bestBag_57 : decode cX3_bestBag 57 = .ok (.istore 7, 2) := by decide +kernel
theorem dX3_bestBag_59 : decode cX3_bestBag 59 = .ok (.iload 7, 2) := by decide +kernel
theorem dX3_bestBag_61 : decode cX3_bestBag 61 = .ok (.aload_n 0, 1) := by decide +kernel
theorem dX3_bestBag_62 : decode cX3_bestBag 62 = .ok (.getfield 83, 3) := by decide +kernel
theorem dX3_bestBag_65 : decode cX3_bestBag 65 = .ok (.if_icmp .ge 47, 3) := by decide +kernel
theorem dX3_bestBag_68 : decode cX3_bestBag 68 = .ok (.aload_n 0, 1) := by decide +kernel
theorem dX3_bestBag_69 : decode cX3_bestBag 69 = .ok (.iload_n 1, 1) := by decide +kernel
theorem dX3_bestBag_70 : decode cX3_bestBag 70 = .ok (.iload 7, 2) := by decide +kernel
theorem dX3_bestBag_72 : decode cX3_bestBag 72 = .ok (.iload_n 2, 1) := by decide +kernel
theorem dX3_bestBag_73 : decode cX3_bestBag 73 = .ok (.invokevirtual 268, 3) := by decide +kernel
theorem dX3_bestBag_76 : decode cX3_bestBag 76 = .ok (.istore 8, 2) := by decide +kernel
theorem dX3_bestBag_78 : decode cX3_bestBag 78 = .ok (.iload 8, 2) := by decide +kernel
theorem dX3_bestBag_80 : decode cX3_bestBag 80 = .ok (.ifCond .lt 26, 3) := by decide +kernel
theorem dX3_bestBag_83 : decode cX3_bestBag 83 = .ok (.iload 5, 2) := by decide +kernel
theorem dX3_bestBag_85 : decode cX3_bestBag 85 = .ok (.ifCond .lt 13, 3) := by decide +kernel
theorem dX3_bestBag_88 : decode cX3_bestBag 88 = .ok (.iload 8, 2) := by decide +kernel
theorem dX3_bestBag_90 : decode cX3_bestBag 90 = .ok (.iload 6, 2) := by decide +kernel
theorem dX3_bestBag_92 : decode cX3_bestBag 92 = .ok (.if_icmp .lt 6, 3) := by decide +kernel
theorem dX3_bestBag_95 : decode cX3_bestBag 95 = .ok (.goto 11, 3) := by decide +kernel
theorem dX3_bestBag_98 : decode cX3_bestBag 98 = .ok (.iload 7, 2) := by decide +kernel
theorem dX3_bestBag_100 : decode cX3_bestBag 100 = .ok (.istore 5, 2) := by decide +kernel
theorem dX3_bestBag_102 : decode cX3_bestBag 102 = .ok (.iload 8, 2) := by decide +kernel
theorem dX3_bestBag_104 : decode cX3_bestBag 104 = .ok (.istore 6, 2) := by decide +kernel
theorem dX3_bestBag_106 : decode cX3_bestBag 106 = .ok (.iinc 7 1, 3) := by decide +kernel
theorem dX3_bestBag_109 : decode cX3_bestBag 109 = .ok (.goto (-50), 3) := by decide +kernel
theorem dX3_bestBag_112 : decode cX3_bestBag 112 = .ok (.iload_n 3, 1) := by decide +kernel
theorem dX3_bestBag_113 : decode cX3_bestBag 113 = .ok (.ifCond .ne 8, 3) := by decide +kernel
theorem dX3_bestBag_116 : decode cX3_bestBag 116 = .ok (.iload 5, 2) := by decide +kernel
theorem dX3_bestBag_118 : decode cX3_bestBag 118 = .ok (.goto 5, 3) := by decide +kernel
theorem dX3_bestBag_121 : decode cX3_bestBag 121 = .ok (.iload 6, 2) := by decide +kernel
theorem dX3_bestBag_123 : decode cX3_bestBag 123 = .ok (.ireturn, 1) := by decide +kernel
theorem dX3_hers_0 : decode cX3_hers 0 = .ok (.aload_n 0, 1) := by decide +kernel
theorem dX3_hers_1 : decode cX3_hers 1 = .ok (.iload_n 1, 1) := by decide +kernel
theorem dX3_hers_2 : decode cX3_hers 2 = .ok (.invokevirtual 91, 3) := by decide +kernel
theorem dX3_hers_5 : decode cX3_hers 5 = .ok (.ifCond .ne 9, 3) := by decide +kernel
theorem dX3_hers_8 : decode cX3_hers 8 = .ok (.aload_n 0, 1) := by decide +kernel
theorem dX3_hers_9 : decode cX3_hers 9 = .ok (.iconst (-1), 1) := by decide +kernel
theorem dX3_hers_10 : decode cX3_hers 10 = .ok (.invokevirtual 102, 3) := by decide +kernel
theorem dX3_hers_13 : decode cX3_hers 13 = .ok (.ireturn, 1) := by decide +kernel
theorem dX3_hers_14 : decode cX3_hers 14 = .ok (.aload_n 0, 1) := by decide +kernel
theorem dX3_hers_15 : decode cX3_hers 15 = .ok (.invokevirtual 238, 3) := by decide +kernel
theorem dX3_hers_18 : decode cX3_hers 18 = .ok (.bipush (-9), 2) := by decide +kernel
theorem dX3_hers_20 : decode cX3_hers 20 = .ok (.istore_n 2, 1) := by decide +kernel
theorem dX3_hers_21 : decode cX3_hers 21 = .ok (.iconst 0, 1) := by decide +kernel
theorem dX3_hers_22 : decode cX3_hers 22 = .ok (.istore_n 3, 1) := by decide +kernel
theorem dX3_hers_23 : decode cX3_hers 23 = .ok (.iload_n 3, 1) := by decide +kernel
theorem dX3_hers_24 : decode cX3_hers 24 = .ok (.bipush 60, 2) := by decide +kernel
theorem dX3_hers_26 : decode cX3_hers 26 = .ok (.if_icmp .gt 33, 3) := by decide +kernel
theorem dX3_hers_29 : decode cX3_hers 29 = .ok (.iload_n 2, 1) := by decide +kernel
theorem dX3_hers_30 : decode cX3_hers 30 = .ok (.ifCond .ge 29, 3) := by decide +kernel
theorem dX3_hers_33 : decode cX3_hers 33 = .ok (.aload_n 0, 1) := by decide +kernel
theorem dX3_hers_34 : decode cX3_hers 34 = .ok (.iload_n 1, 1) := by decide +kernel
theorem dX3_hers_35 : decode cX3_hers 35 = .ok (.invokevirtual 208, 3) := by decide +kernel
theorem dX3_hers_38 : decode cX3_hers 38 = .ok (.ifCond .eq 7, 3) := by decide +kernel
theorem dX3_hers_41 : decode cX3_hers 41 = .ok (.iload_n 3, 1) := by decide +kernel
theorem dX3_hers_42 : decode cX3_hers 42 = .ok (.goto 5, 3) := by decide +kernel
theorem dX3_hers_45 : decode cX3_hers 45 = .ok (.bipush (-9), 2) := by decide +kernel
theorem dX3_hers_47 : decode cX3_hers 47 = .ok (.istore_n 2, 1) := by decide +kernel
theorem dX3_hers_48 : decode cX3_hers 48 = .ok (.aload_n 0, 1) := by decide +kernel
theorem dX3_hers_49 : decode cX3_hers 49 = .ok (.iconst 0, 1) := by decide +kernel
theorem dX3_hers_50 : decode cX3_hers 50 = .ok (.invokevirtual 130, 3) := by decide +kernel
theorem dX3_hers_53 : decode cX3_hers 53 = .ok (.iinc 3 1, 3) := by decide +kernel
theorem dX3_hers_56 : decode cX3_hers 56 = .ok (.goto (-33), 3) := by decide +kernel
theorem dX3_hers_59 : decode cX3_hers 59 = .ok (.aload_n 0, 1) := by decide +kernel
theorem dX3_hers_60 : decode cX3_hers 60 = .ok (.invokevirtual 241, 3) := by decide +kernel
theorem dX3_hers_63 : decode cX3_hers 63 = .ok (.iload_n 2, 1) := by decide +kernel
theorem dX3_hers_64 : decode cX3_hers 64 = .ok (.ireturn, 1) := by decide +kernel
theorem dX3_errandBy_0 : decode cX3_errandBy 0 = .ok (.aload_n 0, 1) := by decide +kernel
theorem dX3_errandBy_1 : decode cX3_errandBy 1 = .ok (.getfield 31, 3) := by decide +kernel
theorem dX3_errandBy_4 : decode cX3_errandBy 4 = .ok (.iload_n 1, 1) := by decide +kernel
theorem dX3_errandBy_5 : decode cX3_errandBy 5 = .ok (.iaload, 1) := by decide +kernel
theorem dX3_errandBy_6 : decode cX3_errandBy 6 = .ok (.istore 5, 2) := by decide +kernel
theorem dX3_errandBy_8 : decode cX3_errandBy 8 = .ok (.aload_n 0, 1) := by decide +kernel
theorem dX3_errandBy_9 : decode cX3_errandBy 9 = .ok (.getfield 28, 3) := by decide +kernel
theorem dX3_errandBy_12 : decode cX3_errandBy 12 = .ok (.iload_n 1, 1) := by decide +kernel
theorem dX3_errandBy_13 : decode cX3_errandBy 13 = .ok (.iaload, 1) := by decide +kernel
theorem dX3_errandBy_14 : decode cX3_errandBy 14 = .ok (.istore 6, 2) := by decide +kernel
theorem dX3_errandBy_16 : decode cX3_errandBy 16 = .ok (.aload_n 0, 1) := by decide +kernel
theorem dX3_errandBy_17 : decode cX3_errandBy 17 = .ok (.getfield 31, 3) := by decide +kernel
theorem dX3_errandBy_20 : decode cX3_errandBy 20 = .ok (.iload_n 1, 1) := by decide +kernel
theorem dX3_errandBy_21 : decode cX3_errandBy 21 = .ok (.iload_n 2, 1) := by decide +kernel
theorem dX3_errandBy_22 : decode cX3_errandBy 22 = .ok (.iastore, 1) := by decide +kernel
theorem dX3_errandBy_23 : decode cX3_errandBy 23 = .ok (.aload_n 0, 1) := by decide +kernel
theorem dX3_errandBy_24 : decode cX3_errandBy 24 = .ok (.getfield 28, 3) := by decide +kernel
theorem dX3_errandBy_27 : decode cX3_errandBy 27 = .ok (.iload_n 1, 1) := by decide +kernel
theorem dX3_errandBy_28 : decode cX3_errandBy 28 = .ok (.iload_n 3, 1) := by decide +kernel
theorem dX3_errandBy_29 : decode cX3_errandBy 29 = .ok (.iastore, 1) := by decide +kernel
theorem dX3_errandBy_30 : decode cX3_errandBy 30 = .ok (.aload_n 0, 1) := by decide +kernel
theorem dX3_errandBy_31 : decode cX3_errandBy 31 = .ok (.iload_n 1, 1) := by decide +kernel
theorem dX3_errandBy_32 : decode cX3_errandBy 32 = .ok (.iload_n 2, 1) := by decide +kernel
theorem dX3_errandBy_33 : decode cX3_errandBy 33 = .ok (.iload 4, 2) := by decide +kernel
theorem dX3_errandBy_35 : decode cX3_errandBy 35 = .ok (.invokevirtual 265, 3) := by decide +kernel
theorem dX3_errandBy_38 : decode cX3_errandBy 38 = .ok (.istore 7, 2) := by decide +kernel
theorem dX3_errandBy_40 : decode cX3_errandBy 40 = .ok (.aload_n 0, 1) := by decide +kernel
theorem dX3_errandBy_41 : decode cX3_errandBy 41 = .ok (.getfield 31, 3) := by decide +kernel
theorem dX3_errandBy_44 : decode cX3_errandBy 44 = .ok (.iload_n 1, 1) := by decide +kernel
theorem dX3_errandBy_45 : decode cX3_errandBy 45 = .ok (.iload 5, 2) := by decide +kernel
theorem dX3_errandBy_47 : decode cX3_errandBy 47 = .ok (.iastore, 1) := by decide +kernel
theorem dX3_errandBy_48 : decode cX3_errandBy 48 = .ok (.aload_n 0, 1) := by decide +kernel
theorem dX3_errandBy_49 : decode cX3_errandBy 49 = .ok (.getfield 28, 3) := by decide +kernel
theorem dX3_errandBy_52 : decode cX3_errandBy 52 = .ok (.iload_n 1, 1) := by decide +kernel
theorem dX3_errandBy_53 : decode cX3_errandBy 53 = .ok (.iload 6, 2) := by decide +kernel
theorem dX3_errandBy_55 : decode cX3_errandBy 55 = .ok (.iastore, 1) := by decide +kernel
theorem dX3_errandBy_56 : decode cX3_errandBy 56 = .ok (.iload 7, 2) := by decide +kernel
theorem dX3_errandBy_58 : decode cX3_errandBy 58 = .ok (.ireturn, 1) := by decide +kernel
theorem dX3_errand_0 : decode cX3_errand 0 = .ok (.aload_n 0, 1) := by decide +kernel
theorem dX3_errand_1 : decode cX3_errand 1 = .ok (.iload_n 1, 1) := by decide +kernel
theorem dX3_errand_2 : decode cX3_errand 2 = .ok (.invokevirtual 91, 3) := by decide +kernel
theorem dX3_errand_5 : decode cX3_errand 5 = .ok (.ifCond .eq 27, 3) := by decide +kernel
theorem dX3_errand_8 : decode cX3_errand 8 = .ok (.iload_n 2, 1) := by decide +kernel
theorem dX3_errand_9 : decode cX3_errand 9 = .ok (.invokestatic 226, 3) := by decide +kernel
theorem dX3_errand_12 : decode cX3_errand 12 = .ok (.ifCond .eq 20, 3) := by decide +kernel
theorem dX3_errand_15 : decode cX3_errand 15 = .ok (.aload_n 0, 1) := by decide +kernel
theorem dX3_errand_16 : decode cX3_errand 16 = .ok (.iload_n 1, 1) := by decide +kernel
theorem dX3_errand_17 : decode cX3_errand 17 = .ok (.iload_n 2, 1) := by decide +kernel
theorem dX3_errand_18 : decode cX3_errand 18 = .ok (.aload_n 0, 1) := by decide +kernel
theorem dX3_errand_19 : decode cX3_errand 19 = .ok (.getfield 28, 3) := by decide +kernel
theorem dX3_errand_22 : decode cX3_errand 22 = .ok (.iload_n 1, 1) := by decide +kernel
theorem dX3_errand_23 : decode cX3_errand 23 = .ok (.iaload, 1) := by decide +kernel
theorem dX3_errand_24 : decode cX3_errand 24 = .ok (.bipush 60, 2) := by decide +kernel
theorem dX3_errand_26 : decode cX3_errand 26 = .ok (.invokevirtual 271, 3) := by decide +kernel
theorem dX3_errand_29 : decode cX3_errand 29 = .ok (.goto 8, 3) := by decide +kernel
theorem dX3_errand_32 : decode cX3_errand 32 = .ok (.aload_n 0, 1) := by decide +kernel
theorem dX3_errand_33 : decode cX3_errand 33 = .ok (.iconst (-1), 1) := by decide +kernel
theorem dX3_errand_34 : decode cX3_errand 34 = .ok (.invokevirtual 102, 3) := by decide +kernel
theorem dX3_errand_37 : decode cX3_errand 37 = .ok (.ireturn, 1) := by decide +kernel
theorem dX3_defy_0 : decode cX3_defy 0 = .ok (.aload_n 0, 1) := by decide +kernel
theorem dX3_defy_1 : decode cX3_defy 1 = .ok (.iload_n 1, 1) := by decide +kernel
theorem dX3_defy_2 : decode cX3_defy 2 = .ok (.invokevirtual 91, 3) := by decide +kernel
theorem dX3_defy_5 : decode cX3_defy 5 = .ok (.ifCond .eq 10, 3) := by decide +kernel
theorem dX3_defy_8 : decode cX3_defy 8 = .ok (.iload_n 2, 1) := by decide +kernel
theorem dX3_defy_9 : decode cX3_defy 9 = .ok (.invokestatic 226, 3) := by decide +kernel
theorem dX3_defy_12 : decode cX3_defy 12 = .ok (.ifCond .ne 7, 3) := by decide +kernel
theorem dX3_defy_15 : decode cX3_defy 15 = .ok (.iconst (-1), 1) := by decide +kernel
theorem dX3_defy_16 : decode cX3_defy 16 = .ok (.goto 7, 3) := by decide +kernel
theorem dX3_defy_19 : decode cX3_defy 19 = .ok (.iload_n 3, 1) := by decide +kernel
theorem dX3_defy_20 : decode cX3_defy 20 = .ok (.invokestatic 235, 3) := by decide +kernel
theorem dX3_defy_23 : decode cX3_defy 23 = .ok (.istore 4, 2) := by decide +kernel
theorem dX3_defy_25 : decode cX3_defy 25 = .ok (.iload 4, 2) := by decide +kernel
theorem dX3_defy_27 : decode cX3_defy 27 = .ok (.ifCond .eq 10, 3) := by decide +kernel
theorem dX3_defy_30 : decode cX3_defy 30 = .ok (.aload_n 0, 1) := by decide +kernel
theorem dX3_defy_31 : decode cX3_defy 31 = .ok (.iload 4, 2) := by decide +kernel
theorem dX3_defy_33 : decode cX3_defy 33 = .ok (.invokevirtual 102, 3) := by decide +kernel
theorem dX3_defy_36 : decode cX3_defy 36 = .ok (.ireturn, 1) := by decide +kernel
theorem dX3_defy_37 : decode cX3_defy 37 = .ok (.iconst 0, 1) := by decide +kernel
theorem dX3_defy_38 : decode cX3_defy 38 = .ok (.istore 5, 2) := by decide +kernel
theorem dX3_defy_40 : decode cX3_defy 40 = .ok (.iload 5, 2) := by decide +kernel
theorem dX3_defy_42 : decode cX3_defy 42 = .ok (.bipush 10, 2) := by decide +kernel
theorem dX3_defy_44 : decode cX3_defy 44 = .ok (.if_icmp .ge 24, 3) := by decide +kernel
theorem dX3_defy_47 : decode cX3_defy 47 = .ok (.aload_n 0, 1) := by decide +kernel
theorem dX3_defy_48 : decode cX3_defy 48 = .ok (.iload_n 1, 1) := by decide +kernel
theorem dX3_defy_49 : decode cX3_defy 49 = .ok (.iload_n 2, 1) := by decide +kernel
theorem dX3_defy_50 : decode cX3_defy 50 = .ok (.iload 5, 2) := by decide +kernel
theorem dX3_defy_52 : decode cX3_defy 52 = .ok (.iload_n 3, 1) := by decide +kernel
theorem dX3_defy_53 : decode cX3_defy 53 = .ok (.invokevirtual 271, 3) := by decide +kernel
theorem dX3_defy_56 : decode cX3_defy 56 = .ok (.ifCond .lt 6, 3) := by decide +kernel
theorem dX3_defy_59 : decode cX3_defy 59 = .ok (.iload 5, 2) := by decide +kernel
theorem dX3_defy_61 : decode cX3_defy 61 = .ok (.ireturn, 1) := by decide +kernel
theorem dX3_defy_62 : decode cX3_defy 62 = .ok (.iinc 5 1, 3) := by decide +kernel
theorem dX3_defy_65 : decode cX3_defy 65 = .ok (.goto (-25), 3) := by decide +kernel
theorem dX3_defy_68 : decode cX3_defy 68 = .ok (.bipush (-9), 2) := by decide +kernel
theorem dX3_defy_70 : decode cX3_defy 70 = .ok (.ireturn, 1) := by decide +kernel
theorem dX3_digitOf_0 : decode cX3_digitOf 0 = .ok (.iload_n 1, 1) := by decide +kernel
theorem dX3_digitOf_1 : decode cX3_digitOf 1 = .ok (.istore_n 3, 1) := by decide +kernel
theorem dX3_digitOf_2 : decode cX3_digitOf 2 = .ok (.iload_n 2, 1) := by decide +kernel
theorem dX3_digitOf_3 : decode cX3_digitOf 3 = .ok (.iconst 1, 1) := by decide +kernel
theorem dX3_digitOf_4 : decode cX3_digitOf 4 = .ok (.iadd, 1) := by decide +kernel
theorem dX3_digitOf_5 : decode cX3_digitOf 5 = .ok (.istore 4, 2) := by decide +kernel
theorem dX3_digitOf_7 : decode cX3_digitOf 7 = .ok (.iload 4, 2) := by decide +kernel
theorem dX3_digitOf_9 : decode cX3_digitOf 9 = .ok (.aload_n 0, 1) := by decide +kernel
theorem dX3_digitOf_10 : decode cX3_digitOf 10 = .ok (.getfield 88, 3) := by decide +kernel
theorem dX3_digitOf_13 : decode cX3_digitOf 13 = .ok (.if_icmp .ge 14, 3) := by decide +kernel
theorem dX3_digitOf_16 : decode cX3_digitOf 16 = .ok (.iload_n 3, 1) := by decide +kernel
theorem dX3_digitOf_17 : decode cX3_digitOf 17 = .ok (.bipush 7, 2) := by decide +kernel
theorem dX3_digitOf_19 : decode cX3_digitOf 19 = .ok (.idiv, 1) := by decide +kernel
theorem dX3_digitOf_20 : decode cX3_digitOf 20 = .ok (.istore_n 3, 1) := by decide +kernel
theorem dX3_digitOf_21 : decode cX3_digitOf 21 = .ok (.iinc 4 1, 3) := by decide +kernel
theorem dX3_digitOf_24 : decode cX3_digitOf 24 = .ok (.goto (-17), 3) := by decide +kernel
theorem dX3_digitOf_27 : decode cX3_digitOf 27 = .ok (.iload_n 3, 1) := by decide +kernel
theorem dX3_digitOf_28 : decode cX3_digitOf 28 = .ok (.bipush 7, 2) := by decide +kernel
theorem dX3_digitOf_30 : decode cX3_digitOf 30 = .ok (.irem, 1) := by decide +kernel
theorem dX3_digitOf_31 : decode cX3_digitOf 31 = .ok (.ireturn, 1) := by decide +kernel
theorem dX3_isWay_0 : decode cX3_isWay 0 = .ok (.iconst 0, 1) := by decide +kernel
theorem dX3_isWay_1 : decode cX3_isWay 1 = .ok (.istore_n 2, 1) := by decide +kernel
theorem dX3_isWay_2 : decode cX3_isWay 2 = .ok (.iconst 0, 1) := by decide +kernel
theorem dX3_isWay_3 : decode cX3_isWay 3 = .ok (.istore_n 3, 1) := by decide +kernel
theorem dX3_isWay_4 : decode cX3_isWay 4 = .ok (.iconst 0, 1) := by decide +kernel
theorem dX3_isWay_5 : decode cX3_isWay 5 = .ok (.istore 4, 2) := by decide +kernel
theorem dX3_isWay_7 : decode cX3_isWay 7 = .ok (.iload 4, 2) := by decide +kernel
theorem dX3_isWay_9 : decode cX3_isWay 9 = .ok (.aload_n 0, 1) := by decide +kernel
theorem dX3_isWay_10 : decode cX3_isWay 10 = .ok (.getfield 88, 3) := by decide +kernel
theorem dX3_isWay_13 : decode cX3_isWay 13 = .ok (.if_icmp .ge 59, 3) := by decide +kernel
theorem dX3_isWay_16 : decode cX3_isWay 16 = .ok (.aload_n 0, 1) := by decide +kernel
theorem dX3_isWay_17 : decode cX3_isWay 17 = .ok (.iload_n 1, 1) := by decide +kernel
theorem dX3_isWay_18 : decode cX3_isWay 18 = .ok (.iload 4, 2) := by decide +kernel
theorem dX3_isWay_20 : decode cX3_isWay 20 = .ok (.invokevirtual 275, 3) := by decide +kernel
theorem dX3_isWay_23 : decode cX3_isWay 23 = .ok (.istore 5, 2) := by decide +kernel
theorem dX3_isWay_25 : decode cX3_isWay 25 = .ok (.iload 5, 2) := by decide +kernel
theorem dX3_isWay_27 : decode cX3_isWay 27 = .ok (.bipush 6, 2) := by decide +kernel
theorem dX3_isWay_29 : decode cX3_isWay 29 = .ok (.if_icmp .ne 6, 3) := by decide +kernel
theorem dX3_isWay_32 : decode cX3_isWay 32 = .ok (.goto 34, 3) := by decide +kernel
theorem dX3_isWay_35 : decode cX3_isWay 35 = .ok (.iload 5, 2) := by decide +kernel
theorem dX3_isWay_37 : decode cX3_isWay 37 = .ok (.aload_n 0, 1) := by decide +kernel
theorem dX3_isWay_38 : decode cX3_isWay 38 = .ok (.getfield 83, 3) := by decide +kernel
theorem dX3_isWay_41 : decode cX3_isWay 41 = .ok (.if_icmp .ge 13, 3) := by decide +kernel
theorem dX3_isWay_44 : decode cX3_isWay 44 = .ok (.iload_n 2, 1) := by decide +kernel
theorem dX3_isWay_45 : decode cX3_isWay 45 = .ok (.iload 5, 2) := by decide +kernel
theorem dX3_isWay_47 : decode cX3_isWay 47 = .ok (.ishr, 1) := by decide +kernel
theorem dX3_isWay_48 : decode cX3_isWay 48 = .ok (.iconst 1, 1) := by decide +kernel
theorem dX3_isWay_49 : decode cX3_isWay 49 = .ok (.iand, 1) := by decide +kernel
theorem dX3_isWay_50 : decode cX3_isWay 50 = .ok (.iconst 1, 1) := by decide +kernel
theorem dX3_isWay_51 : decode cX3_isWay 51 = .ok (.if_icmp .ne 5, 3) := by decide +kernel
theorem dX3_isWay_54 : decode cX3_isWay 54 = .ok (.iconst 0, 1) := by decide +kernel
theorem dX3_isWay_55 : decode cX3_isWay 55 = .ok (.ireturn, 1) := by decide +kernel
theorem dX3_isWay_56 : decode cX3_isWay 56 = .ok (.iload_n 2, 1) := by decide +kernel
theorem dX3_isWay_57 : decode cX3_isWay 57 = .ok (.iconst 1, 1) := by decide +kernel
theorem dX3_isWay_58 : decode cX3_isWay 58 = .ok (.iload 5, 2) := by decide +kernel
theorem dX3_isWay_60 : decode cX3_isWay 60 = .ok (.ishl, 1) := by decide +kernel
theorem dX3_isWay_61 : decode cX3_isWay 61 = .ok (.ior, 1) := by decide +kernel
theorem dX3_isWay_62 : decode cX3_isWay 62 = .ok (.istore_n 2, 1) := by decide +kernel
theorem dX3_isWay_63 : decode cX3_isWay 63 = .ok (.iinc 3 1, 3) := by decide +kernel
theorem dX3_isWay_66 : decode cX3_isWay 66 = .ok (.iinc 4 1, 3) := by decide +kernel
theorem dX3_isWay_69 : decode cX3_isWay 69 = .ok (.goto (-62), 3) := by decide +kernel
theorem dX3_isWay_72 : decode cX3_isWay 72 = .ok (.iload_n 3, 1) := by decide +kernel
theorem dX3_isWay_73 : decode cX3_isWay 73 = .ok (.aload_n 0, 1) := by decide +kernel
theorem dX3_isWay_74 : decode cX3_isWay 74 = .ok (.getfield 83, 3) := by decide +kernel
theorem dX3_isWay_77 : decode cX3_isWay 77 = .ok (.aload_n 0, 1) := by decide +kernel
theorem dX3_isWay_78 : decode cX3_isWay 78 = .ok (.getfield 88, 3) := by decide +kernel
theorem dX3_isWay_81 : decode cX3_isWay 81 = .ok (.if_icmp .ge 10, 3) := by decide +kernel
theorem dX3_isWay_84 : decode cX3_isWay 84 = .ok (.aload_n 0, 1) := by decide +kernel
theorem dX3_isWay_85 : decode cX3_isWay 85 = .ok (.getfield 83, 3) := by decide +kernel
theorem dX3_isWay_88 : decode cX3_isWay 88 = .ok (.goto 7, 3) := by decide +kernel
theorem dX3_isWay_91 : decode cX3_isWay 91 = .ok (.aload_n 0, 1) := by decide +kernel
theorem dX3_isWay_92 : decode cX3_isWay 92 = .ok (.getfield 88, 3) := by decide +kernel
theorem dX3_isWay_95 : decode cX3_isWay 95 = .ok (.if_icmp .ne 7, 3) := by decide +kernel
theorem dX3_isWay_98 : decode cX3_isWay 98 = .ok (.iconst 1, 1) := by decide +kernel
theorem dX3_isWay_99 : decode cX3_isWay 99 = .ok (.goto 4, 3) := by decide +kernel
theorem dX3_isWay_102 : decode cX3_isWay 102 = .ok (.iconst 0, 1) := by decide +kernel
theorem dX3_isWay_103 : decode cX3_isWay 103 = .ok (.ireturn, 1) := by decide +kernel
theorem dX3_givesAll_0 : decode cX3_givesAll 0 = .ok (.iconst 0, 1) := by decide +kernel
theorem dX3_givesAll_1 : decode cX3_givesAll 1 = .ok (.istore_n 2, 1) := by decide +kernel
theorem dX3_givesAll_2 : decode cX3_givesAll 2 = .ok (.iload_n 2, 1) := by decide +kernel
theorem dX3_givesAll_3 : decode cX3_givesAll 3 = .ok (.aload_n 0, 1) := by decide +kernel
theorem dX3_givesAll_4 : decode cX3_givesAll 4 = .ok (.getfield 88, 3) := by decide +kernel
theorem dX3_givesAll_7 : decode cX3_givesAll 7 = .ok (.if_icmp .ge 47, 3) := by decide +kernel
theorem dX3_givesAll_10 : decode cX3_givesAll 10 = .ok (.aload_n 0, 1) := by decide +kernel
theorem dX3_givesAll_11 : decode cX3_givesAll 11 = .ok (.iload_n 1, 1) := by decide +kernel
theorem dX3_givesAll_12 : decode cX3_givesAll 12 = .ok (.iload_n 2, 1) := by decide +kernel
theorem dX3_givesAll_13 : decode cX3_givesAll 13 = .ok (.invokevirtual 275, 3) := by decide +kernel
theorem dX3_givesAll_16 : decode cX3_givesAll 16 = .ok (.istore_n 3, 1) := by decide +kernel
theorem dX3_givesAll_17 : decode cX3_givesAll 17 = .ok (.aload_n 0, 1) := by decide +kernel
theorem dX3_givesAll_18 : decode cX3_givesAll 18 = .ok (.getfield 37, 3) := by decide +kernel
theorem dX3_givesAll_21 : decode cX3_givesAll 21 = .ok (.iload_n 2, 1) := by decide +kernel
theorem dX3_givesAll_22 : decode cX3_givesAll 22 = .ok (.iload_n 3, 1) := by decide +kernel
theorem dX3_givesAll_23 : decode cX3_givesAll 23 = .ok (.bipush 6, 2) := by decide +kernel
theorem dX3_givesAll_25 : decode cX3_givesAll 25 = .ok (.if_icmp .ne 8, 3) := by decide +kernel
theorem dX3_givesAll_28 : decode cX3_givesAll 28 = .ok (.bipush 9, 2) := by decide +kernel
theorem dX3_givesAll_30 : decode cX3_givesAll 30 = .ok (.goto 4, 3) := by decide +kernel
theorem dX3_givesAll_33 : decode cX3_givesAll 33 = .ok (.iload_n 3, 1) := by decide +kernel
theorem dX3_givesAll_34 : decode cX3_givesAll 34 = .ok (.iastore, 1) := by decide +kernel
theorem dX3_givesAll_35 : decode cX3_givesAll 35 = .ok (.iload_n 3, 1) := by decide +kernel
theorem dX3_givesAll_36 : decode cX3_givesAll 36 = .ok (.bipush 6, 2) := by decide +kernel
theorem dX3_givesAll_38 : decode cX3_givesAll 38 = .ok (.if_icmp .ge 10, 3) := by decide +kernel
theorem dX3_givesAll_41 : decode cX3_givesAll 41 = .ok (.aload_n 0, 1) := by decide +kernel
theorem dX3_givesAll_42 : decode cX3_givesAll 42 = .ok (.getfield 25, 3) := by decide +kernel
theorem dX3_givesAll_45 : decode cX3_givesAll 45 = .ok (.iload_n 3, 1) := by decide +kernel
theorem dX3_givesAll_46 : decode cX3_givesAll 46 = .ok (.iconst 0, 1) := by decide +kernel
theorem dX3_givesAll_47 : decode cX3_givesAll 47 = .ok (.iastore, 1) := by decide +kernel
theorem dX3_givesAll_48 : decode cX3_givesAll 48 = .ok (.iinc 2 1, 3) := by decide +kernel
theorem dX3_givesAll_51 : decode cX3_givesAll 51 = .ok (.goto (-49), 3) := by decide +kernel
theorem dX3_givesAll_54 : decode cX3_givesAll 54 = .ok (.return_, 1) := by decide +kernel
theorem dX3_manyWays_0 : decode cX3_manyWays 0 = .ok (.iconst 1, 1) := by decide +kernel
theorem dX3_manyWays_1 : decode cX3_manyWays 1 = .ok (.istore_n 1, 1) := by decide +kernel
theorem dX3_manyWays_2 : decode cX3_manyWays 2 = .ok (.iconst 0, 1) := by decide +kernel
theorem dX3_manyWays_3 : decode cX3_manyWays 3 = .ok (.istore_n 2, 1) := by decide +kernel
theorem dX3_manyWays_4 : decode cX3_manyWays 4 = .ok (.iload_n 2, 1) := by decide +kernel
theorem dX3_manyWays_5 : decode cX3_manyWays 5 = .ok (.aload_n 0, 1) := by decide +kernel
theorem dX3_manyWays_6 : decode cX3_manyWays 6 = .ok (.getfield 88, 3) := by decide +kernel
theorem dX3_manyWays_9 : decode cX3_manyWays 9 = .ok (.if_icmp .ge 14, 3) := by decide +kernel
theorem dX3_manyWays_12 : decode cX3_manyWays 12 = .ok (.iload_n 1, 1) := by decide +kernel
theorem dX3_manyWays_13 : decode cX3_manyWays 13 = .ok (.bipush 7, 2) := by decide +kernel
theorem dX3_manyWays_15 : decode cX3_manyWays 15 = .ok (.imul, 1) := by decide +kernel
theorem dX3_manyWays_16 : decode cX3_manyWays 16 = .ok (.istore_n 1, 1) := by decide +kernel
theorem dX3_manyWays_17 : decode cX3_manyWays 17 = .ok (.iinc 2 1, 3) := by decide +kernel
theorem dX3_manyWays_20 : decode cX3_manyWays 20 = .ok (.goto (-16), 3) := by decide +kernel
theorem dX3_manyWays_23 : decode cX3_manyWays 23 = .ok (.iload_n 1, 1) := by decide +kernel
theorem dX3_manyWays_24 : decode cX3_manyWays 24 = .ok (.ireturn, 1) := by decide +kernel
theorem dX3_allLed_0 : decode cX3_allLed 0 = .ok (.aload_n 0, 1) := by decide +kernel
theorem dX3_allLed_1 : decode cX3_allLed 1 = .ok (.iload_n 1, 1) := by decide +kernel
theorem dX3_allLed_2 : decode cX3_allLed 2 = .ok (.invokevirtual 256, 3) := by decide +kernel
theorem dX3_allLed_5 : decode cX3_allLed 5 = .ok (.pop, 1) := by decide +kernel
theorem dX3_allLed_6 : decode cX3_allLed 6 = .ok (.iconst 0, 1) := by decide +kernel
theorem dX3_allLed_7 : decode cX3_allLed 7 = .ok (.istore_n 2, 1) := by decide +kernel
theorem dX3_allLed_8 : decode cX3_allLed 8 = .ok (.iconst 0, 1) := by decide +kernel
theorem dX3_allLed_9 : decode cX3_allLed 9 = .ok (.istore_n 3, 1) := by decide +kernel
theorem dX3_allLed_10 : decode cX3_allLed 10 = .ok (.iload_n 3, 1) := by decide +kernel
theorem dX3_allLed_11 : decode cX3_allLed 11 = .ok (.aload_n 0, 1) := by decide +kernel
theorem dX3_allLed_12 : decode cX3_allLed 12 = .ok (.getfield 88, 3) := by decide +kernel
theorem dX3_allLed_15 : decode cX3_allLed 15 = .ok (.if_icmp .ge 18, 3) := by decide +kernel
theorem dX3_allLed_18 : decode cX3_allLed 18 = .ok (.iload_n 2, 1) := by decide +kernel
theorem dX3_allLed_19 : decode cX3_allLed 19 = .ok (.aload_n 0, 1) := by decide +kernel
theorem dX3_allLed_20 : decode cX3_allLed 20 = .ok (.getfield 58, 3) := by decide +kernel
theorem dX3_allLed_23 : decode cX3_allLed 23 = .ok (.iload_n 3, 1) := by decide +kernel
theorem dX3_allLed_24 : decode cX3_allLed 24 = .ok (.iaload, 1) := by decide +kernel
theorem dX3_allLed_25 : decode cX3_allLed 25 = .ok (.iadd, 1) := by decide +kernel
theorem dX3_allLed_26 : decode cX3_allLed 26 = .ok (.istore_n 2, 1) := by decide +kernel
theorem dX3_allLed_27 : decode cX3_allLed 27 = .ok (.iinc 3 1, 3) := by decide +kernel
theorem dX3_allLed_30 : decode cX3_allLed 30 = .ok (.goto (-20), 3) := by decide +kernel
theorem dX3_allLed_33 : decode cX3_allLed 33 = .ok (.iload_n 2, 1) := by decide +kernel
theorem dX3_allLed_34 : decode cX3_allLed 34 = .ok (.ireturn, 1) := by decide +kernel
theorem dX3_bestWay_0 : decode cX3_bestWay 0 = .ok (.bipush (-9), 2) := by decide +kernel
theorem dX3_bestWay_2 : decode cX3_bestWay 2 = .ok (.istore 4, 2) := by decide +kernel
theorem dX3_bestWay_4 : decode cX3_bestWay 4 = .ok (.iconst 0, 1) := by decide +kernel
theorem dX3_bestWay_5 : decode cX3_bestWay 5 = .ok (.istore 5, 2) := by decide +kernel
theorem dX3_bestWay_7 : decode cX3_bestWay 7 = .ok (.iload 5, 2) := by decide +kernel
theorem dX3_bestWay_9 : decode cX3_bestWay 9 = .ok (.aload_n 0, 1) := by decide +kernel
theorem dX3_bestWay_10 : decode cX3_bestWay 10 = .ok (.invokevirtual 278, 3) := by decide +kernel
theorem dX3_bestWay_13 : decode cX3_bestWay 13 = .ok (.if_icmp .ge 96, 3) := by decide +kernel
theorem dX3_bestWay_16 : decode cX3_bestWay 16 = .ok (.aload_n 0, 1) := by decide +kernel
theorem dX3_bestWay_17 : decode cX3_bestWay 17 = .ok (.iload 5, 2) := by decide +kernel
theorem dX3_bestWay_19 : decode cX3_bestWay 19 = .ok (.invokevirtual 281, 3) := by decide +kernel
theorem dX3_bestWay_22 : decode cX3_bestWay 22 = .ok (.ifCond .ne 6, 3) := by decide +kernel
theorem dX3_bestWay_25 : decode cX3_bestWay 25 = .ok (.goto 78, 3) := by decide +kernel
theorem dX3_bestWay_28 : decode cX3_bestWay 28 = .ok (.aload_n 0, 1) := by decide +kernel
theorem dX3_bestWay_29 : decode cX3_bestWay 29 = .ok (.iconst 1, 1) := by decide +kernel
theorem dX3_bestWay_30 : decode cX3_bestWay 30 = .ok (.iconst 1, 1) := by decide +kernel
theorem dX3_bestWay_31 : decode cX3_bestWay 31 = .ok (.invokevirtual 161, 3) := by decide +kernel
theorem dX3_bestWay_34 : decode cX3_bestWay 34 = .ok (.aload_n 0, 1) := by decide +kernel
theorem dX3_bestWay_35 : decode cX3_bestWay 35 = .ok (.iload 5, 2) := by decide +kernel
theorem dX3_bestWay_37 : decode cX3_bestWay 37 = .ok (.invokevirtual 284, 3) := by decide +kernel
theorem dX3_bestWay_40 : decode cX3_bestWay 40 = .ok (.iload_n 1, 1) := by decide +kernel
theorem dX3_bestWay_41 : decode cX3_bestWay 41 = .ok (.ifCond .ge 11, 3) := by decide +kernel
theorem dX3_bestWay_44 : decode cX3_bestWay 44 = .ok (.aload_n 0, 1) := by decide +kernel
theorem dX3_bestWay_45 : decode cX3_bestWay 45 = .ok (.iload_n 3, 1) := by decide +kernel
theorem dX3_bestWay_46 : decode cX3_bestWay 46 = .ok (.invokevirtual 287, 3) := by decide +kernel
theorem dX3_bestWay_49 : decode cX3_bestWay 49 = .ok (.goto 9, 3) := by decide +kernel
theorem dX3_bestWay_52 : decode cX3_bestWay 52 = .ok (.aload_n 0, 1) := by decide +kernel
theorem dX3_bestWay_53 : decode cX3_bestWay 53 = .ok (.iload_n 1, 1) := by decide +kernel
theorem dX3_bestWay_54 : decode cX3_bestWay 54 = .ok (.iload_n 2, 1) := by decide +kernel
theorem dX3_bestWay_55 : decode cX3_bestWay 55 = .ok (.invokevirtual 247, 3) := by decide +kernel
theorem dX3_bestWay_58 : decode cX3_bestWay 58 = .ok (.istore 6, 2) := by decide +kernel
theorem dX3_bestWay_60 : decode cX3_bestWay 60 = .ok (.aload_n 0, 1) := by decide +kernel
theorem dX3_bestWay_61 : decode cX3_bestWay 61 = .ok (.iconst 1, 1) := by decide +kernel
theorem dX3_bestWay_62 : decode cX3_bestWay 62 = .ok (.iconst 0, 1) := by decide +kernel
theorem dX3_bestWay_63 : decode cX3_bestWay 63 = .ok (.invokevirtual 161, 3) := by decide +kernel
theorem dX3_bestWay_66 : decode cX3_bestWay 66 = .ok (.iload 6, 2) := by decide +kernel
theorem dX3_bestWay_68 : decode cX3_bestWay 68 = .ok (.ifCond .ge 8, 3) := by decide +kernel
theorem dX3_bestWay_71 : decode cX3_bestWay 71 = .ok (.sipush 1000, 3) := by decide +kernel
theorem dX3_bestWay_74 : decode cX3_bestWay 74 = .ok (.istore 6, 2) := by decide +kernel
theorem dX3_bestWay_76 : decode cX3_bestWay 76 = .ok (.iload 4, 2) := by decide +kernel
theorem dX3_bestWay_78 : decode cX3_bestWay 78 = .ok (.ifCond .lt 15, 3) := by decide +kernel
theorem dX3_bestWay_81 : decode cX3_bestWay 81 = .ok (.iload 6, 2) := by decide +kernel
theorem dX3_bestWay_83 : decode cX3_bestWay 83 = .ok (.aload_n 0, 1) := by decide +kernel
theorem dX3_bestWay_84 : decode cX3_bestWay 84 = .ok (.getfield 290, 3) := by decide +kernel
theorem dX3_bestWay_87 : decode cX3_bestWay 87 = .ok (.if_icmp .lt 6, 3) := by decide +kernel
theorem dX3_bestWay_90 : decode cX3_bestWay 90 = .ok (.goto 13, 3) := by decide +kernel
theorem dX3_bestWay_93 : decode cX3_bestWay 93 = .ok (.iload 5, 2) := by decide +kernel
theorem dX3_bestWay_95 : decode cX3_bestWay 95 = .ok (.istore 4, 2) := by decide +kernel
theorem dX3_bestWay_97 : decode cX3_bestWay 97 = .ok (.aload_n 0, 1) := by decide +kernel
theorem dX3_bestWay_98 : decode cX3_bestWay 98 = .ok (.iload 6, 2) := by decide +kernel
theorem dX3_bestWay_100 : decode cX3_bestWay 100 = .ok (.putfield 290, 3) := by decide +kernel
theorem dX3_bestWay_103 : decode cX3_bestWay 103 = .ok (.iinc 5 1, 3) := by decide +kernel
theorem dX3_bestWay_106 : decode cX3_bestWay 106 = .ok (.goto (-99), 3) := by decide +kernel
theorem dX3_bestWay_109 : decode cX3_bestWay 109 = .ok (.iload 4, 2) := by decide +kernel
theorem dX3_bestWay_111 : decode cX3_bestWay 111 = .ok (.ireturn, 1) := by decide +kernel
theorem dX3_bagBy_0 : decode cX3_bagBy 0 = .ok (.iload_n 2, 1) := by decide +kernel
theorem dX3_bagBy_1 : decode cX3_bagBy 1 = .ok (.aload_n 0, 1) := by decide +kernel
theorem dX3_bagBy_2 : decode cX3_bagBy 2 = .ok (.getfield 88, 3) := by decide +kernel
theorem dX3_bagBy_5 : decode cX3_bagBy 5 = .ok (.if_icmp .ge 14, 3) := by decide +kernel
theorem dX3_bagBy_8 : decode cX3_bagBy 8 = .ok (.aload_n 0, 1) := by decide +kernel
theorem dX3_bagBy_9 : decode cX3_bagBy 9 = .ok (.iload_n 1, 1) := by decide +kernel
theorem dX3_bagBy_10 : decode cX3_bagBy 10 = .ok (.iload_n 2, 1) := by decide +kernel
theorem dX3_bagBy_11 : decode cX3_bagBy 11 = .ok (.invokevirtual 275, 3) := by decide +kernel
theorem dX3_bagBy_14 : decode cX3_bagBy 14 = .ok (.bipush 6, 2) := by decide +kernel
theorem dX3_bagBy_16 : decode cX3_bagBy 16 = .ok (.if_icmp .ne 8, 3) := by decide +kernel
theorem dX3_bagBy_19 : decode cX3_bagBy 19 = .ok (.bipush (-9), 2) := by decide +kernel
theorem dX3_bagBy_21 : decode cX3_bagBy 21 = .ok (.goto 9, 3) := by decide +kernel
theorem dX3_bagBy_24 : decode cX3_bagBy 24 = .ok (.aload_n 0, 1) := by decide +kernel
theorem dX3_bagBy_25 : decode cX3_bagBy 25 = .ok (.iload_n 1, 1) := by decide +kernel
theorem dX3_bagBy_26 : decode cX3_bagBy 26 = .ok (.iload_n 2, 1) := by decide +kernel
theorem dX3_bagBy_27 : decode cX3_bagBy 27 = .ok (.invokevirtual 275, 3) := by decide +kernel
theorem dX3_bagBy_30 : decode cX3_bagBy 30 = .ok (.ireturn, 1) := by decide +kernel
theorem dX3_given_0 : decode cX3_given 0 = .ok (.aload_n 0, 1) := by decide +kernel
theorem dX3_given_1 : decode cX3_given 1 = .ok (.iload_n 1, 1) := by decide +kernel
theorem dX3_given_2 : decode cX3_given 2 = .ok (.iload_n 2, 1) := by decide +kernel
theorem dX3_given_3 : decode cX3_given 3 = .ok (.invokevirtual 244, 3) := by decide +kernel
theorem dX3_given_6 : decode cX3_given 6 = .ok (.ifCond .ne 7, 3) := by decide +kernel
theorem dX3_given_9 : decode cX3_given 9 = .ok (.iconst (-1), 1) := by decide +kernel
theorem dX3_given_10 : decode cX3_given 10 = .ok (.goto 27, 3) := by decide +kernel
theorem dX3_given_13 : decode cX3_given 13 = .ok (.iload_n 3, 1) := by decide +kernel
theorem dX3_given_14 : decode cX3_given 14 = .ok (.iconst (-1), 1) := by decide +kernel
theorem dX3_given_15 : decode cX3_given 15 = .ok (.if_icmp .ge 8, 3) := by decide +kernel
theorem dX3_given_18 : decode cX3_given 18 = .ok (.bipush (-4), 2) := by decide +kernel
theorem dX3_given_20 : decode cX3_given 20 = .ok (.goto 17, 3) := by decide +kernel
theorem dX3_given_23 : decode cX3_given 23 = .ok (.aload_n 0, 1) := by decide +kernel
theorem dX3_given_24 : decode cX3_given 24 = .ok (.getfield 88, 3) := by decide +kernel
theorem dX3_given_27 : decode cX3_given 27 = .ok (.iconst 4, 1) := by decide +kernel
theorem dX3_given_28 : decode cX3_given 28 = .ok (.if_icmp .le 8, 3) := by decide +kernel
theorem dX3_given_31 : decode cX3_given 31 = .ok (.bipush (-3), 2) := by decide +kernel
theorem dX3_given_33 : decode cX3_given 33 = .ok (.goto 4, 3) := by decide +kernel
theorem dX3_given_36 : decode cX3_given 36 = .ok (.iconst 0, 1) := by decide +kernel
theorem dX3_given_37 : decode cX3_given 37 = .ok (.istore 4, 2) := by decide +kernel
theorem dX3_given_39 : decode cX3_given 39 = .ok (.iload 4, 2) := by decide +kernel
theorem dX3_given_41 : decode cX3_given 41 = .ok (.ifCond .eq 10, 3) := by decide +kernel
theorem dX3_given_44 : decode cX3_given 44 = .ok (.aload_n 0, 1) := by decide +kernel
theorem dX3_given_45 : decode cX3_given 45 = .ok (.iload 4, 2) := by decide +kernel
theorem dX3_given_47 : decode cX3_given 47 = .ok (.invokevirtual 102, 3) := by decide +kernel
theorem dX3_given_50 : decode cX3_given 50 = .ok (.ireturn, 1) := by decide +kernel
theorem dX3_given_51 : decode cX3_given 51 = .ok (.aload_n 0, 1) := by decide +kernel
theorem dX3_given_52 : decode cX3_given 52 = .ok (.iload_n 1, 1) := by decide +kernel
theorem dX3_given_53 : decode cX3_given 53 = .ok (.iload_n 2, 1) := by decide +kernel
theorem dX3_given_54 : decode cX3_given 54 = .ok (.iconst 0, 1) := by decide +kernel
theorem dX3_given_55 : decode cX3_given 55 = .ok (.invokevirtual 293, 3) := by decide +kernel
theorem dX3_given_58 : decode cX3_given 58 = .ok (.istore 5, 2) := by decide +kernel
theorem dX3_given_60 : decode cX3_given 60 = .ok (.iload_n 3, 1) := by decide +kernel
theorem dX3_given_61 : decode cX3_given 61 = .ok (.ifCond .lt 13, 3) := by decide +kernel
theorem dX3_given_64 : decode cX3_given 64 = .ok (.aload_n 0, 1) := by decide +kernel
theorem dX3_given_65 : decode cX3_given 65 = .ok (.iload 5, 2) := by decide +kernel
theorem dX3_given_67 : decode cX3_given 67 = .ok (.iload_n 3, 1) := by decide +kernel
theorem dX3_given_68 : decode cX3_given 68 = .ok (.invokevirtual 296, 3) := by decide +kernel
theorem dX3_given_71 : decode cX3_given 71 = .ok (.goto 22, 3) := by decide +kernel
theorem dX3_given_74 : decode cX3_given 74 = .ok (.aload_n 0, 1) := by decide +kernel
theorem dX3_given_75 : decode cX3_given 75 = .ok (.getfield 290, 3) := by decide +kernel
theorem dX3_given_78 : decode cX3_given 78 = .ok (.sipush 1000, 3) := by decide +kernel
theorem dX3_given_81 : decode cX3_given 81 = .ok (.if_icmp .ne 8, 3) := by decide +kernel
theorem dX3_given_84 : decode cX3_given 84 = .ok (.bipush (-9), 2) := by decide +kernel
theorem dX3_given_86 : decode cX3_given 86 = .ok (.goto 7, 3) := by decide +kernel
theorem dX3_given_89 : decode cX3_given 89 = .ok (.aload_n 0, 1) := by decide +kernel
theorem dX3_given_90 : decode cX3_given 90 = .ok (.getfield 290, 3) := by decide +kernel
theorem dX3_given_93 : decode cX3_given 93 = .ok (.ireturn, 1) := by decide +kernel
theorem dX3_quiet_0 : decode cX3_quiet 0 = .ok (.iload_n 2, 1) := by decide +kernel
theorem dX3_quiet_1 : decode cX3_quiet 1 = .ok (.iconst (-1), 1) := by decide +kernel
theorem dX3_quiet_2 : decode cX3_quiet 2 = .ok (.if_icmp .lt 7, 3) := by decide +kernel
theorem dX3_quiet_5 : decode cX3_quiet 5 = .ok (.iload_n 1, 1) := by decide +kernel
theorem dX3_quiet_6 : decode cX3_quiet 6 = .ok (.ifCond .ge 8, 3) := by decide +kernel
theorem dX3_quiet_9 : decode cX3_quiet 9 = .ok (.bipush (-4), 2) := by decide +kernel
theorem dX3_quiet_11 : decode cX3_quiet 11 = .ok (.goto 28, 3) := by decide +kernel
theorem dX3_quiet_14 : decode cX3_quiet 14 = .ok (.iload_n 1, 1) := by decide +kernel
theorem dX3_quiet_15 : decode cX3_quiet 15 = .ok (.bipush 60, 2) := by decide +kernel
theorem dX3_quiet_17 : decode cX3_quiet 17 = .ok (.if_icmp .le 8, 3) := by decide +kernel
theorem dX3_quiet_20 : decode cX3_quiet 20 = .ok (.bipush (-6), 2) := by decide +kernel
theorem dX3_quiet_22 : decode cX3_quiet 22 = .ok (.goto 17, 3) := by decide +kernel
theorem dX3_quiet_25 : decode cX3_quiet 25 = .ok (.aload_n 0, 1) := by decide +kernel
theorem dX3_quiet_26 : decode cX3_quiet 26 = .ok (.getfield 88, 3) := by decide +kernel
theorem dX3_quiet_29 : decode cX3_quiet 29 = .ok (.iconst 4, 1) := by decide +kernel
theorem dX3_quiet_30 : decode cX3_quiet 30 = .ok (.if_icmp .le 8, 3) := by decide +kernel
theorem dX3_quiet_33 : decode cX3_quiet 33 = .ok (.bipush (-3), 2) := by decide +kernel
theorem dX3_quiet_35 : decode cX3_quiet 35 = .ok (.goto 4, 3) := by decide +kernel
theorem dX3_quiet_38 : decode cX3_quiet 38 = .ok (.iconst 0, 1) := by decide +kernel
theorem dX3_quiet_39 : decode cX3_quiet 39 = .ok (.istore_n 3, 1) := by decide +kernel
theorem dX3_quiet_40 : decode cX3_quiet 40 = .ok (.iload_n 3, 1) := by decide +kernel
theorem dX3_quiet_41 : decode cX3_quiet 41 = .ok (.ifCond .eq 9, 3) := by decide +kernel
theorem dX3_quiet_44 : decode cX3_quiet 44 = .ok (.aload_n 0, 1) := by decide +kernel
theorem dX3_quiet_45 : decode cX3_quiet 45 = .ok (.iload_n 3, 1) := by decide +kernel
theorem dX3_quiet_46 : decode cX3_quiet 46 = .ok (.invokevirtual 102, 3) := by decide +kernel
theorem dX3_quiet_49 : decode cX3_quiet 49 = .ok (.ireturn, 1) := by decide +kernel
theorem dX3_quiet_50 : decode cX3_quiet 50 = .ok (.aload_n 0, 1) := by decide +kernel
theorem dX3_quiet_51 : decode cX3_quiet 51 = .ok (.iconst (-1), 1) := by decide +kernel
theorem dX3_quiet_52 : decode cX3_quiet 52 = .ok (.iconst (-1), 1) := by decide +kernel
theorem dX3_quiet_53 : decode cX3_quiet 53 = .ok (.iload_n 1, 1) := by decide +kernel
theorem dX3_quiet_54 : decode cX3_quiet 54 = .ok (.invokevirtual 293, 3) := by decide +kernel
theorem dX3_quiet_57 : decode cX3_quiet 57 = .ok (.istore 4, 2) := by decide +kernel
theorem dX3_quiet_59 : decode cX3_quiet 59 = .ok (.iload_n 2, 1) := by decide +kernel
theorem dX3_quiet_60 : decode cX3_quiet 60 = .ok (.ifCond .lt 13, 3) := by decide +kernel
theorem dX3_quiet_63 : decode cX3_quiet 63 = .ok (.aload_n 0, 1) := by decide +kernel
theorem dX3_quiet_64 : decode cX3_quiet 64 = .ok (.iload 4, 2) := by decide +kernel
theorem dX3_quiet_66 : decode cX3_quiet 66 = .ok (.iload_n 2, 1) := by decide +kernel
theorem dX3_quiet_67 : decode cX3_quiet 67 = .ok (.invokevirtual 296, 3) := by decide +kernel
theorem dX3_quiet_70 : decode cX3_quiet 70 = .ok (.goto 7, 3) := by decide +kernel
theorem dX3_quiet_73 : decode cX3_quiet 73 = .ok (.aload_n 0, 1) := by decide +kernel
theorem dX3_quiet_74 : decode cX3_quiet 74 = .ok (.getfield 290, 3) := by decide +kernel
theorem dX3_quiet_77 : decode cX3_quiet 77 = .ok (.ireturn, 1) := by decide +kernel
theorem dX3_plainPull_0 : decode cX3_plainPull 0 = .ok (.aload_n 0, 1) := by decide +kernel
theorem dX3_plainPull_1 : decode cX3_plainPull 1 = .ok (.getfield 13, 3) := by decide +kernel
theorem dX3_plainPull_4 : decode cX3_plainPull 4 = .ok (.iload_n 1, 1) := by decide +kernel
theorem dX3_plainPull_5 : decode cX3_plainPull 5 = .ok (.iaload, 1) := by decide +kernel
theorem dX3_plainPull_6 : decode cX3_plainPull 6 = .ok (.iconst 2, 1) := by decide +kernel
theorem dX3_plainPull_7 : decode cX3_plainPull 7 = .ok (.if_icmp .ne 14, 3) := by decide +kernel
theorem dX3_plainPull_10 : decode cX3_plainPull 10 = .ok (.aload_n 0, 1) := by decide +kernel
theorem dX3_plainPull_11 : decode cX3_plainPull 11 = .ok (.getfield 16, 3) := by decide +kernel
theorem dX3_plainPull_14 : decode cX3_plainPull 14 = .ok (.iload_n 1, 1) := by decide +kernel
theorem dX3_plainPull_15 : decode cX3_plainPull 15 = .ok (.iaload, 1) := by decide +kernel
theorem dX3_plainPull_16 : decode cX3_plainPull 16 = .ok (.iconst 4, 1) := by decide +kernel
theorem dX3_plainPull_17 : decode cX3_plainPull 17 = .ok (.iadd, 1) := by decide +kernel
theorem dX3_plainPull_18 : decode cX3_plainPull 18 = .ok (.goto 51, 3) := by decide +kernel
theorem dX3_plainPull_21 : decode cX3_plainPull 21 = .ok (.aload_n 0, 1) := by decide +kernel
theorem dX3_plainPull_22 : decode cX3_plainPull 22 = .ok (.getfield 13, 3) := by decide +kernel
theorem dX3_plainPull_25 : decode cX3_plainPull 25 = .ok (.iload_n 1, 1) := by decide +kernel
theorem dX3_plainPull_26 : decode cX3_plainPull 26 = .ok (.iaload, 1) := by decide +kernel
theorem dX3_plainPull_27 : decode cX3_plainPull 27 = .ok (.iconst 3, 1) := by decide +kernel
theorem dX3_plainPull_28 : decode cX3_plainPull 28 = .ok (.if_icmp .ne 14, 3) := by decide +kernel
theorem dX3_plainPull_31 : decode cX3_plainPull 31 = .ok (.aload_n 0, 1) := by decide +kernel
theorem dX3_plainPull_32 : decode cX3_plainPull 32 = .ok (.getfield 16, 3) := by decide +kernel
theorem dX3_plainPull_35 : decode cX3_plainPull 35 = .ok (.iload_n 1, 1) := by decide +kernel
theorem dX3_plainPull_36 : decode cX3_plainPull 36 = .ok (.iaload, 1) := by decide +kernel
theorem dX3_plainPull_37 : decode cX3_plainPull 37 = .ok (.iconst 2, 1) := by decide +kernel
theorem dX3_plainPull_38 : decode cX3_plainPull 38 = .ok (.idiv, 1) := by decide +kernel
theorem dX3_plainPull_39 : decode cX3_plainPull 39 = .ok (.goto 30, 3) := by decide +kernel
theorem dX3_plainPull_42 : decode cX3_plainPull 42 = .ok (.aload_n 0, 1) := by decide +kernel
theorem dX3_plainPull_43 : decode cX3_plainPull 43 = .ok (.getfield 13, 3) := by decide +kernel
theorem dX3_plainPull_46 : decode cX3_plainPull 46 = .ok (.iload_n 1, 1) := by decide +kernel
theorem dX3_plainPull_47 : decode cX3_plainPull 47 = .ok (.iaload, 1) := by decide +kernel
theorem dX3_plainPull_48 : decode cX3_plainPull 48 = .ok (.iconst 5, 1) := by decide +kernel
theorem dX3_plainPull_49 : decode cX3_plainPull 49 = .ok (.if_icmp .ne 14, 3) := by decide +kernel
theorem dX3_plainPull_52 : decode cX3_plainPull 52 = .ok (.iconst 2, 1) := by decide +kernel
theorem dX3_plainPull_53 : decode cX3_plainPull 53 = .ok (.aload_n 0, 1) := by decide +kernel
theorem dX3_plainPull_54 : decode cX3_plainPull 54 = .ok (.getfield 16, 3) := by decide +kernel
theorem dX3_plainPull_57 : decode cX3_plainPull 57 = .ok (.iload_n 1, 1) := by decide +kernel
theorem dX3_plainPull_58 : decode cX3_plainPull 58 = .ok (.iaload, 1) := by decide +kernel
theorem dX3_plainPull_59 : decode cX3_plainPull 59 = .ok (.imul, 1) := by decide +kernel
theorem dX3_plainPull_60 : decode cX3_plainPull 60 = .ok (.goto 9, 3) := by decide +kernel
theorem dX3_plainPull_63 : decode cX3_plainPull 63 = .ok (.aload_n 0, 1) := by decide +kernel
theorem dX3_plainPull_64 : decode cX3_plainPull 64 = .ok (.getfield 16, 3) := by decide +kernel
theorem dX3_plainPull_67 : decode cX3_plainPull 67 = .ok (.iload_n 1, 1) := by decide +kernel
theorem dX3_plainPull_68 : decode cX3_plainPull 68 = .ok (.iaload, 1) := by decide +kernel
theorem dX3_plainPull_69 : decode cX3_plainPull 69 = .ok (.ireturn, 1) := by decide +kernel
theorem dX3_nextAsked_0 : decode cX3_nextAsked 0 = .ok (.bipush (-9), 2) := by decide +kernel
theorem dX3_nextAsked_2 : decode cX3_nextAsked 2 = .ok (.istore_n 2, 1) := by decide +kernel
theorem dX3_nextAsked_3 : decode cX3_nextAsked 3 = .ok (.iconst 0, 1) := by decide +kernel
theorem dX3_nextAsked_4 : decode cX3_nextAsked 4 = .ok (.istore_n 3, 1) := by decide +kernel
theorem dX3_nextAsked_5 : decode cX3_nextAsked 5 = .ok (.iload_n 3, 1) := by decide +kernel
theorem dX3_nextAsked_6 : decode cX3_nextAsked 6 = .ok (.aload_n 0, 1) := by decide +kernel
theorem dX3_nextAsked_7 : decode cX3_nextAsked 7 = .ok (.getfield 83, 3) := by decide +kernel
theorem dX3_nextAsked_10 : decode cX3_nextAsked 10 = .ok (.if_icmp .ge 41, 3) := by decide +kernel
theorem dX3_nextAsked_13 : decode cX3_nextAsked 13 = .ok (.aload_n 0, 1) := by decide +kernel
theorem dX3_nextAsked_14 : decode cX3_nextAsked 14 = .ok (.getfield 68, 3) := by decide +kernel
theorem dX3_nextAsked_17 : decode cX3_nextAsked 17 = .ok (.iload_n 1, 1) := by decide +kernel
theorem dX3_nextAsked_18 : decode cX3_nextAsked 18 = .ok (.iaload, 1) := by decide +kernel
theorem dX3_nextAsked_19 : decode cX3_nextAsked 19 = .ok (.iload_n 3, 1) := by decide +kernel
theorem dX3_nextAsked_20 : decode cX3_nextAsked 20 = .ok (.ishr, 1) := by decide +kernel
theorem dX3_nextAsked_21 : decode cX3_nextAsked 21 = .ok (.iconst 1, 1) := by decide +kernel
theorem dX3_nextAsked_22 : decode cX3_nextAsked 22 = .ok (.iand, 1) := by decide +kernel
theorem dX3_nextAsked_23 : decode cX3_nextAsked 23 = .ok (.ifCond .ne 22, 3) := by decide +kernel
theorem dX3_nextAsked_26 : decode cX3_nextAsked 26 = .ok (.iload_n 2, 1) := by decide +kernel
theorem dX3_nextAsked_27 : decode cX3_nextAsked 27 = .ok (.ifCond .lt 16, 3) := by decide +kernel
theorem dX3_nextAsked_30 : decode cX3_nextAsked 30 = .ok (.aload_n 0, 1) := by decide +kernel
theorem dX3_nextAsked_31 : decode cX3_nextAsked 31 = .ok (.iload_n 3, 1) := by decide +kernel
theorem dX3_nextAsked_32 : decode cX3_nextAsked 32 = .ok (.invokevirtual 299, 3) := by decide +kernel
theorem dX3_nextAsked_35 : decode cX3_nextAsked 35 = .ok (.aload_n 0, 1) := by decide +kernel
theorem dX3_nextAsked_36 : decode cX3_nextAsked 36 = .ok (.iload_n 2, 1) := by decide +kernel
theorem dX3_nextAsked_37 : decode cX3_nextAsked 37 = .ok (.invokevirtual 299, 3) := by decide +kernel
theorem dX3_nextAsked_40 : decode cX3_nextAsked 40 = .ok (.if_icmp .ge 5, 3) := by decide +kernel
theorem dX3_nextAsked_43 : decode cX3_nextAsked 43 = .ok (.iload_n 3, 1) := by decide +kernel
theorem dX3_nextAsked_44 : decode cX3_nextAsked 44 = .ok (.istore_n 2, 1) := by decide +kernel
theorem dX3_nextAsked_45 : decode cX3_nextAsked 45 = .ok (.iinc 3 1, 3) := by decide +kernel
theorem dX3_nextAsked_48 : decode cX3_nextAsked 48 = .ok (.goto (-43), 3) := by decide +kernel
theorem dX3_nextAsked_51 : decode cX3_nextAsked 51 = .ok (.iload_n 2, 1) := by decide +kernel
theorem dX3_nextAsked_52 : decode cX3_nextAsked 52 = .ok (.ireturn, 1) := by decide +kernel
theorem dX3_isRather_0 : decode cX3_isRather 0 = .ok (.iload_n 2, 1) := by decide +kernel
theorem dX3_isRather_1 : decode cX3_isRather 1 = .ok (.bipush 9, 2) := by decide +kernel
theorem dX3_isRather_3 : decode cX3_isRather 3 = .ok (.if_icmp .eq 38, 3) := by decide +kernel
theorem dX3_isRather_6 : decode cX3_isRather 6 = .ok (.aload_n 0, 1) := by decide +kernel
theorem dX3_isRather_7 : decode cX3_isRather 7 = .ok (.getfield 28, 3) := by decide +kernel
theorem dX3_isRather_10 : decode cX3_isRather 10 = .ok (.iload_n 1, 1) := by decide +kernel
theorem dX3_isRather_11 : decode cX3_isRather 11 = .ok (.iaload, 1) := by decide +kernel
theorem dX3_isRather_12 : decode cX3_isRather 12 = .ok (.aload_n 0, 1) := by decide +kernel
theorem dX3_isRather_13 : decode cX3_isRather 13 = .ok (.getfield 28, 3) := by decide +kernel
theorem dX3_isRather_16 : decode cX3_isRather 16 = .ok (.iload_n 2, 1) := by decide +kernel
theorem dX3_isRather_17 : decode cX3_isRather 17 = .ok (.iaload, 1) := by decide +kernel
theorem dX3_isRather_18 : decode cX3_isRather 18 = .ok (.if_icmp .lt 23, 3) := by decide +kernel
theorem dX3_isRather_21 : decode cX3_isRather 21 = .ok (.aload_n 0, 1) := by decide +kernel
theorem dX3_isRather_22 : decode cX3_isRather 22 = .ok (.getfield 28, 3) := by decide +kernel
theorem dX3_isRather_25 : decode cX3_isRather 25 = .ok (.iload_n 1, 1) := by decide +kernel
theorem dX3_isRather_26 : decode cX3_isRather 26 = .ok (.iaload, 1) := by decide +kernel
theorem dX3_isRather_27 : decode cX3_isRather 27 = .ok (.aload_n 0, 1) := by decide +kernel
theorem dX3_isRather_28 : decode cX3_isRather 28 = .ok (.getfield 28, 3) := by decide +kernel
theorem dX3_isRather_31 : decode cX3_isRather 31 = .ok (.iload_n 2, 1) := by decide +kernel
theorem dX3_isRather_32 : decode cX3_isRather 32 = .ok (.iaload, 1) := by decide +kernel
theorem dX3_isRather_33 : decode cX3_isRather 33 = .ok (.if_icmp .ne 12, 3) := by decide +kernel
theorem dX3_isRather_36 : decode cX3_isRather 36 = .ok (.iload_n 1, 1) := by decide +kernel
theorem dX3_isRather_37 : decode cX3_isRather 37 = .ok (.iload_n 2, 1) := by decide +kernel
theorem dX3_isRather_38 : decode cX3_isRather 38 = .ok (.if_icmp .ge 7, 3) := by decide +kernel
theorem dX3_isRather_41 : decode cX3_isRather 41 = .ok (.iconst 1, 1) := by decide +kernel
theorem dX3_isRather_42 : decode cX3_isRather 42 = .ok (.goto 4, 3) := by decide +kernel
theorem dX3_isRather_45 : decode cX3_isRather 45 = .ok (.iconst 0, 1) := by decide +kernel
theorem dX3_isRather_46 : decode cX3_isRather 46 = .ok (.ireturn, 1) := by decide +kernel
theorem dX3_isKept_0 : decode cX3_isKept 0 = .ok (.iconst 0, 1) := by decide +kernel
theorem dX3_isKept_1 : decode cX3_isKept 1 = .ok (.istore_n 2, 1) := by decide +kernel
theorem dX3_isKept_2 : decode cX3_isKept 2 = .ok (.iload_n 2, 1) := by decide +kernel
theorem dX3_isKept_3 : decode cX3_isKept 3 = .ok (.aload_n 0, 1) := by decide +kernel
theorem dX3_isKept_4 : decode cX3_isKept 4 = .ok (.getfield 83, 3) := by decide +kernel
theorem dX3_isKept_7 : decode cX3_isKept 7 = .ok (.if_icmp .ge 21, 3) := by decide +kernel
theorem dX3_isKept_10 : decode cX3_isKept 10 = .ok (.aload_n 0, 1) := by decide +kernel
theorem dX3_isKept_11 : decode cX3_isKept 11 = .ok (.getfield 71, 3) := by decide +kernel
theorem dX3_isKept_14 : decode cX3_isKept 14 = .ok (.iload_n 2, 1) := by decide +kernel
theorem dX3_isKept_15 : decode cX3_isKept 15 = .ok (.iaload, 1) := by decide +kernel
theorem dX3_isKept_16 : decode cX3_isKept 16 = .ok (.iload_n 1, 1) := by decide +kernel
theorem dX3_isKept_17 : decode cX3_isKept 17 = .ok (.if_icmp .ne 5, 3) := by decide +kernel
theorem dX3_isKept_20 : decode cX3_isKept 20 = .ok (.iconst 1, 1) := by decide +kernel
theorem dX3_isKept_21 : decode cX3_isKept 21 = .ok (.ireturn, 1) := by decide +kernel
theorem dX3_isKept_22 : decode cX3_isKept 22 = .ok (.iinc 2 1, 3) := by decide +kernel
theorem dX3_isKept_25 : decode cX3_isKept 25 = .ok (.goto (-23), 3) := by decide +kernel
theorem dX3_isKept_28 : decode cX3_isKept 28 = .ok (.iconst 0, 1) := by decide +kernel
theorem dX3_isKept_29 : decode cX3_isKept 29 = .ok (.ireturn, 1) := by decide +kernel
theorem dX3_asks_0 : decode cX3_asks 0 = .ok (.aload_n 0, 1) := by decide +kernel
theorem dX3_asks_1 : decode cX3_asks 1 = .ok (.iload_n 1, 1) := by decide +kernel
theorem dX3_asks_2 : decode cX3_asks 2 = .ok (.invokevirtual 302, 3) := by decide +kernel
theorem dX3_asks_5 : decode cX3_asks 5 = .ok (.ifCond .eq 8, 3) := by decide +kernel
theorem dX3_asks_8 : decode cX3_asks 8 = .ok (.bipush (-9), 2) := by decide +kernel
theorem dX3_asks_10 : decode cX3_asks 10 = .ok (.goto 8, 3) := by decide +kernel
theorem dX3_asks_13 : decode cX3_asks 13 = .ok (.aload_n 0, 1) := by decide +kernel
theorem dX3_asks_14 : decode cX3_asks 14 = .ok (.iload_n 1, 1) := by decide +kernel
theorem dX3_asks_15 : decode cX3_asks 15 = .ok (.invokevirtual 305, 3) := by decide +kernel
theorem dX3_asks_18 : decode cX3_asks 18 = .ok (.istore_n 2, 1) := by decide +kernel
theorem dX3_asks_19 : decode cX3_asks 19 = .ok (.iload_n 2, 1) := by decide +kernel
theorem dX3_asks_20 : decode cX3_asks 20 = .ok (.ifCond .ge 5, 3) := by decide +kernel
theorem dX3_asks_23 : decode cX3_asks 23 = .ok (.iconst 0, 1) := by decide +kernel
theorem dX3_asks_24 : decode cX3_asks 24 = .ok (.ireturn, 1) := by decide +kernel
theorem dX3_asks_25 : decode cX3_asks 25 = .ok (.aload_n 0, 1) := by decide +kernel
theorem dX3_asks_26 : decode cX3_asks 26 = .ok (.getfield 68, 3) := by decide +kernel
theorem dX3_asks_29 : decode cX3_asks 29 = .ok (.iload_n 1, 1) := by decide +kernel
theorem dX3_asks_30 : decode cX3_asks 30 = .ok (.dup2, 1) := by decide +kernel
theorem dX3_asks_31 : decode cX3_asks 31 = .ok (.iaload, 1) := by decide +kernel
theorem dX3_asks_32 : decode cX3_asks 32 = .ok (.iconst 1, 1) := by decide +kernel
theorem dX3_asks_33 : decode cX3_asks 33 = .ok (.iload_n 2, 1) := by decide +kernel
theorem dX3_asks_34 : decode cX3_asks 34 = .ok (.ishl, 1) := by decide +kernel
theorem dX3_asks_35 : decode cX3_asks 35 = .ok (.ior, 1) := by decide +kernel
theorem dX3_asks_36 : decode cX3_asks 36 = .ok (.iastore, 1) := by decide +kernel
theorem dX3_asks_37 : decode cX3_asks 37 = .ok (.aload_n 0, 1) := by decide +kernel
theorem dX3_asks_38 : decode cX3_asks 38 = .ok (.iload_n 1, 1) := by decide +kernel
theorem dX3_asks_39 : decode cX3_asks 39 = .ok (.aload_n 0, 1) := by decide +kernel
theorem dX3_asks_40 : decode cX3_asks 40 = .ok (.getfield 71, 3) := by decide +kernel
theorem dX3_asks_43 : decode cX3_asks 43 = .ok (.iload_n 2, 1) := by decide +kernel
theorem dX3_asks_44 : decode cX3_asks 44 = .ok (.iaload, 1) := by decide +kernel
theorem dX3_asks_45 : decode cX3_asks 45 = .ok (.invokevirtual 308, 3) := by decide +kernel
theorem dX3_asks_48 : decode cX3_asks 48 = .ok (.ifCond .eq 10, 3) := by decide +kernel
theorem dX3_asks_51 : decode cX3_asks 51 = .ok (.aload_n 0, 1) := by decide +kernel
theorem dX3_asks_52 : decode cX3_asks 52 = .ok (.getfield 71, 3) := by decide +kernel
theorem dX3_asks_55 : decode cX3_asks 55 = .ok (.iload_n 2, 1) := by decide +kernel
theorem dX3_asks_56 : decode cX3_asks 56 = .ok (.iload_n 1, 1) := by decide +kernel
theorem dX3_asks_57 : decode cX3_asks 57 = .ok (.iastore, 1) := by decide +kernel
theorem dX3_asks_58 : decode cX3_asks 58 = .ok (.iconst 1, 1) := by decide +kernel
theorem dX3_asks_59 : decode cX3_asks 59 = .ok (.ireturn, 1) := by decide +kernel
theorem dX3_stable_0 : decode cX3_stable 0 = .ok (.aload_n 0, 1) := by decide +kernel
theorem dX3_stable_1 : decode cX3_stable 1 = .ok (.iload_n 1, 1) := by decide +kernel
theorem dX3_stable_2 : decode cX3_stable 2 = .ok (.invokevirtual 91, 3) := by decide +kernel
theorem dX3_stable_5 : decode cX3_stable 5 = .ok (.ifCond .ne 9, 3) := by decide +kernel
theorem dX3_stable_8 : decode cX3_stable 8 = .ok (.aload_n 0, 1) := by decide +kernel
theorem dX3_stable_9 : decode cX3_stable 9 = .ok (.iconst (-1), 1) := by decide +kernel
theorem dX3_stable_10 : decode cX3_stable 10 = .ok (.invokevirtual 102, 3) := by decide +kernel
theorem dX3_stable_13 : decode cX3_stable 13 = .ok (.ireturn, 1) := by decide +kernel
theorem dX3_stable_14 : decode cX3_stable 14 = .ok (.iconst 0, 1) := by decide +kernel
theorem dX3_stable_15 : decode cX3_stable 15 = .ok (.istore_n 2, 1) := by decide +kernel
theorem dX3_stable_16 : decode cX3_stable 16 = .ok (.iload_n 2, 1) := by decide +kernel
theorem dX3_stable_17 : decode cX3_stable 17 = .ok (.iconst 5, 1) := by decide +kernel
theorem dX3_stable_18 : decode cX3_stable 18 = .ok (.if_icmp .ge 16, 3) := by decide +kernel
theorem dX3_stable_21 : decode cX3_stable 21 = .ok (.aload_n 0, 1) := by decide +kernel
theorem dX3_stable_22 : decode cX3_stable 22 = .ok (.getfield 68, 3) := by decide +kernel
theorem dX3_stable_25 : decode cX3_stable 25 = .ok (.iload_n 2, 1) := by decide +kernel
theorem dX3_stable_26 : decode cX3_stable 26 = .ok (.iconst 0, 1) := by decide +kernel
theorem dX3_stable_27 : decode cX3_stable 27 = .ok (.iastore, 1) := by decide +kernel
theorem dX3_stable_28 : decode cX3_stable 28 = .ok (.iinc 2 1, 3) := by decide +kernel
theorem dX3_stable_31 : decode cX3_stable 31 = .ok (.goto (-15), 3) := by decide +kernel
theorem dX3_stable_34 : decode cX3_stable 34 = .ok (.iconst 0, 1) := by decide +kernel
theorem dX3_stable_35 : decode cX3_stable 35 = .ok (.istore_n 2, 1) := by decide +kernel
theorem dX3_stable_36 : decode cX3_stable 36 = .ok (.iload_n 2, 1) := by decide +kernel
theorem dX3_stable_37 : decode cX3_stable 37 = .ok (.bipush 6, 2) := by decide +kernel
theorem dX3_stable_39 : decode cX3_stable 39 = .ok (.if_icmp .ge 17, 3) := by decide +kernel
theorem dX3_stable_42 : decode cX3_stable 42 = .ok (.aload_n 0, 1) := by decide +kernel
theorem dX3_stable_43 : decode cX3_stable 43 = .ok (.getfield 71, 3) := by decide +kernel
theorem dX3_stable_46 : decode cX3_stable 46 = .ok (.iload_n 2, 1) := by decide +kernel
theorem dX3_stable_47 : decode cX3_stable 47 = .ok (.bipush 9, 2) := by decide +kernel
theorem dX3_stable_49 : decode cX3_stable 49 = .ok (.iastore, 1) := by decide +kernel
theorem dX3_stable_50 : decode cX3_stable 50 = .ok (.iinc 2 1, 3) := by decide +kernel
theorem dX3_stable_53 : decode cX3_stable 53 = .ok (.goto (-17), 3) := by decide +kernel
theorem dX3_stable_56 : decode cX3_stable 56 = .ok (.iconst 1, 1) := by decide +kernel
theorem dX3_stable_57 : decode cX3_stable 57 = .ok (.istore_n 2, 1) := by decide +kernel
theorem dX3_stable_58 : decode cX3_stable 58 = .ok (.iload_n 2, 1) := by decide +kernel
theorem dX3_stable_59 : decode cX3_stable 59 = .ok (.ifCond .eq 32, 3) := by decide +kernel
theorem dX3_stable_62 : decode cX3_stable 62 = .ok (.iconst 0, 1) := by decide +kernel
theorem dX3_stable_63 : decode cX3_stable 63 = .ok (.istore_n 2, 1) := by decide +kernel
theorem dX3_stable_64 : decode cX3_stable 64 = .ok (.iconst 0, 1) := by decide +kernel
theorem dX3_stable_65 : decode cX3_stable 65 = .ok (.istore_n 3, 1) := by decide +kernel
theorem dX3_stable_66 : decode cX3_stable 66 = .ok (.iload_n 3, 1) := by decide +kernel
theorem dX3_stable_67 : decode cX3_stable 67 = .ok (.aload_n 0, 1) := by decide +kernel
theorem dX3_stable_68 : decode cX3_stable 68 = .ok (.getfield 88, 3) := by decide +kernel
theorem dX3_stable_71 : decode cX3_stable 71 = .ok (.if_icmp .ge 17, 3) := by decide +kernel
theorem dX3_stable_74 : decode cX3_stable 74 = .ok (.iload_n 2, 1) := by decide +kernel
theorem dX3_stable_75 : decode cX3_stable 75 = .ok (.aload_n 0, 1) := by decide +kernel
theorem dX3_stable_76 : decode cX3_stable 76 = .ok (.iload_n 3, 1) := by decide +kernel
theorem dX3_stable_77 : decode cX3_stable 77 = .ok (.invokevirtual 311, 3) := by decide +kernel
theorem dX3_stable_80 : decode cX3_stable 80 = .ok (.ior, 1) := by decide +kernel
theorem dX3_stable_81 : decode cX3_stable 81 = .ok (.istore_n 2, 1) := by decide +kernel
theorem dX3_stable_82 : decode cX3_stable 82 = .ok (.iinc 3 1, 3) := by decide +kernel
theorem dX3_stable_85 : decode cX3_stable 85 = .ok (.goto (-19), 3) := by decide +kernel
theorem dX3_stable_88 : decode cX3_stable 88 = .ok (.goto (-30), 3) := by decide +kernel
theorem dX3_stable_91 : decode cX3_stable 91 = .ok (.iconst 0, 1) := by decide +kernel
theorem dX3_stable_92 : decode cX3_stable 92 = .ok (.istore_n 3, 1) := by decide +kernel
theorem dX3_stable_93 : decode cX3_stable 93 = .ok (.iload_n 3, 1) := by decide +kernel
theorem dX3_stable_94 : decode cX3_stable 94 = .ok (.aload_n 0, 1) := by decide +kernel
theorem dX3_stable_95 : decode cX3_stable 95 = .ok (.getfield 83, 3) := by decide +kernel
theorem dX3_stable_98 : decode cX3_stable 98 = .ok (.if_icmp .ge 21, 3) := by decide +kernel
theorem dX3_stable_101 : decode cX3_stable 101 = .ok (.aload_n 0, 1) := by decide +kernel
theorem dX3_stable_102 : decode cX3_stable 102 = .ok (.getfield 71, 3) := by decide +kernel
theorem dX3_stable_105 : decode cX3_stable 105 = .ok (.iload_n 3, 1) := by decide +kernel
theorem dX3_stable_106 : decode cX3_stable 106 = .ok (.iaload, 1) := by decide +kernel
theorem dX3_stable_107 : decode cX3_stable 107 = .ok (.iload_n 1, 1) := by decide +kernel
theorem dX3_stable_108 : decode cX3_stable 108 = .ok (.if_icmp .ne 5, 3) := by decide +kernel
theorem dX3_stable_111 : decode cX3_stable 111 = .ok (.iload_n 3, 1) := by decide +kernel
theorem dX3_stable_112 : decode cX3_stable 112 = .ok (.ireturn, 1) := by decide +kernel
theorem dX3_stable_113 : decode cX3_stable 113 = .ok (.iinc 3 1, 3) := by decide +kernel
theorem dX3_stable_116 : decode cX3_stable 116 = .ok (.goto (-23), 3) := by decide +kernel
theorem dX3_stable_119 : decode cX3_stable 119 = .ok (.bipush (-9), 2) := by decide +kernel
theorem dX3_stable_121 : decode cX3_stable 121 = .ok (.ireturn, 1) := by decide +kernel
theorem dX3_walksSo_0 : decode cX3_walksSo 0 = .ok (.aload_n 0, 1) := by decide +kernel
theorem dX3_walksSo_1 : decode cX3_walksSo 1 = .ok (.invokevirtual 238, 3) := by decide +kernel
theorem dX3_walksSo_4 : decode cX3_walksSo 4 = .ok (.iconst 1, 1) := by decide +kernel
theorem dX3_walksSo_5 : decode cX3_walksSo 5 = .ok (.istore_n 2, 1) := by decide +kernel
theorem dX3_walksSo_6 : decode cX3_walksSo 6 = .ok (.iconst 0, 1) := by decide +kernel
theorem dX3_walksSo_7 : decode cX3_walksSo 7 = .ok (.istore_n 3, 1) := by decide +kernel
theorem dX3_walksSo_8 : decode cX3_walksSo 8 = .ok (.iload_n 3, 1) := by decide +kernel
theorem dX3_walksSo_9 : decode cX3_walksSo 9 = .ok (.aload_n 0, 1) := by decide +kernel
theorem dX3_walksSo_10 : decode cX3_walksSo 10 = .ok (.getfield 314, 3) := by decide +kernel
theorem dX3_walksSo_13 : decode cX3_walksSo 13 = .ok (.if_icmp .ge 39, 3) := by decide +kernel
theorem dX3_walksSo_16 : decode cX3_walksSo 16 = .ok (.iload_n 2, 1) := by decide +kernel
theorem dX3_walksSo_17 : decode cX3_walksSo 17 = .ok (.ifCond .eq 35, 3) := by decide +kernel
theorem dX3_walksSo_20 : decode cX3_walksSo 20 = .ok (.aload_n 0, 1) := by decide +kernel
theorem dX3_walksSo_21 : decode cX3_walksSo 21 = .ok (.getfield 34, 3) := by decide +kernel
theorem dX3_walksSo_24 : decode cX3_walksSo 24 = .ok (.iload_n 1, 1) := by decide +kernel
theorem dX3_walksSo_25 : decode cX3_walksSo 25 = .ok (.iaload, 1) := by decide +kernel
theorem dX3_walksSo_26 : decode cX3_walksSo 26 = .ok (.aload_n 0, 1) := by decide +kernel
theorem dX3_walksSo_27 : decode cX3_walksSo 27 = .ok (.getfield 74, 3) := by decide +kernel
theorem dX3_walksSo_30 : decode cX3_walksSo 30 = .ok (.iload_n 3, 1) := by decide +kernel
theorem dX3_walksSo_31 : decode cX3_walksSo 31 = .ok (.iaload, 1) := by decide +kernel
theorem dX3_walksSo_32 : decode cX3_walksSo 32 = .ok (.if_icmp .ne 7, 3) := by decide +kernel
theorem dX3_walksSo_35 : decode cX3_walksSo 35 = .ok (.iconst 1, 1) := by decide +kernel
theorem dX3_walksSo_36 : decode cX3_walksSo 36 = .ok (.goto 4, 3) := by decide +kernel
theorem dX3_walksSo_39 : decode cX3_walksSo 39 = .ok (.iconst 0, 1) := by decide +kernel
theorem dX3_walksSo_40 : decode cX3_walksSo 40 = .ok (.istore_n 2, 1) := by decide +kernel
theorem dX3_walksSo_41 : decode cX3_walksSo 41 = .ok (.aload_n 0, 1) := by decide +kernel
theorem dX3_walksSo_42 : decode cX3_walksSo 42 = .ok (.iconst 0, 1) := by decide +kernel
theorem dX3_walksSo_43 : decode cX3_walksSo 43 = .ok (.invokevirtual 130, 3) := by decide +kernel
theorem dX3_walksSo_46 : decode cX3_walksSo 46 = .ok (.iinc 3 1, 3) := by decide +kernel
theorem dX3_walksSo_49 : decode cX3_walksSo 49 = .ok (.goto (-41), 3) := by decide +kernel
theorem dX3_walksSo_52 : decode cX3_walksSo 52 = .ok (.aload_n 0, 1) := by decide +kernel
theorem dX3_walksSo_53 : decode cX3_walksSo 53 = .ok (.invokevirtual 241, 3) := by decide +kernel
theorem dX3_walksSo_56 : decode cX3_walksSo 56 = .ok (.iload_n 2, 1) := by decide +kernel
theorem dX3_walksSo_57 : decode cX3_walksSo 57 = .ok (.ireturn, 1) := by decide +kernel
theorem dX3_bitsFor_0 : decode cX3_bitsFor 0 = .ok (.aload_n 2, 1) := by decide +kernel
theorem dX3_bitsFor_1 : decode cX3_bitsFor 1 = .ok (.iload_n 3, 1) := by decide +kernel
theorem dX3_bitsFor_2 : decode cX3_bitsFor 2 = .ok (.iaload, 1) := by decide +kernel
theorem dX3_bitsFor_3 : decode cX3_bitsFor 3 = .ok (.istore 5, 2) := by decide +kernel
theorem dX3_bitsFor_5 : decode cX3_bitsFor 5 = .ok (.iconst 0, 1) := by decide +kernel
theorem dX3_bitsFor_6 : decode cX3_bitsFor 6 = .ok (.istore 6, 2) := by decide +kernel
theorem dX3_bitsFor_8 : decode cX3_bitsFor 8 = .ok (.iconst 0, 1) := by decide +kernel
theorem dX3_bitsFor_9 : decode cX3_bitsFor 9 = .ok (.istore 7, 2) := by decide +kernel
theorem dX3_bitsFor_11 : decode cX3_bitsFor 11 = .ok (.iload 7, 2) := by decide +kernel
theorem dX3_bitsFor_13 : decode cX3_bitsFor 13 = .ok (.iload 4, 2) := by decide +kernel
theorem dX3_bitsFor_15 : decode cX3_bitsFor 15 = .ok (.if_icmp .ge 35, 3) := by decide +kernel
theorem dX3_bitsFor_18 : decode cX3_bitsFor 18 = .ok (.aload_n 2, 1) := by decide +kernel
theorem dX3_bitsFor_19 : decode cX3_bitsFor 19 = .ok (.iload_n 3, 1) := by decide +kernel
theorem dX3_bitsFor_20 : decode cX3_bitsFor 20 = .ok (.iload 7, 2) := by decide +kernel
theorem dX3_bitsFor_22 : decode cX3_bitsFor 22 = .ok (.iastore, 1) := by decide +kernel
theorem dX3_bitsFor_23 : decode cX3_bitsFor 23 = .ok (.iload 6, 2) := by decide +kernel
theorem dX3_bitsFor_25 : decode cX3_bitsFor 25 = .ok (.aload_n 0, 1) := by decide +kernel
theorem dX3_bitsFor_26 : decode cX3_bitsFor 26 = .ok (.iload_n 1, 1) := by decide +kernel
theorem dX3_bitsFor_27 : decode cX3_bitsFor 27 = .ok (.invokevirtual 317, 3) := by decide +kernel
theorem dX3_bitsFor_30 : decode cX3_bitsFor 30 = .ok (.ifCond .eq 10, 3) := by decide +kernel
theorem dX3_bitsFor_33 : decode cX3_bitsFor 33 = .ok (.iconst 1, 1) := by decide +kernel
theorem dX3_bitsFor_34 : decode cX3_bitsFor 34 = .ok (.iload 7, 2) := by decide +kernel
theorem dX3_bitsFor_36 : decode cX3_bitsFor 36 = .ok (.ishl, 1) := by decide +kernel
theorem dX3_bitsFor_37 : decode cX3_bitsFor 37 = .ok (.goto 4, 3) := by decide +kernel
theorem dX3_bitsFor_40 : decode cX3_bitsFor 40 = .ok (.iconst 0, 1) := by decide +kernel
theorem dX3_bitsFor_41 : decode cX3_bitsFor 41 = .ok (.ior, 1) := by decide +kernel
theorem dX3_bitsFor_42 : decode cX3_bitsFor 42 = .ok (.istore 6, 2) := by decide +kernel
theorem dX3_bitsFor_44 : decode cX3_bitsFor 44 = .ok (.iinc 7 1, 3) := by decide +kernel
theorem dX3_bitsFor_47 : decode cX3_bitsFor 47 = .ok (.goto (-36), 3) := by decide +kernel
theorem dX3_bitsFor_50 : decode cX3_bitsFor 50 = .ok (.aload_n 2, 1) := by decide +kernel
theorem dX3_bitsFor_51 : decode cX3_bitsFor 51 = .ok (.iload_n 3, 1) := by decide +kernel
theorem dX3_bitsFor_52 : decode cX3_bitsFor 52 = .ok (.iload 5, 2) := by decide +kernel
theorem dX3_bitsFor_54 : decode cX3_bitsFor 54 = .ok (.iastore, 1) := by decide +kernel
theorem dX3_bitsFor_55 : decode cX3_bitsFor 55 = .ok (.iload 6, 2) := by decide +kernel
theorem dX3_bitsFor_57 : decode cX3_bitsFor 57 = .ok (.ireturn, 1) := by decide +kernel
theorem dX3_whose_0 : decode cX3_whose 0 = .ok (.aload_n 0, 1) := by decide +kernel
theorem dX3_whose_1 : decode cX3_whose 1 = .ok (.iload_n 1, 1) := by decide +kernel
theorem dX3_whose_2 : decode cX3_whose 2 = .ok (.invokevirtual 91, 3) := by decide +kernel
theorem dX3_whose_5 : decode cX3_whose 5 = .ok (.ifCond .ne 7, 3) := by decide +kernel
theorem dX3_whose_8 : decode cX3_whose 8 = .ok (.iconst (-1), 1) := by decide +kernel
theorem dX3_whose_9 : decode cX3_whose 9 = .ok (.goto 18, 3) := by decide +kernel
theorem dX3_whose_12 : decode cX3_whose 12 = .ok (.iload_n 2, 1) := by decide +kernel
theorem dX3_whose_13 : decode cX3_whose 13 = .ok (.iconst 0, 1) := by decide +kernel
theorem dX3_whose_14 : decode cX3_whose 14 = .ok (.iconst 3, 1) := by decide +kernel
theorem dX3_whose_15 : decode cX3_whose 15 = .ok (.invokestatic 113, 3) := by decide +kernel
theorem dX3_whose_18 : decode cX3_whose 18 = .ok (.ifCond .ne 8, 3) := by decide +kernel
theorem dX3_whose_21 : decode cX3_whose 21 = .ok (.bipush (-2), 2) := by decide +kernel
theorem dX3_whose_23 : decode cX3_whose 23 = .ok (.goto 4, 3) := by decide +kernel
theorem dX3_whose_26 : decode cX3_whose 26 = .ok (.iconst 0, 1) := by decide +kernel
theorem dX3_whose_27 : decode cX3_whose 27 = .ok (.istore_n 3, 1) := by decide +kernel
theorem dX3_whose_28 : decode cX3_whose 28 = .ok (.iload_n 3, 1) := by decide +kernel
theorem dX3_whose_29 : decode cX3_whose 29 = .ok (.ifCond .eq 9, 3) := by decide +kernel
theorem dX3_whose_32 : decode cX3_whose 32 = .ok (.aload_n 0, 1) := by decide +kernel
theorem dX3_whose_33 : decode cX3_whose 33 = .ok (.iload_n 3, 1) := by decide +kernel
theorem dX3_whose_34 : decode cX3_whose 34 = .ok (.invokevirtual 102, 3) := by decide +kernel
theorem dX3_whose_37 : decode cX3_whose 37 = .ok (.ireturn, 1) := by decide +kernel
theorem dX3_whose_38 : decode cX3_whose 38 = .ok (.aload_n 0, 1) := by decide +kernel
theorem dX3_whose_39 : decode cX3_whose 39 = .ok (.getfield 37, 3) := by decide +kernel
theorem dX3_whose_42 : decode cX3_whose 42 = .ok (.iload_n 1, 1) := by decide +kernel
theorem dX3_whose_43 : decode cX3_whose 43 = .ok (.iaload, 1) := by decide +kernel
theorem dX3_whose_44 : decode cX3_whose 44 = .ok (.bipush 9, 2) := by decide +kernel
theorem dX3_whose_46 : decode cX3_whose 46 = .ok (.if_icmp .ne 5, 3) := by decide +kernel
theorem dX3_whose_49 : decode cX3_whose 49 = .ok (.iconst 0, 1) := by decide +kernel
theorem dX3_whose_50 : decode cX3_whose 50 = .ok (.ireturn, 1) := by decide +kernel
theorem dX3_whose_51 : decode cX3_whose 51 = .ok (.aload_n 0, 1) := by decide +kernel
theorem dX3_whose_52 : decode cX3_whose 52 = .ok (.getfield 37, 3) := by decide +kernel
theorem dX3_whose_55 : decode cX3_whose 55 = .ok (.iload_n 1, 1) := by decide +kernel
theorem dX3_whose_56 : decode cX3_whose 56 = .ok (.iaload, 1) := by decide +kernel
theorem dX3_whose_57 : decode cX3_whose 57 = .ok (.istore 4, 2) := by decide +kernel
theorem dX3_whose_59 : decode cX3_whose 59 = .ok (.iload_n 2, 1) := by decide +kernel
theorem dX3_whose_60 : decode cX3_whose 60 = .ok (.iconst 3, 1) := by decide +kernel
theorem dX3_whose_61 : decode cX3_whose 61 = .ok (.if_icmp .ne 16, 3) := by decide +kernel
theorem dX3_whose_64 : decode cX3_whose 64 = .ok (.aload_n 0, 1) := by decide +kernel
theorem dX3_whose_65 : decode cX3_whose 65 = .ok (.iload_n 1, 1) := by decide +kernel
theorem dX3_whose_66 : decode cX3_whose 66 = .ok (.aload_n 0, 1) := by decide +kernel
theorem dX3_whose_67 : decode cX3_whose 67 = .ok (.getfield 28, 3) := by decide +kernel
theorem dX3_whose_70 : decode cX3_whose 70 = .ok (.iload_n 1, 1) := by decide +kernel
theorem dX3_whose_71 : decode cX3_whose 71 = .ok (.bipush 10, 2) := by decide +kernel
theorem dX3_whose_73 : decode cX3_whose 73 = .ok (.invokevirtual 320, 3) := by decide +kernel
theorem dX3_whose_76 : decode cX3_whose 76 = .ok (.ireturn, 1) := by decide +kernel
theorem dX3_whose_77 : decode cX3_whose 77 = .ok (.iload_n 2, 1) := by decide +kernel
theorem dX3_whose_78 : decode cX3_whose 78 = .ok (.ifCond .ne 19, 3) := by decide +kernel
theorem dX3_whose_81 : decode cX3_whose 81 = .ok (.aload_n 0, 1) := by decide +kernel
theorem dX3_whose_82 : decode cX3_whose 82 = .ok (.iload_n 1, 1) := by decide +kernel
theorem dX3_whose_83 : decode cX3_whose 83 = .ok (.aload_n 0, 1) := by decide +kernel
theorem dX3_whose_84 : decode cX3_whose 84 = .ok (.getfield 13, 3) := by decide +kernel
theorem dX3_whose_87 : decode cX3_whose 87 = .ok (.iload 4, 2) := by decide +kernel
theorem dX3_whose_89 : decode cX3_whose 89 = .ok (.bipush 6, 2) := by decide +kernel
theorem dX3_whose_91 : decode cX3_whose 91 = .ok (.invokevirtual 320, 3) := by decide +kernel
theorem dX3_whose_94 : decode cX3_whose 94 = .ok (.goto 28, 3) := by decide +kernel
theorem dX3_whose_97 : decode cX3_whose 97 = .ok (.aload_n 0, 1) := by decide +kernel
theorem dX3_whose_98 : decode cX3_whose 98 = .ok (.iload_n 1, 1) := by decide +kernel
theorem dX3_whose_99 : decode cX3_whose 99 = .ok (.iload_n 2, 1) := by decide +kernel
theorem dX3_whose_100 : decode cX3_whose 100 = .ok (.iconst 1, 1) := by decide +kernel
theorem dX3_whose_101 : decode cX3_whose 101 = .ok (.if_icmp .ne 10, 3) := by decide +kernel
theorem dX3_whose_104 : decode cX3_whose 104 = .ok (.aload_n 0, 1) := by decide +kernel
theorem dX3_whose_105 : decode cX3_whose 105 = .ok (.getfield 16, 3) := by decide +kernel
theorem dX3_whose_108 : decode cX3_whose 108 = .ok (.goto 7, 3) := by decide +kernel
theorem dX3_whose_111 : decode cX3_whose 111 = .ok (.aload_n 0, 1) := by decide +kernel
theorem dX3_whose_112 : decode cX3_whose 112 = .ok (.getfield 19, 3) := by decide +kernel
theorem dX3_whose_115 : decode cX3_whose 115 = .ok (.iload 4, 2) := by decide +kernel
theorem dX3_whose_117 : decode cX3_whose 117 = .ok (.bipush 10, 2) := by decide +kernel
theorem dX3_whose_119 : decode cX3_whose 119 = .ok (.invokevirtual 320, 3) := by decide +kernel
theorem dX3_whose_122 : decode cX3_whose 122 = .ok (.ireturn, 1) := by decide +kernel
theorem dX3_atIn_0 : decode cX3_atIn 0 = .ok (.aload_n 0, 1) := by decide +kernel
theorem dX3_atIn_1 : decode cX3_atIn 1 = .ok (.invokevirtual 238, 3) := by decide +kernel
theorem dX3_atIn_4 : decode cX3_atIn 4 = .ok (.aload_n 0, 1) := by decide +kernel
theorem dX3_atIn_5 : decode cX3_atIn 5 = .ok (.iload_n 2, 1) := by decide +kernel
theorem dX3_atIn_6 : decode cX3_atIn 6 = .ok (.invokevirtual 232, 3) := by decide +kernel
theorem dX3_atIn_9 : decode cX3_atIn 9 = .ok (.aload_n 0, 1) := by decide +kernel
theorem dX3_atIn_10 : decode cX3_atIn 10 = .ok (.getfield 34, 3) := by decide +kernel
theorem dX3_atIn_13 : decode cX3_atIn 13 = .ok (.iload_n 1, 1) := by decide +kernel
theorem dX3_atIn_14 : decode cX3_atIn 14 = .ok (.iaload, 1) := by decide +kernel
theorem dX3_atIn_15 : decode cX3_atIn 15 = .ok (.istore_n 3, 1) := by decide +kernel
theorem dX3_atIn_16 : decode cX3_atIn 16 = .ok (.aload_n 0, 1) := by decide +kernel
theorem dX3_atIn_17 : decode cX3_atIn 17 = .ok (.invokevirtual 241, 3) := by decide +kernel
theorem dX3_atIn_20 : decode cX3_atIn 20 = .ok (.iload_n 3, 1) := by decide +kernel
theorem dX3_atIn_21 : decode cX3_atIn 21 = .ok (.ireturn, 1) := by decide +kernel
theorem dX3_unlikeBy_0 : decode cX3_unlikeBy 0 = .ok (.aload_n 0, 1) := by decide +kernel
theorem dX3_unlikeBy_1 : decode cX3_unlikeBy 1 = .ok (.getfield 37, 3) := by decide +kernel
theorem dX3_unlikeBy_4 : decode cX3_unlikeBy 4 = .ok (.iload_n 1, 1) := by decide +kernel
theorem dX3_unlikeBy_5 : decode cX3_unlikeBy 5 = .ok (.iaload, 1) := by decide +kernel
theorem dX3_unlikeBy_6 : decode cX3_unlikeBy 6 = .ok (.istore_n 3, 1) := by decide +kernel
theorem dX3_unlikeBy_7 : decode cX3_unlikeBy 7 = .ok (.aload_n 0, 1) := by decide +kernel
theorem dX3_unlikeBy_8 : decode cX3_unlikeBy 8 = .ok (.getfield 13, 3) := by decide +kernel
theorem dX3_unlikeBy_11 : decode cX3_unlikeBy 11 = .ok (.iload_n 3, 1) := by decide +kernel
theorem dX3_unlikeBy_12 : decode cX3_unlikeBy 12 = .ok (.iaload, 1) := by decide +kernel
theorem dX3_unlikeBy_13 : decode cX3_unlikeBy 13 = .ok (.istore 4, 2) := by decide +kernel
theorem dX3_unlikeBy_15 : decode cX3_unlikeBy 15 = .ok (.iconst 0, 1) := by decide +kernel
theorem dX3_unlikeBy_16 : decode cX3_unlikeBy 16 = .ok (.istore 5, 2) := by decide +kernel
theorem dX3_unlikeBy_18 : decode cX3_unlikeBy 18 = .ok (.iconst 0, 1) := by decide +kernel
theorem dX3_unlikeBy_19 : decode cX3_unlikeBy 19 = .ok (.istore 6, 2) := by decide +kernel
theorem dX3_unlikeBy_21 : decode cX3_unlikeBy 21 = .ok (.iload 6, 2) := by decide +kernel
theorem dX3_unlikeBy_23 : decode cX3_unlikeBy 23 = .ok (.bipush 6, 2) := by decide +kernel
theorem dX3_unlikeBy_25 : decode cX3_unlikeBy 25 = .ok (.if_icmp .ge 30, 3) := by decide +kernel
theorem dX3_unlikeBy_28 : decode cX3_unlikeBy 28 = .ok (.aload_n 0, 1) := by decide +kernel
theorem dX3_unlikeBy_29 : decode cX3_unlikeBy 29 = .ok (.getfield 13, 3) := by decide +kernel
theorem dX3_unlikeBy_32 : decode cX3_unlikeBy 32 = .ok (.iload_n 3, 1) := by decide +kernel
theorem dX3_unlikeBy_33 : decode cX3_unlikeBy 33 = .ok (.iload 6, 2) := by decide +kernel
theorem dX3_unlikeBy_35 : decode cX3_unlikeBy 35 = .ok (.iastore, 1) := by decide +kernel
theorem dX3_unlikeBy_36 : decode cX3_unlikeBy 36 = .ok (.iload 5, 2) := by decide +kernel
theorem dX3_unlikeBy_38 : decode cX3_unlikeBy 38 = .ok (.iconst 1, 1) := by decide +kernel
theorem dX3_unlikeBy_39 : decode cX3_unlikeBy 39 = .ok (.aload_n 0, 1) := by decide +kernel
theorem dX3_unlikeBy_40 : decode cX3_unlikeBy 40 = .ok (.iload_n 1, 1) := by decide +kernel
theorem dX3_unlikeBy_41 : decode cX3_unlikeBy 41 = .ok (.iload_n 2, 1) := by decide +kernel
theorem dX3_unlikeBy_42 : decode cX3_unlikeBy 42 = .ok (.invokevirtual 324, 3) := by decide +kernel
theorem dX3_unlikeBy_45 : decode cX3_unlikeBy 45 = .ok (.ishl, 1) := by decide +kernel
theorem dX3_unlikeBy_46 : decode cX3_unlikeBy 46 = .ok (.ior, 1) := by decide +kernel
theorem dX3_unlikeBy_47 : decode cX3_unlikeBy 47 = .ok (.istore 5, 2) := by decide +kernel
theorem dX3_unlikeBy_49 : decode cX3_unlikeBy 49 = .ok (.iinc 6 1, 3) := by decide +kernel
theorem dX3_unlikeBy_52 : decode cX3_unlikeBy 52 = .ok (.goto (-31), 3) := by decide +kernel
theorem dX3_unlikeBy_55 : decode cX3_unlikeBy 55 = .ok (.aload_n 0, 1) := by decide +kernel
theorem dX3_unlikeBy_56 : decode cX3_unlikeBy 56 = .ok (.getfield 13, 3) := by decide +kernel
theorem dX3_unlikeBy_59 : decode cX3_unlikeBy 59 = .ok (.iload_n 3, 1) := by decide +kernel
theorem dX3_unlikeBy_60 : decode cX3_unlikeBy 60 = .ok (.iload 4, 2) := by decide +kernel
theorem dX3_unlikeBy_62 : decode cX3_unlikeBy 62 = .ok (.iastore, 1) := by decide +kernel
theorem dX3_unlikeBy_63 : decode cX3_unlikeBy 63 = .ok (.iconst 0, 1) := by decide +kernel
theorem dX3_unlikeBy_64 : decode cX3_unlikeBy 64 = .ok (.istore 6, 2) := by decide +kernel
theorem dX3_unlikeBy_66 : decode cX3_unlikeBy 66 = .ok (.iconst 0, 1) := by decide +kernel
theorem dX3_unlikeBy_67 : decode cX3_unlikeBy 67 = .ok (.istore 7, 2) := by decide +kernel
theorem dX3_unlikeBy_69 : decode cX3_unlikeBy 69 = .ok (.iload 7, 2) := by decide +kernel
theorem dX3_unlikeBy_71 : decode cX3_unlikeBy 71 = .ok (.bipush 10, 2) := by decide +kernel
theorem dX3_unlikeBy_73 : decode cX3_unlikeBy 73 = .ok (.if_icmp .ge 21, 3) := by decide +kernel
theorem dX3_unlikeBy_76 : decode cX3_unlikeBy 76 = .ok (.iload 6, 2) := by decide +kernel
theorem dX3_unlikeBy_78 : decode cX3_unlikeBy 78 = .ok (.iload 5, 2) := by decide +kernel
theorem dX3_unlikeBy_80 : decode cX3_unlikeBy 80 = .ok (.iload 7, 2) := by decide +kernel
theorem dX3_unlikeBy_82 : decode cX3_unlikeBy 82 = .ok (.ishr, 1) := by decide +kernel
theorem dX3_unlikeBy_83 : decode cX3_unlikeBy 83 = .ok (.iconst 1, 1) := by decide +kernel
theorem dX3_unlikeBy_84 : decode cX3_unlikeBy 84 = .ok (.iand, 1) := by decide +kernel
theorem dX3_unlikeBy_85 : decode cX3_unlikeBy 85 = .ok (.iadd, 1) := by decide +kernel
theorem dX3_unlikeBy_86 : decode cX3_unlikeBy 86 = .ok (.istore 6, 2) := by decide +kernel
theorem dX3_unlikeBy_88 : decode cX3_unlikeBy 88 = .ok (.iinc 7 1, 3) := by decide +kernel
theorem dX3_unlikeBy_91 : decode cX3_unlikeBy 91 = .ok (.goto (-22), 3) := by decide +kernel
theorem dX3_unlikeBy_94 : decode cX3_unlikeBy 94 = .ok (.iload 6, 2) := by decide +kernel
theorem dX3_unlikeBy_96 : decode cX3_unlikeBy 96 = .ok (.ireturn, 1) := by decide +kernel
theorem dX3_nextTell_0 : decode cX3_nextTell 0 = .ok (.aload_n 0, 1) := by decide +kernel
theorem dX3_nextTell_1 : decode cX3_nextTell 1 = .ok (.iload_n 1, 1) := by decide +kernel
theorem dX3_nextTell_2 : decode cX3_nextTell 2 = .ok (.invokevirtual 91, 3) := by decide +kernel
theorem dX3_nextTell_5 : decode cX3_nextTell 5 = .ok (.ifCond .ne 7, 3) := by decide +kernel
theorem dX3_nextTell_8 : decode cX3_nextTell 8 = .ok (.iconst (-1), 1) := by decide +kernel
theorem dX3_nextTell_9 : decode cX3_nextTell 9 = .ok (.goto 7, 3) := by decide +kernel
theorem dX3_nextTell_12 : decode cX3_nextTell 12 = .ok (.iload_n 2, 1) := by decide +kernel
theorem dX3_nextTell_13 : decode cX3_nextTell 13 = .ok (.invokestatic 235, 3) := by decide +kernel
theorem dX3_nextTell_16 : decode cX3_nextTell 16 = .ok (.istore 4, 2) := by decide +kernel
theorem dX3_nextTell_18 : decode cX3_nextTell 18 = .ok (.iload 4, 2) := by decide +kernel
theorem dX3_nextTell_20 : decode cX3_nextTell 20 = .ok (.ifCond .ne 16, 3) := by decide +kernel
theorem dX3_nextTell_23 : decode cX3_nextTell 23 = .ok (.iload_n 3, 1) := by decide +kernel
theorem dX3_nextTell_24 : decode cX3_nextTell 24 = .ok (.iconst 0, 1) := by decide +kernel
theorem dX3_nextTell_25 : decode cX3_nextTell 25 = .ok (.iconst 1, 1) := by decide +kernel
theorem dX3_nextTell_26 : decode cX3_nextTell 26 = .ok (.invokestatic 113, 3) := by decide +kernel
theorem dX3_nextTell_29 : decode cX3_nextTell 29 = .ok (.ifCond .ne 7, 3) := by decide +kernel
theorem dX3_nextTell_32 : decode cX3_nextTell 32 = .ok (.bipush (-2), 2) := by decide +kernel
theorem dX3_nextTell_34 : decode cX3_nextTell 34 = .ok (.istore 4, 2) := by decide +kernel
theorem dX3_nextTell_36 : decode cX3_nextTell 36 = .ok (.iload 4, 2) := by decide +kernel
theorem dX3_nextTell_38 : decode cX3_nextTell 38 = .ok (.ifCond .eq 10, 3) := by decide +kernel
theorem dX3_nextTell_41 : decode cX3_nextTell 41 = .ok (.aload_n 0, 1) := by decide +kernel
theorem dX3_nextTell_42 : decode cX3_nextTell 42 = .ok (.iload 4, 2) := by decide +kernel
theorem dX3_nextTell_44 : decode cX3_nextTell 44 = .ok (.invokevirtual 102, 3) := by decide +kernel
theorem dX3_nextTell_47 : decode cX3_nextTell 47 = .ok (.ireturn, 1) := by decide +kernel
theorem dX3_nextTell_48 : decode cX3_nextTell 48 = .ok (.aload_n 0, 1) := by decide +kernel
theorem dX3_nextTell_49 : decode cX3_nextTell 49 = .ok (.getfield 37, 3) := by decide +kernel
theorem dX3_nextTell_52 : decode cX3_nextTell 52 = .ok (.iload_n 1, 1) := by decide +kernel
theorem dX3_nextTell_53 : decode cX3_nextTell 53 = .ok (.iaload, 1) := by decide +kernel
theorem dX3_nextTell_54 : decode cX3_nextTell 54 = .ok (.bipush 9, 2) := by decide +kernel
theorem dX3_nextTell_56 : decode cX3_nextTell 56 = .ok (.if_icmp .ne 5, 3) := by decide +kernel
theorem dX3_nextTell_59 : decode cX3_nextTell 59 = .ok (.iload_n 3, 1) := by decide +kernel
theorem dX3_nextTell_60 : decode cX3_nextTell 60 = .ok (.ireturn, 1) := by decide +kernel
theorem dX3_nextTell_61 : decode cX3_nextTell 61 = .ok (.aload_n 0, 1) := by decide +kernel
theorem dX3_nextTell_62 : decode cX3_nextTell 62 = .ok (.getfield 151, 3) := by decide +kernel
theorem dX3_nextTell_65 : decode cX3_nextTell 65 = .ok (.istore 5, 2) := by decide +kernel
theorem dX3_nextTell_67 : decode cX3_nextTell 67 = .ok (.iconst 0, 1) := by decide +kernel
theorem dX3_nextTell_68 : decode cX3_nextTell 68 = .ok (.istore 6, 2) := by decide +kernel
theorem dX3_nextTell_70 : decode cX3_nextTell 70 = .ok (.iconst 0, 1) := by decide +kernel
theorem dX3_nextTell_71 : decode cX3_nextTell 71 = .ok (.istore 7, 2) := by decide +kernel
theorem dX3_nextTell_73 : decode cX3_nextTell 73 = .ok (.iconst 0, 1) := by decide +kernel
theorem dX3_nextTell_74 : decode cX3_nextTell 74 = .ok (.istore 8, 2) := by decide +kernel
theorem dX3_nextTell_76 : decode cX3_nextTell 76 = .ok (.iload 8, 2) := by decide +kernel
theorem dX3_nextTell_78 : decode cX3_nextTell 78 = .ok (.bipush 10, 2) := by decide +kernel
theorem dX3_nextTell_80 : decode cX3_nextTell 80 = .ok (.if_icmp .ge 41, 3) := by decide +kernel
theorem dX3_nextTell_83 : decode cX3_nextTell 83 = .ok (.aload_n 0, 1) := by decide +kernel
theorem dX3_nextTell_84 : decode cX3_nextTell 84 = .ok (.iload 8, 2) := by decide +kernel
theorem dX3_nextTell_86 : decode cX3_nextTell 86 = .ok (.putfield 151, 3) := by decide +kernel
theorem dX3_nextTell_89 : decode cX3_nextTell 89 = .ok (.aload_n 0, 1) := by decide +kernel
theorem dX3_nextTell_90 : decode cX3_nextTell 90 = .ok (.iload_n 1, 1) := by decide +kernel
theorem dX3_nextTell_91 : decode cX3_nextTell 91 = .ok (.iload_n 2, 1) := by decide +kernel
theorem dX3_nextTell_92 : decode cX3_nextTell 92 = .ok (.invokevirtual 327, 3) := by decide +kernel
theorem dX3_nextTell_95 : decode cX3_nextTell 95 = .ok (.istore 9, 2) := by decide +kernel
theorem dX3_nextTell_97 : decode cX3_nextTell 97 = .ok (.iload 9, 2) := by decide +kernel
theorem dX3_nextTell_99 : decode cX3_nextTell 99 = .ok (.iload 7, 2) := by decide +kernel
theorem dX3_nextTell_101 : decode cX3_nextTell 101 = .ok (.if_icmp .gt 6, 3) := by decide +kernel
theorem dX3_nextTell_104 : decode cX3_nextTell 104 = .ok (.goto 11, 3) := by decide +kernel
theorem dX3_nextTell_107 : decode cX3_nextTell 107 = .ok (.iload 8, 2) := by decide +kernel
theorem dX3_nextTell_109 : decode cX3_nextTell 109 = .ok (.istore 6, 2) := by decide +kernel
theorem dX3_nextTell_111 : decode cX3_nextTell 111 = .ok (.iload 9, 2) := by decide +kernel
theorem dX3_nextTell_113 : decode cX3_nextTell 113 = .ok (.istore 7, 2) := by decide +kernel
theorem dX3_nextTell_115 : decode cX3_nextTell 115 = .ok (.iinc 8 1, 3) := by decide +kernel
theorem dX3_nextTell_118 : decode cX3_nextTell 118 = .ok (.goto (-42), 3) := by decide +kernel
theorem dX3_nextTell_121 : decode cX3_nextTell 121 = .ok (.aload_n 0, 1) := by decide +kernel
theorem dX3_nextTell_122 : decode cX3_nextTell 122 = .ok (.iload 5, 2) := by decide +kernel
theorem dX3_nextTell_124 : decode cX3_nextTell 124 = .ok (.putfield 151, 3) := by decide +kernel
theorem dX3_nextTell_127 : decode cX3_nextTell 127 = .ok (.iload_n 3, 1) := by decide +kernel
theorem dX3_nextTell_128 : decode cX3_nextTell 128 = .ok (.ifCond .ne 8, 3) := by decide +kernel
theorem dX3_nextTell_131 : decode cX3_nextTell 131 = .ok (.iload 6, 2) := by decide +kernel
theorem dX3_nextTell_133 : decode cX3_nextTell 133 = .ok (.goto 5, 3) := by decide +kernel
theorem dX3_nextTell_136 : decode cX3_nextTell 136 = .ok (.iload 7, 2) := by decide +kernel
theorem dX3_nextTell_138 : decode cX3_nextTell 138 = .ok (.ireturn, 1) := by decide +kernel
theorem dX3_above_0 : decode cX3_above 0 = .ok (.aload_n 0, 1) := by decide +kernel
theorem dX3_above_1 : decode cX3_above 1 = .ok (.getfield 37, 3) := by decide +kernel
theorem dX3_above_4 : decode cX3_above 4 = .ok (.iload_n 1, 1) := by decide +kernel
theorem dX3_above_5 : decode cX3_above 5 = .ok (.iaload, 1) := by decide +kernel
theorem dX3_above_6 : decode cX3_above 6 = .ok (.bipush 9, 2) := by decide +kernel
theorem dX3_above_8 : decode cX3_above 8 = .ok (.if_icmp .ne 7, 3) := by decide +kernel
theorem dX3_above_11 : decode cX3_above 11 = .ok (.iconst 0, 1) := by decide +kernel
theorem dX3_above_12 : decode cX3_above 12 = .ok (.goto 20, 3) := by decide +kernel
theorem dX3_above_15 : decode cX3_above 15 = .ok (.aload_n 0, 1) := by decide +kernel
theorem dX3_above_16 : decode cX3_above 16 = .ok (.aload_n 0, 1) := by decide +kernel
theorem dX3_above_17 : decode cX3_above 17 = .ok (.getfield 37, 3) := by decide +kernel
theorem dX3_above_20 : decode cX3_above 20 = .ok (.iload_n 1, 1) := by decide +kernel
theorem dX3_above_21 : decode cX3_above 21 = .ok (.iaload, 1) := by decide +kernel
theorem dX3_above_22 : decode cX3_above 22 = .ok (.invokevirtual 198, 3) := by decide +kernel
theorem dX3_above_25 : decode cX3_above 25 = .ok (.aload_n 0, 1) := by decide +kernel
theorem dX3_above_26 : decode cX3_above 26 = .ok (.getfield 28, 3) := by decide +kernel
theorem dX3_above_29 : decode cX3_above 29 = .ok (.iload_n 1, 1) := by decide +kernel
theorem dX3_above_30 : decode cX3_above 30 = .ok (.iaload, 1) := by decide +kernel
theorem dX3_above_31 : decode cX3_above 31 = .ok (.isub, 1) := by decide +kernel
theorem dX3_above_32 : decode cX3_above 32 = .ok (.ireturn, 1) := by decide +kernel
theorem dX3_goesArm_0 : decode cX3_goesArm 0 = .ok (.aload_n 0, 1) := by decide +kernel
theorem dX3_goesArm_1 : decode cX3_goesArm 1 = .ok (.dup, 1) := by decide +kernel
theorem dX3_goesArm_2 : decode cX3_goesArm 2 = .ok (.getfield 127, 3) := by decide +kernel
theorem dX3_goesArm_5 : decode cX3_goesArm 5 = .ok (.iconst 1, 1) := by decide +kernel
theorem dX3_goesArm_6 : decode cX3_goesArm 6 = .ok (.iadd, 1) := by decide +kernel
theorem dX3_goesArm_7 : decode cX3_goesArm 7 = .ok (.putfield 127, 3) := by decide +kernel
theorem dX3_goesArm_10 : decode cX3_goesArm 10 = .ok (.aload_n 0, 1) := by decide +kernel
theorem dX3_goesArm_11 : decode cX3_goesArm 11 = .ok (.iload_n 2, 1) := by decide +kernel
theorem dX3_goesArm_12 : decode cX3_goesArm 12 = .ok (.invokevirtual 330, 3) := by decide +kernel
theorem dX3_goesArm_15 : decode cX3_goesArm 15 = .ok (.aload_n 0, 1) := by decide +kernel
theorem dX3_goesArm_16 : decode cX3_goesArm 16 = .ok (.iload_n 1, 1) := by decide +kernel
theorem dX3_goesArm_17 : decode cX3_goesArm 17 = .ok (.invokevirtual 330, 3) := by decide +kernel
theorem dX3_goesArm_20 : decode cX3_goesArm 20 = .ok (.if_icmp .le 7, 3) := by decide +kernel
theorem dX3_goesArm_23 : decode cX3_goesArm 23 = .ok (.iload_n 2, 1) := by decide +kernel
theorem dX3_goesArm_24 : decode cX3_goesArm 24 = .ok (.goto 4, 3) := by decide +kernel
theorem dX3_goesArm_27 : decode cX3_goesArm 27 = .ok (.iload_n 1, 1) := by decide +kernel
theorem dX3_goesArm_28 : decode cX3_goesArm 28 = .ok (.istore_n 3, 1) := by decide +kernel
theorem dX3_goesArm_29 : decode cX3_goesArm 29 = .ok (.aload_n 0, 1) := by decide +kernel
theorem dX3_goesArm_30 : decode cX3_goesArm 30 = .ok (.iload_n 3, 1) := by decide +kernel
theorem dX3_goesArm_31 : decode cX3_goesArm 31 = .ok (.invokevirtual 330, 3) := by decide +kernel
theorem dX3_goesArm_34 : decode cX3_goesArm 34 = .ok (.ifCond .le 7, 3) := by decide +kernel
theorem dX3_goesArm_37 : decode cX3_goesArm 37 = .ok (.iconst 1, 1) := by decide +kernel
theorem dX3_goesArm_38 : decode cX3_goesArm 38 = .ok (.goto 4, 3) := by decide +kernel
theorem dX3_goesArm_41 : decode cX3_goesArm 41 = .ok (.iconst 0, 1) := by decide +kernel
theorem dX3_goesArm_42 : decode cX3_goesArm 42 = .ok (.istore 4, 2) := by decide +kernel
theorem dX3_goesArm_44 : decode cX3_goesArm 44 = .ok (.iload 4, 2) := by decide +kernel
theorem dX3_goesArm_46 : decode cX3_goesArm 46 = .ok (.ifCond .eq 22, 3) := by decide +kernel
theorem dX3_goesArm_49 : decode cX3_goesArm 49 = .ok (.aload_n 0, 1) := by decide +kernel
theorem dX3_goesArm_50 : decode cX3_goesArm 50 = .ok (.aload_n 0, 1) := by decide +kernel
theorem dX3_goesArm_51 : decode cX3_goesArm 51 = .ok (.getfield 37, 3) := by decide +kernel
theorem dX3_goesArm_54 : decode cX3_goesArm 54 = .ok (.iload_n 3, 1) := by decide +kernel
theorem dX3_goesArm_55 : decode cX3_goesArm 55 = .ok (.iaload, 1) := by decide +kernel
theorem dX3_goesArm_56 : decode cX3_goesArm 56 = .ok (.aload_n 0, 1) := by decide +kernel
theorem dX3_goesArm_57 : decode cX3_goesArm 57 = .ok (.getfield 31, 3) := by decide +kernel
theorem dX3_goesArm_60 : decode cX3_goesArm 60 = .ok (.iload_n 3, 1) := by decide +kernel
theorem dX3_goesArm_61 : decode cX3_goesArm 61 = .ok (.iaload, 1) := by decide +kernel
theorem dX3_goesArm_62 : decode cX3_goesArm 62 = .ok (.invokevirtual 201, 3) := by decide +kernel
theorem dX3_goesArm_65 : decode cX3_goesArm 65 = .ok (.goto 9, 3) := by decide +kernel
theorem dX3_goesArm_68 : decode cX3_goesArm 68 = .ok (.aload_n 0, 1) := by decide +kernel
theorem dX3_goesArm_69 : decode cX3_goesArm 69 = .ok (.getfield 31, 3) := by decide +kernel
theorem dX3_goesArm_72 : decode cX3_goesArm 72 = .ok (.iload_n 1, 1) := by decide +kernel
theorem dX3_goesArm_73 : decode cX3_goesArm 73 = .ok (.iaload, 1) := by decide +kernel
theorem dX3_goesArm_74 : decode cX3_goesArm 74 = .ok (.istore 5, 2) := by decide +kernel
theorem dX3_goesArm_76 : decode cX3_goesArm 76 = .ok (.iload 4, 2) := by decide +kernel
theorem dX3_goesArm_78 : decode cX3_goesArm 78 = .ok (.ifCond .eq 22, 3) := by decide +kernel
theorem dX3_goesArm_81 : decode cX3_goesArm 81 = .ok (.aload_n 0, 1) := by decide +kernel
theorem dX3_goesArm_82 : decode cX3_goesArm 82 = .ok (.getfield 13, 3) := by decide +kernel
theorem dX3_goesArm_85 : decode cX3_goesArm 85 = .ok (.aload_n 0, 1) := by decide +kernel
theorem dX3_goesArm_86 : decode cX3_goesArm 86 = .ok (.getfield 37, 3) := by decide +kernel
theorem dX3_goesArm_89 : decode cX3_goesArm 89 = .ok (.iload_n 3, 1) := by decide +kernel
theorem dX3_goesArm_90 : decode cX3_goesArm 90 = .ok (.iaload, 1) := by decide +kernel
theorem dX3_goesArm_91 : decode cX3_goesArm 91 = .ok (.iaload, 1) := by decide +kernel
theorem dX3_goesArm_92 : decode cX3_goesArm 92 = .ok (.iconst 5, 1) := by decide +kernel
theorem dX3_goesArm_93 : decode cX3_goesArm 93 = .ok (.if_icmp .ne 7, 3) := by decide +kernel
theorem dX3_goesArm_96 : decode cX3_goesArm 96 = .ok (.iconst 2, 1) := by decide +kernel
theorem dX3_goesArm_97 : decode cX3_goesArm 97 = .ok (.goto 4, 3) := by decide +kernel
theorem dX3_goesArm_100 : decode cX3_goesArm 100 = .ok (.iconst 1, 1) := by decide +kernel
theorem dX3_goesArm_101 : decode cX3_goesArm 101 = .ok (.istore 6, 2) := by decide +kernel
theorem dX3_goesArm_103 : decode cX3_goesArm 103 = .ok (.iload 6, 2) := by decide +kernel
theorem dX3_goesArm_105 : decode cX3_goesArm 105 = .ok (.ifCond .le 26, 3) := by decide +kernel
theorem dX3_goesArm_108 : decode cX3_goesArm 108 = .ok (.aload_n 0, 1) := by decide +kernel
theorem dX3_goesArm_109 : decode cX3_goesArm 109 = .ok (.getfield 34, 3) := by decide +kernel
theorem dX3_goesArm_112 : decode cX3_goesArm 112 = .ok (.iload_n 1, 1) := by decide +kernel
theorem dX3_goesArm_113 : decode cX3_goesArm 113 = .ok (.aload_n 0, 1) := by decide +kernel
theorem dX3_goesArm_114 : decode cX3_goesArm 114 = .ok (.getfield 34, 3) := by decide +kernel
theorem dX3_goesArm_117 : decode cX3_goesArm 117 = .ok (.iload_n 1, 1) := by decide +kernel
theorem dX3_goesArm_118 : decode cX3_goesArm 118 = .ok (.iaload, 1) := by decide +kernel
theorem dX3_goesArm_119 : decode cX3_goesArm 119 = .ok (.iload 5, 2) := by decide +kernel
theorem dX3_goesArm_121 : decode cX3_goesArm 121 = .ok (.invokestatic 205, 3) := by decide +kernel
theorem dX3_goesArm_124 : decode cX3_goesArm 124 = .ok (.iastore, 1) := by decide +kernel
theorem dX3_goesArm_125 : decode cX3_goesArm 125 = .ok (.iinc 6 (-1), 3) := by decide +kernel
theorem dX3_goesArm_128 : decode cX3_goesArm 128 = .ok (.goto (-25), 3) := by decide +kernel
theorem dX3_goesArm_131 : decode cX3_goesArm 131 = .ok (.aload_n 0, 1) := by decide +kernel
theorem dX3_goesArm_132 : decode cX3_goesArm 132 = .ok (.getfield 34, 3) := by decide +kernel
theorem dX3_goesArm_135 : decode cX3_goesArm 135 = .ok (.iload_n 2, 1) := by decide +kernel
theorem dX3_goesArm_136 : decode cX3_goesArm 136 = .ok (.aload_n 0, 1) := by decide +kernel
theorem dX3_goesArm_137 : decode cX3_goesArm 137 = .ok (.getfield 34, 3) := by decide +kernel
theorem dX3_goesArm_140 : decode cX3_goesArm 140 = .ok (.iload_n 1, 1) := by decide +kernel
theorem dX3_goesArm_141 : decode cX3_goesArm 141 = .ok (.iaload, 1) := by decide +kernel
theorem dX3_goesArm_142 : decode cX3_goesArm 142 = .ok (.iastore, 1) := by decide +kernel
theorem dX3_goesArm_143 : decode cX3_goesArm 143 = .ok (.return_, 1) := by decide +kernel
theorem dX3_arm_0 : decode cX3_arm 0 = .ok (.aload_n 0, 1) := by decide +kernel
theorem dX3_arm_1 : decode cX3_arm 1 = .ok (.iload_n 1, 1) := by decide +kernel
theorem dX3_arm_2 : decode cX3_arm 2 = .ok (.iload_n 2, 1) := by decide +kernel
theorem dX3_arm_3 : decode cX3_arm 3 = .ok (.invokevirtual 244, 3) := by decide +kernel
theorem dX3_arm_6 : decode cX3_arm 6 = .ok (.ifCond .ne 7, 3) := by decide +kernel
theorem dX3_arm_9 : decode cX3_arm 9 = .ok (.iconst (-1), 1) := by decide +kernel
theorem dX3_arm_10 : decode cX3_arm 10 = .ok (.goto 7, 3) := by decide +kernel
theorem dX3_arm_13 : decode cX3_arm 13 = .ok (.iload_n 3, 1) := by decide +kernel
theorem dX3_arm_14 : decode cX3_arm 14 = .ok (.invokestatic 235, 3) := by decide +kernel
theorem dX3_arm_17 : decode cX3_arm 17 = .ok (.istore 4, 2) := by decide +kernel
theorem dX3_arm_19 : decode cX3_arm 19 = .ok (.iload 4, 2) := by decide +kernel
theorem dX3_arm_21 : decode cX3_arm 21 = .ok (.ifCond .eq 10, 3) := by decide +kernel
theorem dX3_arm_24 : decode cX3_arm 24 = .ok (.aload_n 0, 1) := by decide +kernel
theorem dX3_arm_25 : decode cX3_arm 25 = .ok (.iload 4, 2) := by decide +kernel
theorem dX3_arm_27 : decode cX3_arm 27 = .ok (.invokevirtual 102, 3) := by decide +kernel
theorem dX3_arm_30 : decode cX3_arm 30 = .ok (.ireturn, 1) := by decide +kernel
theorem dX3_arm_31 : decode cX3_arm 31 = .ok (.aload_n 0, 1) := by decide +kernel
theorem dX3_arm_32 : decode cX3_arm 32 = .ok (.invokevirtual 238, 3) := by decide +kernel
theorem dX3_arm_35 : decode cX3_arm 35 = .ok (.aload_n 0, 1) := by decide +kernel
theorem dX3_arm_36 : decode cX3_arm 36 = .ok (.getfield 34, 3) := by decide +kernel
theorem dX3_arm_39 : decode cX3_arm 39 = .ok (.iload_n 2, 1) := by decide +kernel
theorem dX3_arm_40 : decode cX3_arm 40 = .ok (.aload_n 0, 1) := by decide +kernel
theorem dX3_arm_41 : decode cX3_arm 41 = .ok (.getfield 34, 3) := by decide +kernel
theorem dX3_arm_44 : decode cX3_arm 44 = .ok (.iload_n 1, 1) := by decide +kernel
theorem dX3_arm_45 : decode cX3_arm 45 = .ok (.iaload, 1) := by decide +kernel
theorem dX3_arm_46 : decode cX3_arm 46 = .ok (.iastore, 1) := by decide +kernel
theorem dX3_arm_47 : decode cX3_arm 47 = .ok (.iconst 0, 1) := by decide +kernel
theorem dX3_arm_48 : decode cX3_arm 48 = .ok (.istore 5, 2) := by decide +kernel
theorem dX3_arm_50 : decode cX3_arm 50 = .ok (.iload 5, 2) := by decide +kernel
theorem dX3_arm_52 : decode cX3_arm 52 = .ok (.iload_n 3, 1) := by decide +kernel
theorem dX3_arm_53 : decode cX3_arm 53 = .ok (.if_icmp .ge 15, 3) := by decide +kernel
theorem dX3_arm_56 : decode cX3_arm 56 = .ok (.aload_n 0, 1) := by decide +kernel
theorem dX3_arm_57 : decode cX3_arm 57 = .ok (.iload_n 1, 1) := by decide +kernel
theorem dX3_arm_58 : decode cX3_arm 58 = .ok (.iload_n 2, 1) := by decide +kernel
theorem dX3_arm_59 : decode cX3_arm 59 = .ok (.invokevirtual 333, 3) := by decide +kernel
theorem dX3_arm_62 : decode cX3_arm 62 = .ok (.iinc 5 1, 3) := by decide +kernel
theorem dX3_arm_65 : decode cX3_arm 65 = .ok (.goto (-15), 3) := by decide +kernel
theorem dX3_arm_68 : decode cX3_arm 68 = .ok (.aload_n 0, 1) := by decide +kernel
theorem dX3_arm_69 : decode cX3_arm 69 = .ok (.getfield 34, 3) := by decide +kernel
theorem dX3_arm_72 : decode cX3_arm 72 = .ok (.iload_n 1, 1) := by decide +kernel
theorem dX3_arm_73 : decode cX3_arm 73 = .ok (.iaload, 1) := by decide +kernel
theorem dX3_arm_74 : decode cX3_arm 74 = .ok (.istore 5, 2) := by decide +kernel
theorem dX3_arm_76 : decode cX3_arm 76 = .ok (.aload_n 0, 1) := by decide +kernel
theorem dX3_arm_77 : decode cX3_arm 77 = .ok (.invokevirtual 241, 3) := by decide +kernel
theorem dX3_arm_80 : decode cX3_arm 80 = .ok (.iload 5, 2) := by decide +kernel
theorem dX3_arm_82 : decode cX3_arm 82 = .ok (.ireturn, 1) := by decide +kernel
theorem dX3_divisor_0 : decode cX3_divisor 0 = .ok (.lload_n 0, 1) := by decide +kernel
theorem dX3_divisor_1 : decode cX3_divisor 1 = .ok (.lstore 4, 2) := by decide +kernel
theorem dX3_divisor_3 : decode cX3_divisor 3 = .ok (.lload_n 2, 1) := by decide +kernel
theorem dX3_divisor_4 : decode cX3_divisor 4 = .ok (.lstore 6, 2) := by decide +kernel
theorem dX3_divisor_6 : decode cX3_divisor 6 = .ok (.lload 6, 2) := by decide +kernel
theorem dX3_divisor_8 : decode cX3_divisor 8 = .ok (.lconst 0, 1) := by decide +kernel
theorem dX3_divisor_9 : decode cX3_divisor 9 = .ok (.lcmp, 1) := by decide +kernel
theorem dX3_divisor_10 : decode cX3_divisor 10 = .ok (.ifCond .eq 21, 3) := by decide +kernel
theorem dX3_divisor_13 : decode cX3_divisor 13 = .ok (.lload 4, 2) := by decide +kernel
theorem dX3_divisor_15 : decode cX3_divisor 15 = .ok (.lload 6, 2) := by decide +kernel
theorem dX3_divisor_17 : decode cX3_divisor 17 = .ok (.lrem, 1) := by decide +kernel
theorem dX3_divisor_18 : decode cX3_divisor 18 = .ok (.lstore 8, 2) := by decide +kernel
theorem dX3_divisor_20 : decode cX3_divisor 20 = .ok (.lload 6, 2) := by decide +kernel
theorem dX3_divisor_22 : decode cX3_divisor 22 = .ok (.lstore 4, 2) := by decide +kernel
theorem dX3_divisor_24 : decode cX3_divisor 24 = .ok (.lload 8, 2) := by decide +kernel
theorem dX3_divisor_26 : decode cX3_divisor 26 = .ok (.lstore 6, 2) := by decide +kernel
theorem dX3_divisor_28 : decode cX3_divisor 28 = .ok (.goto (-22), 3) := by decide +kernel
theorem dX3_divisor_31 : decode cX3_divisor 31 = .ok (.lload 4, 2) := by decide +kernel
theorem dX3_divisor_33 : decode cX3_divisor 33 = .ok (.lreturn, 1) := by decide +kernel
theorem dX3_sleep_0 : decode cX3_sleep 0 = .ok (.aload_n 0, 1) := by decide +kernel
theorem dX3_sleep_1 : decode cX3_sleep 1 = .ok (.iload_n 1, 1) := by decide +kernel
theorem dX3_sleep_2 : decode cX3_sleep 2 = .ok (.invokevirtual 91, 3) := by decide +kernel
theorem dX3_sleep_5 : decode cX3_sleep 5 = .ok (.ifCond .eq 10, 3) := by decide +kernel
theorem dX3_sleep_8 : decode cX3_sleep 8 = .ok (.iload_n 2, 1) := by decide +kernel
theorem dX3_sleep_9 : decode cX3_sleep 9 = .ok (.invokestatic 226, 3) := by decide +kernel
theorem dX3_sleep_12 : decode cX3_sleep 12 = .ok (.ifCond .ne 7, 3) := by decide +kernel
theorem dX3_sleep_15 : decode cX3_sleep 15 = .ok (.iconst (-1), 1) := by decide +kernel
theorem dX3_sleep_16 : decode cX3_sleep 16 = .ok (.goto 52, 3) := by decide +kernel
theorem dX3_sleep_19 : decode cX3_sleep 19 = .ok (.iload_n 3, 1) := by decide +kernel
theorem dX3_sleep_20 : decode cX3_sleep 20 = .ok (.ifCond .lt 9, 3) := by decide +kernel
theorem dX3_sleep_23 : decode cX3_sleep 23 = .ok (.iload 4, 2) := by decide +kernel
theorem dX3_sleep_25 : decode cX3_sleep 25 = .ok (.iconst 2, 1) := by decide +kernel
theorem dX3_sleep_26 : decode cX3_sleep 26 = .ok (.if_icmp .ge 8, 3) := by decide +kernel
theorem dX3_sleep_29 : decode cX3_sleep 29 = .ok (.bipush (-4), 2) := by decide +kernel
theorem dX3_sleep_31 : decode cX3_sleep 31 = .ok (.goto 37, 3) := by decide +kernel
theorem dX3_sleep_34 : decode cX3_sleep 34 = .ok (.iload_n 3, 1) := by decide +kernel
theorem dX3_sleep_35 : decode cX3_sleep 35 = .ok (.bipush 8, 2) := by decide +kernel
theorem dX3_sleep_37 : decode cX3_sleep 37 = .ok (.if_icmp .gt 10, 3) := by decide +kernel
theorem dX3_sleep_40 : decode cX3_sleep 40 = .ok (.iload 4, 2) := by decide +kernel
theorem dX3_sleep_42 : decode cX3_sleep 42 = .ok (.bipush 20, 2) := by decide +kernel
theorem dX3_sleep_44 : decode cX3_sleep 44 = .ok (.if_icmp .le 8, 3) := by decide +kernel
theorem dX3_sleep_47 : decode cX3_sleep 47 = .ok (.bipush (-6), 2) := by decide +kernel
theorem dX3_sleep_49 : decode cX3_sleep 49 = .ok (.goto 19, 3) := by decide +kernel
theorem dX3_sleep_52 : decode cX3_sleep 52 = .ok (.iload 5, 2) := by decide +kernel
theorem dX3_sleep_54 : decode cX3_sleep 54 = .ok (.iconst 0, 1) := by decide +kernel
theorem dX3_sleep_55 : decode cX3_sleep 55 = .ok (.iconst 1, 1) := by decide +kernel
theorem dX3_sleep_56 : decode cX3_sleep 56 = .ok (.invokestatic 113, 3) := by decide +kernel
theorem dX3_sleep_59 : decode cX3_sleep 59 = .ok (.ifCond .ne 8, 3) := by decide +kernel
theorem dX3_sleep_62 : decode cX3_sleep 62 = .ok (.bipush (-2), 2) := by decide +kernel
theorem dX3_sleep_64 : decode cX3_sleep 64 = .ok (.goto 4, 3) := by decide +kernel
theorem dX3_sleep_67 : decode cX3_sleep 67 = .ok (.iconst 0, 1) := by decide +kernel
theorem dX3_sleep_68 : decode cX3_sleep 68 = .ok (.istore 6, 2) := by decide +kernel
theorem dX3_sleep_70 : decode cX3_sleep 70 = .ok (.iload 6, 2) := by decide +kernel
theorem dX3_sleep_72 : decode cX3_sleep 72 = .ok (.ifCond .eq 10, 3) := by decide +kernel
theorem dX3_sleep_75 : decode cX3_sleep 75 = .ok (.aload_n 0, 1) := by decide +kernel
theorem dX3_sleep_76 : decode cX3_sleep 76 = .ok (.iload 6, 2) := by decide +kernel
theorem dX3_sleep_78 : decode cX3_sleep 78 = .ok (.invokevirtual 336, 3) := by decide +kernel
theorem dX3_sleep_81 : decode cX3_sleep 81 = .ok (.lreturn, 1) := by decide +kernel
theorem dX3_sleep_82 : decode cX3_sleep 82 = .ok (.aload_n 0, 1) := by decide +kernel
theorem dX3_sleep_83 : decode cX3_sleep 83 = .ok (.iload_n 1, 1) := by decide +kernel
theorem dX3_sleep_84 : decode cX3_sleep 84 = .ok (.putfield 64, 3) := by decide +kernel
theorem dX3_sleep_87 : decode cX3_sleep 87 = .ok (.lconst 0, 1) := by decide +kernel
theorem dX3_sleep_88 : decode cX3_sleep 88 = .ok (.lstore 7, 2) := by decide +kernel
theorem dX3_sleep_90 : decode cX3_sleep 90 = .ok (.lconst 1, 1) := by decide +kernel
theorem dX3_sleep_91 : decode cX3_sleep 91 = .ok (.lstore 9, 2) := by decide +kernel
theorem dX3_sleep_93 : decode cX3_sleep 93 = .ok (.iconst 0, 1) := by decide +kernel
theorem dX3_sleep_94 : decode cX3_sleep 94 = .ok (.istore 11, 2) := by decide +kernel
theorem dX3_sleep_96 : decode cX3_sleep 96 = .ok (.iload 11, 2) := by decide +kernel
theorem dX3_sleep_98 : decode cX3_sleep 98 = .ok (.iload_n 3, 1) := by decide +kernel
theorem dX3_sleep_99 : decode cX3_sleep 99 = .ok (.if_icmp .ge 17, 3) := by decide +kernel
theorem dX3_sleep_102 : decode cX3_sleep 102 = .ok (.lload 9, 2) := by decide +kernel
theorem dX3_sleep_104 : decode cX3_sleep 104 = .ok (.iload 4, 2) := by decide +kernel
theorem dX3_sleep_106 : decode cX3_sleep 106 = .ok (.i2l, 1) := by decide +kernel
theorem dX3_sleep_107 : decode cX3_sleep 107 = .ok (.lmul, 1) := by decide +kernel
theorem dX3_sleep_108 : decode cX3_sleep 108 = .ok (.lstore 9, 2) := by decide +kernel
theorem dX3_sleep_110 : decode cX3_sleep 110 = .ok (.iinc 11 1, 3) := by decide +kernel
theorem dX3_sleep_113 : decode cX3_sleep 113 = .ok (.goto (-17), 3) := by decide +kernel
theorem dX3_sleep_116 : decode cX3_sleep 116 = .ok (.iconst 0, 1) := by decide +kernel
theorem dX3_sleep_117 : decode cX3_sleep 117 = .ok (.istore 11, 2) := by decide +kernel
theorem dX3_sleep_119 : decode cX3_sleep 119 = .ok (.iload 11, 2) := by decide +kernel
theorem dX3_sleep_121 : decode cX3_sleep 121 = .ok (.iconst 1, 1) := by decide +kernel
theorem dX3_sleep_122 : decode cX3_sleep 122 = .ok (.iload_n 3, 1) := by decide +kernel
theorem dX3_sleep_123 : decode cX3_sleep 123 = .ok (.ishl, 1) := by decide +kernel
theorem dX3_sleep_124 : decode cX3_sleep 124 = .ok (.if_icmp .ge 99, 3) := by decide +kernel
theorem dX3_sleep_127 : decode cX3_sleep 127 = .ok (.aload_n 0, 1) := by decide +kernel
theorem dX3_sleep_128 : decode cX3_sleep 128 = .ok (.invokevirtual 238, 3) := by decide +kernel
theorem dX3_sleep_131 : decode cX3_sleep 131 = .ok (.lconst 1, 1) := by decide +kernel
theorem dX3_sleep_132 : decode cX3_sleep 132 = .ok (.lstore 12, 2) := by decide +kernel
theorem dX3_sleep_134 : decode cX3_sleep 134 = .ok (.iconst 0, 1) := by decide +kernel
theorem dX3_sleep_135 : decode cX3_sleep 135 = .ok (.istore 14, 2) := by decide +kernel
theorem dX3_sleep_137 : decode cX3_sleep 137 = .ok (.iload 14, 2) := by decide +kernel
theorem dX3_sleep_139 : decode cX3_sleep 139 = .ok (.iload_n 3, 1) := by decide +kernel
theorem dX3_sleep_140 : decode cX3_sleep 140 = .ok (.if_icmp .ge 52, 3) := by decide +kernel
theorem dX3_sleep_143 : decode cX3_sleep 143 = .ok (.iload 11, 2) := by decide +kernel
theorem dX3_sleep_145 : decode cX3_sleep 145 = .ok (.iload 14, 2) := by decide +kernel
theorem dX3_sleep_147 : decode cX3_sleep 147 = .ok (.ishr, 1) := by decide +kernel
theorem dX3_sleep_148 : decode cX3_sleep 148 = .ok (.iconst 1, 1) := by decide +kernel
theorem dX3_sleep_149 : decode cX3_sleep 149 = .ok (.iand, 1) := by decide +kernel
theorem dX3_sleep_150 : decode cX3_sleep 150 = .ok (.iconst 1, 1) := by decide +kernel
theorem dX3_sleep_151 : decode cX3_sleep 151 = .ok (.if_icmp .ne 7, 3) := by decide +kernel
theorem dX3_sleep_154 : decode cX3_sleep 154 = .ok (.iconst 1, 1) := by decide +kernel
theorem dX3_sleep_155 : decode cX3_sleep 155 = .ok (.goto 4, 3) := by decide +kernel
theorem dX3_sleep_158 : decode cX3_sleep 158 = .ok (.iconst 0, 1) := by decide +kernel
theorem dX3_sleep_159 : decode cX3_sleep 159 = .ok (.istore 15, 2) := by decide +kernel
theorem dX3_sleep_161 : decode cX3_sleep 161 = .ok (.lload 12, 2) := by decide +kernel
theorem dX3_sleep_163 : decode cX3_sleep 163 = .ok (.iload 15, 2) := by decide +kernel
theorem dX3_sleep_165 : decode cX3_sleep 165 = .ok (.ifCond .eq 7, 3) := by decide +kernel
theorem dX3_sleep_168 : decode cX3_sleep 168 = .ok (.lconst 1, 1) := by decide +kernel
theorem dX3_sleep_169 : decode cX3_sleep 169 = .ok (.goto 8, 3) := by decide +kernel
theorem dX3_sleep_172 : decode cX3_sleep 172 = .ok (.iload 4, 2) := by decide +kernel
theorem dX3_sleep_174 : decode cX3_sleep 174 = .ok (.iconst 1, 1) := by decide +kernel
theorem dX3_sleep_175 : decode cX3_sleep 175 = .ok (.isub, 1) := by decide +kernel
theorem dX3_sleep_176 : decode cX3_sleep 176 = .ok (.i2l, 1) := by decide +kernel
theorem dX3_sleep_177 : decode cX3_sleep 177 = .ok (.lmul, 1) := by decide +kernel
theorem dX3_sleep_178 : decode cX3_sleep 178 = .ok (.lstore 12, 2) := by decide +kernel
theorem dX3_sleep_180 : decode cX3_sleep 180 = .ok (.aload_n 0, 1) := by decide +kernel
theorem dX3_sleep_181 : decode cX3_sleep 181 = .ok (.iload 15, 2) := by decide +kernel
theorem dX3_sleep_183 : decode cX3_sleep 183 = .ok (.invokevirtual 130, 3) := by decide +kernel
theorem dX3_sleep_186 : decode cX3_sleep 186 = .ok (.iinc 14 1, 3) := by decide +kernel
theorem dX3_sleep_189 : decode cX3_sleep 189 = .ok (.goto (-52), 3) := by decide +kernel
theorem dX3_sleep_192 : decode cX3_sleep 192 = .ok (.lload 7, 2) := by decide +kernel
theorem dX3_sleep_194 : decode cX3_sleep 194 = .ok (.aload_n 0, 1) := by decide +kernel
theorem dX3_sleep_195 : decode cX3_sleep 195 = .ok (.getfield 34, 3) := by decide +kernel
theorem dX3_sleep_198 : decode cX3_sleep 198 = .ok (.iload_n 1, 1) := by decide +kernel
theorem dX3_sleep_199 : decode cX3_sleep 199 = .ok (.iaload, 1) := by decide +kernel
theorem dX3_sleep_200 : decode cX3_sleep 200 = .ok (.iload_n 2, 1) := by decide +kernel
theorem dX3_sleep_201 : decode cX3_sleep 201 = .ok (.if_icmp .ne 8, 3) := by decide +kernel
theorem dX3_sleep_204 : decode cX3_sleep 204 = .ok (.lload 12, 2) := by decide +kernel
theorem dX3_sleep_206 : decode cX3_sleep 206 = .ok (.goto 4, 3) := by decide +kernel
theorem dX3_sleep_209 : decode cX3_sleep 209 = .ok (.lconst 0, 1) := by decide +kernel
theorem dX3_sleep_210 : decode cX3_sleep 210 = .ok (.ladd, 1) := by decide +kernel
theorem dX3_sleep_211 : decode cX3_sleep 211 = .ok (.lstore 7, 2) := by decide +kernel
theorem dX3_sleep_213 : decode cX3_sleep 213 = .ok (.aload_n 0, 1) := by decide +kernel
theorem dX3_sleep_214 : decode cX3_sleep 214 = .ok (.invokevirtual 241, 3) := by decide +kernel
theorem dX3_sleep_217 : decode cX3_sleep 217 = .ok (.iinc 11 1, 3) := by decide +kernel
theorem dX3_sleep_220 : decode cX3_sleep 220 = .ok (.goto (-101), 3) := by decide +kernel
theorem dX3_sleep_223 : decode cX3_sleep 223 = .ok (.iload 5, 2) := by decide +kernel
theorem dX3_sleep_225 : decode cX3_sleep 225 = .ok (.ifCond .ne 8, 3) := by decide +kernel
theorem dX3_sleep_228 : decode cX3_sleep 228 = .ok (.lload 7, 2) := by decide +kernel
theorem dX3_sleep_230 : decode cX3_sleep 230 = .ok (.goto 5, 3) := by decide +kernel
theorem dX3_sleep_233 : decode cX3_sleep 233 = .ok (.lload 9, 2) := by decide +kernel
theorem dX3_sleep_235 : decode cX3_sleep 235 = .ok (.lload 7, 2) := by decide +kernel
theorem dX3_sleep_237 : decode cX3_sleep 237 = .ok (.lload 9, 2) := by decide +kernel
theorem dX3_sleep_239 : decode cX3_sleep 239 = .ok (.invokestatic 340, 3) := by decide +kernel
theorem dX3_sleep_242 : decode cX3_sleep 242 = .ok (.ldiv, 1) := by decide +kernel
theorem dX3_sleep_243 : decode cX3_sleep 243 = .ok (.lreturn, 1) := by decide +kernel
theorem dX3_ledSwapped_0 : decode cX3_ledSwapped 0 = .ok (.aload_n 0, 1) := by decide +kernel
theorem dX3_ledSwapped_1 : decode cX3_ledSwapped 1 = .ok (.iconst 1, 1) := by decide +kernel
theorem dX3_ledSwapped_2 : decode cX3_ledSwapped 2 = .ok (.iconst 1, 1) := by decide +kernel
theorem dX3_ledSwapped_3 : decode cX3_ledSwapped 3 = .ok (.invokevirtual 161, 3) := by decide +kernel
theorem dX3_ledSwapped_6 : decode cX3_ledSwapped 6 = .ok (.aload_n 0, 1) := by decide +kernel
theorem dX3_ledSwapped_7 : decode cX3_ledSwapped 7 = .ok (.getfield 37, 3) := by decide +kernel
theorem dX3_ledSwapped_10 : decode cX3_ledSwapped 10 = .ok (.iload_n 1, 1) := by decide +kernel
theorem dX3_ledSwapped_11 : decode cX3_ledSwapped 11 = .ok (.iaload, 1) := by decide +kernel
theorem dX3_ledSwapped_12 : decode cX3_ledSwapped 12 = .ok (.istore 4, 2) := by decide +kernel
theorem dX3_ledSwapped_14 : decode cX3_ledSwapped 14 = .ok (.aload_n 0, 1) := by decide +kernel
theorem dX3_ledSwapped_15 : decode cX3_ledSwapped 15 = .ok (.getfield 37, 3) := by decide +kernel
theorem dX3_ledSwapped_18 : decode cX3_ledSwapped 18 = .ok (.iload_n 1, 1) := by decide +kernel
theorem dX3_ledSwapped_19 : decode cX3_ledSwapped 19 = .ok (.aload_n 0, 1) := by decide +kernel
theorem dX3_ledSwapped_20 : decode cX3_ledSwapped 20 = .ok (.getfield 37, 3) := by decide +kernel
theorem dX3_ledSwapped_23 : decode cX3_ledSwapped 23 = .ok (.iload_n 2, 1) := by decide +kernel
theorem dX3_ledSwapped_24 : decode cX3_ledSwapped 24 = .ok (.iaload, 1) := by decide +kernel
theorem dX3_ledSwapped_25 : decode cX3_ledSwapped 25 = .ok (.iastore, 1) := by decide +kernel
theorem dX3_ledSwapped_26 : decode cX3_ledSwapped 26 = .ok (.aload_n 0, 1) := by decide +kernel
theorem dX3_ledSwapped_27 : decode cX3_ledSwapped 27 = .ok (.getfield 37, 3) := by decide +kernel
theorem dX3_ledSwapped_30 : decode cX3_ledSwapped 30 = .ok (.iload_n 2, 1) := by decide +kernel
theorem dX3_ledSwapped_31 : decode cX3_ledSwapped 31 = .ok (.iload 4, 2) := by decide +kernel
theorem dX3_ledSwapped_33 : decode cX3_ledSwapped 33 = .ok (.iastore, 1) := by decide +kernel
theorem dX3_ledSwapped_34 : decode cX3_ledSwapped 34 = .ok (.aload_n 0, 1) := by decide +kernel
theorem dX3_ledSwapped_35 : decode cX3_ledSwapped 35 = .ok (.getfield 37, 3) := by decide +kernel
theorem dX3_ledSwapped_38 : decode cX3_ledSwapped 38 = .ok (.iload_n 1, 1) := by decide +kernel
theorem dX3_ledSwapped_39 : decode cX3_ledSwapped 39 = .ok (.iaload, 1) := by decide +kernel
theorem dX3_ledSwapped_40 : decode cX3_ledSwapped 40 = .ok (.bipush 9, 2) := by decide +kernel
theorem dX3_ledSwapped_42 : decode cX3_ledSwapped 42 = .ok (.if_icmp .ge 15, 3) := by decide +kernel
theorem dX3_ledSwapped_45 : decode cX3_ledSwapped 45 = .ok (.aload_n 0, 1) := by decide +kernel
theorem dX3_ledSwapped_46 : decode cX3_ledSwapped 46 = .ok (.getfield 25, 3) := by decide +kernel
theorem dX3_ledSwapped_49 : decode cX3_ledSwapped 49 = .ok (.aload_n 0, 1) := by decide +kernel
theorem dX3_ledSwapped_50 : decode cX3_ledSwapped 50 = .ok (.getfield 37, 3) := by decide +kernel
theorem dX3_ledSwapped_53 : decode cX3_ledSwapped 53 = .ok (.iload_n 1, 1) := by decide +kernel
theorem dX3_ledSwapped_54 : decode cX3_ledSwapped 54 = .ok (.iaload, 1) := by decide +kernel
theorem dX3_ledSwapped_55 : decode cX3_ledSwapped 55 = .ok (.iconst 0, 1) := by decide +kernel
theorem dX3_ledSwapped_56 : decode cX3_ledSwapped 56 = .ok (.iastore, 1) := by decide +kernel
theorem dX3_ledSwapped_57 : decode cX3_ledSwapped 57 = .ok (.aload_n 0, 1) := by decide +kernel
theorem dX3_ledSwapped_58 : decode cX3_ledSwapped 58 = .ok (.getfield 37, 3) := by decide +kernel
theorem dX3_ledSwapped_61 : decode cX3_ledSwapped 61 = .ok (.iload_n 2, 1) := by decide +kernel
theorem dX3_ledSwapped_62 : decode cX3_ledSwapped 62 = .ok (.iaload, 1) := by decide +kernel
theorem dX3_ledSwapped_63 : decode cX3_ledSwapped 63 = .ok (.bipush 9, 2) := by decide +kernel
theorem dX3_ledSwapped_65 : decode cX3_ledSwapped 65 = .ok (.if_icmp .ge 15, 3) := by decide +kernel
theorem dX3_ledSwapped_68 : decode cX3_ledSwapped 68 = .ok (.aload_n 0, 1) := by decide +kernel
theorem dX3_ledSwapped_69 : decode cX3_ledSwapped 69 = .ok (.getfield 25, 3) := by decide +kernel
theorem dX3_ledSwapped_72 : decode cX3_ledSwapped 72 = .ok (.aload_n 0, 1) := by decide +kernel
theorem dX3_ledSwapped_73 : decode cX3_ledSwapped 73 = .ok (.getfield 37, 3) := by decide +kernel
theorem dX3_ledSwapped_76 : decode cX3_ledSwapped 76 = .ok (.iload_n 2, 1) := by decide +kernel
theorem dX3_ledSwapped_77 : decode cX3_ledSwapped 77 = .ok (.iaload, 1) := by decide +kernel
theorem dX3_ledSwapped_78 : decode cX3_ledSwapped 78 = .ok (.iconst 0, 1) := by decide +kernel
theorem dX3_ledSwapped_79 : decode cX3_ledSwapped 79 = .ok (.iastore, 1) := by decide +kernel
theorem dX3_ledSwapped_80 : decode cX3_ledSwapped 80 = .ok (.aload_n 0, 1) := by decide +kernel
theorem dX3_ledSwapped_81 : decode cX3_ledSwapped 81 = .ok (.iload_n 3, 1) := by decide +kernel
theorem dX3_ledSwapped_82 : decode cX3_ledSwapped 82 = .ok (.invokevirtual 287, 3) := by decide +kernel
theorem dX3_ledSwapped_85 : decode cX3_ledSwapped 85 = .ok (.istore 5, 2) := by decide +kernel
theorem dX3_ledSwapped_87 : decode cX3_ledSwapped 87 = .ok (.aload_n 0, 1) := by decide +kernel
theorem dX3_ledSwapped_88 : decode cX3_ledSwapped 88 = .ok (.iconst 1, 1) := by decide +kernel
theorem dX3_ledSwapped_89 : decode cX3_ledSwapped 89 = .ok (.iconst 0, 1) := by decide +kernel
theorem dX3_ledSwapped_90 : decode cX3_ledSwapped 90 = .ok (.invokevirtual 161, 3) := by decide +kernel
theorem dX3_ledSwapped_93 : decode cX3_ledSwapped 93 = .ok (.iload 5, 2) := by decide +kernel
theorem dX3_ledSwapped_95 : decode cX3_ledSwapped 95 = .ok (.ireturn, 1) := by decide +kernel
theorem dX3_swap_0 : decode cX3_swap 0 = .ok (.iload_n 1, 1) := by decide +kernel
theorem dX3_swap_1 : decode cX3_swap 1 = .ok (.invokestatic 235, 3) := by decide +kernel
theorem dX3_swap_4 : decode cX3_swap 4 = .ok (.istore_n 2, 1) := by decide +kernel
theorem dX3_swap_5 : decode cX3_swap 5 = .ok (.iload_n 2, 1) := by decide +kernel
theorem dX3_swap_6 : decode cX3_swap 6 = .ok (.ifCond .eq 9, 3) := by decide +kernel
theorem dX3_swap_9 : decode cX3_swap 9 = .ok (.aload_n 0, 1) := by decide +kernel
theorem dX3_swap_10 : decode cX3_swap 10 = .ok (.iload_n 2, 1) := by decide +kernel
theorem dX3_swap_11 : decode cX3_swap 11 = .ok (.invokevirtual 102, 3) := by decide +kernel
theorem dX3_swap_14 : decode cX3_swap 14 = .ok (.ireturn, 1) := by decide +kernel
theorem dX3_swap_15 : decode cX3_swap 15 = .ok (.bipush (-9), 2) := by decide +kernel
theorem dX3_swap_17 : decode cX3_swap 17 = .ok (.istore_n 3, 1) := by decide +kernel
theorem dX3_swap_18 : decode cX3_swap 18 = .ok (.aload_n 0, 1) := by decide +kernel
theorem dX3_swap_19 : decode cX3_swap 19 = .ok (.iload_n 1, 1) := by decide +kernel
theorem dX3_swap_20 : decode cX3_swap 20 = .ok (.invokevirtual 287, 3) := by decide +kernel
theorem dX3_swap_23 : decode cX3_swap 23 = .ok (.istore 4, 2) := by decide +kernel
theorem dX3_swap_25 : decode cX3_swap 25 = .ok (.iconst 0, 1) := by decide +kernel
theorem dX3_swap_26 : decode cX3_swap 26 = .ok (.istore 5, 2) := by decide +kernel
theorem dX3_swap_28 : decode cX3_swap 28 = .ok (.iload 5, 2) := by decide +kernel
theorem dX3_swap_30 : decode cX3_swap 30 = .ok (.aload_n 0, 1) := by decide +kernel
theorem dX3_swap_31 : decode cX3_swap 31 = .ok (.getfield 88, 3) := by decide +kernel
theorem dX3_swap_34 : decode cX3_swap 34 = .ok (.if_icmp .ge 64, 3) := by decide +kernel
theorem dX3_swap_37 : decode cX3_swap 37 = .ok (.iload 5, 2) := by decide +kernel
theorem dX3_swap_39 : decode cX3_swap 39 = .ok (.iconst 1, 1) := by decide +kernel
theorem dX3_swap_40 : decode cX3_swap 40 = .ok (.iadd, 1) := by decide +kernel
theorem dX3_swap_41 : decode cX3_swap 41 = .ok (.istore 6, 2) := by decide +kernel
theorem dX3_swap_43 : decode cX3_swap 43 = .ok (.iload 6, 2) := by decide +kernel
theorem dX3_swap_45 : decode cX3_swap 45 = .ok (.aload_n 0, 1) := by decide +kernel
theorem dX3_swap_46 : decode cX3_swap 46 = .ok (.getfield 88, 3) := by decide +kernel
theorem dX3_swap_49 : decode cX3_swap 49 = .ok (.if_icmp .ge 43, 3) := by decide +kernel
theorem dX3_swap_52 : decode cX3_swap 52 = .ok (.aload_n 0, 1) := by decide +kernel
theorem dX3_swap_53 : decode cX3_swap 53 = .ok (.iload 5, 2) := by decide +kernel
theorem dX3_swap_55 : decode cX3_swap 55 = .ok (.iload 6, 2) := by decide +kernel
theorem dX3_swap_57 : decode cX3_swap 57 = .ok (.iload_n 1, 1) := by decide +kernel
theorem dX3_swap_58 : decode cX3_swap 58 = .ok (.invokevirtual 344, 3) := by decide +kernel
theorem dX3_swap_61 : decode cX3_swap 61 = .ok (.istore 7, 2) := by decide +kernel
theorem dX3_swap_63 : decode cX3_swap 63 = .ok (.iload 7, 2) := by decide +kernel
theorem dX3_swap_65 : decode cX3_swap 65 = .ok (.iload 4, 2) := by decide +kernel
theorem dX3_swap_67 : decode cX3_swap 67 = .ok (.if_icmp .lt 6, 3) := by decide +kernel
theorem dX3_swap_70 : decode cX3_swap 70 = .ok (.goto 16, 3) := by decide +kernel
theorem dX3_swap_73 : decode cX3_swap 73 = .ok (.bipush 10, 2) := by decide +kernel
theorem dX3_swap_75 : decode cX3_swap 75 = .ok (.iload 5, 2) := by decide +kernel
theorem dX3_swap_77 : decode cX3_swap 77 = .ok (.imul, 1) := by decide +kernel
theorem dX3_swap_78 : decode cX3_swap 78 = .ok (.iload 6, 2) := by decide +kernel
theorem dX3_swap_80 : decode cX3_swap 80 = .ok (.iadd, 1) := by decide +kernel
theorem dX3_swap_81 : decode cX3_swap 81 = .ok (.istore_n 3, 1) := by decide +kernel
theorem dX3_swap_82 : decode cX3_swap 82 = .ok (.iload 7, 2) := by decide +kernel
theorem dX3_swap_84 : decode cX3_swap 84 = .ok (.istore 4, 2) := by decide +kernel
theorem dX3_swap_86 : decode cX3_swap 86 = .ok (.iinc 6 1, 3) := by decide +kernel
theorem dX3_swap_89 : decode cX3_swap 89 = .ok (.goto (-46), 3) := by decide +kernel
theorem dX3_swap_92 : decode cX3_swap 92 = .ok (.iinc 5 1, 3) := by decide +kernel
theorem dX3_swap_95 : decode cX3_swap 95 = .ok (.goto (-67), 3) := by decide +kernel
theorem dX3_swap_98 : decode cX3_swap 98 = .ok (.iload_n 3, 1) := by decide +kernel
theorem dX3_swap_99 : decode cX3_swap 99 = .ok (.ireturn, 1) := by decide +kernel
theorem dX3_heir_0 : decode cX3_heir 0 = .ok (.iload_n 1, 1) := by decide +kernel
theorem dX3_heir_1 : decode cX3_heir 1 = .ok (.iconst 0, 1) := by decide +kernel
theorem dX3_heir_2 : decode cX3_heir 2 = .ok (.iconst 1, 1) := by decide +kernel
theorem dX3_heir_3 : decode cX3_heir 3 = .ok (.invokestatic 113, 3) := by decide +kernel
theorem dX3_heir_6 : decode cX3_heir 6 = .ok (.ifCond .ne 10, 3) := by decide +kernel
theorem dX3_heir_9 : decode cX3_heir 9 = .ok (.aload_n 0, 1) := by decide +kernel
theorem dX3_heir_10 : decode cX3_heir 10 = .ok (.bipush (-2), 2) := by decide +kernel
theorem dX3_heir_12 : decode cX3_heir 12 = .ok (.invokevirtual 102, 3) := by decide +kernel
theorem dX3_heir_15 : decode cX3_heir 15 = .ok (.ireturn, 1) := by decide +kernel
theorem dX3_heir_16 : decode cX3_heir 16 = .ok (.bipush (-9), 2) := by decide +kernel
theorem dX3_heir_18 : decode cX3_heir 18 = .ok (.istore_n 2, 1) := by decide +kernel
theorem dX3_heir_19 : decode cX3_heir 19 = .ok (.iconst 0, 1) := by decide +kernel
theorem dX3_heir_20 : decode cX3_heir 20 = .ok (.istore_n 3, 1) := by decide +kernel
theorem dX3_heir_21 : decode cX3_heir 21 = .ok (.iload_n 3, 1) := by decide +kernel
theorem dX3_heir_22 : decode cX3_heir 22 = .ok (.aload_n 0, 1) := by decide +kernel
theorem dX3_heir_23 : decode cX3_heir 23 = .ok (.getfield 88, 3) := by decide +kernel
theorem dX3_heir_26 : decode cX3_heir 26 = .ok (.if_icmp .ge 45, 3) := by decide +kernel
theorem dX3_heir_29 : decode cX3_heir 29 = .ok (.iload_n 1, 1) := by decide +kernel
theorem dX3_heir_30 : decode cX3_heir 30 = .ok (.ifCond .ne 41, 3) := by decide +kernel
theorem dX3_heir_33 : decode cX3_heir 33 = .ok (.aload_n 0, 1) := by decide +kernel
theorem dX3_heir_34 : decode cX3_heir 34 = .ok (.getfield 37, 3) := by decide +kernel
theorem dX3_heir_37 : decode cX3_heir 37 = .ok (.iload_n 3, 1) := by decide +kernel
theorem dX3_heir_38 : decode cX3_heir 38 = .ok (.iaload, 1) := by decide +kernel
theorem dX3_heir_39 : decode cX3_heir 39 = .ok (.bipush 9, 2) := by decide +kernel
theorem dX3_heir_41 : decode cX3_heir 41 = .ok (.if_icmp .ne 24, 3) := by decide +kernel
theorem dX3_heir_44 : decode cX3_heir 44 = .ok (.iload_n 2, 1) := by decide +kernel
theorem dX3_heir_45 : decode cX3_heir 45 = .ok (.ifCond .lt 18, 3) := by decide +kernel
theorem dX3_heir_48 : decode cX3_heir 48 = .ok (.aload_n 0, 1) := by decide +kernel
theorem dX3_heir_49 : decode cX3_heir 49 = .ok (.getfield 28, 3) := by decide +kernel
theorem dX3_heir_52 : decode cX3_heir 52 = .ok (.iload_n 3, 1) := by decide +kernel
theorem dX3_heir_53 : decode cX3_heir 53 = .ok (.iaload, 1) := by decide +kernel
theorem dX3_heir_54 : decode cX3_heir 54 = .ok (.aload_n 0, 1) := by decide +kernel
theorem dX3_heir_55 : decode cX3_heir 55 = .ok (.getfield 28, 3) := by decide +kernel
theorem dX3_heir_58 : decode cX3_heir 58 = .ok (.iload_n 2, 1) := by decide +kernel
theorem dX3_heir_59 : decode cX3_heir 59 = .ok (.iaload, 1) := by decide +kernel
theorem dX3_heir_60 : decode cX3_heir 60 = .ok (.if_icmp .le 5, 3) := by decide +kernel
theorem dX3_heir_63 : decode cX3_heir 63 = .ok (.iload_n 3, 1) := by decide +kernel
theorem dX3_heir_64 : decode cX3_heir 64 = .ok (.istore_n 2, 1) := by decide +kernel
theorem dX3_heir_65 : decode cX3_heir 65 = .ok (.iinc 3 1, 3) := by decide +kernel
theorem dX3_heir_68 : decode cX3_heir 68 = .ok (.goto (-47), 3) := by decide +kernel
theorem dX3_heir_71 : decode cX3_heir 71 = .ok (.iconst 0, 1) := by decide +kernel
theorem dX3_heir_72 : decode cX3_heir 72 = .ok (.istore_n 3, 1) := by decide +kernel
theorem dX3_heir_73 : decode cX3_heir 73 = .ok (.iload_n 3, 1) := by decide +kernel
theorem dX3_heir_74 : decode cX3_heir 74 = .ok (.aload_n 0, 1) := by decide +kernel
theorem dX3_heir_75 : decode cX3_heir 75 = .ok (.getfield 83, 3) := by decide +kernel
theorem dX3_heir_78 : decode cX3_heir 78 = .ok (.if_icmp .ge 33, 3) := by decide +kernel
theorem dX3_heir_81 : decode cX3_heir 81 = .ok (.iload_n 1, 1) := by decide +kernel
theorem dX3_heir_82 : decode cX3_heir 82 = .ok (.iconst 1, 1) := by decide +kernel
theorem dX3_heir_83 : decode cX3_heir 83 = .ok (.if_icmp .ne 28, 3) := by decide +kernel
theorem dX3_heir_86 : decode cX3_heir 86 = .ok (.iload_n 2, 1) := by decide +kernel
theorem dX3_heir_87 : decode cX3_heir 87 = .ok (.ifCond .lt 16, 3) := by decide +kernel
theorem dX3_heir_90 : decode cX3_heir 90 = .ok (.aload_n 0, 1) := by decide +kernel
theorem dX3_heir_91 : decode cX3_heir 91 = .ok (.iload_n 3, 1) := by decide +kernel
theorem dX3_heir_92 : decode cX3_heir 92 = .ok (.invokevirtual 198, 3) := by decide +kernel
theorem dX3_heir_95 : decode cX3_heir 95 = .ok (.aload_n 0, 1) := by decide +kernel
theorem dX3_heir_96 : decode cX3_heir 96 = .ok (.iload_n 2, 1) := by decide +kernel
theorem dX3_heir_97 : decode cX3_heir 97 = .ok (.invokevirtual 198, 3) := by decide +kernel
theorem dX3_heir_100 : decode cX3_heir 100 = .ok (.if_icmp .le 5, 3) := by decide +kernel
theorem dX3_heir_103 : decode cX3_heir 103 = .ok (.iload_n 3, 1) := by decide +kernel
theorem dX3_heir_104 : decode cX3_heir 104 = .ok (.istore_n 2, 1) := by decide +kernel
theorem dX3_heir_105 : decode cX3_heir 105 = .ok (.iinc 3 1, 3) := by decide +kernel
theorem dX3_heir_108 : decode cX3_heir 108 = .ok (.goto (-35), 3) := by decide +kernel
theorem dX3_heir_111 : decode cX3_heir 111 = .ok (.iload_n 2, 1) := by decide +kernel
theorem dX3_heir_112 : decode cX3_heir 112 = .ok (.ireturn, 1) := by decide +kernel
theorem dX3_far_0 : decode cX3_far 0 = .ok (.aload_n 0, 1) := by decide +kernel
theorem dX3_far_1 : decode cX3_far 1 = .ok (.iload_n 1, 1) := by decide +kernel
theorem dX3_far_2 : decode cX3_far 2 = .ok (.invokevirtual 91, 3) := by decide +kernel
theorem dX3_far_5 : decode cX3_far 5 = .ok (.ifCond .eq 11, 3) := by decide +kernel
theorem dX3_far_8 : decode cX3_far 8 = .ok (.aload_n 0, 1) := by decide +kernel
theorem dX3_far_9 : decode cX3_far 9 = .ok (.iload_n 2, 1) := by decide +kernel
theorem dX3_far_10 : decode cX3_far 10 = .ok (.invokevirtual 91, 3) := by decide +kernel
theorem dX3_far_13 : decode cX3_far 13 = .ok (.ifCond .ne 9, 3) := by decide +kernel
theorem dX3_far_16 : decode cX3_far 16 = .ok (.aload_n 0, 1) := by decide +kernel
theorem dX3_far_17 : decode cX3_far 17 = .ok (.iconst (-1), 1) := by decide +kernel
theorem dX3_far_18 : decode cX3_far 18 = .ok (.invokevirtual 102, 3) := by decide +kernel
theorem dX3_far_21 : decode cX3_far 21 = .ok (.ireturn, 1) := by decide +kernel
theorem dX3_far_22 : decode cX3_far 22 = .ok (.aload_n 0, 1) := by decide +kernel
theorem dX3_far_23 : decode cX3_far 23 = .ok (.iload_n 1, 1) := by decide +kernel
theorem dX3_far_24 : decode cX3_far 24 = .ok (.iload_n 2, 1) := by decide +kernel
theorem dX3_far_25 : decode cX3_far 25 = .ok (.invokevirtual 347, 3) := by decide +kernel
theorem dX3_far_28 : decode cX3_far 28 = .ok (.ireturn, 1) := by decide +kernel
theorem dX3_allBreath_0 : decode cX3_allBreath 0 = .ok (.iconst 0, 1) := by decide +kernel
theorem dX3_allBreath_1 : decode cX3_allBreath 1 = .ok (.istore_n 1, 1) := by decide +kernel
theorem dX3_allBreath_2 : decode cX3_allBreath 2 = .ok (.iconst 0, 1) := by decide +kernel
theorem dX3_allBreath_3 : decode cX3_allBreath 3 = .ok (.istore_n 2, 1) := by decide +kernel
theorem dX3_allBreath_4 : decode cX3_allBreath 4 = .ok (.iload_n 2, 1) := by decide +kernel
theorem dX3_allBreath_5 : decode cX3_allBreath 5 = .ok (.aload_n 0, 1) := by decide +kernel
theorem dX3_allBreath_6 : decode cX3_allBreath 6 = .ok (.getfield 88, 3) := by decide +kernel
theorem dX3_allBreath_9 : decode cX3_allBreath 9 = .ok (.if_icmp .ge 18, 3) := by decide +kernel
theorem dX3_allBreath_12 : decode cX3_allBreath 12 = .ok (.iload_n 1, 1) := by decide +kernel
theorem dX3_allBreath_13 : decode cX3_allBreath 13 = .ok (.aload_n 0, 1) := by decide +kernel
theorem dX3_allBreath_14 : decode cX3_allBreath 14 = .ok (.getfield 40, 3) := by decide +kernel
theorem dX3_allBreath_17 : decode cX3_allBreath 17 = .ok (.iload_n 2, 1) := by decide +kernel
theorem dX3_allBreath_18 : decode cX3_allBreath 18 = .ok (.iaload, 1) := by decide +kernel
theorem dX3_allBreath_19 : decode cX3_allBreath 19 = .ok (.iadd, 1) := by decide +kernel
theorem dX3_allBreath_20 : decode cX3_allBreath 20 = .ok (.istore_n 1, 1) := by decide +kernel
theorem dX3_allBreath_21 : decode cX3_allBreath 21 = .ok (.iinc 2 1, 3) := by decide +kernel
theorem dX3_allBreath_24 : decode cX3_allBreath 24 = .ok (.goto (-20), 3) := by decide +kernel
theorem dX3_allBreath_27 : decode cX3_allBreath 27 = .ok (.iload_n 1, 1) := by decide +kernel
theorem dX3_allBreath_28 : decode cX3_allBreath 28 = .ok (.ireturn, 1) := by decide +kernel
theorem dX3_tired_0 : decode cX3_tired 0 = .ok (.iload_n 1, 1) := by decide +kernel
theorem dX3_tired_1 : decode cX3_tired 1 = .ok (.invokestatic 235, 3) := by decide +kernel
theorem dX3_tired_4 : decode cX3_tired 4 = .ok (.istore_n 2, 1) := by decide +kernel
theorem dX3_tired_5 : decode cX3_tired 5 = .ok (.iload_n 2, 1) := by decide +kernel
theorem dX3_tired_6 : decode cX3_tired 6 = .ok (.ifCond .eq 9, 3) := by decide +kernel
theorem dX3_tired_9 : decode cX3_tired 9 = .ok (.aload_n 0, 1) := by decide +kernel
theorem dX3_tired_10 : decode cX3_tired 10 = .ok (.iload_n 2, 1) := by decide +kernel
theorem dX3_tired_11 : decode cX3_tired 11 = .ok (.invokevirtual 102, 3) := by decide +kernel
theorem dX3_tired_14 : decode cX3_tired 14 = .ok (.ireturn, 1) := by decide +kernel
theorem dX3_tired_15 : decode cX3_tired 15 = .ok (.aload_n 0, 1) := by decide +kernel
theorem dX3_tired_16 : decode cX3_tired 16 = .ok (.invokevirtual 238, 3) := by decide +kernel
theorem dX3_tired_19 : decode cX3_tired 19 = .ok (.aload_n 0, 1) := by decide +kernel
theorem dX3_tired_20 : decode cX3_tired 20 = .ok (.iload_n 1, 1) := by decide +kernel
theorem dX3_tired_21 : decode cX3_tired 21 = .ok (.invokevirtual 232, 3) := by decide +kernel
theorem dX3_tired_24 : decode cX3_tired 24 = .ok (.aload_n 0, 1) := by decide +kernel
theorem dX3_tired_25 : decode cX3_tired 25 = .ok (.invokevirtual 350, 3) := by decide +kernel
theorem dX3_tired_28 : decode cX3_tired 28 = .ok (.istore_n 3, 1) := by decide +kernel
theorem dX3_tired_29 : decode cX3_tired 29 = .ok (.aload_n 0, 1) := by decide +kernel
theorem dX3_tired_30 : decode cX3_tired 30 = .ok (.invokevirtual 241, 3) := by decide +kernel
theorem dX3_tired_33 : decode cX3_tired 33 = .ok (.iload_n 3, 1) := by decide +kernel
theorem dX3_tired_34 : decode cX3_tired 34 = .ok (.ireturn, 1) := by decide +kernel
theorem dX3_visits_0 : decode cX3_visits 0 = .ok (.aload_n 0, 1) := by decide +kernel
theorem dX3_visits_1 : decode cX3_visits 1 = .ok (.iload_n 1, 1) := by decide +kernel
theorem dX3_visits_2 : decode cX3_visits 2 = .ok (.invokevirtual 91, 3) := by decide +kernel
theorem dX3_visits_5 : decode cX3_visits 5 = .ok (.ifCond .eq 10, 3) := by decide +kernel
theorem dX3_visits_8 : decode cX3_visits 8 = .ok (.iload_n 2, 1) := by decide +kernel
theorem dX3_visits_9 : decode cX3_visits 9 = .ok (.invokestatic 226, 3) := by decide +kernel
theorem dX3_visits_12 : decode cX3_visits 12 = .ok (.ifCond .ne 7, 3) := by decide +kernel
theorem dX3_visits_15 : decode cX3_visits 15 = .ok (.iconst (-1), 1) := by decide +kernel
theorem dX3_visits_16 : decode cX3_visits 16 = .ok (.goto 7, 3) := by decide +kernel
theorem dX3_visits_19 : decode cX3_visits 19 = .ok (.iload_n 3, 1) := by decide +kernel
theorem dX3_visits_20 : decode cX3_visits 20 = .ok (.invokestatic 235, 3) := by decide +kernel
theorem dX3_visits_23 : decode cX3_visits 23 = .ok (.istore 4, 2) := by decide +kernel
theorem dX3_visits_25 : decode cX3_visits 25 = .ok (.iload 4, 2) := by decide +kernel
theorem dX3_visits_27 : decode cX3_visits 27 = .ok (.ifCond .eq 10, 3) := by decide +kernel
theorem dX3_visits_30 : decode cX3_visits 30 = .ok (.aload_n 0, 1) := by decide +kernel
theorem dX3_visits_31 : decode cX3_visits 31 = .ok (.iload 4, 2) := by decide +kernel
theorem dX3_visits_33 : decode cX3_visits 33 = .ok (.invokevirtual 102, 3) := by decide +kernel
theorem dX3_visits_36 : decode cX3_visits 36 = .ok (.ireturn, 1) := by decide +kernel
theorem dX3_visits_37 : decode cX3_visits 37 = .ok (.aload_n 0, 1) := by decide +kernel
theorem dX3_visits_38 : decode cX3_visits 38 = .ok (.invokevirtual 238, 3) := by decide +kernel
theorem dX3_visits_41 : decode cX3_visits 41 = .ok (.iconst 0, 1) := by decide +kernel
theorem dX3_visits_42 : decode cX3_visits 42 = .ok (.istore 5, 2) := by decide +kernel
theorem dX3_visits_44 : decode cX3_visits 44 = .ok (.iconst 0, 1) := by decide +kernel
theorem dX3_visits_45 : decode cX3_visits 45 = .ok (.istore 6, 2) := by decide +kernel
theorem dX3_visits_47 : decode cX3_visits 47 = .ok (.iload 6, 2) := by decide +kernel
theorem dX3_visits_49 : decode cX3_visits 49 = .ok (.iload_n 3, 1) := by decide +kernel
theorem dX3_visits_50 : decode cX3_visits 50 = .ok (.if_icmp .ge 34, 3) := by decide +kernel
theorem dX3_visits_53 : decode cX3_visits 53 = .ok (.aload_n 0, 1) := by decide +kernel
theorem dX3_visits_54 : decode cX3_visits 54 = .ok (.iconst 0, 1) := by decide +kernel
theorem dX3_visits_55 : decode cX3_visits 55 = .ok (.invokevirtual 130, 3) := by decide +kernel
theorem dX3_visits_58 : decode cX3_visits 58 = .ok (.iload 5, 2) := by decide +kernel
theorem dX3_visits_60 : decode cX3_visits 60 = .ok (.aload_n 0, 1) := by decide +kernel
theorem dX3_visits_61 : decode cX3_visits 61 = .ok (.getfield 34, 3) := by decide +kernel
theorem dX3_visits_64 : decode cX3_visits 64 = .ok (.iload_n 1, 1) := by decide +kernel
theorem dX3_visits_65 : decode cX3_visits 65 = .ok (.iaload, 1) := by decide +kernel
theorem dX3_visits_66 : decode cX3_visits 66 = .ok (.iload_n 2, 1) := by decide +kernel
theorem dX3_visits_67 : decode cX3_visits 67 = .ok (.if_icmp .ne 7, 3) := by decide +kernel
theorem dX3_visits_70 : decode cX3_visits 70 = .ok (.iconst 1, 1) := by decide +kernel
theorem dX3_visits_71 : decode cX3_visits 71 = .ok (.goto 4, 3) := by decide +kernel
theorem dX3_visits_74 : decode cX3_visits 74 = .ok (.iconst 0, 1) := by decide +kernel
theorem dX3_visits_75 : decode cX3_visits 75 = .ok (.iadd, 1) := by decide +kernel
theorem dX3_visits_76 : decode cX3_visits 76 = .ok (.istore 5, 2) := by decide +kernel
theorem dX3_visits_78 : decode cX3_visits 78 = .ok (.iinc 6 1, 3) := by decide +kernel
theorem dX3_visits_81 : decode cX3_visits 81 = .ok (.goto (-34), 3) := by decide +kernel
theorem dX3_visits_84 : decode cX3_visits 84 = .ok (.aload_n 0, 1) := by decide +kernel
theorem dX3_visits_85 : decode cX3_visits 85 = .ok (.invokevirtual 241, 3) := by decide +kernel
theorem dX3_visits_88 : decode cX3_visits 88 = .ok (.iload 5, 2) := by decide +kernel
theorem dX3_visits_90 : decode cX3_visits 90 = .ok (.ireturn, 1) := by decide +kernel
theorem dX3_together_0 : decode cX3_together 0 = .ok (.aload_n 0, 1) := by decide +kernel
theorem dX3_together_1 : decode cX3_together 1 = .ok (.iload_n 1, 1) := by decide +kernel
theorem dX3_together_2 : decode cX3_together 2 = .ok (.iload_n 2, 1) := by decide +kernel
theorem dX3_together_3 : decode cX3_together 3 = .ok (.invokevirtual 244, 3) := by decide +kernel
theorem dX3_together_6 : decode cX3_together 6 = .ok (.ifCond .ne 7, 3) := by decide +kernel
theorem dX3_together_9 : decode cX3_together 9 = .ok (.iconst (-1), 1) := by decide +kernel
theorem dX3_together_10 : decode cX3_together 10 = .ok (.goto 7, 3) := by decide +kernel
theorem dX3_together_13 : decode cX3_together 13 = .ok (.iload_n 3, 1) := by decide +kernel
theorem dX3_together_14 : decode cX3_together 14 = .ok (.invokestatic 235, 3) := by decide +kernel
theorem dX3_together_17 : decode cX3_together 17 = .ok (.istore 4, 2) := by decide +kernel
theorem dX3_together_19 : decode cX3_together 19 = .ok (.iload 4, 2) := by decide +kernel
theorem dX3_together_21 : decode cX3_together 21 = .ok (.ifCond .eq 10, 3) := by decide +kernel
theorem dX3_together_24 : decode cX3_together 24 = .ok (.aload_n 0, 1) := by decide +kernel
theorem dX3_together_25 : decode cX3_together 25 = .ok (.iload 4, 2) := by decide +kernel
theorem dX3_together_27 : decode cX3_together 27 = .ok (.invokevirtual 102, 3) := by decide +kernel
theorem dX3_together_30 : decode cX3_together 30 = .ok (.ireturn, 1) := by decide +kernel
theorem dX3_together_31 : decode cX3_together 31 = .ok (.aload_n 0, 1) := by decide +kernel
theorem dX3_together_32 : decode cX3_together 32 = .ok (.invokevirtual 238, 3) := by decide +kernel
theorem dX3_together_35 : decode cX3_together 35 = .ok (.iconst 0, 1) := by decide +kernel
theorem dX3_together_36 : decode cX3_together 36 = .ok (.istore 5, 2) := by decide +kernel
theorem dX3_together_38 : decode cX3_together 38 = .ok (.iconst 0, 1) := by decide +kernel
theorem dX3_together_39 : decode cX3_together 39 = .ok (.istore 6, 2) := by decide +kernel
theorem dX3_together_41 : decode cX3_together 41 = .ok (.iload 6, 2) := by decide +kernel
theorem dX3_together_43 : decode cX3_together 43 = .ok (.iload_n 3, 1) := by decide +kernel
theorem dX3_together_44 : decode cX3_together 44 = .ok (.if_icmp .ge 39, 3) := by decide +kernel
theorem dX3_together_47 : decode cX3_together 47 = .ok (.aload_n 0, 1) := by decide +kernel
theorem dX3_together_48 : decode cX3_together 48 = .ok (.iconst 0, 1) := by decide +kernel
theorem dX3_together_49 : decode cX3_together 49 = .ok (.invokevirtual 130, 3) := by decide +kernel
theorem dX3_together_52 : decode cX3_together 52 = .ok (.iload 5, 2) := by decide +kernel
theorem dX3_together_54 : decode cX3_together 54 = .ok (.aload_n 0, 1) := by decide +kernel
theorem dX3_together_55 : decode cX3_together 55 = .ok (.getfield 34, 3) := by decide +kernel
theorem dX3_together_58 : decode cX3_together 58 = .ok (.iload_n 1, 1) := by decide +kernel
theorem dX3_together_59 : decode cX3_together 59 = .ok (.iaload, 1) := by decide +kernel
theorem dX3_together_60 : decode cX3_together 60 = .ok (.aload_n 0, 1) := by decide +kernel
theorem dX3_together_61 : decode cX3_together 61 = .ok (.getfield 34, 3) := by decide +kernel
theorem dX3_together_64 : decode cX3_together 64 = .ok (.iload_n 2, 1) := by decide +kernel
theorem dX3_together_65 : decode cX3_together 65 = .ok (.iaload, 1) := by decide +kernel
theorem dX3_together_66 : decode cX3_together 66 = .ok (.if_icmp .ne 7, 3) := by decide +kernel
theorem dX3_together_69 : decode cX3_together 69 = .ok (.iconst 1, 1) := by decide +kernel
theorem dX3_together_70 : decode cX3_together 70 = .ok (.goto 4, 3) := by decide +kernel
theorem dX3_together_73 : decode cX3_together 73 = .ok (.iconst 0, 1) := by decide +kernel
theorem dX3_together_74 : decode cX3_together 74 = .ok (.iadd, 1) := by decide +kernel
theorem dX3_together_75 : decode cX3_together 75 = .ok (.istore 5, 2) := by decide +kernel
theorem dX3_together_77 : decode cX3_together 77 = .ok (.iinc 6 1, 3) := by decide +kernel
theorem dX3_together_80 : decode cX3_together 80 = .ok (.goto (-39), 3) := by decide +kernel
theorem dX3_together_83 : decode cX3_together 83 = .ok (.aload_n 0, 1) := by decide +kernel
theorem dX3_together_84 : decode cX3_together 84 = .ok (.invokevirtual 241, 3) := by decide +kernel
theorem dX3_together_87 : decode cX3_together 87 = .ok (.iload 5, 2) := by decide +kernel
theorem dX3_together_89 : decode cX3_together 89 = .ok (.ireturn, 1) := by decide +kernel
theorem dX3_rests_0 : decode cX3_rests 0 = .ok (.aload_n 0, 1) := by decide +kernel
theorem dX3_rests_1 : decode cX3_rests 1 = .ok (.iload_n 1, 1) := by decide +kernel
theorem dX3_rests_2 : decode cX3_rests 2 = .ok (.invokevirtual 91, 3) := by decide +kernel
theorem dX3_rests_5 : decode cX3_rests 5 = .ok (.ifCond .ne 7, 3) := by decide +kernel
theorem dX3_rests_8 : decode cX3_rests 8 = .ok (.iconst (-1), 1) := by decide +kernel
theorem dX3_rests_9 : decode cX3_rests 9 = .ok (.goto 7, 3) := by decide +kernel
theorem dX3_rests_12 : decode cX3_rests 12 = .ok (.iload_n 2, 1) := by decide +kernel
theorem dX3_rests_13 : decode cX3_rests 13 = .ok (.invokestatic 235, 3) := by decide +kernel
theorem dX3_rests_16 : decode cX3_rests 16 = .ok (.istore_n 3, 1) := by decide +kernel
theorem dX3_rests_17 : decode cX3_rests 17 = .ok (.iload_n 3, 1) := by decide +kernel
theorem dX3_rests_18 : decode cX3_rests 18 = .ok (.ifCond .eq 9, 3) := by decide +kernel
theorem dX3_rests_21 : decode cX3_rests 21 = .ok (.aload_n 0, 1) := by decide +kernel
theorem dX3_rests_22 : decode cX3_rests 22 = .ok (.iload_n 3, 1) := by decide +kernel
theorem dX3_rests_23 : decode cX3_rests 23 = .ok (.invokevirtual 102, 3) := by decide +kernel
theorem dX3_rests_26 : decode cX3_rests 26 = .ok (.ireturn, 1) := by decide +kernel
theorem dX3_rests_27 : decode cX3_rests 27 = .ok (.aload_n 0, 1) := by decide +kernel
theorem dX3_rests_28 : decode cX3_rests 28 = .ok (.iload_n 2, 1) := by decide +kernel
theorem dX3_rests_29 : decode cX3_rests 29 = .ok (.invokevirtual 256, 3) := by decide +kernel
theorem dX3_rests_32 : decode cX3_rests 32 = .ok (.pop, 1) := by decide +kernel
theorem dX3_rests_33 : decode cX3_rests 33 = .ok (.aload_n 0, 1) := by decide +kernel
theorem dX3_rests_34 : decode cX3_rests 34 = .ok (.getfield 61, 3) := by decide +kernel
theorem dX3_rests_37 : decode cX3_rests 37 = .ok (.iload_n 1, 1) := by decide +kernel
theorem dX3_rests_38 : decode cX3_rests 38 = .ok (.iaload, 1) := by decide +kernel
theorem dX3_rests_39 : decode cX3_rests 39 = .ok (.ireturn, 1) := by decide +kernel
theorem dX3_firstSnap_0 : decode cX3_firstSnap 0 = .ok (.aload_n 0, 1) := by decide +kernel
theorem dX3_firstSnap_1 : decode cX3_firstSnap 1 = .ok (.invokevirtual 238, 3) := by decide +kernel
theorem dX3_firstSnap_4 : decode cX3_firstSnap 4 = .ok (.aload_n 0, 1) := by decide +kernel
theorem dX3_firstSnap_5 : decode cX3_firstSnap 5 = .ok (.invokevirtual 229, 3) := by decide +kernel
theorem dX3_firstSnap_8 : decode cX3_firstSnap 8 = .ok (.bipush (-9), 2) := by decide +kernel
theorem dX3_firstSnap_10 : decode cX3_firstSnap 10 = .ok (.istore_n 1, 1) := by decide +kernel
theorem dX3_firstSnap_11 : decode cX3_firstSnap 11 = .ok (.iconst 1, 1) := by decide +kernel
theorem dX3_firstSnap_12 : decode cX3_firstSnap 12 = .ok (.istore_n 2, 1) := by decide +kernel
theorem dX3_firstSnap_13 : decode cX3_firstSnap 13 = .ok (.iload_n 2, 1) := by decide +kernel
theorem dX3_firstSnap_14 : decode cX3_firstSnap 14 = .ok (.bipush 60, 2) := by decide +kernel
theorem dX3_firstSnap_16 : decode cX3_firstSnap 16 = .ok (.if_icmp .gt 32, 3) := by decide +kernel
theorem dX3_firstSnap_19 : decode cX3_firstSnap 19 = .ok (.iload_n 1, 1) := by decide +kernel
theorem dX3_firstSnap_20 : decode cX3_firstSnap 20 = .ok (.ifCond .ge 28, 3) := by decide +kernel
theorem dX3_firstSnap_23 : decode cX3_firstSnap 23 = .ok (.aload_n 0, 1) := by decide +kernel
theorem dX3_firstSnap_24 : decode cX3_firstSnap 24 = .ok (.iconst 0, 1) := by decide +kernel
theorem dX3_firstSnap_25 : decode cX3_firstSnap 25 = .ok (.invokevirtual 130, 3) := by decide +kernel
theorem dX3_firstSnap_28 : decode cX3_firstSnap 28 = .ok (.aload_n 0, 1) := by decide +kernel
theorem dX3_firstSnap_29 : decode cX3_firstSnap 29 = .ok (.getfield 217, 3) := by decide +kernel
theorem dX3_firstSnap_32 : decode cX3_firstSnap 32 = .ok (.ifCond .le 7, 3) := by decide +kernel
theorem dX3_firstSnap_35 : decode cX3_firstSnap 35 = .ok (.iload_n 2, 1) := by decide +kernel
theorem dX3_firstSnap_36 : decode cX3_firstSnap 36 = .ok (.goto 5, 3) := by decide +kernel
theorem dX3_firstSnap_39 : decode cX3_firstSnap 39 = .ok (.bipush (-9), 2) := by decide +kernel
theorem dX3_firstSnap_41 : decode cX3_firstSnap 41 = .ok (.istore_n 1, 1) := by decide +kernel
theorem dX3_firstSnap_42 : decode cX3_firstSnap 42 = .ok (.iinc 2 1, 3) := by decide +kernel
theorem dX3_firstSnap_45 : decode cX3_firstSnap 45 = .ok (.goto (-32), 3) := by decide +kernel
theorem dX3_firstSnap_48 : decode cX3_firstSnap 48 = .ok (.aload_n 0, 1) := by decide +kernel
theorem dX3_firstSnap_49 : decode cX3_firstSnap 49 = .ok (.invokevirtual 241, 3) := by decide +kernel
theorem dX3_firstSnap_52 : decode cX3_firstSnap 52 = .ok (.iload_n 1, 1) := by decide +kernel
theorem dX3_firstSnap_53 : decode cX3_firstSnap 53 = .ok (.ireturn, 1) := by decide +kernel
theorem dX3_busy_0 : decode cX3_busy 0 = .ok (.iload_n 1, 1) := by decide +kernel
theorem dX3_busy_1 : decode cX3_busy 1 = .ok (.invokestatic 235, 3) := by decide +kernel
theorem dX3_busy_4 : decode cX3_busy 4 = .ok (.istore_n 3, 1) := by decide +kernel
theorem dX3_busy_5 : decode cX3_busy 5 = .ok (.iload_n 3, 1) := by decide +kernel
theorem dX3_busy_6 : decode cX3_busy 6 = .ok (.ifCond .ne 15, 3) := by decide +kernel
theorem dX3_busy_9 : decode cX3_busy 9 = .ok (.iload_n 2, 1) := by decide +kernel
theorem dX3_busy_10 : decode cX3_busy 10 = .ok (.iconst 0, 1) := by decide +kernel
theorem dX3_busy_11 : decode cX3_busy 11 = .ok (.iconst 1, 1) := by decide +kernel
theorem dX3_busy_12 : decode cX3_busy 12 = .ok (.invokestatic 113, 3) := by decide +kernel
theorem dX3_busy_15 : decode cX3_busy 15 = .ok (.ifCond .ne 6, 3) := by decide +kernel
theorem dX3_busy_18 : decode cX3_busy 18 = .ok (.bipush (-2), 2) := by decide +kernel
theorem dX3_busy_20 : decode cX3_busy 20 = .ok (.istore_n 3, 1) := by decide +kernel
theorem dX3_busy_21 : decode cX3_busy 21 = .ok (.iload_n 3, 1) := by decide +kernel
theorem dX3_busy_22 : decode cX3_busy 22 = .ok (.ifCond .eq 9, 3) := by decide +kernel
theorem dX3_busy_25 : decode cX3_busy 25 = .ok (.aload_n 0, 1) := by decide +kernel
theorem dX3_busy_26 : decode cX3_busy 26 = .ok (.iload_n 3, 1) := by decide +kernel
theorem dX3_busy_27 : decode cX3_busy 27 = .ok (.invokevirtual 102, 3) := by decide +kernel
theorem dX3_busy_30 : decode cX3_busy 30 = .ok (.ireturn, 1) := by decide +kernel
theorem dX3_busy_31 : decode cX3_busy 31 = .ok (.iconst 0, 1) := by decide +kernel
theorem dX3_busy_32 : decode cX3_busy 32 = .ok (.istore 4, 2) := by decide +kernel
theorem dX3_busy_34 : decode cX3_busy 34 = .ok (.iload 4, 2) := by decide +kernel
theorem dX3_busy_36 : decode cX3_busy 36 = .ok (.bipush 10, 2) := by decide +kernel
theorem dX3_busy_38 : decode cX3_busy 38 = .ok (.if_icmp .ge 17, 3) := by decide +kernel
theorem dX3_busy_41 : decode cX3_busy 41 = .ok (.aload_n 0, 1) := by decide +kernel
theorem dX3_busy_42 : decode cX3_busy 42 = .ok (.getfield 77, 3) := by decide +kernel
theorem dX3_busy_45 : decode cX3_busy 45 = .ok (.iload 4, 2) := by decide +kernel
theorem dX3_busy_47 : decode cX3_busy 47 = .ok (.iconst 0, 1) := by decide +kernel
theorem dX3_busy_48 : decode cX3_busy 48 = .ok (.iastore, 1) := by decide +kernel
theorem dX3_busy_49 : decode cX3_busy 49 = .ok (.iinc 4 1, 3) := by decide +kernel
theorem dX3_busy_52 : decode cX3_busy 52 = .ok (.goto (-18), 3) := by decide +kernel
theorem dX3_busy_55 : decode cX3_busy 55 = .ok (.aload_n 0, 1) := by decide +kernel
theorem dX3_busy_56 : decode cX3_busy 56 = .ok (.invokevirtual 238, 3) := by decide +kernel
theorem dX3_busy_59 : decode cX3_busy 59 = .ok (.iconst 0, 1) := by decide +kernel
theorem dX3_busy_60 : decode cX3_busy 60 = .ok (.istore 4, 2) := by decide +kernel
theorem dX3_busy_62 : decode cX3_busy 62 = .ok (.iload 4, 2) := by decide +kernel
theorem dX3_busy_64 : decode cX3_busy 64 = .ok (.iload_n 1, 1) := by decide +kernel
theorem dX3_busy_65 : decode cX3_busy 65 = .ok (.if_icmp .gt 48, 3) := by decide +kernel
theorem dX3_busy_68 : decode cX3_busy 68 = .ok (.iconst 0, 1) := by decide +kernel
theorem dX3_busy_69 : decode cX3_busy 69 = .ok (.istore 5, 2) := by decide +kernel
theorem dX3_busy_71 : decode cX3_busy 71 = .ok (.iload 5, 2) := by decide +kernel
theorem dX3_busy_73 : decode cX3_busy 73 = .ok (.aload_n 0, 1) := by decide +kernel
theorem dX3_busy_74 : decode cX3_busy 74 = .ok (.getfield 88, 3) := by decide +kernel
theorem dX3_busy_77 : decode cX3_busy 77 = .ok (.if_icmp .ge 25, 3) := by decide +kernel
theorem dX3_busy_80 : decode cX3_busy 80 = .ok (.aload_n 0, 1) := by decide +kernel
theorem dX3_busy_81 : decode cX3_busy 81 = .ok (.getfield 77, 3) := by decide +kernel
theorem dX3_busy_84 : decode cX3_busy 84 = .ok (.aload_n 0, 1) := by decide +kernel
theorem dX3_busy_85 : decode cX3_busy 85 = .ok (.getfield 34, 3) := by decide +kernel
theorem dX3_busy_88 : decode cX3_busy 88 = .ok (.iload 5, 2) := by decide +kernel
theorem dX3_busy_90 : decode cX3_busy 90 = .ok (.iaload, 1) := by decide +kernel
theorem dX3_busy_91 : decode cX3_busy 91 = .ok (.dup2, 1) := by decide +kernel
theorem dX3_busy_92 : decode cX3_busy 92 = .ok (.iaload, 1) := by decide +kernel
theorem dX3_busy_93 : decode cX3_busy 93 = .ok (.iconst 1, 1) := by decide +kernel
theorem dX3_busy_94 : decode cX3_busy 94 = .ok (.iadd, 1) := by decide +kernel
theorem dX3_busy_95 : decode cX3_busy 95 = .ok (.iastore, 1) := by decide +kernel
theorem dX3_busy_96 : decode cX3_busy 96 = .ok (.iinc 5 1, 3) := by decide +kernel
theorem dX3_busy_99 : decode cX3_busy 99 = .ok (.goto (-28), 3) := by decide +kernel
theorem dX3_busy_102 : decode cX3_busy 102 = .ok (.aload_n 0, 1) := by decide +kernel
theorem dX3_busy_103 : decode cX3_busy 103 = .ok (.iconst 0, 1) := by decide +kernel
theorem dX3_busy_104 : decode cX3_busy 104 = .ok (.invokevirtual 130, 3) := by decide +kernel
theorem dX3_busy_107 : decode cX3_busy 107 = .ok (.iinc 4 1, 3) := by decide +kernel
theorem dX3_busy_110 : decode cX3_busy 110 = .ok (.goto (-48), 3) := by decide +kernel
theorem dX3_busy_113 : decode cX3_busy 113 = .ok (.aload_n 0, 1) := by decide +kernel
theorem dX3_busy_114 : decode cX3_busy 114 = .ok (.invokevirtual 241, 3) := by decide +kernel
theorem dX3_busy_117 : decode cX3_busy 117 = .ok (.iconst 0, 1) := by decide +kernel
theorem dX3_busy_118 : decode cX3_busy 118 = .ok (.istore 4, 2) := by decide +kernel
theorem dX3_busy_120 : decode cX3_busy 120 = .ok (.iconst 1, 1) := by decide +kernel
theorem dX3_busy_121 : decode cX3_busy 121 = .ok (.istore 5, 2) := by decide +kernel
theorem dX3_busy_123 : decode cX3_busy 123 = .ok (.iload 5, 2) := by decide +kernel
theorem dX3_busy_125 : decode cX3_busy 125 = .ok (.bipush 10, 2) := by decide +kernel
theorem dX3_busy_127 : decode cX3_busy 127 = .ok (.if_icmp .ge 35, 3) := by decide +kernel
theorem dX3_busy_130 : decode cX3_busy 130 = .ok (.aload_n 0, 1) := by decide +kernel
theorem dX3_busy_131 : decode cX3_busy 131 = .ok (.getfield 77, 3) := by decide +kernel
theorem dX3_busy_134 : decode cX3_busy 134 = .ok (.iload 5, 2) := by decide +kernel
theorem dX3_busy_136 : decode cX3_busy 136 = .ok (.iaload, 1) := by decide +kernel
theorem dX3_busy_137 : decode cX3_busy 137 = .ok (.aload_n 0, 1) := by decide +kernel
theorem dX3_busy_138 : decode cX3_busy 138 = .ok (.getfield 77, 3) := by decide +kernel
theorem dX3_busy_141 : decode cX3_busy 141 = .ok (.iload 4, 2) := by decide +kernel
theorem dX3_busy_143 : decode cX3_busy 143 = .ok (.iaload, 1) := by decide +kernel
theorem dX3_busy_144 : decode cX3_busy 144 = .ok (.if_icmp .le 8, 3) := by decide +kernel
theorem dX3_busy_147 : decode cX3_busy 147 = .ok (.iload 5, 2) := by decide +kernel
theorem dX3_busy_149 : decode cX3_busy 149 = .ok (.goto 5, 3) := by decide +kernel
theorem dX3_busy_152 : decode cX3_busy 152 = .ok (.iload 4, 2) := by decide +kernel
theorem dX3_busy_154 : decode cX3_busy 154 = .ok (.istore 4, 2) := by decide +kernel
theorem dX3_busy_156 : decode cX3_busy 156 = .ok (.iinc 5 1, 3) := by decide +kernel
theorem dX3_busy_159 : decode cX3_busy 159 = .ok (.goto (-36), 3) := by decide +kernel
theorem dX3_busy_162 : decode cX3_busy 162 = .ok (.iload_n 2, 1) := by decide +kernel
theorem dX3_busy_163 : decode cX3_busy 163 = .ok (.ifCond .ne 8, 3) := by decide +kernel
theorem dX3_busy_166 : decode cX3_busy 166 = .ok (.iload 4, 2) := by decide +kernel
theorem dX3_busy_168 : decode cX3_busy 168 = .ok (.goto 10, 3) := by decide +kernel
theorem dX3_busy_171 : decode cX3_busy 171 = .ok (.aload_n 0, 1) := by decide +kernel
theorem dX3_busy_172 : decode cX3_busy 172 = .ok (.getfield 77, 3) := by decide +kernel
theorem dX3_busy_175 : decode cX3_busy 175 = .ok (.iload 4, 2) := by decide +kernel
theorem dX3_busy_177 : decode cX3_busy 177 = .ok (.iaload, 1) := by decide +kernel
theorem dX3_busy_178 : decode cX3_busy 178 = .ok (.ireturn, 1) := by decide +kernel
theorem dX3_tamed_0 : decode cX3_tamed 0 = .ok (.aload_n 0, 1) := by decide +kernel
theorem dX3_tamed_1 : decode cX3_tamed 1 = .ok (.iload_n 1, 1) := by decide +kernel
theorem dX3_tamed_2 : decode cX3_tamed 2 = .ok (.invokevirtual 141, 3) := by decide +kernel
theorem dX3_tamed_5 : decode cX3_tamed 5 = .ok (.ifCond .ne 9, 3) := by decide +kernel
theorem dX3_tamed_8 : decode cX3_tamed 8 = .ok (.aload_n 0, 1) := by decide +kernel
theorem dX3_tamed_9 : decode cX3_tamed 9 = .ok (.iconst (-1), 1) := by decide +kernel
theorem dX3_tamed_10 : decode cX3_tamed 10 = .ok (.invokevirtual 102, 3) := by decide +kernel
theorem dX3_tamed_13 : decode cX3_tamed 13 = .ok (.ireturn, 1) := by decide +kernel
theorem dX3_tamed_14 : decode cX3_tamed 14 = .ok (.aload_n 0, 1) := by decide +kernel
theorem dX3_tamed_15 : decode cX3_tamed 15 = .ok (.iload_n 1, 1) := by decide +kernel
theorem dX3_tamed_16 : decode cX3_tamed 16 = .ok (.invokevirtual 188, 3) := by decide +kernel
theorem dX3_tamed_19 : decode cX3_tamed 19 = .ok (.istore_n 2, 1) := by decide +kernel
theorem dX3_tamed_20 : decode cX3_tamed 20 = .ok (.iload_n 2, 1) := by decide +kernel
theorem dX3_tamed_21 : decode cX3_tamed 21 = .ok (.bipush 9, 2) := by decide +kernel
theorem dX3_tamed_23 : decode cX3_tamed 23 = .ok (.if_icmp .ne 6, 3) := by decide +kernel
theorem dX3_tamed_26 : decode cX3_tamed 26 = .ok (.bipush (-9), 2) := by decide +kernel
theorem dX3_tamed_28 : decode cX3_tamed 28 = .ok (.ireturn, 1) := by decide +kernel
theorem dX3_tamed_29 : decode cX3_tamed 29 = .ok (.aload_n 0, 1) := by decide +kernel
theorem dX3_tamed_30 : decode cX3_tamed 30 = .ok (.getfield 16, 3) := by decide +kernel
theorem dX3_tamed_33 : decode cX3_tamed 33 = .ok (.iload_n 1, 1) := by decide +kernel
theorem dX3_tamed_34 : decode cX3_tamed 34 = .ok (.iaload, 1) := by decide +kernel
theorem dX3_tamed_35 : decode cX3_tamed 35 = .ok (.istore_n 3, 1) := by decide +kernel
theorem dX3_tamed_36 : decode cX3_tamed 36 = .ok (.bipush (-9), 2) := by decide +kernel
theorem dX3_tamed_38 : decode cX3_tamed 38 = .ok (.istore 4, 2) := by decide +kernel
theorem dX3_tamed_40 : decode cX3_tamed 40 = .ok (.iconst 0, 1) := by decide +kernel
theorem dX3_tamed_41 : decode cX3_tamed 41 = .ok (.istore 5, 2) := by decide +kernel
theorem dX3_tamed_43 : decode cX3_tamed 43 = .ok (.iload 5, 2) := by decide +kernel
theorem dX3_tamed_45 : decode cX3_tamed 45 = .ok (.bipush 10, 2) := by decide +kernel
theorem dX3_tamed_47 : decode cX3_tamed 47 = .ok (.if_icmp .ge 34, 3) := by decide +kernel
theorem dX3_tamed_50 : decode cX3_tamed 50 = .ok (.aload_n 0, 1) := by decide +kernel
theorem dX3_tamed_51 : decode cX3_tamed 51 = .ok (.getfield 16, 3) := by decide +kernel
theorem dX3_tamed_54 : decode cX3_tamed 54 = .ok (.iload_n 1, 1) := by decide +kernel
theorem dX3_tamed_55 : decode cX3_tamed 55 = .ok (.iload 5, 2) := by decide +kernel
theorem dX3_tamed_57 : decode cX3_tamed 57 = .ok (.iastore, 1) := by decide +kernel
theorem dX3_tamed_58 : decode cX3_tamed 58 = .ok (.aload_n 0, 1) := by decide +kernel
theorem dX3_tamed_59 : decode cX3_tamed 59 = .ok (.iload_n 2, 1) := by decide +kernel
theorem dX3_tamed_60 : decode cX3_tamed 60 = .ok (.invokevirtual 208, 3) := by decide +kernel
theorem dX3_tamed_63 : decode cX3_tamed 63 = .ok (.ifCond .eq 8, 3) := by decide +kernel
theorem dX3_tamed_66 : decode cX3_tamed 66 = .ok (.iload 4, 2) := by decide +kernel
theorem dX3_tamed_68 : decode cX3_tamed 68 = .ok (.goto 5, 3) := by decide +kernel
theorem dX3_tamed_71 : decode cX3_tamed 71 = .ok (.iload 5, 2) := by decide +kernel
theorem dX3_tamed_73 : decode cX3_tamed 73 = .ok (.istore 4, 2) := by decide +kernel
theorem dX3_tamed_75 : decode cX3_tamed 75 = .ok (.iinc 5 1, 3) := by decide +kernel
theorem dX3_tamed_78 : decode cX3_tamed 78 = .ok (.goto (-35), 3) := by decide +kernel
theorem dX3_tamed_81 : decode cX3_tamed 81 = .ok (.aload_n 0, 1) := by decide +kernel
theorem dX3_tamed_82 : decode cX3_tamed 82 = .ok (.getfield 16, 3) := by decide +kernel
theorem dX3_tamed_85 : decode cX3_tamed 85 = .ok (.iload_n 1, 1) := by decide +kernel
theorem dX3_tamed_86 : decode cX3_tamed 86 = .ok (.iload_n 3, 1) := by decide +kernel
theorem dX3_tamed_87 : decode cX3_tamed 87 = .ok (.iastore, 1) := by decide +kernel
theorem dX3_tamed_88 : decode cX3_tamed 88 = .ok (.iload 4, 2) := by decide +kernel
theorem dX3_tamed_90 : decode cX3_tamed 90 = .ok (.ireturn, 1) := by decide +kernel
theorem dX3_unled_0 : decode cX3_unled 0 = .ok (.iconst 0, 1) := by decide +kernel
theorem dX3_unled_1 : decode cX3_unled 1 = .ok (.istore_n 1, 1) := by decide +kernel
theorem dX3_unled_2 : decode cX3_unled 2 = .ok (.iload_n 1, 1) := by decide +kernel
theorem dX3_unled_3 : decode cX3_unled 3 = .ok (.bipush 64, 2) := by decide +kernel
theorem dX3_unled_5 : decode cX3_unled 5 = .ok (.if_icmp .ge 16, 3) := by decide +kernel
theorem dX3_unled_8 : decode cX3_unled 8 = .ok (.aload_n 0, 1) := by decide +kernel
theorem dX3_unled_9 : decode cX3_unled 9 = .ok (.getfield 80, 3) := by decide +kernel
theorem dX3_unled_12 : decode cX3_unled 12 = .ok (.iload_n 1, 1) := by decide +kernel
theorem dX3_unled_13 : decode cX3_unled 13 = .ok (.iconst 0, 1) := by decide +kernel
theorem dX3_unled_14 : decode cX3_unled 14 = .ok (.iastore, 1) := by decide +kernel
theorem dX3_unled_15 : decode cX3_unled 15 = .ok (.iinc 1 1, 3) := by decide +kernel
theorem dX3_unled_18 : decode cX3_unled 18 = .ok (.goto (-16), 3) := by decide +kernel
theorem dX3_unled_21 : decode cX3_unled 21 = .ok (.iconst 0, 1) := by decide +kernel
theorem dX3_unled_22 : decode cX3_unled 22 = .ok (.istore_n 1, 1) := by decide +kernel
theorem dX3_unled_23 : decode cX3_unled 23 = .ok (.iload_n 1, 1) := by decide +kernel
theorem dX3_unled_24 : decode cX3_unled 24 = .ok (.aload_n 0, 1) := by decide +kernel
theorem dX3_unled_25 : decode cX3_unled 25 = .ok (.getfield 88, 3) := by decide +kernel
theorem dX3_unled_28 : decode cX3_unled 28 = .ok (.if_icmp .ge 107, 3) := by decide +kernel
theorem dX3_unled_31 : decode cX3_unled 31 = .ok (.bipush 63, 2) := by decide +kernel
theorem dX3_unled_33 : decode cX3_unled 33 = .ok (.istore_n 2, 1) := by decide +kernel
theorem dX3_unled_34 : decode cX3_unled 34 = .ok (.iload_n 2, 1) := by decide +kernel
theorem dX3_unled_35 : decode cX3_unled 35 = .ok (.ifCond .lt 94, 3) := by decide +kernel
theorem dX3_unled_38 : decode cX3_unled 38 = .ok (.iconst 0, 1) := by decide +kernel
theorem dX3_unled_39 : decode cX3_unled 39 = .ok (.istore_n 3, 1) := by decide +kernel
theorem dX3_unled_40 : decode cX3_unled 40 = .ok (.iload_n 3, 1) := by decide +kernel
theorem dX3_unled_41 : decode cX3_unled 41 = .ok (.aload_n 0, 1) := by decide +kernel
theorem dX3_unled_42 : decode cX3_unled 42 = .ok (.getfield 83, 3) := by decide +kernel
theorem dX3_unled_45 : decode cX3_unled 45 = .ok (.if_icmp .ge 78, 3) := by decide +kernel
theorem dX3_unled_48 : decode cX3_unled 48 = .ok (.iload_n 2, 1) := by decide +kernel
theorem dX3_unled_49 : decode cX3_unled 49 = .ok (.iload_n 3, 1) := by decide +kernel
theorem dX3_unled_50 : decode cX3_unled 50 = .ok (.ishr, 1) := by decide +kernel
theorem dX3_unled_51 : decode cX3_unled 51 = .ok (.iconst 1, 1) := by decide +kernel
theorem dX3_unled_52 : decode cX3_unled 52 = .ok (.iand, 1) := by decide +kernel
theorem dX3_unled_53 : decode cX3_unled 53 = .ok (.ifCond .eq 64, 3) := by decide +kernel
theorem dX3_unled_56 : decode cX3_unled 56 = .ok (.aload_n 0, 1) := by decide +kernel
theorem dX3_unled_57 : decode cX3_unled 57 = .ok (.iload_n 3, 1) := by decide +kernel
theorem dX3_unled_58 : decode cX3_unled 58 = .ok (.invokevirtual 299, 3) := by decide +kernel
theorem dX3_unled_61 : decode cX3_unled 61 = .ok (.aload_n 0, 1) := by decide +kernel
theorem dX3_unled_62 : decode cX3_unled 62 = .ok (.getfield 28, 3) := by decide +kernel
theorem dX3_unled_65 : decode cX3_unled 65 = .ok (.iload_n 1, 1) := by decide +kernel
theorem dX3_unled_66 : decode cX3_unled 66 = .ok (.iaload, 1) := by decide +kernel
theorem dX3_unled_67 : decode cX3_unled 67 = .ok (.if_icmp .le 6, 3) := by decide +kernel
theorem dX3_unled_70 : decode cX3_unled 70 = .ok (.goto 47, 3) := by decide +kernel
theorem dX3_unled_73 : decode cX3_unled 73 = .ok (.aload_n 0, 1) := by decide +kernel
theorem dX3_unled_74 : decode cX3_unled 74 = .ok (.getfield 80, 3) := by decide +kernel
theorem dX3_unled_77 : decode cX3_unled 77 = .ok (.iload_n 2, 1) := by decide +kernel
theorem dX3_unled_78 : decode cX3_unled 78 = .ok (.iconst 1, 1) := by decide +kernel
theorem dX3_unled_79 : decode cX3_unled 79 = .ok (.iload_n 3, 1) := by decide +kernel
theorem dX3_unled_80 : decode cX3_unled 80 = .ok (.ishl, 1) := by decide +kernel
theorem dX3_unled_81 : decode cX3_unled 81 = .ok (.iconst (-1), 1) := by decide +kernel
theorem dX3_unled_82 : decode cX3_unled 82 = .ok (.ixor, 1) := by decide +kernel
theorem dX3_unled_83 : decode cX3_unled 83 = .ok (.iand, 1) := by decide +kernel
theorem dX3_unled_84 : decode cX3_unled 84 = .ok (.iaload, 1) := by decide +kernel
theorem dX3_unled_85 : decode cX3_unled 85 = .ok (.iconst 1, 1) := by decide +kernel
theorem dX3_unled_86 : decode cX3_unled 86 = .ok (.iadd, 1) := by decide +kernel
theorem dX3_unled_87 : decode cX3_unled 87 = .ok (.istore 4, 2) := by decide +kernel
theorem dX3_unled_89 : decode cX3_unled 89 = .ok (.aload_n 0, 1) := by decide +kernel
theorem dX3_unled_90 : decode cX3_unled 90 = .ok (.getfield 80, 3) := by decide +kernel
theorem dX3_unled_93 : decode cX3_unled 93 = .ok (.iload_n 2, 1) := by decide +kernel
theorem dX3_unled_94 : decode cX3_unled 94 = .ok (.iload 4, 2) := by decide +kernel
theorem dX3_unled_96 : decode cX3_unled 96 = .ok (.aload_n 0, 1) := by decide +kernel
theorem dX3_unled_97 : decode cX3_unled 97 = .ok (.getfield 80, 3) := by decide +kernel
theorem dX3_unled_100 : decode cX3_unled 100 = .ok (.iload_n 2, 1) := by decide +kernel
theorem dX3_unled_101 : decode cX3_unled 101 = .ok (.iaload, 1) := by decide +kernel
theorem dX3_unled_102 : decode cX3_unled 102 = .ok (.if_icmp .le 8, 3) := by decide +kernel
theorem dX3_unled_105 : decode cX3_unled 105 = .ok (.iload 4, 2) := by decide +kernel
theorem dX3_unled_107 : decode cX3_unled 107 = .ok (.goto 9, 3) := by decide +kernel
theorem dX3_unled_110 : decode cX3_unled 110 = .ok (.aload_n 0, 1) := by decide +kernel
theorem dX3_unled_111 : decode cX3_unled 111 = .ok (.getfield 80, 3) := by decide +kernel
theorem dX3_unled_114 : decode cX3_unled 114 = .ok (.iload_n 2, 1) := by decide +kernel
theorem dX3_unled_115 : decode cX3_unled 115 = .ok (.iaload, 1) := by decide +kernel
theorem dX3_unled_116 : decode cX3_unled 116 = .ok (.iastore, 1) := by decide +kernel
theorem dX3_unled_117 : decode cX3_unled 117 = .ok (.iinc 3 1, 3) := by decide +kernel
theorem dX3_unled_120 : decode cX3_unled 120 = .ok (.goto (-80), 3) := by decide +kernel
theorem dX3_unled_123 : decode cX3_unled 123 = .ok (.iinc 2 (-1), 3) := by decide +kernel
theorem dX3_unled_126 : decode cX3_unled 126 = .ok (.goto (-92), 3) := by decide +kernel
theorem dX3_unled_129 : decode cX3_unled 129 = .ok (.iinc 1 1, 3) := by decide +kernel
theorem dX3_unled_132 : decode cX3_unled 132 = .ok (.goto (-109), 3) := by decide +kernel
theorem dX3_unled_135 : decode cX3_unled 135 = .ok (.aload_n 0, 1) := by decide +kernel
theorem dX3_unled_136 : decode cX3_unled 136 = .ok (.getfield 80, 3) := by decide +kernel
theorem dX3_unled_139 : decode cX3_unled 139 = .ok (.bipush 63, 2) := by decide +kernel
theorem dX3_unled_141 : decode cX3_unled 141 = .ok (.iaload, 1) := by decide +kernel
theorem dX3_unled_142 : decode cX3_unled 142 = .ok (.ireturn, 1) := by decide +kernel
theorem dX3_areAtOne_0 : decode cX3_areAtOne 0 = .ok (.iconst 1, 1) := by decide +kernel
theorem dX3_areAtOne_1 : decode cX3_areAtOne 1 = .ok (.istore_n 1, 1) := by decide +kernel
theorem dX3_areAtOne_2 : decode cX3_areAtOne 2 = .ok (.iload_n 1, 1) := by decide +kernel
theorem dX3_areAtOne_3 : decode cX3_areAtOne 3 = .ok (.aload_n 0, 1) := by decide +kernel
theorem dX3_areAtOne_4 : decode cX3_areAtOne 4 = .ok (.getfield 88, 3) := by decide +kernel
theorem dX3_areAtOne_7 : decode cX3_areAtOne 7 = .ok (.if_icmp .ge 26, 3) := by decide +kernel
theorem dX3_areAtOne_10 : decode cX3_areAtOne 10 = .ok (.aload_n 0, 1) := by decide +kernel
theorem dX3_areAtOne_11 : decode cX3_areAtOne 11 = .ok (.getfield 34, 3) := by decide +kernel
theorem dX3_areAtOne_14 : decode cX3_areAtOne 14 = .ok (.iload_n 1, 1) := by decide +kernel
theorem dX3_areAtOne_15 : decode cX3_areAtOne 15 = .ok (.iaload, 1) := by decide +kernel
theorem dX3_areAtOne_16 : decode cX3_areAtOne 16 = .ok (.aload_n 0, 1) := by decide +kernel
theorem dX3_areAtOne_17 : decode cX3_areAtOne 17 = .ok (.getfield 34, 3) := by decide +kernel
theorem dX3_areAtOne_20 : decode cX3_areAtOne 20 = .ok (.iconst 0, 1) := by decide +kernel
theorem dX3_areAtOne_21 : decode cX3_areAtOne 21 = .ok (.iaload, 1) := by decide +kernel
theorem dX3_areAtOne_22 : decode cX3_areAtOne 22 = .ok (.if_icmp .eq 5, 3) := by decide +kernel
theorem dX3_areAtOne_25 : decode cX3_areAtOne 25 = .ok (.iconst 0, 1) := by decide +kernel
theorem dX3_areAtOne_26 : decode cX3_areAtOne 26 = .ok (.ireturn, 1) := by decide +kernel
theorem dX3_areAtOne_27 : decode cX3_areAtOne 27 = .ok (.iinc 1 1, 3) := by decide +kernel
theorem dX3_areAtOne_30 : decode cX3_areAtOne 30 = .ok (.goto (-28), 3) := by decide +kernel
theorem dX3_areAtOne_33 : decode cX3_areAtOne 33 = .ok (.iconst 1, 1) := by decide +kernel
theorem dX3_areAtOne_34 : decode cX3_areAtOne 34 = .ok (.ireturn, 1) := by decide +kernel
theorem dX3_gathering_0 : decode cX3_gathering 0 = .ok (.aload_n 0, 1) := by decide +kernel
theorem dX3_gathering_1 : decode cX3_gathering 1 = .ok (.invokevirtual 238, 3) := by decide +kernel
theorem dX3_gathering_4 : decode cX3_gathering 4 = .ok (.bipush (-9), 2) := by decide +kernel
theorem dX3_gathering_6 : decode cX3_gathering 6 = .ok (.istore_n 1, 1) := by decide +kernel
theorem dX3_gathering_7 : decode cX3_gathering 7 = .ok (.iconst 0, 1) := by decide +kernel
theorem dX3_gathering_8 : decode cX3_gathering 8 = .ok (.istore_n 2, 1) := by decide +kernel
theorem dX3_gathering_9 : decode cX3_gathering 9 = .ok (.iload_n 2, 1) := by decide +kernel
theorem dX3_gathering_10 : decode cX3_gathering 10 = .ok (.bipush 60, 2) := by decide +kernel
theorem dX3_gathering_12 : decode cX3_gathering 12 = .ok (.if_icmp .gt 32, 3) := by decide +kernel
theorem dX3_gathering_15 : decode cX3_gathering 15 = .ok (.iload_n 1, 1) := by decide +kernel
theorem dX3_gathering_16 : decode cX3_gathering 16 = .ok (.ifCond .ge 28, 3) := by decide +kernel
theorem dX3_gathering_19 : decode cX3_gathering 19 = .ok (.aload_n 0, 1) := by decide +kernel
theorem dX3_gathering_20 : decode cX3_gathering 20 = .ok (.invokevirtual 353, 3) := by decide +kernel
theorem dX3_gathering_23 : decode cX3_gathering 23 = .ok (.ifCond .eq 7, 3) := by decide +kernel
theorem dX3_gathering_26 : decode cX3_gathering 26 = .ok (.iload_n 2, 1) := by decide +kernel
theorem dX3_gathering_27 : decode cX3_gathering 27 = .ok (.goto 5, 3) := by decide +kernel
theorem dX3_gathering_30 : decode cX3_gathering 30 = .ok (.bipush (-9), 2) := by decide +kernel
theorem dX3_gathering_32 : decode cX3_gathering 32 = .ok (.istore_n 1, 1) := by decide +kernel
theorem dX3_gathering_33 : decode cX3_gathering 33 = .ok (.aload_n 0, 1) := by decide +kernel
theorem dX3_gathering_34 : decode cX3_gathering 34 = .ok (.iconst 0, 1) := by decide +kernel
theorem dX3_gathering_35 : decode cX3_gathering 35 = .ok (.invokevirtual 130, 3) := by decide +kernel
theorem dX3_gathering_38 : decode cX3_gathering 38 = .ok (.iinc 2 1, 3) := by decide +kernel
theorem dX3_gathering_41 : decode cX3_gathering 41 = .ok (.goto (-32), 3) := by decide +kernel
theorem dX3_gathering_44 : decode cX3_gathering 44 = .ok (.aload_n 0, 1) := by decide +kernel
theorem dX3_gathering_45 : decode cX3_gathering 45 = .ok (.invokevirtual 241, 3) := by decide +kernel
theorem dX3_gathering_48 : decode cX3_gathering 48 = .ok (.iload_n 1, 1) := by decide +kernel
theorem dX3_gathering_49 : decode cX3_gathering 49 = .ok (.ireturn, 1) := by decide +kernel
theorem dX3_bestHabit_0 : decode cX3_bestHabit 0 = .ok (.aload_n 0, 1) := by decide +kernel
theorem dX3_bestHabit_1 : decode cX3_bestHabit 1 = .ok (.iload_n 1, 1) := by decide +kernel
theorem dX3_bestHabit_2 : decode cX3_bestHabit 2 = .ok (.invokevirtual 141, 3) := by decide +kernel
theorem dX3_bestHabit_5 : decode cX3_bestHabit 5 = .ok (.ifCond .eq 10, 3) := by decide +kernel
theorem dX3_bestHabit_8 : decode cX3_bestHabit 8 = .ok (.iload_n 2, 1) := by decide +kernel
theorem dX3_bestHabit_9 : decode cX3_bestHabit 9 = .ok (.invokestatic 226, 3) := by decide +kernel
theorem dX3_bestHabit_12 : decode cX3_bestHabit 12 = .ok (.ifCond .ne 9, 3) := by decide +kernel
theorem dX3_bestHabit_15 : decode cX3_bestHabit 15 = .ok (.aload_n 0, 1) := by decide +kernel
theorem dX3_bestHabit_16 : decode cX3_bestHabit 16 = .ok (.iconst (-1), 1) := by decide +kernel
theorem dX3_bestHabit_17 : decode cX3_bestHabit 17 = .ok (.invokevirtual 102, 3) := by decide +kernel
theorem dX3_bestHabit_20 : decode cX3_bestHabit 20 = .ok (.ireturn, 1) := by decide +kernel
theorem dX3_bestHabit_21 : decode cX3_bestHabit 21 = .ok (.aload_n 0, 1) := by decide +kernel
theorem dX3_bestHabit_22 : decode cX3_bestHabit 22 = .ok (.iload_n 1, 1) := by decide +kernel
theorem dX3_bestHabit_23 : decode cX3_bestHabit 23 = .ok (.invokevirtual 188, 3) := by decide +kernel
theorem dX3_bestHabit_26 : decode cX3_bestHabit 26 = .ok (.istore_n 3, 1) := by decide +kernel
theorem dX3_bestHabit_27 : decode cX3_bestHabit 27 = .ok (.iload_n 3, 1) := by decide +kernel
theorem dX3_bestHabit_28 : decode cX3_bestHabit 28 = .ok (.bipush 9, 2) := by decide +kernel
theorem dX3_bestHabit_30 : decode cX3_bestHabit 30 = .ok (.if_icmp .ne 6, 3) := by decide +kernel
theorem dX3_bestHabit_33 : decode cX3_bestHabit 33 = .ok (.bipush (-9), 2) := by decide +kernel
theorem dX3_bestHabit_35 : decode cX3_bestHabit 35 = .ok (.ireturn, 1) := by decide +kernel
theorem dX3_bestHabit_36 : decode cX3_bestHabit 36 = .ok (.aload_n 0, 1) := by decide +kernel
theorem dX3_bestHabit_37 : decode cX3_bestHabit 37 = .ok (.getfield 19, 3) := by decide +kernel
theorem dX3_bestHabit_40 : decode cX3_bestHabit 40 = .ok (.iload_n 1, 1) := by decide +kernel
theorem dX3_bestHabit_41 : decode cX3_bestHabit 41 = .ok (.iaload, 1) := by decide +kernel
theorem dX3_bestHabit_42 : decode cX3_bestHabit 42 = .ok (.istore 4, 2) := by decide +kernel
theorem dX3_bestHabit_44 : decode cX3_bestHabit 44 = .ok (.bipush (-9), 2) := by decide +kernel
theorem dX3_bestHabit_46 : decode cX3_bestHabit 46 = .ok (.istore 5, 2) := by decide +kernel
theorem dX3_bestHabit_48 : decode cX3_bestHabit 48 = .ok (.bipush (-9), 2) := by decide +kernel
theorem dX3_bestHabit_50 : decode cX3_bestHabit 50 = .ok (.istore 6, 2) := by decide +kernel
theorem dX3_bestHabit_52 : decode cX3_bestHabit 52 = .ok (.iconst 0, 1) := by decide +kernel
theorem dX3_bestHabit_53 : decode cX3_bestHabit 53 = .ok (.istore 7, 2) := by decide +kernel
theorem dX3_bestHabit_55 : decode cX3_bestHabit 55 = .ok (.iload 7, 2) := by decide +kernel
theorem dX3_bestHabit_57 : decode cX3_bestHabit 57 = .ok (.bipush 10, 2) := by decide +kernel
theorem dX3_bestHabit_59 : decode cX3_bestHabit 59 = .ok (.if_icmp .ge 55, 3) := by decide +kernel
theorem dX3_bestHabit_62 : decode cX3_bestHabit 62 = .ok (.aload_n 0, 1) := by decide +kernel
theorem dX3_bestHabit_63 : decode cX3_bestHabit 63 = .ok (.getfield 19, 3) := by decide +kernel
theorem dX3_bestHabit_66 : decode cX3_bestHabit 66 = .ok (.iload_n 1, 1) := by decide +kernel
theorem dX3_bestHabit_67 : decode cX3_bestHabit 67 = .ok (.iload 7, 2) := by decide +kernel
theorem dX3_bestHabit_69 : decode cX3_bestHabit 69 = .ok (.iastore, 1) := by decide +kernel
theorem dX3_bestHabit_70 : decode cX3_bestHabit 70 = .ok (.aload_n 0, 1) := by decide +kernel
theorem dX3_bestHabit_71 : decode cX3_bestHabit 71 = .ok (.iload_n 3, 1) := by decide +kernel
theorem dX3_bestHabit_72 : decode cX3_bestHabit 72 = .ok (.iload_n 2, 1) := by decide +kernel
theorem dX3_bestHabit_73 : decode cX3_bestHabit 73 = .ok (.bipush 60, 2) := by decide +kernel
theorem dX3_bestHabit_75 : decode cX3_bestHabit 75 = .ok (.invokevirtual 265, 3) := by decide +kernel
theorem dX3_bestHabit_78 : decode cX3_bestHabit 78 = .ok (.istore 8, 2) := by decide +kernel
theorem dX3_bestHabit_80 : decode cX3_bestHabit 80 = .ok (.iload 8, 2) := by decide +kernel
theorem dX3_bestHabit_82 : decode cX3_bestHabit 82 = .ok (.ifCond .lt 26, 3) := by decide +kernel
theorem dX3_bestHabit_85 : decode cX3_bestHabit 85 = .ok (.iload 5, 2) := by decide +kernel
theorem dX3_bestHabit_87 : decode cX3_bestHabit 87 = .ok (.ifCond .lt 13, 3) := by decide +kernel
theorem dX3_bestHabit_90 : decode cX3_bestHabit 90 = .ok (.iload 8, 2) := by decide +kernel
theorem dX3_bestHabit_92 : decode cX3_bestHabit 92 = .ok (.iload 6, 2) := by decide +kernel
theorem dX3_bestHabit_94 : decode cX3_bestHabit 94 = .ok (.if_icmp .lt 6, 3) := by decide +kernel
theorem dX3_bestHabit_97 : decode cX3_bestHabit 97 = .ok (.goto 11, 3) := by decide +kernel
theorem dX3_bestHabit_100 : decode cX3_bestHabit 100 = .ok (.iload 7, 2) := by decide +kernel
theorem dX3_bestHabit_102 : decode cX3_bestHabit 102 = .ok (.istore 5, 2) := by decide +kernel
theorem dX3_bestHabit_104 : decode cX3_bestHabit 104 = .ok (.iload 8, 2) := by decide +kernel
theorem dX3_bestHabit_106 : decode cX3_bestHabit 106 = .ok (.istore 6, 2) := by decide +kernel
theorem dX3_bestHabit_108 : decode cX3_bestHabit 108 = .ok (.iinc 7 1, 3) := by decide +kernel
theorem dX3_bestHabit_111 : decode cX3_bestHabit 111 = .ok (.goto (-56), 3) := by decide +kernel
theorem dX3_bestHabit_114 : decode cX3_bestHabit 114 = .ok (.aload_n 0, 1) := by decide +kernel
theorem dX3_bestHabit_115 : decode cX3_bestHabit 115 = .ok (.getfield 19, 3) := by decide +kernel
theorem dX3_bestHabit_118 : decode cX3_bestHabit 118 = .ok (.iload_n 1, 1) := by decide +kernel
theorem dX3_bestHabit_119 : decode cX3_bestHabit 119 = .ok (.iload 4, 2) := by decide +kernel
theorem dX3_bestHabit_121 : decode cX3_bestHabit 121 = .ok (.iastore, 1) := by decide +kernel
theorem dX3_bestHabit_122 : decode cX3_bestHabit 122 = .ok (.iload 5, 2) := by decide +kernel
theorem dX3_bestHabit_124 : decode cX3_bestHabit 124 = .ok (.ireturn, 1) := by decide +kernel
theorem dX3_apart_0 : decode cX3_apart 0 = .ok (.aload_n 0, 1) := by decide +kernel
theorem dX3_apart_1 : decode cX3_apart 1 = .ok (.getfield 34, 3) := by decide +kernel
theorem dX3_apart_4 : decode cX3_apart 4 = .ok (.iload_n 2, 1) := by decide +kernel
theorem dX3_apart_5 : decode cX3_apart 5 = .ok (.iaload, 1) := by decide +kernel
theorem dX3_apart_6 : decode cX3_apart 6 = .ok (.aload_n 0, 1) := by decide +kernel
theorem dX3_apart_7 : decode cX3_apart 7 = .ok (.getfield 34, 3) := by decide +kernel
theorem dX3_apart_10 : decode cX3_apart 10 = .ok (.iload_n 1, 1) := by decide +kernel
theorem dX3_apart_11 : decode cX3_apart 11 = .ok (.iaload, 1) := by decide +kernel
theorem dX3_apart_12 : decode cX3_apart 12 = .ok (.isub, 1) := by decide +kernel
theorem dX3_apart_13 : decode cX3_apart 13 = .ok (.bipush 10, 2) := by decide +kernel
theorem dX3_apart_15 : decode cX3_apart 15 = .ok (.iadd, 1) := by decide +kernel
theorem dX3_apart_16 : decode cX3_apart 16 = .ok (.bipush 10, 2) := by decide +kernel
theorem dX3_apart_18 : decode cX3_apart 18 = .ok (.irem, 1) := by decide +kernel
theorem dX3_apart_19 : decode cX3_apart 19 = .ok (.istore_n 3, 1) := by decide +kernel
theorem dX3_apart_20 : decode cX3_apart 20 = .ok (.iload_n 3, 1) := by decide +kernel
theorem dX3_apart_21 : decode cX3_apart 21 = .ok (.iconst 5, 1) := by decide +kernel
theorem dX3_apart_22 : decode cX3_apart 22 = .ok (.if_icmp .le 10, 3) := by decide +kernel
theorem dX3_apart_25 : decode cX3_apart 25 = .ok (.bipush 10, 2) := by decide +kernel
theorem dX3_apart_27 : decode cX3_apart 27 = .ok (.iload_n 3, 1) := by decide +kernel
theorem dX3_apart_28 : decode cX3_apart 28 = .ok (.isub, 1) := by decide +kernel
theorem dX3_apart_29 : decode cX3_apart 29 = .ok (.goto 4, 3) := by decide +kernel
theorem dX3_apart_32 : decode cX3_apart 32 = .ok (.iload_n 3, 1) := by decide +kernel
theorem dX3_apart_33 : decode cX3_apart 33 = .ok (.ireturn, 1) := by decide +kernel
theorem dX3_farthest_0 : decode cX3_farthest 0 = .ok (.iload_n 1, 1) := by decide +kernel
theorem dX3_farthest_1 : decode cX3_farthest 1 = .ok (.invokestatic 235, 3) := by decide +kernel
theorem dX3_farthest_4 : decode cX3_farthest 4 = .ok (.istore_n 3, 1) := by decide +kernel
theorem dX3_farthest_5 : decode cX3_farthest 5 = .ok (.iload_n 3, 1) := by decide +kernel
theorem dX3_farthest_6 : decode cX3_farthest 6 = .ok (.ifCond .ne 15, 3) := by decide +kernel
theorem dX3_farthest_9 : decode cX3_farthest 9 = .ok (.iload_n 2, 1) := by decide +kernel
theorem dX3_farthest_10 : decode cX3_farthest 10 = .ok (.iconst 0, 1) := by decide +kernel
theorem dX3_farthest_11 : decode cX3_farthest 11 = .ok (.iconst 1, 1) := by decide +kernel
theorem dX3_farthest_12 : decode cX3_farthest 12 = .ok (.invokestatic 113, 3) := by decide +kernel
theorem dX3_farthest_15 : decode cX3_farthest 15 = .ok (.ifCond .ne 6, 3) := by decide +kernel
theorem dX3_farthest_18 : decode cX3_farthest 18 = .ok (.bipush (-2), 2) := by decide +kernel
theorem dX3_farthest_20 : decode cX3_farthest 20 = .ok (.istore_n 3, 1) := by decide +kernel
theorem dX3_farthest_21 : decode cX3_farthest 21 = .ok (.iload_n 3, 1) := by decide +kernel
theorem dX3_farthest_22 : decode cX3_farthest 22 = .ok (.ifCond .eq 9, 3) := by decide +kernel
theorem dX3_farthest_25 : decode cX3_farthest 25 = .ok (.aload_n 0, 1) := by decide +kernel
theorem dX3_farthest_26 : decode cX3_farthest 26 = .ok (.iload_n 3, 1) := by decide +kernel
theorem dX3_farthest_27 : decode cX3_farthest 27 = .ok (.invokevirtual 102, 3) := by decide +kernel
theorem dX3_farthest_30 : decode cX3_farthest 30 = .ok (.ireturn, 1) := by decide +kernel
theorem dX3_farthest_31 : decode cX3_farthest 31 = .ok (.aload_n 0, 1) := by decide +kernel
theorem dX3_farthest_32 : decode cX3_farthest 32 = .ok (.invokevirtual 238, 3) := by decide +kernel
theorem dX3_farthest_35 : decode cX3_farthest 35 = .ok (.aload_n 0, 1) := by decide +kernel
theorem dX3_farthest_36 : decode cX3_farthest 36 = .ok (.iload_n 1, 1) := by decide +kernel
theorem dX3_farthest_37 : decode cX3_farthest 37 = .ok (.invokevirtual 232, 3) := by decide +kernel
theorem dX3_farthest_40 : decode cX3_farthest 40 = .ok (.bipush (-9), 2) := by decide +kernel
theorem dX3_farthest_42 : decode cX3_farthest 42 = .ok (.istore 4, 2) := by decide +kernel
theorem dX3_farthest_44 : decode cX3_farthest 44 = .ok (.bipush (-9), 2) := by decide +kernel
theorem dX3_farthest_46 : decode cX3_farthest 46 = .ok (.istore 5, 2) := by decide +kernel
theorem dX3_farthest_48 : decode cX3_farthest 48 = .ok (.iconst 0, 1) := by decide +kernel
theorem dX3_farthest_49 : decode cX3_farthest 49 = .ok (.istore 6, 2) := by decide +kernel
theorem dX3_farthest_51 : decode cX3_farthest 51 = .ok (.iload 6, 2) := by decide +kernel
theorem dX3_farthest_53 : decode cX3_farthest 53 = .ok (.aload_n 0, 1) := by decide +kernel
theorem dX3_farthest_54 : decode cX3_farthest 54 = .ok (.getfield 88, 3) := by decide +kernel
theorem dX3_farthest_57 : decode cX3_farthest 57 = .ok (.if_icmp .ge 66, 3) := by decide +kernel
theorem dX3_farthest_60 : decode cX3_farthest 60 = .ok (.iload 6, 2) := by decide +kernel
theorem dX3_farthest_62 : decode cX3_farthest 62 = .ok (.iconst 1, 1) := by decide +kernel
theorem dX3_farthest_63 : decode cX3_farthest 63 = .ok (.iadd, 1) := by decide +kernel
theorem dX3_farthest_64 : decode cX3_farthest 64 = .ok (.istore 7, 2) := by decide +kernel
theorem dX3_farthest_66 : decode cX3_farthest 66 = .ok (.iload 7, 2) := by decide +kernel
theorem dX3_farthest_68 : decode cX3_farthest 68 = .ok (.aload_n 0, 1) := by decide +kernel
theorem dX3_farthest_69 : decode cX3_farthest 69 = .ok (.getfield 88, 3) := by decide +kernel
theorem dX3_farthest_72 : decode cX3_farthest 72 = .ok (.if_icmp .ge 45, 3) := by decide +kernel
theorem dX3_farthest_75 : decode cX3_farthest 75 = .ok (.aload_n 0, 1) := by decide +kernel
theorem dX3_farthest_76 : decode cX3_farthest 76 = .ok (.iload 6, 2) := by decide +kernel
theorem dX3_farthest_78 : decode cX3_farthest 78 = .ok (.iload 7, 2) := by decide +kernel
theorem dX3_farthest_80 : decode cX3_farthest 80 = .ok (.invokevirtual 347, 3) := by decide +kernel
theorem dX3_farthest_83 : decode cX3_farthest 83 = .ok (.iload 5, 2) := by decide +kernel
theorem dX3_farthest_85 : decode cX3_farthest 85 = .ok (.if_icmp .gt 6, 3) := by decide +kernel
theorem dX3_farthest_88 : decode cX3_farthest 88 = .ok (.goto 23, 3) := by decide +kernel
theorem dX3_farthest_91 : decode cX3_farthest 91 = .ok (.bipush 10, 2) := by decide +kernel
theorem dX3_farthest_93 : decode cX3_farthest 93 = .ok (.iload 6, 2) := by decide +kernel
theorem dX3_farthest_95 : decode cX3_farthest 95 = .ok (.imul, 1) := by decide +kernel
theorem dX3_farthest_96 : decode cX3_farthest 96 = .ok (.iload 7, 2) := by decide +kernel
theorem dX3_farthest_98 : decode cX3_farthest 98 = .ok (.iadd, 1) := by decide +kernel
theorem dX3_farthest_99 : decode cX3_farthest 99 = .ok (.istore 4, 2) := by decide +kernel
theorem dX3_farthest_101 : decode cX3_farthest 101 = .ok (.aload_n 0, 1) := by decide +kernel
theorem dX3_farthest_102 : decode cX3_farthest 102 = .ok (.iload 6, 2) := by decide +kernel
theorem dX3_farthest_104 : decode cX3_farthest 104 = .ok (.iload 7, 2) := by decide +kernel
theorem dX3_farthest_106 : decode cX3_farthest 106 = .ok (.invokevirtual 347, 3) := by decide +kernel
theorem dX3_farthest_109 : decode cX3_farthest 109 = .ok (.istore 5, 2) := by decide +kernel
theorem dX3_farthest_111 : decode cX3_farthest 111 = .ok (.iinc 7 1, 3) := by decide +kernel
theorem dX3_farthest_114 : decode cX3_farthest 114 = .ok (.goto (-48), 3) := by decide +kernel
theorem dX3_farthest_117 : decode cX3_farthest 117 = .ok (.iinc 6 1, 3) := by decide +kernel
theorem dX3_farthest_120 : decode cX3_farthest 120 = .ok (.goto (-69), 3) := by decide +kernel
theorem dX3_farthest_123 : decode cX3_farthest 123 = .ok (.aload_n 0, 1) := by decide +kernel
theorem dX3_farthest_124 : decode cX3_farthest 124 = .ok (.invokevirtual 241, 3) := by decide +kernel
theorem dX3_farthest_127 : decode cX3_farthest 127 = .ok (.iload_n 2, 1) := by decide +kernel
theorem dX3_farthest_128 : decode cX3_farthest 128 = .ok (.ifCond .ne 8, 3) := by decide +kernel
theorem dX3_farthest_131 : decode cX3_farthest 131 = .ok (.iload 4, 2) := by decide +kernel
theorem dX3_farthest_133 : decode cX3_farthest 133 = .ok (.goto 5, 3) := by decide +kernel
theorem dX3_farthest_136 : decode cX3_farthest 136 = .ok (.iload 5, 2) := by decide +kernel
theorem dX3_farthest_138 : decode cX3_farthest 138 = .ok (.ireturn, 1) := by decide +kernel
theorem dX3_row_0 : decode cX3_row 0 = .ok (.iload_n 1, 1) := by decide +kernel
theorem dX3_row_1 : decode cX3_row 1 = .ok (.iconst 0, 1) := by decide +kernel
theorem dX3_row_2 : decode cX3_row 2 = .ok (.bipush 99, 2) := by decide +kernel
theorem dX3_row_4 : decode cX3_row 4 = .ok (.invokestatic 95, 3) := by decide +kernel
theorem dX3_row_7 : decode cX3_row 7 = .ok (.istore_n 2, 1) := by decide +kernel
theorem dX3_row_8 : decode cX3_row 8 = .ok (.iload_n 2, 1) := by decide +kernel
theorem dX3_row_9 : decode cX3_row 9 = .ok (.ifCond .ne 15, 3) := by decide +kernel
theorem dX3_row_12 : decode cX3_row 12 = .ok (.aload_n 0, 1) := by decide +kernel
theorem dX3_row_13 : decode cX3_row 13 = .ok (.getfield 314, 3) := by decide +kernel
theorem dX3_row_16 : decode cX3_row 16 = .ok (.bipush 12, 2) := by decide +kernel
theorem dX3_row_18 : decode cX3_row 18 = .ok (.if_icmp .ne 6, 3) := by decide +kernel
theorem dX3_row_21 : decode cX3_row 21 = .ok (.bipush (-6), 2) := by decide +kernel
theorem dX3_row_23 : decode cX3_row 23 = .ok (.istore_n 2, 1) := by decide +kernel
theorem dX3_row_24 : decode cX3_row 24 = .ok (.iload_n 2, 1) := by decide +kernel
theorem dX3_row_25 : decode cX3_row 25 = .ok (.ifCond .eq 9, 3) := by decide +kernel
theorem dX3_row_28 : decode cX3_row 28 = .ok (.aload_n 0, 1) := by decide +kernel
theorem dX3_row_29 : decode cX3_row 29 = .ok (.iload_n 2, 1) := by decide +kernel
theorem dX3_row_30 : decode cX3_row 30 = .ok (.invokevirtual 102, 3) := by decide +kernel
theorem dX3_row_33 : decode cX3_row 33 = .ok (.ireturn, 1) := by decide +kernel
theorem dX3_row_34 : decode cX3_row 34 = .ok (.aload_n 0, 1) := by decide +kernel
theorem dX3_row_35 : decode cX3_row 35 = .ok (.getfield 74, 3) := by decide +kernel
theorem dX3_row_38 : decode cX3_row 38 = .ok (.aload_n 0, 1) := by decide +kernel
theorem dX3_row_39 : decode cX3_row 39 = .ok (.getfield 314, 3) := by decide +kernel
theorem dX3_row_42 : decode cX3_row 42 = .ok (.iload_n 1, 1) := by decide +kernel
theorem dX3_row_43 : decode cX3_row 43 = .ok (.iastore, 1) := by decide +kernel
theorem dX3_row_44 : decode cX3_row 44 = .ok (.aload_n 0, 1) := by decide +kernel
theorem dX3_row_45 : decode cX3_row 45 = .ok (.dup, 1) := by decide +kernel
theorem dX3_row_46 : decode cX3_row 46 = .ok (.getfield 314, 3) := by decide +kernel
theorem dX3_row_49 : decode cX3_row 49 = .ok (.iconst 1, 1) := by decide +kernel
theorem dX3_row_50 : decode cX3_row 50 = .ok (.iadd, 1) := by decide +kernel
theorem dX3_row_51 : decode cX3_row 51 = .ok (.putfield 314, 3) := by decide +kernel
theorem dX3_row_54 : decode cX3_row 54 = .ok (.aload_n 0, 1) := by decide +kernel
theorem dX3_row_55 : decode cX3_row 55 = .ok (.getfield 314, 3) := by decide +kernel
theorem dX3_row_58 : decode cX3_row 58 = .ok (.ireturn, 1) := by decide +kernel
theorem dX3_judge_0 : decode cX3_judge 0 = .ok (.aload_n 0, 1) := by decide +kernel
theorem dX3_judge_1 : decode cX3_judge 1 = .ok (.iload_n 1, 1) := by decide +kernel
theorem dX3_judge_2 : decode cX3_judge 2 = .ok (.invokevirtual 91, 3) := by decide +kernel
theorem dX3_judge_5 : decode cX3_judge 5 = .ok (.ifCond .ne 9, 3) := by decide +kernel
theorem dX3_judge_8 : decode cX3_judge 8 = .ok (.aload_n 0, 1) := by decide +kernel
theorem dX3_judge_9 : decode cX3_judge 9 = .ok (.iconst (-1), 1) := by decide +kernel
theorem dX3_judge_10 : decode cX3_judge 10 = .ok (.invokevirtual 102, 3) := by decide +kernel
theorem dX3_judge_13 : decode cX3_judge 13 = .ok (.ireturn, 1) := by decide +kernel
theorem dX3_judge_14 : decode cX3_judge 14 = .ok (.aload_n 0, 1) := by decide +kernel
theorem dX3_judge_15 : decode cX3_judge 15 = .ok (.getfield 314, 3) := by decide +kernel
theorem dX3_judge_18 : decode cX3_judge 18 = .ok (.istore_n 2, 1) := by decide +kernel
theorem dX3_judge_19 : decode cX3_judge 19 = .ok (.aload_n 0, 1) := by decide +kernel
theorem dX3_judge_20 : decode cX3_judge 20 = .ok (.iconst 0, 1) := by decide +kernel
theorem dX3_judge_21 : decode cX3_judge 21 = .ok (.putfield 314, 3) := by decide +kernel
theorem dX3_judge_24 : decode cX3_judge 24 = .ok (.aload_n 0, 1) := by decide +kernel
theorem dX3_judge_25 : decode cX3_judge 25 = .ok (.invokevirtual 238, 3) := by decide +kernel
theorem dX3_judge_28 : decode cX3_judge 28 = .ok (.bipush (-9), 2) := by decide +kernel
theorem dX3_judge_30 : decode cX3_judge 30 = .ok (.istore_n 3, 1) := by decide +kernel
theorem dX3_judge_31 : decode cX3_judge 31 = .ok (.iconst 0, 1) := by decide +kernel
theorem dX3_judge_32 : decode cX3_judge 32 = .ok (.istore 4, 2) := by decide +kernel
theorem dX3_judge_34 : decode cX3_judge 34 = .ok (.iload 4, 2) := by decide +kernel
theorem dX3_judge_36 : decode cX3_judge 36 = .ok (.iload_n 2, 1) := by decide +kernel
theorem dX3_judge_37 : decode cX3_judge 37 = .ok (.if_icmp .ge 42, 3) := by decide +kernel
theorem dX3_judge_40 : decode cX3_judge 40 = .ok (.iload_n 3, 1) := by decide +kernel
theorem dX3_judge_41 : decode cX3_judge 41 = .ok (.ifCond .ge 38, 3) := by decide +kernel
theorem dX3_judge_44 : decode cX3_judge 44 = .ok (.aload_n 0, 1) := by decide +kernel
theorem dX3_judge_45 : decode cX3_judge 45 = .ok (.getfield 34, 3) := by decide +kernel
theorem dX3_judge_48 : decode cX3_judge 48 = .ok (.iload_n 1, 1) := by decide +kernel
theorem dX3_judge_49 : decode cX3_judge 49 = .ok (.iaload, 1) := by decide +kernel
theorem dX3_judge_50 : decode cX3_judge 50 = .ok (.aload_n 0, 1) := by decide +kernel
theorem dX3_judge_51 : decode cX3_judge 51 = .ok (.getfield 74, 3) := by decide +kernel
theorem dX3_judge_54 : decode cX3_judge 54 = .ok (.iload 4, 2) := by decide +kernel
theorem dX3_judge_56 : decode cX3_judge 56 = .ok (.iaload, 1) := by decide +kernel
theorem dX3_judge_57 : decode cX3_judge 57 = .ok (.if_icmp .ne 8, 3) := by decide +kernel
theorem dX3_judge_60 : decode cX3_judge 60 = .ok (.bipush (-9), 2) := by decide +kernel
theorem dX3_judge_62 : decode cX3_judge 62 = .ok (.goto 5, 3) := by decide +kernel
theorem dX3_judge_65 : decode cX3_judge 65 = .ok (.iload 4, 2) := by decide +kernel
theorem dX3_judge_67 : decode cX3_judge 67 = .ok (.istore_n 3, 1) := by decide +kernel
theorem dX3_judge_68 : decode cX3_judge 68 = .ok (.aload_n 0, 1) := by decide +kernel
theorem dX3_judge_69 : decode cX3_judge 69 = .ok (.iconst 0, 1) := by decide +kernel
theorem dX3_judge_70 : decode cX3_judge 70 = .ok (.invokevirtual 130, 3) := by decide +kernel
theorem dX3_judge_73 : decode cX3_judge 73 = .ok (.iinc 4 1, 3) := by decide +kernel
theorem dX3_judge_76 : decode cX3_judge 76 = .ok (.goto (-42), 3) := by decide +kernel
theorem dX3_judge_79 : decode cX3_judge 79 = .ok (.aload_n 0, 1) := by decide +kernel
theorem dX3_judge_80 : decode cX3_judge 80 = .ok (.invokevirtual 241, 3) := by decide +kernel
theorem dX3_judge_83 : decode cX3_judge 83 = .ok (.iload_n 3, 1) := by decide +kernel
theorem dX3_judge_84 : decode cX3_judge 84 = .ok (.ireturn, 1) := by decide +kernel
theorem dX3_clear_0 : decode cX3_clear 0 = .ok (.aload_n 0, 1) := by decide +kernel
theorem dX3_clear_1 : decode cX3_clear 1 = .ok (.getfield 314, 3) := by decide +kernel
theorem dX3_clear_4 : decode cX3_clear 4 = .ok (.istore_n 1, 1) := by decide +kernel
theorem dX3_clear_5 : decode cX3_clear 5 = .ok (.aload_n 0, 1) := by decide +kernel
theorem dX3_clear_6 : decode cX3_clear 6 = .ok (.iconst 0, 1) := by decide +kernel
theorem dX3_clear_7 : decode cX3_clear 7 = .ok (.putfield 314, 3) := by decide +kernel
theorem dX3_clear_10 : decode cX3_clear 10 = .ok (.iload_n 1, 1) := by decide +kernel
theorem dX3_clear_11 : decode cX3_clear 11 = .ok (.ireturn, 1) := by decide +kernel
theorem dX3_lots_0 : decode cX3_lots 0 = .ok (.iload_n 1, 1) := by decide +kernel
theorem dX3_lots_1 : decode cX3_lots 1 = .ok (.iconst 1, 1) := by decide +kernel
theorem dX3_lots_2 : decode cX3_lots 2 = .ok (.bipush 20, 2) := by decide +kernel
theorem dX3_lots_4 : decode cX3_lots 4 = .ok (.invokestatic 95, 3) := by decide +kernel
theorem dX3_lots_7 : decode cX3_lots 7 = .ok (.istore 4, 2) := by decide +kernel
theorem dX3_lots_9 : decode cX3_lots 9 = .ok (.iload 4, 2) := by decide +kernel
theorem dX3_lots_11 : decode cX3_lots 11 = .ok (.ifCond .ne 16, 3) := by decide +kernel
theorem dX3_lots_14 : decode cX3_lots 14 = .ok (.iload_n 3, 1) := by decide +kernel
theorem dX3_lots_15 : decode cX3_lots 15 = .ok (.iconst 0, 1) := by decide +kernel
theorem dX3_lots_16 : decode cX3_lots 16 = .ok (.iconst 1, 1) := by decide +kernel
theorem dX3_lots_17 : decode cX3_lots 17 = .ok (.invokestatic 113, 3) := by decide +kernel
theorem dX3_lots_20 : decode cX3_lots 20 = .ok (.ifCond .ne 7, 3) := by decide +kernel
theorem dX3_lots_23 : decode cX3_lots 23 = .ok (.bipush (-2), 2) := by decide +kernel
theorem dX3_lots_25 : decode cX3_lots 25 = .ok (.istore 4, 2) := by decide +kernel
theorem dX3_lots_27 : decode cX3_lots 27 = .ok (.iload 4, 2) := by decide +kernel
theorem dX3_lots_29 : decode cX3_lots 29 = .ok (.ifCond .eq 10, 3) := by decide +kernel
theorem dX3_lots_32 : decode cX3_lots 32 = .ok (.aload_n 0, 1) := by decide +kernel
theorem dX3_lots_33 : decode cX3_lots 33 = .ok (.iload 4, 2) := by decide +kernel
theorem dX3_lots_35 : decode cX3_lots 35 = .ok (.invokevirtual 102, 3) := by decide +kernel
theorem dX3_lots_38 : decode cX3_lots 38 = .ok (.ireturn, 1) := by decide +kernel
theorem dX3_lots_39 : decode cX3_lots 39 = .ok (.iload_n 2, 1) := by decide +kernel
theorem dX3_lots_40 : decode cX3_lots 40 = .ok (.istore 5, 2) := by decide +kernel
theorem dX3_lots_42 : decode cX3_lots 42 = .ok (.iconst 0, 1) := by decide +kernel
theorem dX3_lots_43 : decode cX3_lots 43 = .ok (.istore 6, 2) := by decide +kernel
theorem dX3_lots_45 : decode cX3_lots 45 = .ok (.iconst 0, 1) := by decide +kernel
theorem dX3_lots_46 : decode cX3_lots 46 = .ok (.istore 7, 2) := by decide +kernel
theorem dX3_lots_48 : decode cX3_lots 48 = .ok (.iconst 0, 1) := by decide +kernel
theorem dX3_lots_49 : decode cX3_lots 49 = .ok (.istore 8, 2) := by decide +kernel
theorem dX3_lots_51 : decode cX3_lots 51 = .ok (.iload 8, 2) := by decide +kernel
theorem dX3_lots_53 : decode cX3_lots 53 = .ok (.iload_n 1, 1) := by decide +kernel
theorem dX3_lots_54 : decode cX3_lots 54 = .ok (.if_icmp .ge 116, 3) := by decide +kernel
theorem dX3_lots_57 : decode cX3_lots 57 = .ok (.aload_n 0, 1) := by decide +kernel
theorem dX3_lots_58 : decode cX3_lots 58 = .ok (.invokevirtual 238, 3) := by decide +kernel
theorem dX3_lots_61 : decode cX3_lots 61 = .ok (.aload_n 0, 1) := by decide +kernel
theorem dX3_lots_62 : decode cX3_lots 62 = .ok (.invokevirtual 229, 3) := by decide +kernel
theorem dX3_lots_65 : decode cX3_lots 65 = .ok (.iconst 0, 1) := by decide +kernel
theorem dX3_lots_66 : decode cX3_lots 66 = .ok (.istore 9, 2) := by decide +kernel
theorem dX3_lots_68 : decode cX3_lots 68 = .ok (.iload 9, 2) := by decide +kernel
theorem dX3_lots_70 : decode cX3_lots 70 = .ok (.aload_n 0, 1) := by decide +kernel
theorem dX3_lots_71 : decode cX3_lots 71 = .ok (.getfield 88, 3) := by decide +kernel
theorem dX3_lots_74 : decode cX3_lots 74 = .ok (.if_icmp .ge 41, 3) := by decide +kernel
theorem dX3_lots_77 : decode cX3_lots 77 = .ok (.iload 5, 2) := by decide +kernel
theorem dX3_lots_79 : decode cX3_lots 79 = .ok (.ldc_w 356, 3) := by decide +kernel
theorem dX3_lots_82 : decode cX3_lots 82 = .ok (.imul, 1) := by decide +kernel
theorem dX3_lots_83 : decode cX3_lots 83 = .ok (.sipush 12345, 3) := by decide +kernel
theorem dX3_lots_86 : decode cX3_lots 86 = .ok (.iadd, 1) := by decide +kernel
theorem dX3_lots_87 : decode cX3_lots 87 = .ok (.istore 5, 2) := by decide +kernel
theorem dX3_lots_89 : decode cX3_lots 89 = .ok (.aload_n 0, 1) := by decide +kernel
theorem dX3_lots_90 : decode cX3_lots 90 = .ok (.getfield 31, 3) := by decide +kernel
theorem dX3_lots_93 : decode cX3_lots 93 = .ok (.iload 9, 2) := by decide +kernel
theorem dX3_lots_95 : decode cX3_lots 95 = .ok (.iload 5, 2) := by decide +kernel
theorem dX3_lots_97 : decode cX3_lots 97 = .ok (.ldc_w 357, 3) := by decide +kernel
theorem dX3_lots_100 : decode cX3_lots 100 = .ok (.iand, 1) := by decide +kernel
theorem dX3_lots_101 : decode cX3_lots 101 = .ok (.ldc_w 358, 3) := by decide +kernel
theorem dX3_lots_104 : decode cX3_lots 104 = .ok (.idiv, 1) := by decide +kernel
theorem dX3_lots_105 : decode cX3_lots 105 = .ok (.bipush 10, 2) := by decide +kernel
theorem dX3_lots_107 : decode cX3_lots 107 = .ok (.irem, 1) := by decide +kernel
theorem dX3_lots_108 : decode cX3_lots 108 = .ok (.iastore, 1) := by decide +kernel
theorem dX3_lots_109 : decode cX3_lots 109 = .ok (.iinc 9 1, 3) := by decide +kernel
theorem dX3_lots_112 : decode cX3_lots 112 = .ok (.goto (-44), 3) := by decide +kernel
theorem dX3_lots_115 : decode cX3_lots 115 = .ok (.aload_n 0, 1) := by decide +kernel
theorem dX3_lots_116 : decode cX3_lots 116 = .ok (.bipush 24, 2) := by decide +kernel
theorem dX3_lots_118 : decode cX3_lots 118 = .ok (.invokevirtual 232, 3) := by decide +kernel
theorem dX3_lots_121 : decode cX3_lots 121 = .ok (.iconst 0, 1) := by decide +kernel
theorem dX3_lots_122 : decode cX3_lots 122 = .ok (.istore 9, 2) := by decide +kernel
theorem dX3_lots_124 : decode cX3_lots 124 = .ok (.iload 9, 2) := by decide +kernel
theorem dX3_lots_126 : decode cX3_lots 126 = .ok (.aload_n 0, 1) := by decide +kernel
theorem dX3_lots_127 : decode cX3_lots 127 = .ok (.getfield 88, 3) := by decide +kernel
theorem dX3_lots_130 : decode cX3_lots 130 = .ok (.if_icmp .ge 21, 3) := by decide +kernel
theorem dX3_lots_133 : decode cX3_lots 133 = .ok (.iload 6, 2) := by decide +kernel
theorem dX3_lots_135 : decode cX3_lots 135 = .ok (.aload_n 0, 1) := by decide +kernel
theorem dX3_lots_136 : decode cX3_lots 136 = .ok (.getfield 58, 3) := by decide +kernel
theorem dX3_lots_139 : decode cX3_lots 139 = .ok (.iload 9, 2) := by decide +kernel
theorem dX3_lots_141 : decode cX3_lots 141 = .ok (.iaload, 1) := by decide +kernel
theorem dX3_lots_142 : decode cX3_lots 142 = .ok (.iadd, 1) := by decide +kernel
theorem dX3_lots_143 : decode cX3_lots 143 = .ok (.istore 6, 2) := by decide +kernel
theorem dX3_lots_145 : decode cX3_lots 145 = .ok (.iinc 9 1, 3) := by decide +kernel
theorem dX3_lots_148 : decode cX3_lots 148 = .ok (.goto (-24), 3) := by decide +kernel
theorem dX3_lots_151 : decode cX3_lots 151 = .ok (.iload 7, 2) := by decide +kernel
theorem dX3_lots_153 : decode cX3_lots 153 = .ok (.aload_n 0, 1) := by decide +kernel
theorem dX3_lots_154 : decode cX3_lots 154 = .ok (.getfield 217, 3) := by decide +kernel
theorem dX3_lots_157 : decode cX3_lots 157 = .ok (.iadd, 1) := by decide +kernel
theorem dX3_lots_158 : decode cX3_lots 158 = .ok (.istore 7, 2) := by decide +kernel
theorem dX3_lots_160 : decode cX3_lots 160 = .ok (.aload_n 0, 1) := by decide +kernel
theorem dX3_lots_161 : decode cX3_lots 161 = .ok (.invokevirtual 241, 3) := by decide +kernel
theorem dX3_lots_164 : decode cX3_lots 164 = .ok (.iinc 8 1, 3) := by decide +kernel
theorem dX3_lots_167 : decode cX3_lots 167 = .ok (.goto (-116), 3) := by decide +kernel
theorem dX3_lots_170 : decode cX3_lots 170 = .ok (.iload_n 3, 1) := by decide +kernel
theorem dX3_lots_171 : decode cX3_lots 171 = .ok (.ifCond .ne 8, 3) := by decide +kernel
theorem dX3_lots_174 : decode cX3_lots 174 = .ok (.iload 6, 2) := by decide +kernel
theorem dX3_lots_176 : decode cX3_lots 176 = .ok (.goto 5, 3) := by decide +kernel
theorem dX3_lots_179 : decode cX3_lots 179 = .ok (.iload 7, 2) := by decide +kernel
theorem dX3_lots_181 : decode cX3_lots 181 = .ok (.ireturn, 1) := by decide +kernel
theorem dX3_count_0 : decode cX3_count 0 = .ok (.iload_n 1, 1) := by decide +kernel
theorem dX3_count_1 : decode cX3_count 1 = .ok (.bipush 11, 2) := by decide +kernel
theorem dX3_count_3 : decode cX3_count 3 = .ok (.bipush 16, 2) := by decide +kernel
theorem dX3_count_5 : decode cX3_count 5 = .ok (.invokestatic 113, 3) := by decide +kernel
theorem dX3_count_8 : decode cX3_count 8 = .ok (.ifCond .eq 13, 3) := by decide +kernel
theorem dX3_count_11 : decode cX3_count 11 = .ok (.aload_n 0, 1) := by decide +kernel
theorem dX3_count_12 : decode cX3_count 12 = .ok (.getfield 7, 3) := by decide +kernel
theorem dX3_count_15 : decode cX3_count 15 = .ok (.iload_n 1, 1) := by decide +kernel
theorem dX3_count_16 : decode cX3_count 16 = .ok (.bipush 10, 2) := by decide +kernel
theorem dX3_count_18 : decode cX3_count 18 = .ok (.isub, 1) := by decide +kernel
theorem dX3_count_19 : decode cX3_count 19 = .ok (.iaload, 1) := by decide +kernel
theorem dX3_count_20 : decode cX3_count 20 = .ok (.ireturn, 1) := by decide +kernel
theorem dX3_count_21 : decode cX3_count 21 = .ok (.iconst 0, 1) := by decide +kernel
theorem dX3_count_22 : decode cX3_count 22 = .ok (.istore_n 2, 1) := by decide +kernel
theorem dX3_count_23 : decode cX3_count 23 = .ok (.iload_n 1, 1) := by decide +kernel
theorem dX3_count_24 : decode cX3_count 24 = .ok (.tableswitch 167 0 9 #[56, 61, 66, 71, 76, 113, 118, 152, 157, 162], 56) := by decide +kernel
theorem dX3_count_80 : decode cX3_count 80 = .ok (.aload_n 0, 1) := by decide +kernel
theorem dX3_count_81 : decode cX3_count 81 = .ok (.getfield 83, 3) := by decide +kernel
theorem dX3_count_84 : decode cX3_count 84 = .ok (.ireturn, 1) := by decide +kernel
theorem dX3_count_85 : decode cX3_count 85 = .ok (.aload_n 0, 1) := by decide +kernel
theorem dX3_count_86 : decode cX3_count 86 = .ok (.getfield 88, 3) := by decide +kernel
theorem dX3_count_89 : decode cX3_count 89 = .ok (.ireturn, 1) := by decide +kernel
theorem dX3_count_90 : decode cX3_count 90 = .ok (.aload_n 0, 1) := by decide +kernel
theorem dX3_count_91 : decode cX3_count 91 = .ok (.getfield 127, 3) := by decide +kernel
theorem dX3_count_94 : decode cX3_count 94 = .ok (.ireturn, 1) := by decide +kernel
theorem dX3_count_95 : decode cX3_count 95 = .ok (.aload_n 0, 1) := by decide +kernel
theorem dX3_count_96 : decode cX3_count 96 = .ok (.getfield 151, 3) := by decide +kernel
theorem dX3_count_99 : decode cX3_count 99 = .ok (.ireturn, 1) := by decide +kernel
theorem dX3_count_100 : decode cX3_count 100 = .ok (.iconst 0, 1) := by decide +kernel
theorem dX3_count_101 : decode cX3_count 101 = .ok (.istore_n 3, 1) := by decide +kernel
theorem dX3_count_102 : decode cX3_count 102 = .ok (.iload_n 3, 1) := by decide +kernel
theorem dX3_count_103 : decode cX3_count 103 = .ok (.aload_n 0, 1) := by decide +kernel
theorem dX3_count_104 : decode cX3_count 104 = .ok (.getfield 88, 3) := by decide +kernel
theorem dX3_count_107 : decode cX3_count 107 = .ok (.if_icmp .ge 28, 3) := by decide +kernel
theorem dX3_count_110 : decode cX3_count 110 = .ok (.iload_n 2, 1) := by decide +kernel
theorem dX3_count_111 : decode cX3_count 111 = .ok (.aload_n 0, 1) := by decide +kernel
theorem dX3_count_112 : decode cX3_count 112 = .ok (.getfield 37, 3) := by decide +kernel
theorem dX3_count_115 : decode cX3_count 115 = .ok (.iload_n 3, 1) := by decide +kernel
theorem dX3_count_116 : decode cX3_count 116 = .ok (.iaload, 1) := by decide +kernel
theorem dX3_count_117 : decode cX3_count 117 = .ok (.bipush 9, 2) := by decide +kernel
theorem dX3_count_119 : decode cX3_count 119 = .ok (.if_icmp .ge 7, 3) := by decide +kernel
theorem dX3_count_122 : decode cX3_count 122 = .ok (.iconst 1, 1) := by decide +kernel
theorem dX3_count_123 : decode cX3_count 123 = .ok (.goto 4, 3) := by decide +kernel
theorem dX3_count_126 : decode cX3_count 126 = .ok (.iconst 0, 1) := by decide +kernel
theorem dX3_count_127 : decode cX3_count 127 = .ok (.iadd, 1) := by decide +kernel
theorem dX3_count_128 : decode cX3_count 128 = .ok (.istore_n 2, 1) := by decide +kernel
theorem dX3_count_129 : decode cX3_count 129 = .ok (.iinc 3 1, 3) := by decide +kernel
theorem dX3_count_132 : decode cX3_count 132 = .ok (.goto (-30), 3) := by decide +kernel
theorem dX3_count_135 : decode cX3_count 135 = .ok (.iload_n 2, 1) := by decide +kernel
theorem dX3_count_136 : decode cX3_count 136 = .ok (.ireturn, 1) := by decide +kernel
theorem dX3_count_137 : decode cX3_count 137 = .ok (.aload_n 0, 1) := by decide +kernel
theorem dX3_count_138 : decode cX3_count 138 = .ok (.invokevirtual 350, 3) := by decide +kernel
theorem dX3_count_141 : decode cX3_count 141 = .ok (.ireturn, 1) := by decide +kernel
theorem dX3_count_142 : decode cX3_count 142 = .ok (.iconst 0, 1) := by decide +kernel
theorem dX3_count_143 : decode cX3_count 143 = .ok (.istore_n 3, 1) := by decide +kernel
theorem dX3_count_144 : decode cX3_count 144 = .ok (.iload_n 3, 1) := by decide +kernel
theorem dX3_count_145 : decode cX3_count 145 = .ok (.aload_n 0, 1) := by decide +kernel
theorem dX3_count_146 : decode cX3_count 146 = .ok (.getfield 88, 3) := by decide +kernel
theorem dX3_count_149 : decode cX3_count 149 = .ok (.if_icmp .ge 25, 3) := by decide +kernel
theorem dX3_count_152 : decode cX3_count 152 = .ok (.iload_n 2, 1) := by decide +kernel
theorem dX3_count_153 : decode cX3_count 153 = .ok (.aload_n 0, 1) := by decide +kernel
theorem dX3_count_154 : decode cX3_count 154 = .ok (.iload_n 3, 1) := by decide +kernel
theorem dX3_count_155 : decode cX3_count 155 = .ok (.invokevirtual 208, 3) := by decide +kernel
theorem dX3_count_158 : decode cX3_count 158 = .ok (.ifCond .eq 7, 3) := by decide +kernel
theorem dX3_count_161 : decode cX3_count 161 = .ok (.iconst 1, 1) := by decide +kernel
theorem dX3_count_162 : decode cX3_count 162 = .ok (.goto 4, 3) := by decide +kernel
theorem dX3_count_165 : decode cX3_count 165 = .ok (.iconst 0, 1) := by decide +kernel
theorem dX3_count_166 : decode cX3_count 166 = .ok (.iadd, 1) := by decide +kernel
theorem dX3_count_167 : decode cX3_count 167 = .ok (.istore_n 2, 1) := by decide +kernel
theorem dX3_count_168 : decode cX3_count 168 = .ok (.iinc 3 1, 3) := by decide +kernel
theorem dX3_count_171 : decode cX3_count 171 = .ok (.goto (-27), 3) := by decide +kernel
theorem dX3_count_174 : decode cX3_count 174 = .ok (.iload_n 2, 1) := by decide +kernel
theorem dX3_count_175 : decode cX3_count 175 = .ok (.ireturn, 1) := by decide +kernel
theorem dX3_count_176 : decode cX3_count 176 = .ok (.aload_n 0, 1) := by decide +kernel
theorem dX3_count_177 : decode cX3_count 177 = .ok (.getfield 99, 3) := by decide +kernel
theorem dX3_count_180 : decode cX3_count 180 = .ok (.ireturn, 1) := by decide +kernel
theorem dX3_count_181 : decode cX3_count 181 = .ok (.aload_n 0, 1) := by decide +kernel
theorem dX3_count_182 : decode cX3_count 182 = .ok (.getfield 314, 3) := by decide +kernel
theorem dX3_count_185 : decode cX3_count 185 = .ok (.ireturn, 1) := by decide +kernel
theorem dX3_count_186 : decode cX3_count 186 = .ok (.aload_n 0, 1) := by decide +kernel
theorem dX3_count_187 : decode cX3_count 187 = .ok (.getfield 168, 3) := by decide +kernel
theorem dX3_count_190 : decode cX3_count 190 = .ok (.ireturn, 1) := by decide +kernel
theorem dX3_count_191 : decode cX3_count 191 = .ok (.bipush (-9), 2) := by decide +kernel
theorem dX3_count_193 : decode cX3_count 193 = .ok (.ireturn, 1) := by decide +kernel

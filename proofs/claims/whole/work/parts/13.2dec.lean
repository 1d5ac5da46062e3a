/-! how the instructions read, 2 -/
theorem dX12_goesAt_18 : decode cX12_goesAt 18 = .ok (.imul, 1) := by decide +kernel
theorem dX12_goesAt_19 : decode cX12_goesAt 19 = .ok (.iload_n 2, 1) := by decide +kernel
theorem dX12_goesAt_20 : decode cX12_goesAt 20 = .ok (.iadd, 1) := by decide +kernel
theorem dX12_goesAt_21 : decode cX12_goesAt 21 = .ok (.iaload, 1) := by decide +kernel
theorem dX12_goesAt_22 : decode cX12_goesAt 22 = .ok (.iadd, 1) := by decide +kernel
theorem dX12_goesAt_23 : decode cX12_goesAt 23 = .ok (.aload_n 0, 1) := by decide +kernel
theorem dX12_goesAt_24 : decode cX12_goesAt 24 = .ok (.getfield 25, 3) := by decide +kernel
theorem dX12_goesAt_27 : decode cX12_goesAt 27 = .ok (.iload_n 1, 1) := by decide +kernel
theorem dX12_goesAt_28 : decode cX12_goesAt 28 = .ok (.iaload, 1) := by decide +kernel
theorem dX12_goesAt_29 : decode cX12_goesAt 29 = .ok (.iadd, 1) := by decide +kernel
theorem dX12_goesAt_30 : decode cX12_goesAt 30 = .ok (.ireturn, 1) := by decide +kernel
theorem dX12_canBeLate_0 : decode cX12_canBeLate 0 = .ok (.aload_n 0, 1) := by decide +kernel
theorem dX12_canBeLate_1 : decode cX12_canBeLate 1 = .ok (.iload_n 1, 1) := by decide +kernel
theorem dX12_canBeLate_2 : decode cX12_canBeLate 2 = .ok (.invokevirtual 310, 3) := by decide +kernel
theorem dX12_canBeLate_5 : decode cX12_canBeLate 5 = .ok (.ifCond .eq 56, 3) := by decide +kernel
theorem dX12_canBeLate_8 : decode cX12_canBeLate 8 = .ok (.iload_n 2, 1) := by decide +kernel
theorem dX12_canBeLate_9 : decode cX12_canBeLate 9 = .ok (.invokestatic 316, 3) := by decide +kernel
theorem dX12_canBeLate_12 : decode cX12_canBeLate 12 = .ok (.ifCond .eq 49, 3) := by decide +kernel
theorem dX12_canBeLate_15 : decode cX12_canBeLate 15 = .ok (.iload_n 3, 1) := by decide +kernel
theorem dX12_canBeLate_16 : decode cX12_canBeLate 16 = .ok (.iconst 0, 1) := by decide +kernel
theorem dX12_canBeLate_17 : decode cX12_canBeLate 17 = .ok (.sipush 300, 3) := by decide +kernel
theorem dX12_canBeLate_20 : decode cX12_canBeLate 20 = .ok (.invokestatic 286, 3) := by decide +kernel
theorem dX12_canBeLate_23 : decode cX12_canBeLate 23 = .ok (.ifCond .eq 38, 3) := by decide +kernel
theorem dX12_canBeLate_26 : decode cX12_canBeLate 26 = .ok (.aload_n 0, 1) := by decide +kernel
theorem dX12_canBeLate_27 : decode cX12_canBeLate 27 = .ok (.getfield 13, 3) := by decide +kernel
theorem dX12_canBeLate_30 : decode cX12_canBeLate 30 = .ok (.iload_n 1, 1) := by decide +kernel
theorem dX12_canBeLate_31 : decode cX12_canBeLate 31 = .ok (.iaload, 1) := by decide +kernel
theorem dX12_canBeLate_32 : decode cX12_canBeLate 32 = .ok (.ifCond .le 29, 3) := by decide +kernel
theorem dX12_canBeLate_35 : decode cX12_canBeLate 35 = .ok (.sipush 1440, 3) := by decide +kernel
theorem dX12_canBeLate_38 : decode cX12_canBeLate 38 = .ok (.iload_n 2, 1) := by decide +kernel
theorem dX12_canBeLate_39 : decode cX12_canBeLate 39 = .ok (.imul, 1) := by decide +kernel
theorem dX12_canBeLate_40 : decode cX12_canBeLate 40 = .ok (.aload_n 0, 1) := by decide +kernel
theorem dX12_canBeLate_41 : decode cX12_canBeLate 41 = .ok (.getfield 22, 3) := by decide +kernel
theorem dX12_canBeLate_44 : decode cX12_canBeLate 44 = .ok (.bipush 8, 2) := by decide +kernel
theorem dX12_canBeLate_46 : decode cX12_canBeLate 46 = .ok (.iload_n 1, 1) := by decide +kernel
theorem dX12_canBeLate_47 : decode cX12_canBeLate 47 = .ok (.imul, 1) := by decide +kernel
theorem dX12_canBeLate_48 : decode cX12_canBeLate 48 = .ok (.iaload, 1) := by decide +kernel
theorem dX12_canBeLate_49 : decode cX12_canBeLate 49 = .ok (.iadd, 1) := by decide +kernel
theorem dX12_canBeLate_50 : decode cX12_canBeLate 50 = .ok (.aload_n 0, 1) := by decide +kernel
theorem dX12_canBeLate_51 : decode cX12_canBeLate 51 = .ok (.getfield 313, 3) := by decide +kernel
theorem dX12_canBeLate_54 : decode cX12_canBeLate 54 = .ok (.if_icmp .le 7, 3) := by decide +kernel
theorem dX12_canBeLate_57 : decode cX12_canBeLate 57 = .ok (.iconst 1, 1) := by decide +kernel
theorem dX12_canBeLate_58 : decode cX12_canBeLate 58 = .ok (.goto 4, 3) := by decide +kernel
theorem dX12_canBeLate_61 : decode cX12_canBeLate 61 = .ok (.iconst 0, 1) := by decide +kernel
theorem dX12_canBeLate_62 : decode cX12_canBeLate 62 = .ok (.ireturn, 1) := by decide +kernel
theorem dX12_late_0 : decode cX12_late 0 = .ok (.aload_n 0, 1) := by decide +kernel
theorem dX12_late_1 : decode cX12_late 1 = .ok (.iload_n 1, 1) := by decide +kernel
theorem dX12_late_2 : decode cX12_late 2 = .ok (.iload_n 2, 1) := by decide +kernel
theorem dX12_late_3 : decode cX12_late 3 = .ok (.iload_n 3, 1) := by decide +kernel
theorem dX12_late_4 : decode cX12_late 4 = .ok (.invokevirtual 319, 3) := by decide +kernel
theorem dX12_late_7 : decode cX12_late 7 = .ok (.ifCond .ne 5, 3) := by decide +kernel
theorem dX12_late_10 : decode cX12_late 10 = .ok (.iconst 0, 1) := by decide +kernel
theorem dX12_late_11 : decode cX12_late 11 = .ok (.ireturn, 1) := by decide +kernel
theorem dX12_late_12 : decode cX12_late 12 = .ok (.aload_n 0, 1) := by decide +kernel
theorem dX12_late_13 : decode cX12_late 13 = .ok (.getfield 25, 3) := by decide +kernel
theorem dX12_late_16 : decode cX12_late 16 = .ok (.iload_n 1, 1) := by decide +kernel
theorem dX12_late_17 : decode cX12_late 17 = .ok (.iload_n 2, 1) := by decide +kernel
theorem dX12_late_18 : decode cX12_late 18 = .ok (.invokestatic 322, 3) := by decide +kernel
theorem dX12_late_21 : decode cX12_late 21 = .ok (.iload_n 3, 1) := by decide +kernel
theorem dX12_late_22 : decode cX12_late 22 = .ok (.iastore, 1) := by decide +kernel
theorem dX12_late_23 : decode cX12_late 23 = .ok (.aload_n 0, 1) := by decide +kernel
theorem dX12_late_24 : decode cX12_late 24 = .ok (.iconst 0, 1) := by decide +kernel
theorem dX12_late_25 : decode cX12_late 25 = .ok (.putfield 293, 3) := by decide +kernel
theorem dX12_late_28 : decode cX12_late 28 = .ok (.iconst 1, 1) := by decide +kernel
theorem dX12_late_29 : decode cX12_late 29 = .ok (.ireturn, 1) := by decide +kernel
theorem dX12_miss_0 : decode cX12_miss 0 = .ok (.aload_n 0, 1) := by decide +kernel
theorem dX12_miss_1 : decode cX12_miss 1 = .ok (.iload_n 1, 1) := by decide +kernel
theorem dX12_miss_2 : decode cX12_miss 2 = .ok (.invokevirtual 310, 3) := by decide +kernel
theorem dX12_miss_5 : decode cX12_miss 5 = .ok (.ifCond .eq 75, 3) := by decide +kernel
theorem dX12_miss_8 : decode cX12_miss 8 = .ok (.iload_n 2, 1) := by decide +kernel
theorem dX12_miss_9 : decode cX12_miss 9 = .ok (.invokestatic 316, 3) := by decide +kernel
theorem dX12_miss_12 : decode cX12_miss 12 = .ok (.ifCond .eq 68, 3) := by decide +kernel
theorem dX12_miss_15 : decode cX12_miss 15 = .ok (.iload_n 3, 1) := by decide +kernel
theorem dX12_miss_16 : decode cX12_miss 16 = .ok (.iconst 0, 1) := by decide +kernel
theorem dX12_miss_17 : decode cX12_miss 17 = .ok (.aload_n 0, 1) := by decide +kernel
theorem dX12_miss_18 : decode cX12_miss 18 = .ok (.getfield 13, 3) := by decide +kernel
theorem dX12_miss_21 : decode cX12_miss 21 = .ok (.iload_n 1, 1) := by decide +kernel
theorem dX12_miss_22 : decode cX12_miss 22 = .ok (.iaload, 1) := by decide +kernel
theorem dX12_miss_23 : decode cX12_miss 23 = .ok (.iconst 2, 1) := by decide +kernel
theorem dX12_miss_24 : decode cX12_miss 24 = .ok (.isub, 1) := by decide +kernel
theorem dX12_miss_25 : decode cX12_miss 25 = .ok (.invokestatic 286, 3) := by decide +kernel
theorem dX12_miss_28 : decode cX12_miss 28 = .ok (.ifCond .eq 52, 3) := by decide +kernel
theorem dX12_miss_31 : decode cX12_miss 31 = .ok (.aload_n 0, 1) := by decide +kernel
theorem dX12_miss_32 : decode cX12_miss 32 = .ok (.getfield 28, 3) := by decide +kernel
theorem dX12_miss_35 : decode cX12_miss 35 = .ok (.bipush 8, 2) := by decide +kernel
theorem dX12_miss_37 : decode cX12_miss 37 = .ok (.iload_n 1, 1) := by decide +kernel
theorem dX12_miss_38 : decode cX12_miss 38 = .ok (.imul, 1) := by decide +kernel
theorem dX12_miss_39 : decode cX12_miss 39 = .ok (.iload_n 3, 1) := by decide +kernel
theorem dX12_miss_40 : decode cX12_miss 40 = .ok (.iadd, 1) := by decide +kernel
theorem dX12_miss_41 : decode cX12_miss 41 = .ok (.baload, 1) := by decide +kernel
theorem dX12_miss_42 : decode cX12_miss 42 = .ok (.ifCond .eq 38, 3) := by decide +kernel
theorem dX12_miss_45 : decode cX12_miss 45 = .ok (.aload_n 0, 1) := by decide +kernel
theorem dX12_miss_46 : decode cX12_miss 46 = .ok (.getfield 32, 3) := by decide +kernel
theorem dX12_miss_49 : decode cX12_miss 49 = .ok (.bipush 8, 2) := by decide +kernel
theorem dX12_miss_51 : decode cX12_miss 51 = .ok (.iload_n 1, 1) := by decide +kernel
theorem dX12_miss_52 : decode cX12_miss 52 = .ok (.iload_n 2, 1) := by decide +kernel
theorem dX12_miss_53 : decode cX12_miss 53 = .ok (.invokestatic 322, 3) := by decide +kernel
theorem dX12_miss_56 : decode cX12_miss 56 = .ok (.imul, 1) := by decide +kernel
theorem dX12_miss_57 : decode cX12_miss 57 = .ok (.iload_n 3, 1) := by decide +kernel
theorem dX12_miss_58 : decode cX12_miss 58 = .ok (.iadd, 1) := by decide +kernel
theorem dX12_miss_59 : decode cX12_miss 59 = .ok (.baload, 1) := by decide +kernel
theorem dX12_miss_60 : decode cX12_miss 60 = .ok (.ifCond .ne 20, 3) := by decide +kernel
theorem dX12_miss_63 : decode cX12_miss 63 = .ok (.aload_n 0, 1) := by decide +kernel
theorem dX12_miss_64 : decode cX12_miss 64 = .ok (.iload_n 1, 1) := by decide +kernel
theorem dX12_miss_65 : decode cX12_miss 65 = .ok (.iload_n 2, 1) := by decide +kernel
theorem dX12_miss_66 : decode cX12_miss 66 = .ok (.invokestatic 322, 3) := by decide +kernel
theorem dX12_miss_69 : decode cX12_miss 69 = .ok (.iload_n 3, 1) := by decide +kernel
theorem dX12_miss_70 : decode cX12_miss 70 = .ok (.invokevirtual 326, 3) := by decide +kernel
theorem dX12_miss_73 : decode cX12_miss 73 = .ok (.aload_n 0, 1) := by decide +kernel
theorem dX12_miss_74 : decode cX12_miss 74 = .ok (.getfield 313, 3) := by decide +kernel
theorem dX12_miss_77 : decode cX12_miss 77 = .ok (.if_icmp .gt 5, 3) := by decide +kernel
theorem dX12_miss_80 : decode cX12_miss 80 = .ok (.iconst 0, 1) := by decide +kernel
theorem dX12_miss_81 : decode cX12_miss 81 = .ok (.ireturn, 1) := by decide +kernel
theorem dX12_miss_82 : decode cX12_miss 82 = .ok (.aload_n 0, 1) := by decide +kernel
theorem dX12_miss_83 : decode cX12_miss 83 = .ok (.getfield 32, 3) := by decide +kernel
theorem dX12_miss_86 : decode cX12_miss 86 = .ok (.bipush 8, 2) := by decide +kernel
theorem dX12_miss_88 : decode cX12_miss 88 = .ok (.iload_n 1, 1) := by decide +kernel
theorem dX12_miss_89 : decode cX12_miss 89 = .ok (.iload_n 2, 1) := by decide +kernel
theorem dX12_miss_90 : decode cX12_miss 90 = .ok (.invokestatic 322, 3) := by decide +kernel
theorem dX12_miss_93 : decode cX12_miss 93 = .ok (.imul, 1) := by decide +kernel
theorem dX12_miss_94 : decode cX12_miss 94 = .ok (.iload_n 3, 1) := by decide +kernel
theorem dX12_miss_95 : decode cX12_miss 95 = .ok (.iadd, 1) := by decide +kernel
theorem dX12_miss_96 : decode cX12_miss 96 = .ok (.iconst 1, 1) := by decide +kernel
theorem dX12_miss_97 : decode cX12_miss 97 = .ok (.bastore, 1) := by decide +kernel
theorem dX12_miss_98 : decode cX12_miss 98 = .ok (.iconst 1, 1) := by decide +kernel
theorem dX12_miss_99 : decode cX12_miss 99 = .ok (.ireturn, 1) := by decide +kernel
theorem dX12_minuteOf_0 : decode cX12_minuteOf 0 = .ok (.iload_n 2, 1) := by decide +kernel
theorem dX12_minuteOf_1 : decode cX12_minuteOf 1 = .ok (.iconst 2, 1) := by decide +kernel
theorem dX12_minuteOf_2 : decode cX12_minuteOf 2 = .ok (.irem, 1) := by decide +kernel
theorem dX12_minuteOf_3 : decode cX12_minuteOf 3 = .ok (.ifCond .ne 14, 3) := by decide +kernel
theorem dX12_minuteOf_6 : decode cX12_minuteOf 6 = .ok (.aload_n 0, 1) := by decide +kernel
theorem dX12_minuteOf_7 : decode cX12_minuteOf 7 = .ok (.iload_n 1, 1) := by decide +kernel
theorem dX12_minuteOf_8 : decode cX12_minuteOf 8 = .ok (.iload_n 2, 1) := by decide +kernel
theorem dX12_minuteOf_9 : decode cX12_minuteOf 9 = .ok (.iconst 2, 1) := by decide +kernel
theorem dX12_minuteOf_10 : decode cX12_minuteOf 10 = .ok (.idiv, 1) := by decide +kernel
theorem dX12_minuteOf_11 : decode cX12_minuteOf 11 = .ok (.invokevirtual 329, 3) := by decide +kernel
theorem dX12_minuteOf_14 : decode cX12_minuteOf 14 = .ok (.goto 13, 3) := by decide +kernel
theorem dX12_minuteOf_17 : decode cX12_minuteOf 17 = .ok (.aload_n 0, 1) := by decide +kernel
theorem dX12_minuteOf_18 : decode cX12_minuteOf 18 = .ok (.iload_n 1, 1) := by decide +kernel
theorem dX12_minuteOf_19 : decode cX12_minuteOf 19 = .ok (.iload_n 2, 1) := by decide +kernel
theorem dX12_minuteOf_20 : decode cX12_minuteOf 20 = .ok (.iconst 2, 1) := by decide +kernel
theorem dX12_minuteOf_21 : decode cX12_minuteOf 21 = .ok (.idiv, 1) := by decide +kernel
theorem dX12_minuteOf_22 : decode cX12_minuteOf 22 = .ok (.iconst 1, 1) := by decide +kernel
theorem dX12_minuteOf_23 : decode cX12_minuteOf 23 = .ok (.iadd, 1) := by decide +kernel
theorem dX12_minuteOf_24 : decode cX12_minuteOf 24 = .ok (.invokevirtual 326, 3) := by decide +kernel
theorem dX12_minuteOf_27 : decode cX12_minuteOf 27 = .ok (.ireturn, 1) := by decide +kernel
theorem dX12_isAheadOf_0 : decode cX12_isAheadOf 0 = .ok (.iconst 2, 1) := by decide +kernel
theorem dX12_isAheadOf_1 : decode cX12_isAheadOf 1 = .ok (.aload_n 0, 1) := by decide +kernel
theorem dX12_isAheadOf_2 : decode cX12_isAheadOf 2 = .ok (.iload_n 1, 1) := by decide +kernel
theorem dX12_isAheadOf_3 : decode cX12_isAheadOf 3 = .ok (.aload_n 0, 1) := by decide +kernel
theorem dX12_isAheadOf_4 : decode cX12_isAheadOf 4 = .ok (.getfield 50, 3) := by decide +kernel
theorem dX12_isAheadOf_7 : decode cX12_isAheadOf 7 = .ok (.iload_n 1, 1) := by decide +kernel
theorem dX12_isAheadOf_8 : decode cX12_isAheadOf 8 = .ok (.iaload, 1) := by decide +kernel
theorem dX12_isAheadOf_9 : decode cX12_isAheadOf 9 = .ok (.invokevirtual 332, 3) := by decide +kernel
theorem dX12_isAheadOf_12 : decode cX12_isAheadOf 12 = .ok (.imul, 1) := by decide +kernel
theorem dX12_isAheadOf_13 : decode cX12_isAheadOf 13 = .ok (.aload_n 0, 1) := by decide +kernel
theorem dX12_isAheadOf_14 : decode cX12_isAheadOf 14 = .ok (.getfield 50, 3) := by decide +kernel
theorem dX12_isAheadOf_17 : decode cX12_isAheadOf 17 = .ok (.iload_n 1, 1) := by decide +kernel
theorem dX12_isAheadOf_18 : decode cX12_isAheadOf 18 = .ok (.iaload, 1) := by decide +kernel
theorem dX12_isAheadOf_19 : decode cX12_isAheadOf 19 = .ok (.iconst 2, 1) := by decide +kernel
theorem dX12_isAheadOf_20 : decode cX12_isAheadOf 20 = .ok (.irem, 1) := by decide +kernel
theorem dX12_isAheadOf_21 : decode cX12_isAheadOf 21 = .ok (.ifCond .ne 7, 3) := by decide +kernel
theorem dX12_isAheadOf_24 : decode cX12_isAheadOf 24 = .ok (.iconst 1, 1) := by decide +kernel
theorem dX12_isAheadOf_25 : decode cX12_isAheadOf 25 = .ok (.goto 4, 3) := by decide +kernel
theorem dX12_isAheadOf_28 : decode cX12_isAheadOf 28 = .ok (.iconst 0, 1) := by decide +kernel
theorem dX12_isAheadOf_29 : decode cX12_isAheadOf 29 = .ok (.iadd, 1) := by decide +kernel
theorem dX12_isAheadOf_30 : decode cX12_isAheadOf 30 = .ok (.istore_n 3, 1) := by decide +kernel
theorem dX12_isAheadOf_31 : decode cX12_isAheadOf 31 = .ok (.iconst 2, 1) := by decide +kernel
theorem dX12_isAheadOf_32 : decode cX12_isAheadOf 32 = .ok (.aload_n 0, 1) := by decide +kernel
theorem dX12_isAheadOf_33 : decode cX12_isAheadOf 33 = .ok (.iload_n 2, 1) := by decide +kernel
theorem dX12_isAheadOf_34 : decode cX12_isAheadOf 34 = .ok (.aload_n 0, 1) := by decide +kernel
theorem dX12_isAheadOf_35 : decode cX12_isAheadOf 35 = .ok (.getfield 50, 3) := by decide +kernel
theorem dX12_isAheadOf_38 : decode cX12_isAheadOf 38 = .ok (.iload_n 2, 1) := by decide +kernel
theorem dX12_isAheadOf_39 : decode cX12_isAheadOf 39 = .ok (.iaload, 1) := by decide +kernel
theorem dX12_isAheadOf_40 : decode cX12_isAheadOf 40 = .ok (.invokevirtual 332, 3) := by decide +kernel
theorem dX12_isAheadOf_43 : decode cX12_isAheadOf 43 = .ok (.imul, 1) := by decide +kernel
theorem dX12_isAheadOf_44 : decode cX12_isAheadOf 44 = .ok (.aload_n 0, 1) := by decide +kernel
theorem dX12_isAheadOf_45 : decode cX12_isAheadOf 45 = .ok (.getfield 50, 3) := by decide +kernel
theorem dX12_isAheadOf_48 : decode cX12_isAheadOf 48 = .ok (.iload_n 2, 1) := by decide +kernel
theorem dX12_isAheadOf_49 : decode cX12_isAheadOf 49 = .ok (.iaload, 1) := by decide +kernel
theorem dX12_isAheadOf_50 : decode cX12_isAheadOf 50 = .ok (.iconst 2, 1) := by decide +kernel
theorem dX12_isAheadOf_51 : decode cX12_isAheadOf 51 = .ok (.irem, 1) := by decide +kernel
theorem dX12_isAheadOf_52 : decode cX12_isAheadOf 52 = .ok (.ifCond .ne 7, 3) := by decide +kernel
theorem dX12_isAheadOf_55 : decode cX12_isAheadOf 55 = .ok (.iconst 1, 1) := by decide +kernel
theorem dX12_isAheadOf_56 : decode cX12_isAheadOf 56 = .ok (.goto 4, 3) := by decide +kernel
theorem dX12_isAheadOf_59 : decode cX12_isAheadOf 59 = .ok (.iconst 0, 1) := by decide +kernel
theorem dX12_isAheadOf_60 : decode cX12_isAheadOf 60 = .ok (.iadd, 1) := by decide +kernel
theorem dX12_isAheadOf_61 : decode cX12_isAheadOf 61 = .ok (.istore 4, 2) := by decide +kernel
theorem dX12_isAheadOf_63 : decode cX12_isAheadOf 63 = .ok (.iload_n 3, 1) := by decide +kernel
theorem dX12_isAheadOf_64 : decode cX12_isAheadOf 64 = .ok (.iload 4, 2) := by decide +kernel
theorem dX12_isAheadOf_66 : decode cX12_isAheadOf 66 = .ok (.if_icmp .lt 14, 3) := by decide +kernel
theorem dX12_isAheadOf_69 : decode cX12_isAheadOf 69 = .ok (.iload_n 3, 1) := by decide +kernel
theorem dX12_isAheadOf_70 : decode cX12_isAheadOf 70 = .ok (.iload 4, 2) := by decide +kernel
theorem dX12_isAheadOf_72 : decode cX12_isAheadOf 72 = .ok (.if_icmp .ne 12, 3) := by decide +kernel
theorem dX12_isAheadOf_75 : decode cX12_isAheadOf 75 = .ok (.iload_n 1, 1) := by decide +kernel
theorem dX12_isAheadOf_76 : decode cX12_isAheadOf 76 = .ok (.iload_n 2, 1) := by decide +kernel
theorem dX12_isAheadOf_77 : decode cX12_isAheadOf 77 = .ok (.if_icmp .ge 7, 3) := by decide +kernel
theorem dX12_isAheadOf_80 : decode cX12_isAheadOf 80 = .ok (.iconst 1, 1) := by decide +kernel
theorem dX12_isAheadOf_81 : decode cX12_isAheadOf 81 = .ok (.goto 4, 3) := by decide +kernel
theorem dX12_isAheadOf_84 : decode cX12_isAheadOf 84 = .ok (.iconst 0, 1) := by decide +kernel
theorem dX12_isAheadOf_85 : decode cX12_isAheadOf 85 = .ok (.ireturn, 1) := by decide +kernel
theorem dX12_isMore_0 : decode cX12_isMore 0 = .ok (.aload_n 0, 1) := by decide +kernel
theorem dX12_isMore_1 : decode cX12_isMore 1 = .ok (.getfield 50, 3) := by decide +kernel
theorem dX12_isMore_4 : decode cX12_isMore 4 = .ok (.iload_n 1, 1) := by decide +kernel
theorem dX12_isMore_5 : decode cX12_isMore 5 = .ok (.iaload, 1) := by decide +kernel
theorem dX12_isMore_6 : decode cX12_isMore 6 = .ok (.iconst 2, 1) := by decide +kernel
theorem dX12_isMore_7 : decode cX12_isMore 7 = .ok (.aload_n 0, 1) := by decide +kernel
theorem dX12_isMore_8 : decode cX12_isMore 8 = .ok (.getfield 13, 3) := by decide +kernel
theorem dX12_isMore_11 : decode cX12_isMore 11 = .ok (.iload_n 1, 1) := by decide +kernel
theorem dX12_isMore_12 : decode cX12_isMore 12 = .ok (.bipush 7, 2) := by decide +kernel
theorem dX12_isMore_14 : decode cX12_isMore 14 = .ok (.idiv, 1) := by decide +kernel
theorem dX12_isMore_15 : decode cX12_isMore 15 = .ok (.iaload, 1) := by decide +kernel
theorem dX12_isMore_16 : decode cX12_isMore 16 = .ok (.iconst 1, 1) := by decide +kernel
theorem dX12_isMore_17 : decode cX12_isMore 17 = .ok (.isub, 1) := by decide +kernel
theorem dX12_isMore_18 : decode cX12_isMore 18 = .ok (.imul, 1) := by decide +kernel
theorem dX12_isMore_19 : decode cX12_isMore 19 = .ok (.if_icmp .ge 24, 3) := by decide +kernel
theorem dX12_isMore_22 : decode cX12_isMore 22 = .ok (.aload_n 0, 1) := by decide +kernel
theorem dX12_isMore_23 : decode cX12_isMore 23 = .ok (.iload_n 1, 1) := by decide +kernel
theorem dX12_isMore_24 : decode cX12_isMore 24 = .ok (.aload_n 0, 1) := by decide +kernel
theorem dX12_isMore_25 : decode cX12_isMore 25 = .ok (.getfield 50, 3) := by decide +kernel
theorem dX12_isMore_28 : decode cX12_isMore 28 = .ok (.iload_n 1, 1) := by decide +kernel
theorem dX12_isMore_29 : decode cX12_isMore 29 = .ok (.iaload, 1) := by decide +kernel
theorem dX12_isMore_30 : decode cX12_isMore 30 = .ok (.invokevirtual 332, 3) := by decide +kernel
theorem dX12_isMore_33 : decode cX12_isMore 33 = .ok (.sipush 10079, 3) := by decide +kernel
theorem dX12_isMore_36 : decode cX12_isMore 36 = .ok (.if_icmp .gt 7, 3) := by decide +kernel
theorem dX12_isMore_39 : decode cX12_isMore 39 = .ok (.iconst 1, 1) := by decide +kernel
theorem dX12_isMore_40 : decode cX12_isMore 40 = .ok (.goto 4, 3) := by decide +kernel
theorem dX12_isMore_43 : decode cX12_isMore 43 = .ok (.iconst 0, 1) := by decide +kernel
theorem dX12_isMore_44 : decode cX12_isMore 44 = .ok (.ireturn, 1) := by decide +kernel
theorem dX12_table_0 : decode cX12_table 0 = .ok (.aload_n 0, 1) := by decide +kernel
theorem dX12_table_1 : decode cX12_table 1 = .ok (.getfield 293, 3) := by decide +kernel
theorem dX12_table_4 : decode cX12_table 4 = .ok (.ifCond .eq 4, 3) := by decide +kernel
theorem dX12_table_7 : decode cX12_table 7 = .ok (.return_, 1) := by decide +kernel
theorem dX12_table_8 : decode cX12_table 8 = .ok (.aload_n 0, 1) := by decide +kernel
theorem dX12_table_9 : decode cX12_table 9 = .ok (.iconst 1, 1) := by decide +kernel
theorem dX12_table_10 : decode cX12_table 10 = .ok (.putfield 293, 3) := by decide +kernel
theorem dX12_table_13 : decode cX12_table 13 = .ok (.aload_n 0, 1) := by decide +kernel
theorem dX12_table_14 : decode cX12_table 14 = .ok (.iconst 0, 1) := by decide +kernel
theorem dX12_table_15 : decode cX12_table 15 = .ok (.putfield 335, 3) := by decide +kernel
theorem dX12_table_18 : decode cX12_table 18 = .ok (.iconst 0, 1) := by decide +kernel
theorem dX12_table_19 : decode cX12_table 19 = .ok (.istore_n 1, 1) := by decide +kernel
theorem dX12_table_20 : decode cX12_table 20 = .ok (.iload_n 1, 1) := by decide +kernel
theorem dX12_table_21 : decode cX12_table 21 = .ok (.bipush 70, 2) := by decide +kernel
theorem dX12_table_23 : decode cX12_table 23 = .ok (.if_icmp .ge 16, 3) := by decide +kernel
theorem dX12_table_26 : decode cX12_table 26 = .ok (.aload_n 0, 1) := by decide +kernel
theorem dX12_table_27 : decode cX12_table 27 = .ok (.getfield 50, 3) := by decide +kernel
theorem dX12_table_30 : decode cX12_table 30 = .ok (.iload_n 1, 1) := by decide +kernel
theorem dX12_table_31 : decode cX12_table 31 = .ok (.iconst 0, 1) := by decide +kernel
theorem dX12_table_32 : decode cX12_table 32 = .ok (.iastore, 1) := by decide +kernel
theorem dX12_table_33 : decode cX12_table 33 = .ok (.iinc 1 1, 3) := by decide +kernel
theorem dX12_table_36 : decode cX12_table 36 = .ok (.goto (-16), 3) := by decide +kernel
theorem dX12_table_39 : decode cX12_table 39 = .ok (.iconst (-1), 1) := by decide +kernel
theorem dX12_table_40 : decode cX12_table 40 = .ok (.istore_n 1, 1) := by decide +kernel
theorem dX12_table_41 : decode cX12_table 41 = .ok (.iconst (-1), 1) := by decide +kernel
theorem dX12_table_42 : decode cX12_table 42 = .ok (.istore_n 1, 1) := by decide +kernel
theorem dX12_table_43 : decode cX12_table 43 = .ok (.iconst 0, 1) := by decide +kernel
theorem dX12_table_44 : decode cX12_table 44 = .ok (.istore_n 2, 1) := by decide +kernel
theorem dX12_table_45 : decode cX12_table 45 = .ok (.iload_n 2, 1) := by decide +kernel
theorem dX12_table_46 : decode cX12_table 46 = .ok (.bipush 7, 2) := by decide +kernel
theorem dX12_table_48 : decode cX12_table 48 = .ok (.aload_n 0, 1) := by decide +kernel
theorem dX12_table_49 : decode cX12_table 49 = .ok (.getfield 290, 3) := by decide +kernel
theorem dX12_table_52 : decode cX12_table 52 = .ok (.imul, 1) := by decide +kernel
theorem dX12_table_53 : decode cX12_table 53 = .ok (.if_icmp .ge 33, 3) := by decide +kernel
theorem dX12_table_56 : decode cX12_table 56 = .ok (.aload_n 0, 1) := by decide +kernel
theorem dX12_table_57 : decode cX12_table 57 = .ok (.iload_n 2, 1) := by decide +kernel
theorem dX12_table_58 : decode cX12_table 58 = .ok (.invokevirtual 338, 3) := by decide +kernel
theorem dX12_table_61 : decode cX12_table 61 = .ok (.ifCond .eq 19, 3) := by decide +kernel
theorem dX12_table_64 : decode cX12_table 64 = .ok (.iload_n 1, 1) := by decide +kernel
theorem dX12_table_65 : decode cX12_table 65 = .ok (.iconst (-1), 1) := by decide +kernel
theorem dX12_table_66 : decode cX12_table 66 = .ok (.if_icmp .eq 12, 3) := by decide +kernel
theorem dX12_table_69 : decode cX12_table 69 = .ok (.aload_n 0, 1) := by decide +kernel
theorem dX12_table_70 : decode cX12_table 70 = .ok (.iload_n 2, 1) := by decide +kernel
theorem dX12_table_71 : decode cX12_table 71 = .ok (.iload_n 1, 1) := by decide +kernel
theorem dX12_table_72 : decode cX12_table 72 = .ok (.invokevirtual 341, 3) := by decide +kernel
theorem dX12_table_75 : decode cX12_table 75 = .ok (.ifCond .eq 5, 3) := by decide +kernel
theorem dX12_table_78 : decode cX12_table 78 = .ok (.iload_n 2, 1) := by decide +kernel
theorem dX12_table_79 : decode cX12_table 79 = .ok (.istore_n 1, 1) := by decide +kernel
theorem dX12_table_80 : decode cX12_table 80 = .ok (.iinc 2 1, 3) := by decide +kernel
theorem dX12_table_83 : decode cX12_table 83 = .ok (.goto (-38), 3) := by decide +kernel
theorem dX12_table_86 : decode cX12_table 86 = .ok (.iload_n 1, 1) := by decide +kernel
theorem dX12_table_87 : decode cX12_table 87 = .ok (.iconst (-1), 1) := by decide +kernel
theorem dX12_table_88 : decode cX12_table 88 = .ok (.if_icmp .ne 6, 3) := by decide +kernel
theorem dX12_table_91 : decode cX12_table 91 = .ok (.goto 97, 3) := by decide +kernel
theorem dX12_table_94 : decode cX12_table 94 = .ok (.aload_n 0, 1) := by decide +kernel
theorem dX12_table_95 : decode cX12_table 95 = .ok (.getfield 38, 3) := by decide +kernel
theorem dX12_table_98 : decode cX12_table 98 = .ok (.aload_n 0, 1) := by decide +kernel
theorem dX12_table_99 : decode cX12_table 99 = .ok (.getfield 335, 3) := by decide +kernel
theorem dX12_table_102 : decode cX12_table 102 = .ok (.aload_n 0, 1) := by decide +kernel
theorem dX12_table_103 : decode cX12_table 103 = .ok (.iload_n 1, 1) := by decide +kernel
theorem dX12_table_104 : decode cX12_table 104 = .ok (.aload_n 0, 1) := by decide +kernel
theorem dX12_table_105 : decode cX12_table 105 = .ok (.getfield 50, 3) := by decide +kernel
theorem dX12_table_108 : decode cX12_table 108 = .ok (.iload_n 1, 1) := by decide +kernel
theorem dX12_table_109 : decode cX12_table 109 = .ok (.iaload, 1) := by decide +kernel
theorem dX12_table_110 : decode cX12_table 110 = .ok (.invokevirtual 332, 3) := by decide +kernel
theorem dX12_table_113 : decode cX12_table 113 = .ok (.iastore, 1) := by decide +kernel
theorem dX12_table_114 : decode cX12_table 114 = .ok (.aload_n 0, 1) := by decide +kernel
theorem dX12_table_115 : decode cX12_table 115 = .ok (.getfield 41, 3) := by decide +kernel
theorem dX12_table_118 : decode cX12_table 118 = .ok (.aload_n 0, 1) := by decide +kernel
theorem dX12_table_119 : decode cX12_table 119 = .ok (.getfield 335, 3) := by decide +kernel
theorem dX12_table_122 : decode cX12_table 122 = .ok (.aload_n 0, 1) := by decide +kernel
theorem dX12_table_123 : decode cX12_table 123 = .ok (.getfield 50, 3) := by decide +kernel
theorem dX12_table_126 : decode cX12_table 126 = .ok (.iload_n 1, 1) := by decide +kernel
theorem dX12_table_127 : decode cX12_table 127 = .ok (.iaload, 1) := by decide +kernel
theorem dX12_table_128 : decode cX12_table 128 = .ok (.iconst 2, 1) := by decide +kernel
theorem dX12_table_129 : decode cX12_table 129 = .ok (.irem, 1) := by decide +kernel
theorem dX12_table_130 : decode cX12_table 130 = .ok (.ifCond .ne 7, 3) := by decide +kernel
theorem dX12_table_133 : decode cX12_table 133 = .ok (.iconst 1, 1) := by decide +kernel
theorem dX12_table_134 : decode cX12_table 134 = .ok (.goto 4, 3) := by decide +kernel
theorem dX12_table_137 : decode cX12_table 137 = .ok (.iconst 0, 1) := by decide +kernel
theorem dX12_table_138 : decode cX12_table 138 = .ok (.iastore, 1) := by decide +kernel
theorem dX12_table_139 : decode cX12_table 139 = .ok (.aload_n 0, 1) := by decide +kernel
theorem dX12_table_140 : decode cX12_table 140 = .ok (.getfield 44, 3) := by decide +kernel
theorem dX12_table_143 : decode cX12_table 143 = .ok (.aload_n 0, 1) := by decide +kernel
theorem dX12_table_144 : decode cX12_table 144 = .ok (.getfield 335, 3) := by decide +kernel
theorem dX12_table_147 : decode cX12_table 147 = .ok (.iload_n 1, 1) := by decide +kernel
theorem dX12_table_148 : decode cX12_table 148 = .ok (.iastore, 1) := by decide +kernel
theorem dX12_table_149 : decode cX12_table 149 = .ok (.aload_n 0, 1) := by decide +kernel
theorem dX12_table_150 : decode cX12_table 150 = .ok (.getfield 47, 3) := by decide +kernel
theorem dX12_table_153 : decode cX12_table 153 = .ok (.aload_n 0, 1) := by decide +kernel
theorem dX12_table_154 : decode cX12_table 154 = .ok (.getfield 335, 3) := by decide +kernel
theorem dX12_table_157 : decode cX12_table 157 = .ok (.aload_n 0, 1) := by decide +kernel
theorem dX12_table_158 : decode cX12_table 158 = .ok (.getfield 50, 3) := by decide +kernel
theorem dX12_table_161 : decode cX12_table 161 = .ok (.iload_n 1, 1) := by decide +kernel
theorem dX12_table_162 : decode cX12_table 162 = .ok (.iaload, 1) := by decide +kernel
theorem dX12_table_163 : decode cX12_table 163 = .ok (.iconst 1, 1) := by decide +kernel
theorem dX12_table_164 : decode cX12_table 164 = .ok (.iadd, 1) := by decide +kernel
theorem dX12_table_165 : decode cX12_table 165 = .ok (.iconst 2, 1) := by decide +kernel
theorem dX12_table_166 : decode cX12_table 166 = .ok (.idiv, 1) := by decide +kernel
theorem dX12_table_167 : decode cX12_table 167 = .ok (.iastore, 1) := by decide +kernel
theorem dX12_table_168 : decode cX12_table 168 = .ok (.aload_n 0, 1) := by decide +kernel
theorem dX12_table_169 : decode cX12_table 169 = .ok (.dup, 1) := by decide +kernel
theorem dX12_table_170 : decode cX12_table 170 = .ok (.getfield 335, 3) := by decide +kernel
theorem dX12_table_173 : decode cX12_table 173 = .ok (.iconst 1, 1) := by decide +kernel
theorem dX12_table_174 : decode cX12_table 174 = .ok (.iadd, 1) := by decide +kernel
theorem dX12_table_175 : decode cX12_table 175 = .ok (.putfield 335, 3) := by decide +kernel
theorem dX12_table_178 : decode cX12_table 178 = .ok (.aload_n 0, 1) := by decide +kernel
theorem dX12_table_179 : decode cX12_table 179 = .ok (.getfield 50, 3) := by decide +kernel
theorem dX12_table_182 : decode cX12_table 182 = .ok (.iload_n 1, 1) := by decide +kernel
theorem dX12_table_183 : decode cX12_table 183 = .ok (.dup2, 1) := by decide +kernel
theorem dX12_table_184 : decode cX12_table 184 = .ok (.iaload, 1) := by decide +kernel
theorem dX12_table_185 : decode cX12_table 185 = .ok (.iconst 1, 1) := by decide +kernel
theorem dX12_table_186 : decode cX12_table 186 = .ok (.iadd, 1) := by decide +kernel
theorem dX12_table_187 : decode cX12_table 187 = .ok (.iastore, 1) := by decide +kernel
theorem dX12_table_188 : decode cX12_table 188 = .ok (.iload_n 1, 1) := by decide +kernel
theorem dX12_table_189 : decode cX12_table 189 = .ok (.iconst (-1), 1) := by decide +kernel
theorem dX12_table_190 : decode cX12_table 190 = .ok (.if_icmp .ne (-149), 3) := by decide +kernel
theorem dX12_table_193 : decode cX12_table 193 = .ok (.iconst 0, 1) := by decide +kernel
theorem dX12_table_194 : decode cX12_table 194 = .ok (.istore_n 2, 1) := by decide +kernel
theorem dX12_table_195 : decode cX12_table 195 = .ok (.iload_n 2, 1) := by decide +kernel
theorem dX12_table_196 : decode cX12_table 196 = .ok (.bipush 12, 2) := by decide +kernel
theorem dX12_table_198 : decode cX12_table 198 = .ok (.if_icmp .ge 16, 3) := by decide +kernel
theorem dX12_table_201 : decode cX12_table 201 = .ok (.aload_n 0, 1) := by decide +kernel
theorem dX12_table_202 : decode cX12_table 202 = .ok (.getfield 68, 3) := by decide +kernel
theorem dX12_table_205 : decode cX12_table 205 = .ok (.iload_n 2, 1) := by decide +kernel
theorem dX12_table_206 : decode cX12_table 206 = .ok (.iconst (-1), 1) := by decide +kernel
theorem dX12_table_207 : decode cX12_table 207 = .ok (.iastore, 1) := by decide +kernel
theorem dX12_table_208 : decode cX12_table 208 = .ok (.iinc 2 1, 3) := by decide +kernel
theorem dX12_table_211 : decode cX12_table 211 = .ok (.goto (-16), 3) := by decide +kernel
theorem dX12_table_214 : decode cX12_table 214 = .ok (.aload_n 0, 1) := by decide +kernel
theorem dX12_table_215 : decode cX12_table 215 = .ok (.getfield 335, 3) := by decide +kernel
theorem dX12_table_218 : decode cX12_table 218 = .ok (.iconst 1, 1) := by decide +kernel
theorem dX12_table_219 : decode cX12_table 219 = .ok (.isub, 1) := by decide +kernel
theorem dX12_table_220 : decode cX12_table 220 = .ok (.istore_n 2, 1) := by decide +kernel
theorem dX12_table_221 : decode cX12_table 221 = .ok (.iload_n 2, 1) := by decide +kernel
theorem dX12_table_222 : decode cX12_table 222 = .ok (.ifCond .lt 24, 3) := by decide +kernel
theorem dX12_table_225 : decode cX12_table 225 = .ok (.aload_n 0, 1) := by decide +kernel
theorem dX12_table_226 : decode cX12_table 226 = .ok (.getfield 41, 3) := by decide +kernel
theorem dX12_table_229 : decode cX12_table 229 = .ok (.iload_n 2, 1) := by decide +kernel
theorem dX12_table_230 : decode cX12_table 230 = .ok (.iaload, 1) := by decide +kernel
theorem dX12_table_231 : decode cX12_table 231 = .ok (.iconst 1, 1) := by decide +kernel
theorem dX12_table_232 : decode cX12_table 232 = .ok (.if_icmp .ne 8, 3) := by decide +kernel
theorem dX12_table_235 : decode cX12_table 235 = .ok (.aload_n 0, 1) := by decide +kernel
theorem dX12_table_236 : decode cX12_table 236 = .ok (.iload_n 2, 1) := by decide +kernel
theorem dX12_table_237 : decode cX12_table 237 = .ok (.invokevirtual 345, 3) := by decide +kernel
theorem dX12_table_240 : decode cX12_table 240 = .ok (.iinc 2 (-1), 3) := by decide +kernel
theorem dX12_table_243 : decode cX12_table 243 = .ok (.goto (-22), 3) := by decide +kernel
theorem dX12_table_246 : decode cX12_table 246 = .ok (.return_, 1) := by decide +kernel
theorem dX12_townOf_0 : decode cX12_townOf 0 = .ok (.aload_n 0, 1) := by decide +kernel
theorem dX12_townOf_1 : decode cX12_townOf 1 = .ok (.getfield 16, 3) := by decide +kernel
theorem dX12_townOf_4 : decode cX12_townOf 4 = .ok (.bipush 8, 2) := by decide +kernel
theorem dX12_townOf_6 : decode cX12_townOf 6 = .ok (.iload_n 1, 1) := by decide +kernel
theorem dX12_townOf_7 : decode cX12_townOf 7 = .ok (.bipush 7, 2) := by decide +kernel
theorem dX12_townOf_9 : decode cX12_townOf 9 = .ok (.idiv, 1) := by decide +kernel
theorem dX12_townOf_10 : decode cX12_townOf 10 = .ok (.imul, 1) := by decide +kernel
theorem dX12_townOf_11 : decode cX12_townOf 11 = .ok (.iload_n 2, 1) := by decide +kernel
theorem dX12_townOf_12 : decode cX12_townOf 12 = .ok (.iadd, 1) := by decide +kernel
theorem dX12_townOf_13 : decode cX12_townOf 13 = .ok (.iaload, 1) := by decide +kernel
theorem dX12_townOf_14 : decode cX12_townOf 14 = .ok (.ireturn, 1) := by decide +kernel
theorem dX12_going_0 : decode cX12_going 0 = .ok (.aload_n 0, 1) := by decide +kernel
theorem dX12_going_1 : decode cX12_going 1 = .ok (.getfield 68, 3) := by decide +kernel
theorem dX12_going_4 : decode cX12_going 4 = .ok (.iload_n 1, 1) := by decide +kernel
theorem dX12_going_5 : decode cX12_going 5 = .ok (.iaload, 1) := by decide +kernel
theorem dX12_going_6 : decode cX12_going 6 = .ok (.istore_n 3, 1) := by decide +kernel
theorem dX12_going_7 : decode cX12_going 7 = .ok (.iload_n 3, 1) := by decide +kernel
theorem dX12_going_8 : decode cX12_going 8 = .ok (.iconst (-1), 1) := by decide +kernel
theorem dX12_going_9 : decode cX12_going 9 = .ok (.if_icmp .eq 23, 3) := by decide +kernel
theorem dX12_going_12 : decode cX12_going 12 = .ok (.aload_n 0, 1) := by decide +kernel
theorem dX12_going_13 : decode cX12_going 13 = .ok (.getfield 38, 3) := by decide +kernel
theorem dX12_going_16 : decode cX12_going 16 = .ok (.iload_n 3, 1) := by decide +kernel
theorem dX12_going_17 : decode cX12_going 17 = .ok (.iaload, 1) := by decide +kernel
theorem dX12_going_18 : decode cX12_going 18 = .ok (.iload_n 2, 1) := by decide +kernel
theorem dX12_going_19 : decode cX12_going 19 = .ok (.if_icmp .ge 13, 3) := by decide +kernel
theorem dX12_going_22 : decode cX12_going 22 = .ok (.aload_n 0, 1) := by decide +kernel
theorem dX12_going_23 : decode cX12_going 23 = .ok (.getfield 65, 3) := by decide +kernel
theorem dX12_going_26 : decode cX12_going 26 = .ok (.iload_n 3, 1) := by decide +kernel
theorem dX12_going_27 : decode cX12_going 27 = .ok (.iaload, 1) := by decide +kernel
theorem dX12_going_28 : decode cX12_going 28 = .ok (.istore_n 3, 1) := by decide +kernel
theorem dX12_going_29 : decode cX12_going 29 = .ok (.goto (-22), 3) := by decide +kernel
theorem dX12_going_32 : decode cX12_going 32 = .ok (.iload_n 3, 1) := by decide +kernel
theorem dX12_going_33 : decode cX12_going 33 = .ok (.ireturn, 1) := by decide +kernel
theorem dX12_goings_0 : decode cX12_goings 0 = .ok (.aload_n 0, 1) := by decide +kernel
theorem dX12_goings_1 : decode cX12_goings 1 = .ok (.getfield 44, 3) := by decide +kernel
theorem dX12_goings_4 : decode cX12_goings 4 = .ok (.iload_n 1, 1) := by decide +kernel
theorem dX12_goings_5 : decode cX12_goings 5 = .ok (.iaload, 1) := by decide +kernel
theorem dX12_goings_6 : decode cX12_goings 6 = .ok (.istore_n 2, 1) := by decide +kernel
theorem dX12_goings_7 : decode cX12_goings 7 = .ok (.aload_n 0, 1) := by decide +kernel
theorem dX12_goings_8 : decode cX12_goings 8 = .ok (.iload_n 2, 1) := by decide +kernel
theorem dX12_goings_9 : decode cX12_goings 9 = .ok (.aload_n 0, 1) := by decide +kernel
theorem dX12_goings_10 : decode cX12_goings 10 = .ok (.getfield 47, 3) := by decide +kernel
theorem dX12_goings_13 : decode cX12_goings 13 = .ok (.iload_n 1, 1) := by decide +kernel
theorem dX12_goings_14 : decode cX12_goings 14 = .ok (.iaload, 1) := by decide +kernel
theorem dX12_goings_15 : decode cX12_goings 15 = .ok (.invokevirtual 349, 3) := by decide +kernel
theorem dX12_goings_18 : decode cX12_goings 18 = .ok (.istore_n 3, 1) := by decide +kernel
theorem dX12_goings_19 : decode cX12_goings 19 = .ok (.iconst 0, 1) := by decide +kernel
theorem dX12_goings_20 : decode cX12_goings 20 = .ok (.istore 4, 2) := by decide +kernel
theorem dX12_goings_22 : decode cX12_goings 22 = .ok (.iload 4, 2) := by decide +kernel
theorem dX12_goings_24 : decode cX12_goings 24 = .ok (.aload_n 0, 1) := by decide +kernel
theorem dX12_goings_25 : decode cX12_goings 25 = .ok (.getfield 283, 3) := by decide +kernel
theorem dX12_goings_28 : decode cX12_goings 28 = .ok (.if_icmp .ge 270, 3) := by decide +kernel
theorem dX12_goings_31 : decode cX12_goings 31 = .ok (.bipush 12, 2) := by decide +kernel
theorem dX12_goings_33 : decode cX12_goings 33 = .ok (.iload_n 1, 1) := by decide +kernel
theorem dX12_goings_34 : decode cX12_goings 34 = .ok (.imul, 1) := by decide +kernel
theorem dX12_goings_35 : decode cX12_goings 35 = .ok (.iload 4, 2) := by decide +kernel
theorem dX12_goings_37 : decode cX12_goings 37 = .ok (.iadd, 1) := by decide +kernel
theorem dX12_goings_38 : decode cX12_goings 38 = .ok (.istore 5, 2) := by decide +kernel
theorem dX12_goings_40 : decode cX12_goings 40 = .ok (.aload_n 0, 1) := by decide +kernel
theorem dX12_goings_41 : decode cX12_goings 41 = .ok (.getfield 53, 3) := by decide +kernel
theorem dX12_goings_44 : decode cX12_goings 44 = .ok (.iload 5, 2) := by decide +kernel
theorem dX12_goings_46 : decode cX12_goings 46 = .ok (.ldc_w 301, 3) := by decide +kernel
theorem dX12_goings_49 : decode cX12_goings 49 = .ok (.iastore, 1) := by decide +kernel
theorem dX12_goings_50 : decode cX12_goings 50 = .ok (.aload_n 0, 1) := by decide +kernel
theorem dX12_goings_51 : decode cX12_goings 51 = .ok (.getfield 47, 3) := by decide +kernel
theorem dX12_goings_54 : decode cX12_goings 54 = .ok (.iload_n 1, 1) := by decide +kernel
theorem dX12_goings_55 : decode cX12_goings 55 = .ok (.iaload, 1) := by decide +kernel
theorem dX12_goings_56 : decode cX12_goings 56 = .ok (.iconst 1, 1) := by decide +kernel
theorem dX12_goings_57 : decode cX12_goings 57 = .ok (.iadd, 1) := by decide +kernel
theorem dX12_goings_58 : decode cX12_goings 58 = .ok (.istore 6, 2) := by decide +kernel
theorem dX12_goings_60 : decode cX12_goings 60 = .ok (.iload 6, 2) := by decide +kernel
theorem dX12_goings_62 : decode cX12_goings 62 = .ok (.aload_n 0, 1) := by decide +kernel
theorem dX12_goings_63 : decode cX12_goings 63 = .ok (.getfield 13, 3) := by decide +kernel
theorem dX12_goings_66 : decode cX12_goings 66 = .ok (.iload_n 2, 1) := by decide +kernel
theorem dX12_goings_67 : decode cX12_goings 67 = .ok (.bipush 7, 2) := by decide +kernel
theorem dX12_goings_69 : decode cX12_goings 69 = .ok (.idiv, 1) := by decide +kernel
theorem dX12_goings_70 : decode cX12_goings 70 = .ok (.iaload, 1) := by decide +kernel
theorem dX12_goings_71 : decode cX12_goings 71 = .ok (.if_icmp .ge 221, 3) := by decide +kernel
theorem dX12_goings_74 : decode cX12_goings 74 = .ok (.aload_n 0, 1) := by decide +kernel
theorem dX12_goings_75 : decode cX12_goings 75 = .ok (.iload_n 2, 1) := by decide +kernel
theorem dX12_goings_76 : decode cX12_goings 76 = .ok (.iload 6, 2) := by decide +kernel
theorem dX12_goings_78 : decode cX12_goings 78 = .ok (.invokevirtual 326, 3) := by decide +kernel
theorem dX12_goings_81 : decode cX12_goings 81 = .ok (.istore 7, 2) := by decide +kernel
theorem dX12_goings_83 : decode cX12_goings 83 = .ok (.iload 7, 2) := by decide +kernel
theorem dX12_goings_85 : decode cX12_goings 85 = .ok (.sipush 10079, 3) := by decide +kernel
theorem dX12_goings_88 : decode cX12_goings 88 = .ok (.if_icmp .le 6, 3) := by decide +kernel
theorem dX12_goings_91 : decode cX12_goings 91 = .ok (.goto 201, 3) := by decide +kernel
theorem dX12_goings_94 : decode cX12_goings 94 = .ok (.aload_n 0, 1) := by decide +kernel
theorem dX12_goings_95 : decode cX12_goings 95 = .ok (.iload_n 2, 1) := by decide +kernel
theorem dX12_goings_96 : decode cX12_goings 96 = .ok (.iload 6, 2) := by decide +kernel
theorem dX12_goings_98 : decode cX12_goings 98 = .ok (.invokevirtual 349, 3) := by decide +kernel
theorem dX12_goings_101 : decode cX12_goings 101 = .ok (.istore 8, 2) := by decide +kernel
theorem dX12_goings_103 : decode cX12_goings 103 = .ok (.iload 8, 2) := by decide +kernel
theorem dX12_goings_105 : decode cX12_goings 105 = .ok (.iload 4, 2) := by decide +kernel
theorem dX12_goings_107 : decode cX12_goings 107 = .ok (.if_icmp .ne 7, 3) := by decide +kernel
theorem dX12_goings_110 : decode cX12_goings 110 = .ok (.iconst (-1), 1) := by decide +kernel
theorem dX12_goings_111 : decode cX12_goings 111 = .ok (.goto 11, 3) := by decide +kernel
theorem dX12_goings_114 : decode cX12_goings 114 = .ok (.aload_n 0, 1) := by decide +kernel
theorem dX12_goings_115 : decode cX12_goings 115 = .ok (.iload 8, 2) := by decide +kernel
theorem dX12_goings_117 : decode cX12_goings 117 = .ok (.iload 7, 2) := by decide +kernel
theorem dX12_goings_119 : decode cX12_goings 119 = .ok (.invokevirtual 352, 3) := by decide +kernel
theorem dX12_goings_122 : decode cX12_goings 122 = .ok (.istore 9, 2) := by decide +kernel
theorem dX12_goings_124 : decode cX12_goings 124 = .ok (.iload 9, 2) := by decide +kernel
theorem dX12_goings_126 : decode cX12_goings 126 = .ok (.iconst (-1), 1) := by decide +kernel
theorem dX12_goings_127 : decode cX12_goings 127 = .ok (.if_icmp .ne 7, 3) := by decide +kernel
theorem dX12_goings_130 : decode cX12_goings 130 = .ok (.iconst (-1), 1) := by decide +kernel
theorem dX12_goings_131 : decode cX12_goings 131 = .ok (.goto 16, 3) := by decide +kernel
theorem dX12_goings_134 : decode cX12_goings 134 = .ok (.aload_n 0, 1) := by decide +kernel
theorem dX12_goings_135 : decode cX12_goings 135 = .ok (.getfield 62, 3) := by decide +kernel
theorem dX12_goings_138 : decode cX12_goings 138 = .ok (.bipush 12, 2) := by decide +kernel
theorem dX12_goings_140 : decode cX12_goings 140 = .ok (.iload 9, 2) := by decide +kernel
theorem dX12_goings_142 : decode cX12_goings 142 = .ok (.imul, 1) := by decide +kernel
theorem dX12_goings_143 : decode cX12_goings 143 = .ok (.iload 4, 2) := by decide +kernel
theorem dX12_goings_145 : decode cX12_goings 145 = .ok (.iadd, 1) := by decide +kernel
theorem dX12_goings_146 : decode cX12_goings 146 = .ok (.iaload, 1) := by decide +kernel
theorem dX12_goings_147 : decode cX12_goings 147 = .ok (.istore 10, 2) := by decide +kernel
theorem dX12_goings_149 : decode cX12_goings 149 = .ok (.iload 8, 2) := by decide +kernel
theorem dX12_goings_151 : decode cX12_goings 151 = .ok (.iload 4, 2) := by decide +kernel
theorem dX12_goings_153 : decode cX12_goings 153 = .ok (.if_icmp .eq 12, 3) := by decide +kernel
theorem dX12_goings_156 : decode cX12_goings 156 = .ok (.iload 10, 2) := by decide +kernel
theorem dX12_goings_158 : decode cX12_goings 158 = .ok (.iconst (-1), 1) := by decide +kernel
theorem dX12_goings_159 : decode cX12_goings 159 = .ok (.if_icmp .ne 6, 3) := by decide +kernel
theorem dX12_goings_162 : decode cX12_goings 162 = .ok (.goto 124, 3) := by decide +kernel
theorem dX12_goings_165 : decode cX12_goings 165 = .ok (.iload 8, 2) := by decide +kernel
theorem dX12_goings_167 : decode cX12_goings 167 = .ok (.iload 4, 2) := by decide +kernel
theorem dX12_goings_169 : decode cX12_goings 169 = .ok (.if_icmp .ne 8, 3) := by decide +kernel
theorem dX12_goings_172 : decode cX12_goings 172 = .ok (.iload 7, 2) := by decide +kernel
theorem dX12_goings_174 : decode cX12_goings 174 = .ok (.goto 16, 3) := by decide +kernel
theorem dX12_goings_177 : decode cX12_goings 177 = .ok (.aload_n 0, 1) := by decide +kernel
theorem dX12_goings_178 : decode cX12_goings 178 = .ok (.getfield 53, 3) := by decide +kernel
theorem dX12_goings_181 : decode cX12_goings 181 = .ok (.bipush 12, 2) := by decide +kernel
theorem dX12_goings_183 : decode cX12_goings 183 = .ok (.iload 10, 2) := by decide +kernel
theorem dX12_goings_185 : decode cX12_goings 185 = .ok (.imul, 1) := by decide +kernel
theorem dX12_goings_186 : decode cX12_goings 186 = .ok (.iload 4, 2) := by decide +kernel
theorem dX12_goings_188 : decode cX12_goings 188 = .ok (.iadd, 1) := by decide +kernel
theorem dX12_goings_189 : decode cX12_goings 189 = .ok (.iaload, 1) := by decide +kernel
theorem dX12_goings_190 : decode cX12_goings 190 = .ok (.istore 11, 2) := by decide +kernel
theorem dX12_goings_192 : decode cX12_goings 192 = .ok (.iload 8, 2) := by decide +kernel
theorem dX12_goings_194 : decode cX12_goings 194 = .ok (.iload 4, 2) := by decide +kernel
theorem dX12_goings_196 : decode cX12_goings 196 = .ok (.if_icmp .ne 7, 3) := by decide +kernel
theorem dX12_goings_199 : decode cX12_goings 199 = .ok (.iconst 1, 1) := by decide +kernel
theorem dX12_goings_200 : decode cX12_goings 200 = .ok (.goto 18, 3) := by decide +kernel
theorem dX12_goings_203 : decode cX12_goings 203 = .ok (.aload_n 0, 1) := by decide +kernel
theorem dX12_goings_204 : decode cX12_goings 204 = .ok (.getfield 56, 3) := by decide +kernel
theorem dX12_goings_207 : decode cX12_goings 207 = .ok (.bipush 12, 2) := by decide +kernel
theorem dX12_goings_209 : decode cX12_goings 209 = .ok (.iload 10, 2) := by decide +kernel
theorem dX12_goings_211 : decode cX12_goings 211 = .ok (.imul, 1) := by decide +kernel
theorem dX12_goings_212 : decode cX12_goings 212 = .ok (.iload 4, 2) := by decide +kernel
theorem dX12_goings_214 : decode cX12_goings 214 = .ok (.iadd, 1) := by decide +kernel
theorem dX12_goings_215 : decode cX12_goings 215 = .ok (.iaload, 1) := by decide +kernel
theorem dX12_goings_216 : decode cX12_goings 216 = .ok (.iconst 1, 1) := by decide +kernel
theorem dX12_goings_217 : decode cX12_goings 217 = .ok (.iadd, 1) := by decide +kernel
theorem dX12_goings_218 : decode cX12_goings 218 = .ok (.istore 12, 2) := by decide +kernel
theorem dX12_goings_220 : decode cX12_goings 220 = .ok (.iload 11, 2) := by decide +kernel
theorem dX12_goings_222 : decode cX12_goings 222 = .ok (.aload_n 0, 1) := by decide +kernel
theorem dX12_goings_223 : decode cX12_goings 223 = .ok (.getfield 53, 3) := by decide +kernel
theorem dX12_goings_226 : decode cX12_goings 226 = .ok (.iload 5, 2) := by decide +kernel
theorem dX12_goings_228 : decode cX12_goings 228 = .ok (.iaload, 1) := by decide +kernel
theorem dX12_goings_229 : decode cX12_goings 229 = .ok (.if_icmp .gt 57, 3) := by decide +kernel
theorem dX12_goings_232 : decode cX12_goings 232 = .ok (.iload 11, 2) := by decide +kernel
theorem dX12_goings_234 : decode cX12_goings 234 = .ok (.aload_n 0, 1) := by decide +kernel
theorem dX12_goings_235 : decode cX12_goings 235 = .ok (.getfield 53, 3) := by decide +kernel
theorem dX12_goings_238 : decode cX12_goings 238 = .ok (.iload 5, 2) := by decide +kernel
theorem dX12_goings_240 : decode cX12_goings 240 = .ok (.iaload, 1) := by decide +kernel
theorem dX12_goings_241 : decode cX12_goings 241 = .ok (.if_icmp .ne 18, 3) := by decide +kernel
theorem dX12_goings_244 : decode cX12_goings 244 = .ok (.iload 12, 2) := by decide +kernel
theorem dX12_goings_246 : decode cX12_goings 246 = .ok (.aload_n 0, 1) := by decide +kernel
theorem dX12_goings_247 : decode cX12_goings 247 = .ok (.getfield 56, 3) := by decide +kernel
theorem dX12_goings_250 : decode cX12_goings 250 = .ok (.iload 5, 2) := by decide +kernel
theorem dX12_goings_252 : decode cX12_goings 252 = .ok (.iaload, 1) := by decide +kernel
theorem dX12_goings_253 : decode cX12_goings 253 = .ok (.if_icmp .lt 6, 3) := by decide +kernel
theorem dX12_goings_256 : decode cX12_goings 256 = .ok (.goto 30, 3) := by decide +kernel
theorem dX12_goings_259 : decode cX12_goings 259 = .ok (.aload_n 0, 1) := by decide +kernel
theorem dX12_goings_260 : decode cX12_goings 260 = .ok (.getfield 53, 3) := by decide +kernel
theorem dX12_goings_263 : decode cX12_goings 263 = .ok (.iload 5, 2) := by decide +kernel
theorem dX12_goings_265 : decode cX12_goings 265 = .ok (.iload 11, 2) := by decide +kernel
theorem dX12_goings_267 : decode cX12_goings 267 = .ok (.iastore, 1) := by decide +kernel
theorem dX12_goings_268 : decode cX12_goings 268 = .ok (.aload_n 0, 1) := by decide +kernel
theorem dX12_goings_269 : decode cX12_goings 269 = .ok (.getfield 56, 3) := by decide +kernel
theorem dX12_goings_272 : decode cX12_goings 272 = .ok (.iload 5, 2) := by decide +kernel
theorem dX12_goings_274 : decode cX12_goings 274 = .ok (.iload 12, 2) := by decide +kernel
theorem dX12_goings_276 : decode cX12_goings 276 = .ok (.iastore, 1) := by decide +kernel
theorem dX12_goings_277 : decode cX12_goings 277 = .ok (.aload_n 0, 1) := by decide +kernel
theorem dX12_goings_278 : decode cX12_goings 278 = .ok (.getfield 59, 3) := by decide +kernel
theorem dX12_goings_281 : decode cX12_goings 281 = .ok (.iload 5, 2) := by decide +kernel
theorem dX12_goings_283 : decode cX12_goings 283 = .ok (.iload 6, 2) := by decide +kernel
theorem dX12_goings_285 : decode cX12_goings 285 = .ok (.iastore, 1) := by decide +kernel
theorem dX12_goings_286 : decode cX12_goings 286 = .ok (.iinc 6 1, 3) := by decide +kernel
theorem dX12_goings_289 : decode cX12_goings 289 = .ok (.goto (-229), 3) := by decide +kernel
theorem dX12_goings_292 : decode cX12_goings 292 = .ok (.iinc 4 1, 3) := by decide +kernel
theorem dX12_goings_295 : decode cX12_goings 295 = .ok (.goto (-273), 3) := by decide +kernel
theorem dX12_goings_298 : decode cX12_goings 298 = .ok (.aload_n 0, 1) := by decide +kernel
theorem dX12_goings_299 : decode cX12_goings 299 = .ok (.getfield 65, 3) := by decide +kernel
theorem dX12_goings_302 : decode cX12_goings 302 = .ok (.iload_n 1, 1) := by decide +kernel
theorem dX12_goings_303 : decode cX12_goings 303 = .ok (.aload_n 0, 1) := by decide +kernel
theorem dX12_goings_304 : decode cX12_goings 304 = .ok (.getfield 68, 3) := by decide +kernel
theorem dX12_goings_307 : decode cX12_goings 307 = .ok (.iload_n 3, 1) := by decide +kernel
theorem dX12_goings_308 : decode cX12_goings 308 = .ok (.iaload, 1) := by decide +kernel
theorem dX12_goings_309 : decode cX12_goings 309 = .ok (.iastore, 1) := by decide +kernel
theorem dX12_goings_310 : decode cX12_goings 310 = .ok (.aload_n 0, 1) := by decide +kernel
theorem dX12_goings_311 : decode cX12_goings 311 = .ok (.getfield 68, 3) := by decide +kernel
theorem dX12_goings_314 : decode cX12_goings 314 = .ok (.iload_n 3, 1) := by decide +kernel
theorem dX12_goings_315 : decode cX12_goings 315 = .ok (.iload_n 1, 1) := by decide +kernel
theorem dX12_goings_316 : decode cX12_goings 316 = .ok (.iastore, 1) := by decide +kernel
theorem dX12_goings_317 : decode cX12_goings 317 = .ok (.iconst 0, 1) := by decide +kernel
theorem dX12_goings_318 : decode cX12_goings 318 = .ok (.istore 4, 2) := by decide +kernel
theorem dX12_goings_320 : decode cX12_goings 320 = .ok (.iload 4, 2) := by decide +kernel
theorem dX12_goings_322 : decode cX12_goings 322 = .ok (.aload_n 0, 1) := by decide +kernel
theorem dX12_goings_323 : decode cX12_goings 323 = .ok (.getfield 283, 3) := by decide +kernel
theorem dX12_goings_326 : decode cX12_goings 326 = .ok (.if_icmp .ge 101, 3) := by decide +kernel
theorem dX12_goings_329 : decode cX12_goings 329 = .ok (.aload_n 0, 1) := by decide +kernel
theorem dX12_goings_330 : decode cX12_goings 330 = .ok (.getfield 65, 3) := by decide +kernel
theorem dX12_goings_333 : decode cX12_goings 333 = .ok (.iload_n 1, 1) := by decide +kernel
theorem dX12_goings_334 : decode cX12_goings 334 = .ok (.iaload, 1) := by decide +kernel
theorem dX12_goings_335 : decode cX12_goings 335 = .ok (.iconst (-1), 1) := by decide +kernel
theorem dX12_goings_336 : decode cX12_goings 336 = .ok (.if_icmp .ne 7, 3) := by decide +kernel
theorem dX12_goings_339 : decode cX12_goings 339 = .ok (.iconst (-1), 1) := by decide +kernel
theorem dX12_goings_340 : decode cX12_goings 340 = .ok (.goto 20, 3) := by decide +kernel
theorem dX12_goings_343 : decode cX12_goings 343 = .ok (.aload_n 0, 1) := by decide +kernel
theorem dX12_goings_344 : decode cX12_goings 344 = .ok (.getfield 62, 3) := by decide +kernel
theorem dX12_goings_347 : decode cX12_goings 347 = .ok (.bipush 12, 2) := by decide +kernel
theorem dX12_goings_349 : decode cX12_goings 349 = .ok (.aload_n 0, 1) := by decide +kernel
theorem dX12_goings_350 : decode cX12_goings 350 = .ok (.getfield 65, 3) := by decide +kernel
theorem dX12_goings_353 : decode cX12_goings 353 = .ok (.iload_n 1, 1) := by decide +kernel
theorem dX12_goings_354 : decode cX12_goings 354 = .ok (.iaload, 1) := by decide +kernel
theorem dX12_goings_355 : decode cX12_goings 355 = .ok (.imul, 1) := by decide +kernel
theorem dX12_goings_356 : decode cX12_goings 356 = .ok (.iload 4, 2) := by decide +kernel
theorem dX12_goings_358 : decode cX12_goings 358 = .ok (.iadd, 1) := by decide +kernel
theorem dX12_goings_359 : decode cX12_goings 359 = .ok (.iaload, 1) := by decide +kernel
theorem dX12_goings_360 : decode cX12_goings 360 = .ok (.istore 5, 2) := by decide +kernel
theorem dX12_goings_362 : decode cX12_goings 362 = .ok (.aload_n 0, 1) := by decide +kernel
theorem dX12_goings_363 : decode cX12_goings 363 = .ok (.getfield 62, 3) := by decide +kernel
theorem dX12_goings_366 : decode cX12_goings 366 = .ok (.bipush 12, 2) := by decide +kernel
theorem dX12_goings_368 : decode cX12_goings 368 = .ok (.iload_n 1, 1) := by decide +kernel
theorem dX12_goings_369 : decode cX12_goings 369 = .ok (.imul, 1) := by decide +kernel
theorem dX12_goings_370 : decode cX12_goings 370 = .ok (.iload 4, 2) := by decide +kernel
theorem dX12_goings_372 : decode cX12_goings 372 = .ok (.iadd, 1) := by decide +kernel
theorem dX12_goings_373 : decode cX12_goings 373 = .ok (.aload_n 0, 1) := by decide +kernel
theorem dX12_goings_374 : decode cX12_goings 374 = .ok (.getfield 53, 3) := by decide +kernel
theorem dX12_goings_377 : decode cX12_goings 377 = .ok (.bipush 12, 2) := by decide +kernel
theorem dX12_goings_379 : decode cX12_goings 379 = .ok (.iload_n 1, 1) := by decide +kernel
theorem dX12_goings_380 : decode cX12_goings 380 = .ok (.imul, 1) := by decide +kernel
theorem dX12_goings_381 : decode cX12_goings 381 = .ok (.iload 4, 2) := by decide +kernel
theorem dX12_goings_383 : decode cX12_goings 383 = .ok (.iadd, 1) := by decide +kernel
theorem dX12_goings_384 : decode cX12_goings 384 = .ok (.iaload, 1) := by decide +kernel
theorem dX12_goings_385 : decode cX12_goings 385 = .ok (.ldc_w 301, 3) := by decide +kernel
theorem dX12_goings_388 : decode cX12_goings 388 = .ok (.if_icmp .ne 8, 3) := by decide +kernel
theorem dX12_goings_391 : decode cX12_goings 391 = .ok (.iload 5, 2) := by decide +kernel
theorem dX12_goings_393 : decode cX12_goings 393 = .ok (.goto 27, 3) := by decide +kernel
theorem dX12_goings_396 : decode cX12_goings 396 = .ok (.iload 5, 2) := by decide +kernel
theorem dX12_goings_398 : decode cX12_goings 398 = .ok (.iconst (-1), 1) := by decide +kernel
theorem dX12_goings_399 : decode cX12_goings 399 = .ok (.if_icmp .eq 15, 3) := by decide +kernel
theorem dX12_goings_402 : decode cX12_goings 402 = .ok (.aload_n 0, 1) := by decide +kernel
theorem dX12_goings_403 : decode cX12_goings 403 = .ok (.iload_n 1, 1) := by decide +kernel
theorem dX12_goings_404 : decode cX12_goings 404 = .ok (.iload 5, 2) := by decide +kernel
theorem dX12_goings_406 : decode cX12_goings 406 = .ok (.iload 4, 2) := by decide +kernel
theorem dX12_goings_408 : decode cX12_goings 408 = .ok (.invokevirtual 355, 3) := by decide +kernel
theorem dX12_goings_411 : decode cX12_goings 411 = .ok (.ifCond .eq 7, 3) := by decide +kernel
theorem dX12_goings_414 : decode cX12_goings 414 = .ok (.iload_n 1, 1) := by decide +kernel
theorem dX12_goings_415 : decode cX12_goings 415 = .ok (.goto 5, 3) := by decide +kernel
theorem dX12_goings_418 : decode cX12_goings 418 = .ok (.iload 5, 2) := by decide +kernel
theorem dX12_goings_420 : decode cX12_goings 420 = .ok (.iastore, 1) := by decide +kernel
theorem dX12_goings_421 : decode cX12_goings 421 = .ok (.iinc 4 1, 3) := by decide +kernel
theorem dX12_goings_424 : decode cX12_goings 424 = .ok (.goto (-104), 3) := by decide +kernel
theorem dX12_goings_427 : decode cX12_goings 427 = .ok (.return_, 1) := by decide +kernel
theorem dX12_isBetter_0 : decode cX12_isBetter 0 = .ok (.bipush 12, 2) := by decide +kernel
theorem dX12_isBetter_2 : decode cX12_isBetter 2 = .ok (.iload_n 1, 1) := by decide +kernel
theorem dX12_isBetter_3 : decode cX12_isBetter 3 = .ok (.imul, 1) := by decide +kernel
theorem dX12_isBetter_4 : decode cX12_isBetter 4 = .ok (.iload_n 3, 1) := by decide +kernel
theorem dX12_isBetter_5 : decode cX12_isBetter 5 = .ok (.iadd, 1) := by decide +kernel
theorem dX12_isBetter_6 : decode cX12_isBetter 6 = .ok (.istore 4, 2) := by decide +kernel
theorem dX12_isBetter_8 : decode cX12_isBetter 8 = .ok (.bipush 12, 2) := by decide +kernel
theorem dX12_isBetter_10 : decode cX12_isBetter 10 = .ok (.iload_n 2, 1) := by decide +kernel
theorem dX12_isBetter_11 : decode cX12_isBetter 11 = .ok (.imul, 1) := by decide +kernel
theorem dX12_isBetter_12 : decode cX12_isBetter 12 = .ok (.iload_n 3, 1) := by decide +kernel
theorem dX12_isBetter_13 : decode cX12_isBetter 13 = .ok (.iadd, 1) := by decide +kernel
theorem dX12_isBetter_14 : decode cX12_isBetter 14 = .ok (.istore 5, 2) := by decide +kernel
theorem dX12_isBetter_16 : decode cX12_isBetter 16 = .ok (.aload_n 0, 1) := by decide +kernel
theorem dX12_isBetter_17 : decode cX12_isBetter 17 = .ok (.getfield 53, 3) := by decide +kernel
theorem dX12_isBetter_20 : decode cX12_isBetter 20 = .ok (.iload 4, 2) := by decide +kernel
theorem dX12_isBetter_22 : decode cX12_isBetter 22 = .ok (.iaload, 1) := by decide +kernel
theorem dX12_isBetter_23 : decode cX12_isBetter 23 = .ok (.aload_n 0, 1) := by decide +kernel
theorem dX12_isBetter_24 : decode cX12_isBetter 24 = .ok (.getfield 53, 3) := by decide +kernel
theorem dX12_isBetter_27 : decode cX12_isBetter 27 = .ok (.iload 5, 2) := by decide +kernel
theorem dX12_isBetter_29 : decode cX12_isBetter 29 = .ok (.iaload, 1) := by decide +kernel
theorem dX12_isBetter_30 : decode cX12_isBetter 30 = .ok (.if_icmp .eq 26, 3) := by decide +kernel
theorem dX12_isBetter_33 : decode cX12_isBetter 33 = .ok (.aload_n 0, 1) := by decide +kernel
theorem dX12_isBetter_34 : decode cX12_isBetter 34 = .ok (.getfield 53, 3) := by decide +kernel
theorem dX12_isBetter_37 : decode cX12_isBetter 37 = .ok (.iload 4, 2) := by decide +kernel
theorem dX12_isBetter_39 : decode cX12_isBetter 39 = .ok (.iaload, 1) := by decide +kernel
theorem dX12_isBetter_40 : decode cX12_isBetter 40 = .ok (.aload_n 0, 1) := by decide +kernel
theorem dX12_isBetter_41 : decode cX12_isBetter 41 = .ok (.getfield 53, 3) := by decide +kernel
theorem dX12_isBetter_44 : decode cX12_isBetter 44 = .ok (.iload 5, 2) := by decide +kernel
theorem dX12_isBetter_46 : decode cX12_isBetter 46 = .ok (.iaload, 1) := by decide +kernel
theorem dX12_isBetter_47 : decode cX12_isBetter 47 = .ok (.if_icmp .ge 7, 3) := by decide +kernel
theorem dX12_isBetter_50 : decode cX12_isBetter 50 = .ok (.iconst 1, 1) := by decide +kernel
theorem dX12_isBetter_51 : decode cX12_isBetter 51 = .ok (.goto 4, 3) := by decide +kernel
theorem dX12_isBetter_54 : decode cX12_isBetter 54 = .ok (.iconst 0, 1) := by decide +kernel
theorem dX12_isBetter_55 : decode cX12_isBetter 55 = .ok (.ireturn, 1) := by decide +kernel
theorem dX12_isBetter_56 : decode cX12_isBetter 56 = .ok (.aload_n 0, 1) := by decide +kernel
theorem dX12_isBetter_57 : decode cX12_isBetter 57 = .ok (.getfield 56, 3) := by decide +kernel
theorem dX12_isBetter_60 : decode cX12_isBetter 60 = .ok (.iload 4, 2) := by decide +kernel
theorem dX12_isBetter_62 : decode cX12_isBetter 62 = .ok (.iaload, 1) := by decide +kernel
theorem dX12_isBetter_63 : decode cX12_isBetter 63 = .ok (.aload_n 0, 1) := by decide +kernel
theorem dX12_isBetter_64 : decode cX12_isBetter 64 = .ok (.getfield 56, 3) := by decide +kernel
theorem dX12_isBetter_67 : decode cX12_isBetter 67 = .ok (.iload 5, 2) := by decide +kernel
theorem dX12_isBetter_69 : decode cX12_isBetter 69 = .ok (.iaload, 1) := by decide +kernel
theorem dX12_isBetter_70 : decode cX12_isBetter 70 = .ok (.if_icmp .eq 26, 3) := by decide +kernel
theorem dX12_isBetter_73 : decode cX12_isBetter 73 = .ok (.aload_n 0, 1) := by decide +kernel
theorem dX12_isBetter_74 : decode cX12_isBetter 74 = .ok (.getfield 56, 3) := by decide +kernel
theorem dX12_isBetter_77 : decode cX12_isBetter 77 = .ok (.iload 4, 2) := by decide +kernel
theorem dX12_isBetter_79 : decode cX12_isBetter 79 = .ok (.iaload, 1) := by decide +kernel
theorem dX12_isBetter_80 : decode cX12_isBetter 80 = .ok (.aload_n 0, 1) := by decide +kernel
theorem dX12_isBetter_81 : decode cX12_isBetter 81 = .ok (.getfield 56, 3) := by decide +kernel
theorem dX12_isBetter_84 : decode cX12_isBetter 84 = .ok (.iload 5, 2) := by decide +kernel
theorem dX12_isBetter_86 : decode cX12_isBetter 86 = .ok (.iaload, 1) := by decide +kernel
theorem dX12_isBetter_87 : decode cX12_isBetter 87 = .ok (.if_icmp .ge 7, 3) := by decide +kernel
theorem dX12_isBetter_90 : decode cX12_isBetter 90 = .ok (.iconst 1, 1) := by decide +kernel
theorem dX12_isBetter_91 : decode cX12_isBetter 91 = .ok (.goto 4, 3) := by decide +kernel
theorem dX12_isBetter_94 : decode cX12_isBetter 94 = .ok (.iconst 0, 1) := by decide +kernel
theorem dX12_isBetter_95 : decode cX12_isBetter 95 = .ok (.ireturn, 1) := by decide +kernel
theorem dX12_isBetter_96 : decode cX12_isBetter 96 = .ok (.aload_n 0, 1) := by decide +kernel
theorem dX12_isBetter_97 : decode cX12_isBetter 97 = .ok (.getfield 44, 3) := by decide +kernel
theorem dX12_isBetter_100 : decode cX12_isBetter 100 = .ok (.iload_n 1, 1) := by decide +kernel
theorem dX12_isBetter_101 : decode cX12_isBetter 101 = .ok (.iaload, 1) := by decide +kernel
theorem dX12_isBetter_102 : decode cX12_isBetter 102 = .ok (.aload_n 0, 1) := by decide +kernel
theorem dX12_isBetter_103 : decode cX12_isBetter 103 = .ok (.getfield 44, 3) := by decide +kernel
theorem dX12_isBetter_106 : decode cX12_isBetter 106 = .ok (.iload_n 2, 1) := by decide +kernel
theorem dX12_isBetter_107 : decode cX12_isBetter 107 = .ok (.iaload, 1) := by decide +kernel
theorem dX12_isBetter_108 : decode cX12_isBetter 108 = .ok (.if_icmp .eq 24, 3) := by decide +kernel
theorem dX12_isBetter_111 : decode cX12_isBetter 111 = .ok (.aload_n 0, 1) := by decide +kernel
theorem dX12_isBetter_112 : decode cX12_isBetter 112 = .ok (.getfield 44, 3) := by decide +kernel
theorem dX12_isBetter_115 : decode cX12_isBetter 115 = .ok (.iload_n 1, 1) := by decide +kernel
theorem dX12_isBetter_116 : decode cX12_isBetter 116 = .ok (.iaload, 1) := by decide +kernel
theorem dX12_isBetter_117 : decode cX12_isBetter 117 = .ok (.aload_n 0, 1) := by decide +kernel
theorem dX12_isBetter_118 : decode cX12_isBetter 118 = .ok (.getfield 44, 3) := by decide +kernel
theorem dX12_isBetter_121 : decode cX12_isBetter 121 = .ok (.iload_n 2, 1) := by decide +kernel
theorem dX12_isBetter_122 : decode cX12_isBetter 122 = .ok (.iaload, 1) := by decide +kernel
theorem dX12_isBetter_123 : decode cX12_isBetter 123 = .ok (.if_icmp .ge 7, 3) := by decide +kernel
theorem dX12_isBetter_126 : decode cX12_isBetter 126 = .ok (.iconst 1, 1) := by decide +kernel
theorem dX12_isBetter_127 : decode cX12_isBetter 127 = .ok (.goto 4, 3) := by decide +kernel
theorem dX12_isBetter_130 : decode cX12_isBetter 130 = .ok (.iconst 0, 1) := by decide +kernel
theorem dX12_isBetter_131 : decode cX12_isBetter 131 = .ok (.ireturn, 1) := by decide +kernel
theorem dX12_isBetter_132 : decode cX12_isBetter 132 = .ok (.aload_n 0, 1) := by decide +kernel
theorem dX12_isBetter_133 : decode cX12_isBetter 133 = .ok (.getfield 47, 3) := by decide +kernel
theorem dX12_isBetter_136 : decode cX12_isBetter 136 = .ok (.iload_n 1, 1) := by decide +kernel
theorem dX12_isBetter_137 : decode cX12_isBetter 137 = .ok (.iaload, 1) := by decide +kernel
theorem dX12_isBetter_138 : decode cX12_isBetter 138 = .ok (.aload_n 0, 1) := by decide +kernel
theorem dX12_isBetter_139 : decode cX12_isBetter 139 = .ok (.getfield 47, 3) := by decide +kernel
theorem dX12_isBetter_142 : decode cX12_isBetter 142 = .ok (.iload_n 2, 1) := by decide +kernel
theorem dX12_isBetter_143 : decode cX12_isBetter 143 = .ok (.iaload, 1) := by decide +kernel
theorem dX12_isBetter_144 : decode cX12_isBetter 144 = .ok (.if_icmp .ge 7, 3) := by decide +kernel
theorem dX12_isBetter_147 : decode cX12_isBetter 147 = .ok (.iconst 1, 1) := by decide +kernel
theorem dX12_isBetter_148 : decode cX12_isBetter 148 = .ok (.goto 4, 3) := by decide +kernel
theorem dX12_isBetter_151 : decode cX12_isBetter 151 = .ok (.iconst 0, 1) := by decide +kernel
theorem dX12_isBetter_152 : decode cX12_isBetter 152 = .ok (.ireturn, 1) := by decide +kernel
theorem dX12_bestFrom_0 : decode cX12_bestFrom 0 = .ok (.aload_n 0, 1) := by decide +kernel
theorem dX12_bestFrom_1 : decode cX12_bestFrom 1 = .ok (.invokevirtual 358, 3) := by decide +kernel
theorem dX12_bestFrom_4 : decode cX12_bestFrom 4 = .ok (.aload_n 0, 1) := by decide +kernel
theorem dX12_bestFrom_5 : decode cX12_bestFrom 5 = .ok (.iload_n 1, 1) := by decide +kernel
theorem dX12_bestFrom_6 : decode cX12_bestFrom 6 = .ok (.iload_n 2, 1) := by decide +kernel
theorem dX12_bestFrom_7 : decode cX12_bestFrom 7 = .ok (.invokevirtual 352, 3) := by decide +kernel
theorem dX12_bestFrom_10 : decode cX12_bestFrom 10 = .ok (.istore 4, 2) := by decide +kernel
theorem dX12_bestFrom_12 : decode cX12_bestFrom 12 = .ok (.iload 4, 2) := by decide +kernel
theorem dX12_bestFrom_14 : decode cX12_bestFrom 14 = .ok (.iconst (-1), 1) := by decide +kernel
theorem dX12_bestFrom_15 : decode cX12_bestFrom 15 = .ok (.if_icmp .ne 7, 3) := by decide +kernel
theorem dX12_bestFrom_18 : decode cX12_bestFrom 18 = .ok (.iconst (-1), 1) := by decide +kernel
theorem dX12_bestFrom_19 : decode cX12_bestFrom 19 = .ok (.goto 15, 3) := by decide +kernel
theorem dX12_bestFrom_22 : decode cX12_bestFrom 22 = .ok (.aload_n 0, 1) := by decide +kernel
theorem dX12_bestFrom_23 : decode cX12_bestFrom 23 = .ok (.getfield 62, 3) := by decide +kernel
theorem dX12_bestFrom_26 : decode cX12_bestFrom 26 = .ok (.bipush 12, 2) := by decide +kernel
theorem dX12_bestFrom_28 : decode cX12_bestFrom 28 = .ok (.iload 4, 2) := by decide +kernel
theorem dX12_bestFrom_30 : decode cX12_bestFrom 30 = .ok (.imul, 1) := by decide +kernel
theorem dX12_bestFrom_31 : decode cX12_bestFrom 31 = .ok (.iload_n 3, 1) := by decide +kernel
theorem dX12_bestFrom_32 : decode cX12_bestFrom 32 = .ok (.iadd, 1) := by decide +kernel
theorem dX12_bestFrom_33 : decode cX12_bestFrom 33 = .ok (.iaload, 1) := by decide +kernel
theorem dX12_bestFrom_34 : decode cX12_bestFrom 34 = .ok (.ireturn, 1) := by decide +kernel
theorem dX12_way_0 : decode cX12_way 0 = .ok (.aload_n 0, 1) := by decide +kernel
theorem dX12_way_1 : decode cX12_way 1 = .ok (.iload_n 1, 1) := by decide +kernel
theorem dX12_way_2 : decode cX12_way 2 = .ok (.invokevirtual 297, 3) := by decide +kernel
theorem dX12_way_5 : decode cX12_way 5 = .ok (.ifCond .eq 30, 3) := by decide +kernel
theorem dX12_way_8 : decode cX12_way 8 = .ok (.aload_n 0, 1) := by decide +kernel
theorem dX12_way_9 : decode cX12_way 9 = .ok (.iload_n 3, 1) := by decide +kernel
theorem dX12_way_10 : decode cX12_way 10 = .ok (.invokevirtual 297, 3) := by decide +kernel
theorem dX12_way_13 : decode cX12_way 13 = .ok (.ifCond .eq 22, 3) := by decide +kernel
theorem dX12_way_16 : decode cX12_way 16 = .ok (.iload_n 1, 1) := by decide +kernel
theorem dX12_way_17 : decode cX12_way 17 = .ok (.iload_n 3, 1) := by decide +kernel
theorem dX12_way_18 : decode cX12_way 18 = .ok (.if_icmp .eq 17, 3) := by decide +kernel
theorem dX12_way_21 : decode cX12_way 21 = .ok (.iload_n 2, 1) := by decide +kernel
theorem dX12_way_22 : decode cX12_way 22 = .ok (.aload_n 0, 1) := by decide +kernel
theorem dX12_way_23 : decode cX12_way 23 = .ok (.getfield 313, 3) := by decide +kernel
theorem dX12_way_26 : decode cX12_way 26 = .ok (.sipush 10079, 3) := by decide +kernel
theorem dX12_way_29 : decode cX12_way 29 = .ok (.invokestatic 286, 3) := by decide +kernel
theorem dX12_way_32 : decode cX12_way 32 = .ok (.ifCond .ne 5, 3) := by decide +kernel
theorem dX12_way_35 : decode cX12_way 35 = .ok (.iconst (-1), 1) := by decide +kernel
theorem dX12_way_36 : decode cX12_way 36 = .ok (.ireturn, 1) := by decide +kernel
theorem dX12_way_37 : decode cX12_way 37 = .ok (.aload_n 0, 1) := by decide +kernel
theorem dX12_way_38 : decode cX12_way 38 = .ok (.iload_n 1, 1) := by decide +kernel
theorem dX12_way_39 : decode cX12_way 39 = .ok (.iload_n 2, 1) := by decide +kernel
theorem dX12_way_40 : decode cX12_way 40 = .ok (.iload_n 3, 1) := by decide +kernel
theorem dX12_way_41 : decode cX12_way 41 = .ok (.invokevirtual 361, 3) := by decide +kernel
theorem dX12_way_44 : decode cX12_way 44 = .ok (.istore 5, 2) := by decide +kernel
theorem dX12_way_46 : decode cX12_way 46 = .ok (.iload 5, 2) := by decide +kernel
theorem dX12_way_48 : decode cX12_way 48 = .ok (.iconst (-1), 1) := by decide +kernel
theorem dX12_way_49 : decode cX12_way 49 = .ok (.if_icmp .ne 5, 3) := by decide +kernel
theorem dX12_way_52 : decode cX12_way 52 = .ok (.iconst (-1), 1) := by decide +kernel
theorem dX12_way_53 : decode cX12_way 53 = .ok (.ireturn, 1) := by decide +kernel
theorem dX12_way_54 : decode cX12_way 54 = .ok (.iload 4, 2) := by decide +kernel
theorem dX12_way_56 : decode cX12_way 56 = .ok (.tableswitch 109 0 5 #[40, 53, 66, 77, 88, 96], 40) := by decide +kernel
theorem dX12_way_96 : decode cX12_way 96 = .ok (.aload_n 0, 1) := by decide +kernel
theorem dX12_way_97 : decode cX12_way 97 = .ok (.getfield 53, 3) := by decide +kernel
theorem dX12_way_100 : decode cX12_way 100 = .ok (.bipush 12, 2) := by decide +kernel
theorem dX12_way_102 : decode cX12_way 102 = .ok (.iload 5, 2) := by decide +kernel
theorem dX12_way_104 : decode cX12_way 104 = .ok (.imul, 1) := by decide +kernel
theorem dX12_way_105 : decode cX12_way 105 = .ok (.iload_n 3, 1) := by decide +kernel
theorem dX12_way_106 : decode cX12_way 106 = .ok (.iadd, 1) := by decide +kernel
theorem dX12_way_107 : decode cX12_way 107 = .ok (.iaload, 1) := by decide +kernel
theorem dX12_way_108 : decode cX12_way 108 = .ok (.ireturn, 1) := by decide +kernel
theorem dX12_way_109 : decode cX12_way 109 = .ok (.aload_n 0, 1) := by decide +kernel
theorem dX12_way_110 : decode cX12_way 110 = .ok (.getfield 56, 3) := by decide +kernel
theorem dX12_way_113 : decode cX12_way 113 = .ok (.bipush 12, 2) := by decide +kernel
theorem dX12_way_115 : decode cX12_way 115 = .ok (.iload 5, 2) := by decide +kernel
theorem dX12_way_117 : decode cX12_way 117 = .ok (.imul, 1) := by decide +kernel
theorem dX12_way_118 : decode cX12_way 118 = .ok (.iload_n 3, 1) := by decide +kernel
theorem dX12_way_119 : decode cX12_way 119 = .ok (.iadd, 1) := by decide +kernel
theorem dX12_way_120 : decode cX12_way 120 = .ok (.iaload, 1) := by decide +kernel
theorem dX12_way_121 : decode cX12_way 121 = .ok (.ireturn, 1) := by decide +kernel
theorem dX12_way_122 : decode cX12_way 122 = .ok (.aload_n 0, 1) := by decide +kernel
theorem dX12_way_123 : decode cX12_way 123 = .ok (.getfield 44, 3) := by decide +kernel
theorem dX12_way_126 : decode cX12_way 126 = .ok (.iload 5, 2) := by decide +kernel
theorem dX12_way_128 : decode cX12_way 128 = .ok (.iaload, 1) := by decide +kernel
theorem dX12_way_129 : decode cX12_way 129 = .ok (.bipush 7, 2) := by decide +kernel
theorem dX12_way_131 : decode cX12_way 131 = .ok (.idiv, 1) := by decide +kernel
theorem dX12_way_132 : decode cX12_way 132 = .ok (.ireturn, 1) := by decide +kernel
theorem dX12_way_133 : decode cX12_way 133 = .ok (.aload_n 0, 1) := by decide +kernel
theorem dX12_way_134 : decode cX12_way 134 = .ok (.getfield 44, 3) := by decide +kernel
theorem dX12_way_137 : decode cX12_way 137 = .ok (.iload 5, 2) := by decide +kernel
theorem dX12_way_139 : decode cX12_way 139 = .ok (.iaload, 1) := by decide +kernel
theorem dX12_way_140 : decode cX12_way 140 = .ok (.bipush 7, 2) := by decide +kernel
theorem dX12_way_142 : decode cX12_way 142 = .ok (.irem, 1) := by decide +kernel
theorem dX12_way_143 : decode cX12_way 143 = .ok (.ireturn, 1) := by decide +kernel
theorem dX12_way_144 : decode cX12_way 144 = .ok (.aload_n 0, 1) := by decide +kernel
theorem dX12_way_145 : decode cX12_way 145 = .ok (.getfield 47, 3) := by decide +kernel
theorem dX12_way_148 : decode cX12_way 148 = .ok (.iload 5, 2) := by decide +kernel
theorem dX12_way_150 : decode cX12_way 150 = .ok (.iaload, 1) := by decide +kernel
theorem dX12_way_151 : decode cX12_way 151 = .ok (.ireturn, 1) := by decide +kernel
theorem dX12_way_152 : decode cX12_way 152 = .ok (.aload_n 0, 1) := by decide +kernel
theorem dX12_way_153 : decode cX12_way 153 = .ok (.getfield 59, 3) := by decide +kernel
theorem dX12_way_156 : decode cX12_way 156 = .ok (.bipush 12, 2) := by decide +kernel
theorem dX12_way_158 : decode cX12_way 158 = .ok (.iload 5, 2) := by decide +kernel
theorem dX12_way_160 : decode cX12_way 160 = .ok (.imul, 1) := by decide +kernel
theorem dX12_way_161 : decode cX12_way 161 = .ok (.iload_n 3, 1) := by decide +kernel
theorem dX12_way_162 : decode cX12_way 162 = .ok (.iadd, 1) := by decide +kernel
theorem dX12_way_163 : decode cX12_way 163 = .ok (.iaload, 1) := by decide +kernel
theorem dX12_way_164 : decode cX12_way 164 = .ok (.ireturn, 1) := by decide +kernel
theorem dX12_way_165 : decode cX12_way 165 = .ok (.iconst (-1), 1) := by decide +kernel
theorem dX12_way_166 : decode cX12_way 166 = .ok (.ireturn, 1) := by decide +kernel
theorem dX12_feed_0 : decode cX12_feed 0 = .ok (.aload_n 0, 1) := by decide +kernel
theorem dX12_feed_1 : decode cX12_feed 1 = .ok (.getfield 364, 3) := by decide +kernel
theorem dX12_feed_4 : decode cX12_feed 4 = .ok (.bipush 20, 2) := by decide +kernel
theorem dX12_feed_6 : decode cX12_feed 6 = .ok (.iadd, 1) := by decide +kernel
theorem dX12_feed_7 : decode cX12_feed 7 = .ok (.sipush 600, 3) := by decide +kernel
theorem dX12_feed_10 : decode cX12_feed 10 = .ok (.if_icmp .le 5, 3) := by decide +kernel
theorem dX12_feed_13 : decode cX12_feed 13 = .ok (.iconst (-1), 1) := by decide +kernel
theorem dX12_feed_14 : decode cX12_feed 14 = .ok (.ireturn, 1) := by decide +kernel
theorem dX12_feed_15 : decode cX12_feed 15 = .ok (.iconst 0, 1) := by decide +kernel
theorem dX12_feed_16 : decode cX12_feed 16 = .ok (.istore 6, 2) := by decide +kernel
theorem dX12_feed_18 : decode cX12_feed 18 = .ok (.iload 6, 2) := by decide +kernel
theorem dX12_feed_20 : decode cX12_feed 20 = .ok (.bipush 20, 2) := by decide +kernel
theorem dX12_feed_22 : decode cX12_feed 22 = .ok (.if_icmp .ge 93, 3) := by decide +kernel
theorem dX12_feed_25 : decode cX12_feed 25 = .ok (.iload 6, 2) := by decide +kernel
theorem dX12_feed_27 : decode cX12_feed 27 = .ok (.iconst 4, 1) := by decide +kernel
theorem dX12_feed_28 : decode cX12_feed 28 = .ok (.if_icmp .ge 7, 3) := by decide +kernel
theorem dX12_feed_31 : decode cX12_feed 31 = .ok (.iload_n 1, 1) := by decide +kernel
theorem dX12_feed_32 : decode cX12_feed 32 = .ok (.goto 39, 3) := by decide +kernel
theorem dX12_feed_35 : decode cX12_feed 35 = .ok (.iload 6, 2) := by decide +kernel
theorem dX12_feed_37 : decode cX12_feed 37 = .ok (.bipush 8, 2) := by decide +kernel
theorem dX12_feed_39 : decode cX12_feed 39 = .ok (.if_icmp .ge 7, 3) := by decide +kernel
theorem dX12_feed_42 : decode cX12_feed 42 = .ok (.iload_n 2, 1) := by decide +kernel
theorem dX12_feed_43 : decode cX12_feed 43 = .ok (.goto 28, 3) := by decide +kernel
theorem dX12_feed_46 : decode cX12_feed 46 = .ok (.iload 6, 2) := by decide +kernel
theorem dX12_feed_48 : decode cX12_feed 48 = .ok (.bipush 12, 2) := by decide +kernel
theorem dX12_feed_50 : decode cX12_feed 50 = .ok (.if_icmp .ge 7, 3) := by decide +kernel
theorem dX12_feed_53 : decode cX12_feed 53 = .ok (.iload_n 3, 1) := by decide +kernel
theorem dX12_feed_54 : decode cX12_feed 54 = .ok (.goto 17, 3) := by decide +kernel
theorem dX12_feed_57 : decode cX12_feed 57 = .ok (.iload 6, 2) := by decide +kernel
theorem dX12_feed_59 : decode cX12_feed 59 = .ok (.bipush 16, 2) := by decide +kernel
theorem dX12_feed_61 : decode cX12_feed 61 = .ok (.if_icmp .ge 8, 3) := by decide +kernel
theorem dX12_feed_64 : decode cX12_feed 64 = .ok (.iload 4, 2) := by decide +kernel
theorem dX12_feed_66 : decode cX12_feed 66 = .ok (.goto 5, 3) := by decide +kernel
theorem dX12_feed_69 : decode cX12_feed 69 = .ok (.iload 5, 2) := by decide +kernel
theorem dX12_feed_71 : decode cX12_feed 71 = .ok (.istore 7, 2) := by decide +kernel
theorem dX12_feed_73 : decode cX12_feed 73 = .ok (.aload_n 0, 1) := by decide +kernel
theorem dX12_feed_74 : decode cX12_feed 74 = .ok (.getfield 116, 3) := by decide +kernel
theorem dX12_feed_77 : decode cX12_feed 77 = .ok (.aload_n 0, 1) := by decide +kernel
theorem dX12_feed_78 : decode cX12_feed 78 = .ok (.getfield 364, 3) := by decide +kernel
theorem dX12_feed_81 : decode cX12_feed 81 = .ok (.iload 7, 2) := by decide +kernel
theorem dX12_feed_83 : decode cX12_feed 83 = .ok (.bipush 24, 2) := by decide +kernel
theorem dX12_feed_85 : decode cX12_feed 85 = .ok (.bipush 8, 2) := by decide +kernel
theorem dX12_feed_87 : decode cX12_feed 87 = .ok (.iload 6, 2) := by decide +kernel
theorem dX12_feed_89 : decode cX12_feed 89 = .ok (.iconst 4, 1) := by decide +kernel
theorem dX12_feed_90 : decode cX12_feed 90 = .ok (.irem, 1) := by decide +kernel
theorem dX12_feed_91 : decode cX12_feed 91 = .ok (.imul, 1) := by decide +kernel
theorem dX12_feed_92 : decode cX12_feed 92 = .ok (.isub, 1) := by decide +kernel
theorem dX12_feed_93 : decode cX12_feed 93 = .ok (.ishr, 1) := by decide +kernel
theorem dX12_feed_94 : decode cX12_feed 94 = .ok (.sipush 255, 3) := by decide +kernel
theorem dX12_feed_97 : decode cX12_feed 97 = .ok (.iand, 1) := by decide +kernel
theorem dX12_feed_98 : decode cX12_feed 98 = .ok (.iastore, 1) := by decide +kernel
theorem dX12_feed_99 : decode cX12_feed 99 = .ok (.aload_n 0, 1) := by decide +kernel
theorem dX12_feed_100 : decode cX12_feed 100 = .ok (.dup, 1) := by decide +kernel
theorem dX12_feed_101 : decode cX12_feed 101 = .ok (.getfield 364, 3) := by decide +kernel
theorem dX12_feed_104 : decode cX12_feed 104 = .ok (.iconst 1, 1) := by decide +kernel
theorem dX12_feed_105 : decode cX12_feed 105 = .ok (.iadd, 1) := by decide +kernel
theorem dX12_feed_106 : decode cX12_feed 106 = .ok (.putfield 364, 3) := by decide +kernel
theorem dX12_feed_109 : decode cX12_feed 109 = .ok (.iinc 6 1, 3) := by decide +kernel
theorem dX12_feed_112 : decode cX12_feed 112 = .ok (.goto (-94), 3) := by decide +kernel
theorem dX12_feed_115 : decode cX12_feed 115 = .ok (.aload_n 0, 1) := by decide +kernel
theorem dX12_feed_116 : decode cX12_feed 116 = .ok (.getfield 364, 3) := by decide +kernel
theorem dX12_feed_119 : decode cX12_feed 119 = .ok (.ireturn, 1) := by decide +kernel
theorem dX12_end_0 : decode cX12_end 0 = .ok (.iload_n 1, 1) := by decide +kernel
theorem dX12_end_1 : decode cX12_end 1 = .ok (.iconst 0, 1) := by decide +kernel
theorem dX12_end_2 : decode cX12_end 2 = .ok (.aload_n 0, 1) := by decide +kernel
theorem dX12_end_3 : decode cX12_end 3 = .ok (.getfield 364, 3) := by decide +kernel
theorem dX12_end_6 : decode cX12_end 6 = .ok (.invokestatic 286, 3) := by decide +kernel
theorem dX12_end_9 : decode cX12_end 9 = .ok (.ifCond .ne 5, 3) := by decide +kernel
theorem dX12_end_12 : decode cX12_end 12 = .ok (.iconst 0, 1) := by decide +kernel
theorem dX12_end_13 : decode cX12_end 13 = .ok (.ireturn, 1) := by decide +kernel
theorem dX12_end_14 : decode cX12_end 14 = .ok (.aload_n 0, 1) := by decide +kernel
theorem dX12_end_15 : decode cX12_end 15 = .ok (.iload_n 1, 1) := by decide +kernel
theorem dX12_end_16 : decode cX12_end 16 = .ok (.putfield 364, 3) := by decide +kernel
theorem dX12_end_19 : decode cX12_end 19 = .ok (.iconst 1, 1) := by decide +kernel
theorem dX12_end_20 : decode cX12_end 20 = .ok (.ireturn, 1) := by decide +kernel
theorem dX12_see_0 : decode cX12_see 0 = .ok (.iload_n 1, 1) := by decide +kernel
theorem dX12_see_1 : decode cX12_see 1 = .ok (.aload_n 0, 1) := by decide +kernel
theorem dX12_see_2 : decode cX12_see 2 = .ok (.getfield 364, 3) := by decide +kernel
theorem dX12_see_5 : decode cX12_see 5 = .ok (.if_icmp .ge 12, 3) := by decide +kernel
theorem dX12_see_8 : decode cX12_see 8 = .ok (.aload_n 0, 1) := by decide +kernel
theorem dX12_see_9 : decode cX12_see 9 = .ok (.getfield 116, 3) := by decide +kernel
theorem dX12_see_12 : decode cX12_see 12 = .ok (.iload_n 1, 1) := by decide +kernel
theorem dX12_see_13 : decode cX12_see 13 = .ok (.iaload, 1) := by decide +kernel
theorem dX12_see_14 : decode cX12_see 14 = .ok (.goto 4, 3) := by decide +kernel
theorem dX12_see_17 : decode cX12_see 17 = .ok (.iconst (-1), 1) := by decide +kernel
theorem dX12_see_18 : decode cX12_see 18 = .ok (.ireturn, 1) := by decide +kernel
theorem dX12_isLetter_0 : decode cX12_isLetter 0 = .ok (.iload_n 0, 1) := by decide +kernel
theorem dX12_isLetter_1 : decode cX12_isLetter 1 = .ok (.bipush 97, 2) := by decide +kernel
theorem dX12_isLetter_3 : decode cX12_isLetter 3 = .ok (.bipush 122, 2) := by decide +kernel
theorem dX12_isLetter_5 : decode cX12_isLetter 5 = .ok (.invokestatic 286, 3) := by decide +kernel
theorem dX12_isLetter_8 : decode cX12_isLetter 8 = .ok (.ifCond .ne 14, 3) := by decide +kernel
theorem dX12_isLetter_11 : decode cX12_isLetter 11 = .ok (.iload_n 0, 1) := by decide +kernel
theorem dX12_isLetter_12 : decode cX12_isLetter 12 = .ok (.bipush 65, 2) := by decide +kernel
theorem dX12_isLetter_14 : decode cX12_isLetter 14 = .ok (.bipush 90, 2) := by decide +kernel
theorem dX12_isLetter_16 : decode cX12_isLetter 16 = .ok (.invokestatic 286, 3) := by decide +kernel
theorem dX12_isLetter_19 : decode cX12_isLetter 19 = .ok (.ifCond .eq 7, 3) := by decide +kernel
theorem dX12_isLetter_22 : decode cX12_isLetter 22 = .ok (.iconst 1, 1) := by decide +kernel
theorem dX12_isLetter_23 : decode cX12_isLetter 23 = .ok (.goto 4, 3) := by decide +kernel
theorem dX12_isLetter_26 : decode cX12_isLetter 26 = .ok (.iconst 0, 1) := by decide +kernel
theorem dX12_isLetter_27 : decode cX12_isLetter 27 = .ok (.ireturn, 1) := by decide +kernel
theorem dX12_isDigit_0 : decode cX12_isDigit 0 = .ok (.iload_n 0, 1) := by decide +kernel
theorem dX12_isDigit_1 : decode cX12_isDigit 1 = .ok (.bipush 48, 2) := by decide +kernel
theorem dX12_isDigit_3 : decode cX12_isDigit 3 = .ok (.bipush 57, 2) := by decide +kernel
theorem dX12_isDigit_5 : decode cX12_isDigit 5 = .ok (.invokestatic 286, 3) := by decide +kernel
theorem dX12_isDigit_8 : decode cX12_isDigit 8 = .ok (.ireturn, 1) := by decide +kernel
theorem dX12_is_0 : decode cX12_is 0 = .ok (.aload_n 0, 1) := by decide +kernel
theorem dX12_is_1 : decode cX12_is 1 = .ok (.getfield 367, 3) := by decide +kernel
theorem dX12_is_4 : decode cX12_is 4 = .ok (.aload_n 0, 1) := by decide +kernel
theorem dX12_is_5 : decode cX12_is 5 = .ok (.getfield 370, 3) := by decide +kernel
theorem dX12_is_8 : decode cX12_is 8 = .ok (.isub, 1) := by decide +kernel
theorem dX12_is_9 : decode cX12_is 9 = .ok (.aload_n 1, 1) := by decide +kernel
theorem dX12_is_10 : decode cX12_is 10 = .ok (.invokevirtual 373, 3) := by decide +kernel
theorem dX12_is_13 : decode cX12_is 13 = .ok (.if_icmp .ne 7, 3) := by decide +kernel
theorem dX12_is_16 : decode cX12_is 16 = .ok (.iconst 1, 1) := by decide +kernel
theorem dX12_is_17 : decode cX12_is 17 = .ok (.goto 4, 3) := by decide +kernel
theorem dX12_is_20 : decode cX12_is 20 = .ok (.iconst 0, 1) := by decide +kernel
theorem dX12_is_21 : decode cX12_is 21 = .ok (.istore_n 2, 1) := by decide +kernel
theorem dX12_is_22 : decode cX12_is 22 = .ok (.iconst 0, 1) := by decide +kernel
theorem dX12_is_23 : decode cX12_is 23 = .ok (.istore_n 3, 1) := by decide +kernel
theorem dX12_is_24 : decode cX12_is 24 = .ok (.iload_n 3, 1) := by decide +kernel
theorem dX12_is_25 : decode cX12_is 25 = .ok (.aload_n 1, 1) := by decide +kernel
theorem dX12_is_26 : decode cX12_is 26 = .ok (.invokevirtual 373, 3) := by decide +kernel
theorem dX12_is_29 : decode cX12_is 29 = .ok (.if_icmp .ge 38, 3) := by decide +kernel
theorem dX12_is_32 : decode cX12_is 32 = .ok (.iload_n 2, 1) := by decide +kernel
theorem dX12_is_33 : decode cX12_is 33 = .ok (.ifCond .eq 34, 3) := by decide +kernel
theorem dX12_is_36 : decode cX12_is 36 = .ok (.aload_n 0, 1) := by decide +kernel
theorem dX12_is_37 : decode cX12_is 37 = .ok (.getfield 116, 3) := by decide +kernel
theorem dX12_is_40 : decode cX12_is 40 = .ok (.aload_n 0, 1) := by decide +kernel
theorem dX12_is_41 : decode cX12_is 41 = .ok (.getfield 370, 3) := by decide +kernel
theorem dX12_is_44 : decode cX12_is 44 = .ok (.iload_n 3, 1) := by decide +kernel
theorem dX12_is_45 : decode cX12_is 45 = .ok (.iadd, 1) := by decide +kernel
theorem dX12_is_46 : decode cX12_is 46 = .ok (.iaload, 1) := by decide +kernel
theorem dX12_is_47 : decode cX12_is 47 = .ok (.aload_n 1, 1) := by decide +kernel
theorem dX12_is_48 : decode cX12_is 48 = .ok (.iload_n 3, 1) := by decide +kernel
theorem dX12_is_49 : decode cX12_is 49 = .ok (.invokevirtual 379, 3) := by decide +kernel
theorem dX12_is_52 : decode cX12_is 52 = .ok (.if_icmp .ne 7, 3) := by decide +kernel
theorem dX12_is_55 : decode cX12_is 55 = .ok (.iconst 1, 1) := by decide +kernel
theorem dX12_is_56 : decode cX12_is 56 = .ok (.goto 4, 3) := by decide +kernel
theorem dX12_is_59 : decode cX12_is 59 = .ok (.iconst 0, 1) := by decide +kernel
theorem dX12_is_60 : decode cX12_is 60 = .ok (.istore_n 2, 1) := by decide +kernel
theorem dX12_is_61 : decode cX12_is 61 = .ok (.iinc 3 1, 3) := by decide +kernel
theorem dX12_is_64 : decode cX12_is 64 = .ok (.goto (-40), 3) := by decide +kernel
theorem dX12_is_67 : decode cX12_is 67 = .ok (.iload_n 2, 1) := by decide +kernel
theorem dX12_is_68 : decode cX12_is 68 = .ok (.ireturn, 1) := by decide +kernel
theorem dX12_word_0 : decode cX12_word 0 = .ok (.aload_n 0, 1) := by decide +kernel
theorem dX12_word_1 : decode cX12_word 1 = .ok (.ldc_w 383, 3) := by decide +kernel
theorem dX12_word_4 : decode cX12_word 4 = .ok (.invokevirtual 385, 3) := by decide +kernel
theorem dX12_word_7 : decode cX12_word 7 = .ok (.ifCond .eq 5, 3) := by decide +kernel
theorem dX12_word_10 : decode cX12_word 10 = .ok (.iconst 3, 1) := by decide +kernel
theorem dX12_word_11 : decode cX12_word 11 = .ok (.ireturn, 1) := by decide +kernel
theorem dX12_word_12 : decode cX12_word 12 = .ok (.aload_n 0, 1) := by decide +kernel
theorem dX12_word_13 : decode cX12_word 13 = .ok (.ldc_w 389, 3) := by decide +kernel
theorem dX12_word_16 : decode cX12_word 16 = .ok (.invokevirtual 385, 3) := by decide +kernel
theorem dX12_word_19 : decode cX12_word 19 = .ok (.ifCond .eq 5, 3) := by decide +kernel
theorem dX12_word_22 : decode cX12_word 22 = .ok (.iconst 4, 1) := by decide +kernel
theorem dX12_word_23 : decode cX12_word 23 = .ok (.ireturn, 1) := by decide +kernel
theorem dX12_word_24 : decode cX12_word 24 = .ok (.aload_n 0, 1) := by decide +kernel
theorem dX12_word_25 : decode cX12_word 25 = .ok (.ldc_w 390, 3) := by decide +kernel
theorem dX12_word_28 : decode cX12_word 28 = .ok (.invokevirtual 385, 3) := by decide +kernel
theorem dX12_word_31 : decode cX12_word 31 = .ok (.ifCond .eq 5, 3) := by decide +kernel
theorem dX12_word_34 : decode cX12_word 34 = .ok (.iconst 5, 1) := by decide +kernel
theorem dX12_word_35 : decode cX12_word 35 = .ok (.ireturn, 1) := by decide +kernel
theorem dX12_word_36 : decode cX12_word 36 = .ok (.aload_n 0, 1) := by decide +kernel
theorem dX12_word_37 : decode cX12_word 37 = .ok (.ldc_w 392, 3) := by decide +kernel
theorem dX12_word_40 : decode cX12_word 40 = .ok (.invokevirtual 385, 3) := by decide +kernel
theorem dX12_word_43 : decode cX12_word 43 = .ok (.ifCond .eq 6, 3) := by decide +kernel
theorem dX12_word_46 : decode cX12_word 46 = .ok (.bipush 6, 2) := by decide +kernel
theorem dX12_word_48 : decode cX12_word 48 = .ok (.ireturn, 1) := by decide +kernel
theorem dX12_word_49 : decode cX12_word 49 = .ok (.aload_n 0, 1) := by decide +kernel
theorem dX12_word_50 : decode cX12_word 50 = .ok (.ldc_w 394, 3) := by decide +kernel
theorem dX12_word_53 : decode cX12_word 53 = .ok (.invokevirtual 385, 3) := by decide +kernel
theorem dX12_word_56 : decode cX12_word 56 = .ok (.ifCond .eq 6, 3) := by decide +kernel
theorem dX12_word_59 : decode cX12_word 59 = .ok (.bipush 7, 2) := by decide +kernel
theorem dX12_word_61 : decode cX12_word 61 = .ok (.ireturn, 1) := by decide +kernel
theorem dX12_word_62 : decode cX12_word 62 = .ok (.aload_n 0, 1) := by decide +kernel
theorem dX12_word_63 : decode cX12_word 63 = .ok (.ldc_w 396, 3) := by decide +kernel
theorem dX12_word_66 : decode cX12_word 66 = .ok (.invokevirtual 385, 3) := by decide +kernel
theorem dX12_word_69 : decode cX12_word 69 = .ok (.ifCond .eq 6, 3) := by decide +kernel
theorem dX12_word_72 : decode cX12_word 72 = .ok (.bipush 8, 2) := by decide +kernel
theorem dX12_word_74 : decode cX12_word 74 = .ok (.ireturn, 1) := by decide +kernel
theorem dX12_word_75 : decode cX12_word 75 = .ok (.aload_n 0, 1) := by decide +kernel
theorem dX12_word_76 : decode cX12_word 76 = .ok (.ldc_w 398, 3) := by decide +kernel
theorem dX12_word_79 : decode cX12_word 79 = .ok (.invokevirtual 385, 3) := by decide +kernel
theorem dX12_word_82 : decode cX12_word 82 = .ok (.ifCond .eq 6, 3) := by decide +kernel
theorem dX12_word_85 : decode cX12_word 85 = .ok (.bipush 9, 2) := by decide +kernel
theorem dX12_word_87 : decode cX12_word 87 = .ok (.ireturn, 1) := by decide +kernel
theorem dX12_word_88 : decode cX12_word 88 = .ok (.aload_n 0, 1) := by decide +kernel
theorem dX12_word_89 : decode cX12_word 89 = .ok (.ldc_w 400, 3) := by decide +kernel
theorem dX12_word_92 : decode cX12_word 92 = .ok (.invokevirtual 385, 3) := by decide +kernel
theorem dX12_word_95 : decode cX12_word 95 = .ok (.ifCond .eq 6, 3) := by decide +kernel
theorem dX12_word_98 : decode cX12_word 98 = .ok (.bipush 10, 2) := by decide +kernel
theorem dX12_word_100 : decode cX12_word 100 = .ok (.ireturn, 1) := by decide +kernel
theorem dX12_word_101 : decode cX12_word 101 = .ok (.aload_n 0, 1) := by decide +kernel
theorem dX12_word_102 : decode cX12_word 102 = .ok (.ldc_w 401, 3) := by decide +kernel
theorem dX12_word_105 : decode cX12_word 105 = .ok (.invokevirtual 385, 3) := by decide +kernel
theorem dX12_word_108 : decode cX12_word 108 = .ok (.ifCond .eq 6, 3) := by decide +kernel
theorem dX12_word_111 : decode cX12_word 111 = .ok (.bipush 11, 2) := by decide +kernel
theorem dX12_word_113 : decode cX12_word 113 = .ok (.ireturn, 1) := by decide +kernel
theorem dX12_word_114 : decode cX12_word 114 = .ok (.aload_n 0, 1) := by decide +kernel
theorem dX12_word_115 : decode cX12_word 115 = .ok (.ldc_w 403, 3) := by decide +kernel
theorem dX12_word_118 : decode cX12_word 118 = .ok (.invokevirtual 385, 3) := by decide +kernel
theorem dX12_word_121 : decode cX12_word 121 = .ok (.ifCond .eq 6, 3) := by decide +kernel
theorem dX12_word_124 : decode cX12_word 124 = .ok (.bipush 12, 2) := by decide +kernel
theorem dX12_word_126 : decode cX12_word 126 = .ok (.ireturn, 1) := by decide +kernel
theorem dX12_word_127 : decode cX12_word 127 = .ok (.aload_n 0, 1) := by decide +kernel
theorem dX12_word_128 : decode cX12_word 128 = .ok (.ldc_w 405, 3) := by decide +kernel
theorem dX12_word_131 : decode cX12_word 131 = .ok (.invokevirtual 385, 3) := by decide +kernel
theorem dX12_word_134 : decode cX12_word 134 = .ok (.ifCond .eq 6, 3) := by decide +kernel
theorem dX12_word_137 : decode cX12_word 137 = .ok (.bipush 13, 2) := by decide +kernel
theorem dX12_word_139 : decode cX12_word 139 = .ok (.ireturn, 1) := by decide +kernel
theorem dX12_word_140 : decode cX12_word 140 = .ok (.aload_n 0, 1) := by decide +kernel
theorem dX12_word_141 : decode cX12_word 141 = .ok (.ldc_w 407, 3) := by decide +kernel
theorem dX12_word_144 : decode cX12_word 144 = .ok (.invokevirtual 385, 3) := by decide +kernel
theorem dX12_word_147 : decode cX12_word 147 = .ok (.ifCond .eq 7, 3) := by decide +kernel
theorem dX12_word_150 : decode cX12_word 150 = .ok (.sipush 201, 3) := by decide +kernel
theorem dX12_word_153 : decode cX12_word 153 = .ok (.ireturn, 1) := by decide +kernel
theorem dX12_word_154 : decode cX12_word 154 = .ok (.aload_n 0, 1) := by decide +kernel
theorem dX12_word_155 : decode cX12_word 155 = .ok (.ldc_w 409, 3) := by decide +kernel
theorem dX12_word_158 : decode cX12_word 158 = .ok (.invokevirtual 385, 3) := by decide +kernel
theorem dX12_word_161 : decode cX12_word 161 = .ok (.ifCond .eq 7, 3) := by decide +kernel
theorem dX12_word_164 : decode cX12_word 164 = .ok (.sipush 202, 3) := by decide +kernel
theorem dX12_word_167 : decode cX12_word 167 = .ok (.ireturn, 1) := by decide +kernel
theorem dX12_word_168 : decode cX12_word 168 = .ok (.aload_n 0, 1) := by decide +kernel
theorem dX12_word_169 : decode cX12_word 169 = .ok (.ldc_w 410, 3) := by decide +kernel
theorem dX12_word_172 : decode cX12_word 172 = .ok (.invokevirtual 385, 3) := by decide +kernel
theorem dX12_word_175 : decode cX12_word 175 = .ok (.ifCond .eq 7, 3) := by decide +kernel
theorem dX12_word_178 : decode cX12_word 178 = .ok (.sipush 203, 3) := by decide +kernel
theorem dX12_word_181 : decode cX12_word 181 = .ok (.ireturn, 1) := by decide +kernel
theorem dX12_word_182 : decode cX12_word 182 = .ok (.aload_n 0, 1) := by decide +kernel
theorem dX12_word_183 : decode cX12_word 183 = .ok (.ldc_w 411, 3) := by decide +kernel
theorem dX12_word_186 : decode cX12_word 186 = .ok (.invokevirtual 385, 3) := by decide +kernel
theorem dX12_word_189 : decode cX12_word 189 = .ok (.ifCond .eq 7, 3) := by decide +kernel
theorem dX12_word_192 : decode cX12_word 192 = .ok (.sipush 204, 3) := by decide +kernel
theorem dX12_word_195 : decode cX12_word 195 = .ok (.ireturn, 1) := by decide +kernel
theorem dX12_word_196 : decode cX12_word 196 = .ok (.aload_n 0, 1) := by decide +kernel
theorem dX12_word_197 : decode cX12_word 197 = .ok (.ldc_w 413, 3) := by decide +kernel
theorem dX12_word_200 : decode cX12_word 200 = .ok (.invokevirtual 385, 3) := by decide +kernel
theorem dX12_word_203 : decode cX12_word 203 = .ok (.ifCond .eq 7, 3) := by decide +kernel
theorem dX12_word_206 : decode cX12_word 206 = .ok (.sipush 205, 3) := by decide +kernel
theorem dX12_word_209 : decode cX12_word 209 = .ok (.ireturn, 1) := by decide +kernel
theorem dX12_word_210 : decode cX12_word 210 = .ok (.aload_n 0, 1) := by decide +kernel
theorem dX12_word_211 : decode cX12_word 211 = .ok (.ldc_w 415, 3) := by decide +kernel
theorem dX12_word_214 : decode cX12_word 214 = .ok (.invokevirtual 385, 3) := by decide +kernel
theorem dX12_word_217 : decode cX12_word 217 = .ok (.ifCond .eq 7, 3) := by decide +kernel
theorem dX12_word_220 : decode cX12_word 220 = .ok (.sipush 206, 3) := by decide +kernel
theorem dX12_word_223 : decode cX12_word 223 = .ok (.ireturn, 1) := by decide +kernel
theorem dX12_word_224 : decode cX12_word 224 = .ok (.aload_n 0, 1) := by decide +kernel
theorem dX12_word_225 : decode cX12_word 225 = .ok (.ldc_w 416, 3) := by decide +kernel
theorem dX12_word_228 : decode cX12_word 228 = .ok (.invokevirtual 385, 3) := by decide +kernel
theorem dX12_word_231 : decode cX12_word 231 = .ok (.ifCond .eq 9, 3) := by decide +kernel
theorem dX12_word_234 : decode cX12_word 234 = .ok (.sipush 207, 3) := by decide +kernel
theorem dX12_word_237 : decode cX12_word 237 = .ok (.goto 4, 3) := by decide +kernel
theorem dX12_word_240 : decode cX12_word 240 = .ok (.iconst 1, 1) := by decide +kernel
theorem dX12_word_241 : decode cX12_word 241 = .ok (.ireturn, 1) := by decide +kernel
theorem dX12_next0_0 : decode cX12_next0 0 = .ok (.aload_n 0, 1) := by decide +kernel
theorem dX12_next0_1 : decode cX12_next0 1 = .ok (.aload_n 0, 1) := by decide +kernel
theorem dX12_next0_2 : decode cX12_next0 2 = .ok (.getfield 367, 3) := by decide +kernel
theorem dX12_next0_5 : decode cX12_next0 5 = .ok (.invokevirtual 418, 3) := by decide +kernel
theorem dX12_next0_8 : decode cX12_next0 8 = .ok (.bipush 32, 2) := by decide +kernel
theorem dX12_next0_10 : decode cX12_next0 10 = .ok (.if_icmp .eq 16, 3) := by decide +kernel
theorem dX12_next0_13 : decode cX12_next0 13 = .ok (.aload_n 0, 1) := by decide +kernel
theorem dX12_next0_14 : decode cX12_next0 14 = .ok (.aload_n 0, 1) := by decide +kernel
theorem dX12_next0_15 : decode cX12_next0 15 = .ok (.getfield 367, 3) := by decide +kernel
theorem dX12_next0_18 : decode cX12_next0 18 = .ok (.invokevirtual 418, 3) := by decide +kernel
theorem dX12_next0_21 : decode cX12_next0 21 = .ok (.bipush 10, 2) := by decide +kernel
theorem dX12_next0_23 : decode cX12_next0 23 = .ok (.if_icmp .ne 16, 3) := by decide +kernel
theorem dX12_next0_26 : decode cX12_next0 26 = .ok (.aload_n 0, 1) := by decide +kernel
theorem dX12_next0_27 : decode cX12_next0 27 = .ok (.dup, 1) := by decide +kernel
theorem dX12_next0_28 : decode cX12_next0 28 = .ok (.getfield 367, 3) := by decide +kernel
theorem dX12_next0_31 : decode cX12_next0 31 = .ok (.iconst 1, 1) := by decide +kernel
theorem dX12_next0_32 : decode cX12_next0 32 = .ok (.iadd, 1) := by decide +kernel
theorem dX12_next0_33 : decode cX12_next0 33 = .ok (.putfield 367, 3) := by decide +kernel
theorem dX12_next0_36 : decode cX12_next0 36 = .ok (.goto (-36), 3) := by decide +kernel
theorem dX12_next0_39 : decode cX12_next0 39 = .ok (.aload_n 0, 1) := by decide +kernel
theorem dX12_next0_40 : decode cX12_next0 40 = .ok (.aload_n 0, 1) := by decide +kernel
theorem dX12_next0_41 : decode cX12_next0 41 = .ok (.getfield 367, 3) := by decide +kernel
theorem dX12_next0_44 : decode cX12_next0 44 = .ok (.putfield 370, 3) := by decide +kernel
theorem dX12_next0_47 : decode cX12_next0 47 = .ok (.aload_n 0, 1) := by decide +kernel
theorem dX12_next0_48 : decode cX12_next0 48 = .ok (.aload_n 0, 1) := by decide +kernel
theorem dX12_next0_49 : decode cX12_next0 49 = .ok (.getfield 367, 3) := by decide +kernel
theorem dX12_next0_52 : decode cX12_next0 52 = .ok (.invokevirtual 418, 3) := by decide +kernel
theorem dX12_next0_55 : decode cX12_next0 55 = .ok (.istore_n 1, 1) := by decide +kernel
theorem dX12_next0_56 : decode cX12_next0 56 = .ok (.iload_n 1, 1) := by decide +kernel
theorem dX12_next0_57 : decode cX12_next0 57 = .ok (.iconst (-1), 1) := by decide +kernel
theorem dX12_next0_58 : decode cX12_next0 58 = .ok (.if_icmp .ne 11, 3) := by decide +kernel
theorem dX12_next0_61 : decode cX12_next0 61 = .ok (.aload_n 0, 1) := by decide +kernel
theorem dX12_next0_62 : decode cX12_next0 62 = .ok (.iconst 0, 1) := by decide +kernel
theorem dX12_next0_63 : decode cX12_next0 63 = .ok (.putfield 422, 3) := by decide +kernel
theorem dX12_next0_66 : decode cX12_next0 66 = .ok (.goto 237, 3) := by decide +kernel
theorem dX12_next0_69 : decode cX12_next0 69 = .ok (.iload_n 1, 1) := by decide +kernel
theorem dX12_next0_70 : decode cX12_next0 70 = .ok (.invokestatic 425, 3) := by decide +kernel
theorem dX12_next0_73 : decode cX12_next0 73 = .ok (.ifCond .eq 41, 3) := by decide +kernel
theorem dX12_next0_76 : decode cX12_next0 76 = .ok (.aload_n 0, 1) := by decide +kernel
theorem dX12_next0_77 : decode cX12_next0 77 = .ok (.aload_n 0, 1) := by decide +kernel
theorem dX12_next0_78 : decode cX12_next0 78 = .ok (.getfield 367, 3) := by decide +kernel
theorem dX12_next0_81 : decode cX12_next0 81 = .ok (.invokevirtual 418, 3) := by decide +kernel
theorem dX12_next0_84 : decode cX12_next0 84 = .ok (.invokestatic 425, 3) := by decide +kernel
theorem dX12_next0_87 : decode cX12_next0 87 = .ok (.ifCond .eq 16, 3) := by decide +kernel
theorem dX12_next0_90 : decode cX12_next0 90 = .ok (.aload_n 0, 1) := by decide +kernel
theorem dX12_next0_91 : decode cX12_next0 91 = .ok (.dup, 1) := by decide +kernel
theorem dX12_next0_92 : decode cX12_next0 92 = .ok (.getfield 367, 3) := by decide +kernel
theorem dX12_next0_95 : decode cX12_next0 95 = .ok (.iconst 1, 1) := by decide +kernel
theorem dX12_next0_96 : decode cX12_next0 96 = .ok (.iadd, 1) := by decide +kernel
theorem dX12_next0_97 : decode cX12_next0 97 = .ok (.putfield 367, 3) := by decide +kernel
theorem dX12_next0_100 : decode cX12_next0 100 = .ok (.goto (-24), 3) := by decide +kernel
theorem dX12_next0_103 : decode cX12_next0 103 = .ok (.aload_n 0, 1) := by decide +kernel
theorem dX12_next0_104 : decode cX12_next0 104 = .ok (.aload_n 0, 1) := by decide +kernel
theorem dX12_next0_105 : decode cX12_next0 105 = .ok (.invokevirtual 428, 3) := by decide +kernel
theorem dX12_next0_108 : decode cX12_next0 108 = .ok (.putfield 422, 3) := by decide +kernel
theorem dX12_next0_111 : decode cX12_next0 111 = .ok (.goto 192, 3) := by decide +kernel
theorem dX12_next0_114 : decode cX12_next0 114 = .ok (.iload_n 1, 1) := by decide +kernel
theorem dX12_next0_115 : decode cX12_next0 115 = .ok (.invokestatic 431, 3) := by decide +kernel
theorem dX12_next0_118 : decode cX12_next0 118 = .ok (.ifCond .eq 96, 3) := by decide +kernel
theorem dX12_next0_121 : decode cX12_next0 121 = .ok (.aload_n 0, 1) := by decide +kernel
theorem dX12_next0_122 : decode cX12_next0 122 = .ok (.iconst 0, 1) := by decide +kernel
theorem dX12_next0_123 : decode cX12_next0 123 = .ok (.putfield 434, 3) := by decide +kernel
theorem dX12_next0_126 : decode cX12_next0 126 = .ok (.aload_n 0, 1) := by decide +kernel
theorem dX12_next0_127 : decode cX12_next0 127 = .ok (.aload_n 0, 1) := by decide +kernel
theorem dX12_next0_128 : decode cX12_next0 128 = .ok (.getfield 367, 3) := by decide +kernel
theorem dX12_next0_131 : decode cX12_next0 131 = .ok (.invokevirtual 418, 3) := by decide +kernel
theorem dX12_next0_134 : decode cX12_next0 134 = .ok (.invokestatic 431, 3) := by decide +kernel
theorem dX12_next0_137 : decode cX12_next0 137 = .ok (.ifCond .eq 52, 3) := by decide +kernel
theorem dX12_next0_140 : decode cX12_next0 140 = .ok (.aload_n 0, 1) := by decide +kernel
theorem dX12_next0_141 : decode cX12_next0 141 = .ok (.getfield 367, 3) := by decide +kernel
theorem dX12_next0_144 : decode cX12_next0 144 = .ok (.aload_n 0, 1) := by decide +kernel
theorem dX12_next0_145 : decode cX12_next0 145 = .ok (.getfield 370, 3) := by decide +kernel
theorem dX12_next0_148 : decode cX12_next0 148 = .ok (.iconst 4, 1) := by decide +kernel
theorem dX12_next0_149 : decode cX12_next0 149 = .ok (.iadd, 1) := by decide +kernel
theorem dX12_next0_150 : decode cX12_next0 150 = .ok (.if_icmp .ge 26, 3) := by decide +kernel
theorem dX12_next0_153 : decode cX12_next0 153 = .ok (.aload_n 0, 1) := by decide +kernel
theorem dX12_next0_154 : decode cX12_next0 154 = .ok (.bipush 10, 2) := by decide +kernel
theorem dX12_next0_156 : decode cX12_next0 156 = .ok (.aload_n 0, 1) := by decide +kernel
theorem dX12_next0_157 : decode cX12_next0 157 = .ok (.getfield 434, 3) := by decide +kernel
theorem dX12_next0_160 : decode cX12_next0 160 = .ok (.imul, 1) := by decide +kernel
theorem dX12_next0_161 : decode cX12_next0 161 = .ok (.aload_n 0, 1) := by decide +kernel
theorem dX12_next0_162 : decode cX12_next0 162 = .ok (.aload_n 0, 1) := by decide +kernel
theorem dX12_next0_163 : decode cX12_next0 163 = .ok (.getfield 367, 3) := by decide +kernel
theorem dX12_next0_166 : decode cX12_next0 166 = .ok (.invokevirtual 418, 3) := by decide +kernel
theorem dX12_next0_169 : decode cX12_next0 169 = .ok (.iadd, 1) := by decide +kernel
theorem dX12_next0_170 : decode cX12_next0 170 = .ok (.bipush 48, 2) := by decide +kernel
theorem dX12_next0_172 : decode cX12_next0 172 = .ok (.isub, 1) := by decide +kernel
theorem dX12_next0_173 : decode cX12_next0 173 = .ok (.putfield 434, 3) := by decide +kernel
theorem dX12_next0_176 : decode cX12_next0 176 = .ok (.aload_n 0, 1) := by decide +kernel
theorem dX12_next0_177 : decode cX12_next0 177 = .ok (.dup, 1) := by decide +kernel
theorem dX12_next0_178 : decode cX12_next0 178 = .ok (.getfield 367, 3) := by decide +kernel
theorem dX12_next0_181 : decode cX12_next0 181 = .ok (.iconst 1, 1) := by decide +kernel
theorem dX12_next0_182 : decode cX12_next0 182 = .ok (.iadd, 1) := by decide +kernel
theorem dX12_next0_183 : decode cX12_next0 183 = .ok (.putfield 367, 3) := by decide +kernel
theorem dX12_next0_186 : decode cX12_next0 186 = .ok (.goto (-60), 3) := by decide +kernel
theorem dX12_next0_189 : decode cX12_next0 189 = .ok (.aload_n 0, 1) := by decide +kernel
theorem dX12_next0_190 : decode cX12_next0 190 = .ok (.aload_n 0, 1) := by decide +kernel
theorem dX12_next0_191 : decode cX12_next0 191 = .ok (.getfield 367, 3) := by decide +kernel
theorem dX12_next0_194 : decode cX12_next0 194 = .ok (.aload_n 0, 1) := by decide +kernel
theorem dX12_next0_195 : decode cX12_next0 195 = .ok (.getfield 370, 3) := by decide +kernel
theorem dX12_next0_198 : decode cX12_next0 198 = .ok (.isub, 1) := by decide +kernel
theorem dX12_next0_199 : decode cX12_next0 199 = .ok (.iconst 5, 1) := by decide +kernel
theorem dX12_next0_200 : decode cX12_next0 200 = .ok (.if_icmp .ge 7, 3) := by decide +kernel
theorem dX12_next0_203 : decode cX12_next0 203 = .ok (.iconst 2, 1) := by decide +kernel
theorem dX12_next0_204 : decode cX12_next0 204 = .ok (.goto 4, 3) := by decide +kernel
theorem dX12_next0_207 : decode cX12_next0 207 = .ok (.iconst 1, 1) := by decide +kernel
theorem dX12_next0_208 : decode cX12_next0 208 = .ok (.putfield 422, 3) := by decide +kernel
theorem dX12_next0_211 : decode cX12_next0 211 = .ok (.goto 92, 3) := by decide +kernel
theorem dX12_next0_214 : decode cX12_next0 214 = .ok (.aload_n 0, 1) := by decide +kernel
theorem dX12_next0_215 : decode cX12_next0 215 = .ok (.dup, 1) := by decide +kernel
theorem dX12_next0_216 : decode cX12_next0 216 = .ok (.getfield 367, 3) := by decide +kernel
theorem dX12_next0_219 : decode cX12_next0 219 = .ok (.iconst 1, 1) := by decide +kernel
theorem dX12_next0_220 : decode cX12_next0 220 = .ok (.iadd, 1) := by decide +kernel
theorem dX12_next0_221 : decode cX12_next0 221 = .ok (.putfield 367, 3) := by decide +kernel
theorem dX12_next0_224 : decode cX12_next0 224 = .ok (.iload_n 1, 1) := by decide +kernel
theorem dX12_next0_225 : decode cX12_next0 225 = .ok (.bipush 59, 2) := by decide +kernel
theorem dX12_next0_227 : decode cX12_next0 227 = .ok (.if_icmp .eq 57, 3) := by decide +kernel
theorem dX12_next0_230 : decode cX12_next0 230 = .ok (.iload_n 1, 1) := by decide +kernel
theorem dX12_next0_231 : decode cX12_next0 231 = .ok (.bipush 43, 2) := by decide +kernel
theorem dX12_next0_233 : decode cX12_next0 233 = .ok (.if_icmp .eq 51, 3) := by decide +kernel
theorem dX12_next0_236 : decode cX12_next0 236 = .ok (.iload_n 1, 1) := by decide +kernel
theorem dX12_next0_237 : decode cX12_next0 237 = .ok (.bipush 45, 2) := by decide +kernel
theorem dX12_next0_239 : decode cX12_next0 239 = .ok (.if_icmp .eq 45, 3) := by decide +kernel
theorem dX12_next0_242 : decode cX12_next0 242 = .ok (.iload_n 1, 1) := by decide +kernel
theorem dX12_next0_243 : decode cX12_next0 243 = .ok (.bipush 42, 2) := by decide +kernel
theorem dX12_next0_245 : decode cX12_next0 245 = .ok (.if_icmp .eq 39, 3) := by decide +kernel
theorem dX12_next0_248 : decode cX12_next0 248 = .ok (.iload_n 1, 1) := by decide +kernel
theorem dX12_next0_249 : decode cX12_next0 249 = .ok (.bipush 47, 2) := by decide +kernel
theorem dX12_next0_251 : decode cX12_next0 251 = .ok (.if_icmp .eq 33, 3) := by decide +kernel
theorem dX12_next0_254 : decode cX12_next0 254 = .ok (.iload_n 1, 1) := by decide +kernel
theorem dX12_next0_255 : decode cX12_next0 255 = .ok (.bipush 40, 2) := by decide +kernel
theorem dX12_next0_257 : decode cX12_next0 257 = .ok (.if_icmp .eq 27, 3) := by decide +kernel
theorem dX12_next0_260 : decode cX12_next0 260 = .ok (.iload_n 1, 1) := by decide +kernel
theorem dX12_next0_261 : decode cX12_next0 261 = .ok (.bipush 41, 2) := by decide +kernel
theorem dX12_next0_263 : decode cX12_next0 263 = .ok (.if_icmp .eq 21, 3) := by decide +kernel
theorem dX12_next0_266 : decode cX12_next0 266 = .ok (.iload_n 1, 1) := by decide +kernel
theorem dX12_next0_267 : decode cX12_next0 267 = .ok (.bipush 60, 2) := by decide +kernel
theorem dX12_next0_269 : decode cX12_next0 269 = .ok (.if_icmp .eq 15, 3) := by decide +kernel
theorem dX12_next0_272 : decode cX12_next0 272 = .ok (.iload_n 1, 1) := by decide +kernel
theorem dX12_next0_273 : decode cX12_next0 273 = .ok (.bipush 61, 2) := by decide +kernel
theorem dX12_next0_275 : decode cX12_next0 275 = .ok (.if_icmp .eq 9, 3) := by decide +kernel
theorem dX12_next0_278 : decode cX12_next0 278 = .ok (.iload_n 1, 1) := by decide +kernel
theorem dX12_next0_279 : decode cX12_next0 279 = .ok (.bipush 62, 2) := by decide +kernel
theorem dX12_next0_281 : decode cX12_next0 281 = .ok (.if_icmp .ne 7, 3) := by decide +kernel
theorem dX12_next0_284 : decode cX12_next0 284 = .ok (.iconst 1, 1) := by decide +kernel
theorem dX12_next0_285 : decode cX12_next0 285 = .ok (.goto 4, 3) := by decide +kernel
theorem dX12_next0_288 : decode cX12_next0 288 = .ok (.iconst 0, 1) := by decide +kernel
theorem dX12_next0_289 : decode cX12_next0 289 = .ok (.istore_n 2, 1) := by decide +kernel
theorem dX12_next0_290 : decode cX12_next0 290 = .ok (.aload_n 0, 1) := by decide +kernel
theorem dX12_next0_291 : decode cX12_next0 291 = .ok (.iload_n 2, 1) := by decide +kernel
theorem dX12_next0_292 : decode cX12_next0 292 = .ok (.ifCond .eq 7, 3) := by decide +kernel
theorem dX12_next0_295 : decode cX12_next0 295 = .ok (.iload_n 1, 1) := by decide +kernel
theorem dX12_next0_296 : decode cX12_next0 296 = .ok (.goto 4, 3) := by decide +kernel
theorem dX12_next0_299 : decode cX12_next0 299 = .ok (.iconst 1, 1) := by decide +kernel
theorem dX12_next0_300 : decode cX12_next0 300 = .ok (.putfield 422, 3) := by decide +kernel
theorem dX12_next0_303 : decode cX12_next0 303 = .ok (.return_, 1) := by decide +kernel
theorem dX12_bad_0 : decode cX12_bad 0 = .ok (.aload_n 0, 1) := by decide +kernel
theorem dX12_bad_1 : decode cX12_bad 1 = .ok (.iload_n 1, 1) := by decide +kernel
theorem dX12_bad_2 : decode cX12_bad 2 = .ok (.putfield 437, 3) := by decide +kernel
theorem dX12_bad_5 : decode cX12_bad 5 = .ok (.aload_n 0, 1) := by decide +kernel
theorem dX12_bad_6 : decode cX12_bad 6 = .ok (.aload_n 0, 1) := by decide +kernel
theorem dX12_bad_7 : decode cX12_bad 7 = .ok (.getfield 370, 3) := by decide +kernel
theorem dX12_bad_10 : decode cX12_bad 10 = .ok (.putfield 440, 3) := by decide +kernel
theorem dX12_bad_13 : decode cX12_bad 13 = .ok (.iconst 0, 1) := by decide +kernel
theorem dX12_bad_14 : decode cX12_bad 14 = .ok (.ireturn, 1) := by decide +kernel
theorem dX12_need_0 : decode cX12_need 0 = .ok (.aload_n 0, 1) := by decide +kernel
theorem dX12_need_1 : decode cX12_need 1 = .ok (.getfield 422, 3) := by decide +kernel
theorem dX12_need_4 : decode cX12_need 4 = .ok (.iload_n 1, 1) := by decide +kernel
theorem dX12_need_5 : decode cX12_need 5 = .ok (.if_icmp .eq 9, 3) := by decide +kernel
theorem dX12_need_8 : decode cX12_need 8 = .ok (.aload_n 0, 1) := by decide +kernel
theorem dX12_need_9 : decode cX12_need 9 = .ok (.iconst 1, 1) := by decide +kernel
theorem dX12_need_10 : decode cX12_need 10 = .ok (.invokevirtual 443, 3) := by decide +kernel
theorem dX12_need_13 : decode cX12_need 13 = .ok (.ireturn, 1) := by decide +kernel
theorem dX12_need_14 : decode cX12_need 14 = .ok (.aload_n 0, 1) := by decide +kernel
theorem dX12_need_15 : decode cX12_need 15 = .ok (.invokevirtual 446, 3) := by decide +kernel
theorem dX12_need_18 : decode cX12_need 18 = .ok (.iconst 1, 1) := by decide +kernel
theorem dX12_need_19 : decode cX12_need 19 = .ok (.ireturn, 1) := by decide +kernel
theorem dX12_aNumber_0 : decode cX12_aNumber 0 = .ok (.aload_n 0, 1) := by decide +kernel
theorem dX12_aNumber_1 : decode cX12_aNumber 1 = .ok (.getfield 422, 3) := by decide +kernel
theorem dX12_aNumber_4 : decode cX12_aNumber 4 = .ok (.iconst 2, 1) := by decide +kernel
theorem dX12_aNumber_5 : decode cX12_aNumber 5 = .ok (.if_icmp .eq 9, 3) := by decide +kernel
theorem dX12_aNumber_8 : decode cX12_aNumber 8 = .ok (.aload_n 0, 1) := by decide +kernel
theorem dX12_aNumber_9 : decode cX12_aNumber 9 = .ok (.iconst 1, 1) := by decide +kernel
theorem dX12_aNumber_10 : decode cX12_aNumber 10 = .ok (.invokevirtual 443, 3) := by decide +kernel
theorem dX12_aNumber_13 : decode cX12_aNumber 13 = .ok (.ireturn, 1) := by decide +kernel
theorem dX12_aNumber_14 : decode cX12_aNumber 14 = .ok (.aload_n 0, 1) := by decide +kernel
theorem dX12_aNumber_15 : decode cX12_aNumber 15 = .ok (.getfield 434, 3) := by decide +kernel
theorem dX12_aNumber_18 : decode cX12_aNumber 18 = .ok (.iload_n 1, 1) := by decide +kernel
theorem dX12_aNumber_19 : decode cX12_aNumber 19 = .ok (.if_icmp .le 9, 3) := by decide +kernel
theorem dX12_aNumber_22 : decode cX12_aNumber 22 = .ok (.aload_n 0, 1) := by decide +kernel
theorem dX12_aNumber_23 : decode cX12_aNumber 23 = .ok (.iconst 2, 1) := by decide +kernel
theorem dX12_aNumber_24 : decode cX12_aNumber 24 = .ok (.invokevirtual 443, 3) := by decide +kernel
theorem dX12_aNumber_27 : decode cX12_aNumber 27 = .ok (.ireturn, 1) := by decide +kernel
theorem dX12_aNumber_28 : decode cX12_aNumber 28 = .ok (.aload_n 0, 1) := by decide +kernel
theorem dX12_aNumber_29 : decode cX12_aNumber 29 = .ok (.aload_n 0, 1) := by decide +kernel
theorem dX12_aNumber_30 : decode cX12_aNumber 30 = .ok (.getfield 434, 3) := by decide +kernel
theorem dX12_aNumber_33 : decode cX12_aNumber 33 = .ok (.putfield 449, 3) := by decide +kernel
theorem dX12_aNumber_36 : decode cX12_aNumber 36 = .ok (.aload_n 0, 1) := by decide +kernel
theorem dX12_aNumber_37 : decode cX12_aNumber 37 = .ok (.invokevirtual 446, 3) := by decide +kernel
theorem dX12_aNumber_40 : decode cX12_aNumber 40 = .ok (.iconst 1, 1) := by decide +kernel
theorem dX12_aNumber_41 : decode cX12_aNumber 41 = .ok (.ireturn, 1) := by decide +kernel
theorem dX12_lay_0 : decode cX12_lay 0 = .ok (.aload_n 0, 1) := by decide +kernel
theorem dX12_lay_1 : decode cX12_lay 1 = .ok (.getfield 113, 3) := by decide +kernel
theorem dX12_lay_4 : decode cX12_lay 4 = .ok (.iconst 2, 1) := by decide +kernel
theorem dX12_lay_5 : decode cX12_lay 5 = .ok (.aload_n 0, 1) := by decide +kernel
theorem dX12_lay_6 : decode cX12_lay 6 = .ok (.getfield 452, 3) := by decide +kernel
theorem dX12_lay_9 : decode cX12_lay 9 = .ok (.imul, 1) := by decide +kernel
theorem dX12_lay_10 : decode cX12_lay 10 = .ok (.iload_n 1, 1) := by decide +kernel
theorem dX12_lay_11 : decode cX12_lay 11 = .ok (.iastore, 1) := by decide +kernel
theorem dX12_lay_12 : decode cX12_lay 12 = .ok (.aload_n 0, 1) := by decide +kernel
theorem dX12_lay_13 : decode cX12_lay 13 = .ok (.getfield 113, 3) := by decide +kernel
theorem dX12_lay_16 : decode cX12_lay 16 = .ok (.iconst 2, 1) := by decide +kernel
theorem dX12_lay_17 : decode cX12_lay 17 = .ok (.aload_n 0, 1) := by decide +kernel
theorem dX12_lay_18 : decode cX12_lay 18 = .ok (.getfield 452, 3) := by decide +kernel
theorem dX12_lay_21 : decode cX12_lay 21 = .ok (.imul, 1) := by decide +kernel
theorem dX12_lay_22 : decode cX12_lay 22 = .ok (.iconst 1, 1) := by decide +kernel
theorem dX12_lay_23 : decode cX12_lay 23 = .ok (.iadd, 1) := by decide +kernel
theorem dX12_lay_24 : decode cX12_lay 24 = .ok (.iload_n 2, 1) := by decide +kernel
theorem dX12_lay_25 : decode cX12_lay 25 = .ok (.iastore, 1) := by decide +kernel
theorem dX12_lay_26 : decode cX12_lay 26 = .ok (.aload_n 0, 1) := by decide +kernel
theorem dX12_lay_27 : decode cX12_lay 27 = .ok (.dup, 1) := by decide +kernel
theorem dX12_lay_28 : decode cX12_lay 28 = .ok (.getfield 452, 3) := by decide +kernel
theorem dX12_lay_31 : decode cX12_lay 31 = .ok (.iconst 1, 1) := by decide +kernel
theorem dX12_lay_32 : decode cX12_lay 32 = .ok (.iadd, 1) := by decide +kernel
theorem dX12_lay_33 : decode cX12_lay 33 = .ok (.putfield 452, 3) := by decide +kernel
theorem dX12_lay_36 : decode cX12_lay 36 = .ok (.return_, 1) := by decide +kernel
theorem dX12_opens_0 : decode cX12_opens 0 = .ok (.aload_n 0, 1) := by decide +kernel
theorem dX12_opens_1 : decode cX12_opens 1 = .ok (.getfield 455, 3) := by decide +kernel
theorem dX12_opens_4 : decode cX12_opens 4 = .ok (.bipush 8, 2) := by decide +kernel
theorem dX12_opens_6 : decode cX12_opens 6 = .ok (.if_icmp .ne 9, 3) := by decide +kernel
theorem dX12_opens_9 : decode cX12_opens 9 = .ok (.aload_n 0, 1) := by decide +kernel
theorem dX12_opens_10 : decode cX12_opens 10 = .ok (.iconst 3, 1) := by decide +kernel
theorem dX12_opens_11 : decode cX12_opens 11 = .ok (.invokevirtual 443, 3) := by decide +kernel
theorem dX12_opens_14 : decode cX12_opens 14 = .ok (.ireturn, 1) := by decide +kernel
theorem dX12_opens_15 : decode cX12_opens 15 = .ok (.aload_n 0, 1) := by decide +kernel
theorem dX12_opens_16 : decode cX12_opens 16 = .ok (.dup, 1) := by decide +kernel
theorem dX12_opens_17 : decode cX12_opens 17 = .ok (.getfield 455, 3) := by decide +kernel
theorem dX12_opens_20 : decode cX12_opens 20 = .ok (.iconst 1, 1) := by decide +kernel
theorem dX12_opens_21 : decode cX12_opens 21 = .ok (.iadd, 1) := by decide +kernel
theorem dX12_opens_22 : decode cX12_opens 22 = .ok (.putfield 455, 3) := by decide +kernel
theorem dX12_opens_25 : decode cX12_opens 25 = .ok (.aload_n 0, 1) := by decide +kernel
theorem dX12_opens_26 : decode cX12_opens 26 = .ok (.invokevirtual 446, 3) := by decide +kernel
theorem dX12_opens_29 : decode cX12_opens 29 = .ok (.iconst 1, 1) := by decide +kernel
theorem dX12_opens_30 : decode cX12_opens 30 = .ok (.ireturn, 1) := by decide +kernel
theorem dX12_sumOf_0 : decode cX12_sumOf 0 = .ok (.aload_n 0, 1) := by decide +kernel
theorem dX12_sumOf_1 : decode cX12_sumOf 1 = .ok (.invokevirtual 458, 3) := by decide +kernel
theorem dX12_sumOf_4 : decode cX12_sumOf 4 = .ok (.ifCond .ne 5, 3) := by decide +kernel
theorem dX12_sumOf_7 : decode cX12_sumOf 7 = .ok (.iconst 0, 1) := by decide +kernel
theorem dX12_sumOf_8 : decode cX12_sumOf 8 = .ok (.ireturn, 1) := by decide +kernel
theorem dX12_sumOf_9 : decode cX12_sumOf 9 = .ok (.aload_n 0, 1) := by decide +kernel
theorem dX12_sumOf_10 : decode cX12_sumOf 10 = .ok (.getfield 422, 3) := by decide +kernel
theorem dX12_sumOf_13 : decode cX12_sumOf 13 = .ok (.bipush 43, 2) := by decide +kernel
theorem dX12_sumOf_15 : decode cX12_sumOf 15 = .ok (.if_icmp .eq 12, 3) := by decide +kernel
theorem dX12_sumOf_18 : decode cX12_sumOf 18 = .ok (.aload_n 0, 1) := by decide +kernel
theorem dX12_sumOf_19 : decode cX12_sumOf 19 = .ok (.getfield 422, 3) := by decide +kernel
theorem dX12_sumOf_22 : decode cX12_sumOf 22 = .ok (.bipush 45, 2) := by decide +kernel
theorem dX12_sumOf_24 : decode cX12_sumOf 24 = .ok (.if_icmp .ne 42, 3) := by decide +kernel
theorem dX12_sumOf_27 : decode cX12_sumOf 27 = .ok (.aload_n 0, 1) := by decide +kernel
theorem dX12_sumOf_28 : decode cX12_sumOf 28 = .ok (.getfield 422, 3) := by decide +kernel
theorem dX12_sumOf_31 : decode cX12_sumOf 31 = .ok (.bipush 43, 2) := by decide +kernel
theorem dX12_sumOf_33 : decode cX12_sumOf 33 = .ok (.if_icmp .ne 8, 3) := by decide +kernel
theorem dX12_sumOf_36 : decode cX12_sumOf 36 = .ok (.bipush 8, 2) := by decide +kernel
theorem dX12_sumOf_38 : decode cX12_sumOf 38 = .ok (.goto 5, 3) := by decide +kernel
theorem dX12_sumOf_41 : decode cX12_sumOf 41 = .ok (.bipush 9, 2) := by decide +kernel
theorem dX12_sumOf_43 : decode cX12_sumOf 43 = .ok (.istore_n 1, 1) := by decide +kernel
theorem dX12_sumOf_44 : decode cX12_sumOf 44 = .ok (.aload_n 0, 1) := by decide +kernel
theorem dX12_sumOf_45 : decode cX12_sumOf 45 = .ok (.invokevirtual 446, 3) := by decide +kernel
theorem dX12_sumOf_48 : decode cX12_sumOf 48 = .ok (.aload_n 0, 1) := by decide +kernel
theorem dX12_sumOf_49 : decode cX12_sumOf 49 = .ok (.invokevirtual 458, 3) := by decide +kernel
theorem dX12_sumOf_52 : decode cX12_sumOf 52 = .ok (.ifCond .ne 5, 3) := by decide +kernel
theorem dX12_sumOf_55 : decode cX12_sumOf 55 = .ok (.iconst 0, 1) := by decide +kernel
theorem dX12_sumOf_56 : decode cX12_sumOf 56 = .ok (.ireturn, 1) := by decide +kernel
theorem dX12_sumOf_57 : decode cX12_sumOf 57 = .ok (.aload_n 0, 1) := by decide +kernel
theorem dX12_sumOf_58 : decode cX12_sumOf 58 = .ok (.iload_n 1, 1) := by decide +kernel
theorem dX12_sumOf_59 : decode cX12_sumOf 59 = .ok (.iconst 0, 1) := by decide +kernel
theorem dX12_sumOf_60 : decode cX12_sumOf 60 = .ok (.invokevirtual 462, 3) := by decide +kernel
theorem dX12_sumOf_63 : decode cX12_sumOf 63 = .ok (.goto (-54), 3) := by decide +kernel
theorem dX12_sumOf_66 : decode cX12_sumOf 66 = .ok (.iconst 1, 1) := by decide +kernel
theorem dX12_sumOf_67 : decode cX12_sumOf 67 = .ok (.ireturn, 1) := by decide +kernel
theorem dX12_product_0 : decode cX12_product 0 = .ok (.aload_n 0, 1) := by decide +kernel
theorem dX12_product_1 : decode cX12_product 1 = .ok (.invokevirtual 465, 3) := by decide +kernel
theorem dX12_product_4 : decode cX12_product 4 = .ok (.ifCond .ne 5, 3) := by decide +kernel
theorem dX12_product_7 : decode cX12_product 7 = .ok (.iconst 0, 1) := by decide +kernel
theorem dX12_product_8 : decode cX12_product 8 = .ok (.ireturn, 1) := by decide +kernel
theorem dX12_product_9 : decode cX12_product 9 = .ok (.aload_n 0, 1) := by decide +kernel
theorem dX12_product_10 : decode cX12_product 10 = .ok (.getfield 422, 3) := by decide +kernel
theorem dX12_product_13 : decode cX12_product 13 = .ok (.bipush 42, 2) := by decide +kernel
theorem dX12_product_15 : decode cX12_product 15 = .ok (.if_icmp .eq 12, 3) := by decide +kernel
theorem dX12_product_18 : decode cX12_product 18 = .ok (.aload_n 0, 1) := by decide +kernel
theorem dX12_product_19 : decode cX12_product 19 = .ok (.getfield 422, 3) := by decide +kernel
theorem dX12_product_22 : decode cX12_product 22 = .ok (.bipush 47, 2) := by decide +kernel
theorem dX12_product_24 : decode cX12_product 24 = .ok (.if_icmp .ne 89, 3) := by decide +kernel
theorem dX12_product_27 : decode cX12_product 27 = .ok (.aload_n 0, 1) := by decide +kernel
theorem dX12_product_28 : decode cX12_product 28 = .ok (.getfield 422, 3) := by decide +kernel
theorem dX12_product_31 : decode cX12_product 31 = .ok (.bipush 47, 2) := by decide +kernel
theorem dX12_product_33 : decode cX12_product 33 = .ok (.if_icmp .ne 7, 3) := by decide +kernel
theorem dX12_product_36 : decode cX12_product 36 = .ok (.iconst 1, 1) := by decide +kernel
theorem dX12_product_37 : decode cX12_product 37 = .ok (.goto 4, 3) := by decide +kernel
theorem dX12_product_40 : decode cX12_product 40 = .ok (.iconst 0, 1) := by decide +kernel
theorem dX12_product_41 : decode cX12_product 41 = .ok (.istore_n 1, 1) := by decide +kernel
theorem dX12_product_42 : decode cX12_product 42 = .ok (.aload_n 0, 1) := by decide +kernel
theorem dX12_product_43 : decode cX12_product 43 = .ok (.invokevirtual 446, 3) := by decide +kernel
theorem dX12_product_46 : decode cX12_product 46 = .ok (.iload_n 1, 1) := by decide +kernel
theorem dX12_product_47 : decode cX12_product 47 = .ok (.ifCond .eq 47, 3) := by decide +kernel
theorem dX12_product_50 : decode cX12_product 50 = .ok (.aload_n 0, 1) := by decide +kernel
theorem dX12_product_51 : decode cX12_product 51 = .ok (.getfield 422, 3) := by decide +kernel
theorem dX12_product_54 : decode cX12_product 54 = .ok (.iconst 2, 1) := by decide +kernel
theorem dX12_product_55 : decode cX12_product 55 = .ok (.if_icmp .eq 9, 3) := by decide +kernel
theorem dX12_product_58 : decode cX12_product 58 = .ok (.aload_n 0, 1) := by decide +kernel
theorem dX12_product_59 : decode cX12_product 59 = .ok (.iconst 1, 1) := by decide +kernel
theorem dX12_product_60 : decode cX12_product 60 = .ok (.invokevirtual 443, 3) := by decide +kernel
theorem dX12_product_63 : decode cX12_product 63 = .ok (.ireturn, 1) := by decide +kernel
theorem dX12_product_64 : decode cX12_product 64 = .ok (.aload_n 0, 1) := by decide +kernel
theorem dX12_product_65 : decode cX12_product 65 = .ok (.getfield 434, 3) := by decide +kernel
theorem dX12_product_68 : decode cX12_product 68 = .ok (.ifCond .ne 9, 3) := by decide +kernel
theorem dX12_product_71 : decode cX12_product 71 = .ok (.aload_n 0, 1) := by decide +kernel
theorem dX12_product_72 : decode cX12_product 72 = .ok (.iconst 2, 1) := by decide +kernel
theorem dX12_product_73 : decode cX12_product 73 = .ok (.invokevirtual 443, 3) := by decide +kernel
theorem dX12_product_76 : decode cX12_product 76 = .ok (.ireturn, 1) := by decide +kernel
theorem dX12_product_77 : decode cX12_product 77 = .ok (.aload_n 0, 1) := by decide +kernel
theorem dX12_product_78 : decode cX12_product 78 = .ok (.bipush 11, 2) := by decide +kernel
theorem dX12_product_80 : decode cX12_product 80 = .ok (.aload_n 0, 1) := by decide +kernel
theorem dX12_product_81 : decode cX12_product 81 = .ok (.getfield 434, 3) := by decide +kernel
theorem dX12_product_84 : decode cX12_product 84 = .ok (.invokevirtual 462, 3) := by decide +kernel
theorem dX12_product_87 : decode cX12_product 87 = .ok (.aload_n 0, 1) := by decide +kernel
theorem dX12_product_88 : decode cX12_product 88 = .ok (.invokevirtual 446, 3) := by decide +kernel
theorem dX12_product_91 : decode cX12_product 91 = .ok (.goto 19, 3) := by decide +kernel
theorem dX12_product_94 : decode cX12_product 94 = .ok (.aload_n 0, 1) := by decide +kernel
theorem dX12_product_95 : decode cX12_product 95 = .ok (.invokevirtual 465, 3) := by decide +kernel
theorem dX12_product_98 : decode cX12_product 98 = .ok (.ifCond .ne 5, 3) := by decide +kernel
theorem dX12_product_101 : decode cX12_product 101 = .ok (.iconst 0, 1) := by decide +kernel
theorem dX12_product_102 : decode cX12_product 102 = .ok (.ireturn, 1) := by decide +kernel
theorem dX12_product_103 : decode cX12_product 103 = .ok (.aload_n 0, 1) := by decide +kernel
theorem dX12_product_104 : decode cX12_product 104 = .ok (.bipush 10, 2) := by decide +kernel
theorem dX12_product_106 : decode cX12_product 106 = .ok (.iconst 0, 1) := by decide +kernel
theorem dX12_product_107 : decode cX12_product 107 = .ok (.invokevirtual 462, 3) := by decide +kernel
theorem dX12_product_110 : decode cX12_product 110 = .ok (.goto (-101), 3) := by decide +kernel
theorem dX12_product_113 : decode cX12_product 113 = .ok (.iconst 1, 1) := by decide +kernel
theorem dX12_product_114 : decode cX12_product 114 = .ok (.ireturn, 1) := by decide +kernel
theorem dX12_unit_0 : decode cX12_unit 0 = .ok (.aload_n 0, 1) := by decide +kernel
theorem dX12_unit_1 : decode cX12_unit 1 = .ok (.getfield 422, 3) := by decide +kernel
theorem dX12_unit_4 : decode cX12_unit 4 = .ok (.bipush 40, 2) := by decide +kernel
theorem dX12_unit_6 : decode cX12_unit 6 = .ok (.if_icmp .ne 40, 3) := by decide +kernel
theorem dX12_unit_9 : decode cX12_unit 9 = .ok (.aload_n 0, 1) := by decide +kernel
theorem dX12_unit_10 : decode cX12_unit 10 = .ok (.invokevirtual 468, 3) := by decide +kernel
theorem dX12_unit_13 : decode cX12_unit 13 = .ok (.ifCond .eq 19, 3) := by decide +kernel
theorem dX12_unit_16 : decode cX12_unit 16 = .ok (.aload_n 0, 1) := by decide +kernel
theorem dX12_unit_17 : decode cX12_unit 17 = .ok (.invokevirtual 471, 3) := by decide +kernel
theorem dX12_unit_20 : decode cX12_unit 20 = .ok (.ifCond .eq 12, 3) := by decide +kernel
theorem dX12_unit_23 : decode cX12_unit 23 = .ok (.aload_n 0, 1) := by decide +kernel
theorem dX12_unit_24 : decode cX12_unit 24 = .ok (.bipush 41, 2) := by decide +kernel
theorem dX12_unit_26 : decode cX12_unit 26 = .ok (.invokevirtual 474, 3) := by decide +kernel
theorem dX12_unit_29 : decode cX12_unit 29 = .ok (.ifCond .ne 5, 3) := by decide +kernel
theorem dX12_unit_32 : decode cX12_unit 32 = .ok (.iconst 0, 1) := by decide +kernel
theorem dX12_unit_33 : decode cX12_unit 33 = .ok (.ireturn, 1) := by decide +kernel
theorem dX12_unit_34 : decode cX12_unit 34 = .ok (.aload_n 0, 1) := by decide +kernel
theorem dX12_unit_35 : decode cX12_unit 35 = .ok (.dup, 1) := by decide +kernel
theorem dX12_unit_36 : decode cX12_unit 36 = .ok (.getfield 455, 3) := by decide +kernel
theorem dX12_unit_39 : decode cX12_unit 39 = .ok (.iconst 1, 1) := by decide +kernel
theorem dX12_unit_40 : decode cX12_unit 40 = .ok (.isub, 1) := by decide +kernel
theorem dX12_unit_41 : decode cX12_unit 41 = .ok (.putfield 455, 3) := by decide +kernel
theorem dX12_unit_44 : decode cX12_unit 44 = .ok (.iconst 1, 1) := by decide +kernel
theorem dX12_unit_45 : decode cX12_unit 45 = .ok (.ireturn, 1) := by decide +kernel
theorem dX12_unit_46 : decode cX12_unit 46 = .ok (.aload_n 0, 1) := by decide +kernel
theorem dX12_unit_47 : decode cX12_unit 47 = .ok (.getfield 422, 3) := by decide +kernel
theorem dX12_unit_50 : decode cX12_unit 50 = .ok (.iconst 2, 1) := by decide +kernel
theorem dX12_unit_51 : decode cX12_unit 51 = .ok (.if_icmp .eq 19, 3) := by decide +kernel
theorem dX12_unit_54 : decode cX12_unit 54 = .ok (.aload_n 0, 1) := by decide +kernel
theorem dX12_unit_55 : decode cX12_unit 55 = .ok (.getfield 422, 3) := by decide +kernel
theorem dX12_unit_58 : decode cX12_unit 58 = .ok (.sipush 201, 3) := by decide +kernel
theorem dX12_unit_61 : decode cX12_unit 61 = .ok (.if_icmp .ge 9, 3) := by decide +kernel
theorem dX12_unit_64 : decode cX12_unit 64 = .ok (.aload_n 0, 1) := by decide +kernel
theorem dX12_unit_65 : decode cX12_unit 65 = .ok (.iconst 1, 1) := by decide +kernel
theorem dX12_unit_66 : decode cX12_unit 66 = .ok (.invokevirtual 443, 3) := by decide +kernel
theorem dX12_unit_69 : decode cX12_unit 69 = .ok (.ireturn, 1) := by decide +kernel
theorem dX12_unit_70 : decode cX12_unit 70 = .ok (.aload_n 0, 1) := by decide +kernel
theorem dX12_unit_71 : decode cX12_unit 71 = .ok (.aload_n 0, 1) := by decide +kernel
theorem dX12_unit_72 : decode cX12_unit 72 = .ok (.getfield 422, 3) := by decide +kernel
theorem dX12_unit_75 : decode cX12_unit 75 = .ok (.iconst 2, 1) := by decide +kernel
theorem dX12_unit_76 : decode cX12_unit 76 = .ok (.if_icmp .ne 7, 3) := by decide +kernel
theorem dX12_unit_79 : decode cX12_unit 79 = .ok (.iconst 0, 1) := by decide +kernel
theorem dX12_unit_80 : decode cX12_unit 80 = .ok (.goto 13, 3) := by decide +kernel
theorem dX12_unit_83 : decode cX12_unit 83 = .ok (.iconst 1, 1) := by decide +kernel
theorem dX12_unit_84 : decode cX12_unit 84 = .ok (.aload_n 0, 1) := by decide +kernel
theorem dX12_unit_85 : decode cX12_unit 85 = .ok (.getfield 422, 3) := by decide +kernel
theorem dX12_unit_88 : decode cX12_unit 88 = .ok (.iadd, 1) := by decide +kernel
theorem dX12_unit_89 : decode cX12_unit 89 = .ok (.sipush 201, 3) := by decide +kernel
theorem dX12_unit_92 : decode cX12_unit 92 = .ok (.isub, 1) := by decide +kernel
theorem dX12_unit_93 : decode cX12_unit 93 = .ok (.aload_n 0, 1) := by decide +kernel
theorem dX12_unit_94 : decode cX12_unit 94 = .ok (.getfield 434, 3) := by decide +kernel
theorem dX12_unit_97 : decode cX12_unit 97 = .ok (.invokevirtual 462, 3) := by decide +kernel
theorem dX12_unit_100 : decode cX12_unit 100 = .ok (.aload_n 0, 1) := by decide +kernel
theorem dX12_unit_101 : decode cX12_unit 101 = .ok (.invokevirtual 446, 3) := by decide +kernel
theorem dX12_unit_104 : decode cX12_unit 104 = .ok (.iconst 1, 1) := by decide +kernel
theorem dX12_unit_105 : decode cX12_unit 105 = .ok (.ireturn, 1) := by decide +kernel
theorem dX12_any_0 : decode cX12_any 0 = .ok (.aload_n 0, 1) := by decide +kernel
theorem dX12_any_1 : decode cX12_any 1 = .ok (.invokevirtual 477, 3) := by decide +kernel
theorem dX12_any_4 : decode cX12_any 4 = .ok (.ifCond .ne 5, 3) := by decide +kernel
theorem dX12_any_7 : decode cX12_any 7 = .ok (.iconst 0, 1) := by decide +kernel
theorem dX12_any_8 : decode cX12_any 8 = .ok (.ireturn, 1) := by decide +kernel
theorem dX12_any_9 : decode cX12_any 9 = .ok (.aload_n 0, 1) := by decide +kernel
theorem dX12_any_10 : decode cX12_any 10 = .ok (.getfield 422, 3) := by decide +kernel
theorem dX12_any_13 : decode cX12_any 13 = .ok (.bipush 11, 2) := by decide +kernel
theorem dX12_any_15 : decode cX12_any 15 = .ok (.if_icmp .ne 26, 3) := by decide +kernel
theorem dX12_any_18 : decode cX12_any 18 = .ok (.aload_n 0, 1) := by decide +kernel
theorem dX12_any_19 : decode cX12_any 19 = .ok (.invokevirtual 446, 3) := by decide +kernel
theorem dX12_any_22 : decode cX12_any 22 = .ok (.aload_n 0, 1) := by decide +kernel
theorem dX12_any_23 : decode cX12_any 23 = .ok (.invokevirtual 477, 3) := by decide +kernel
theorem dX12_any_26 : decode cX12_any 26 = .ok (.ifCond .ne 5, 3) := by decide +kernel
theorem dX12_any_29 : decode cX12_any 29 = .ok (.iconst 0, 1) := by decide +kernel
theorem dX12_any_30 : decode cX12_any 30 = .ok (.ireturn, 1) := by decide +kernel
theorem dX12_any_31 : decode cX12_any 31 = .ok (.aload_n 0, 1) := by decide +kernel
theorem dX12_any_32 : decode cX12_any 32 = .ok (.bipush 17, 2) := by decide +kernel
theorem dX12_any_34 : decode cX12_any 34 = .ok (.iconst 0, 1) := by decide +kernel
theorem dX12_any_35 : decode cX12_any 35 = .ok (.invokevirtual 462, 3) := by decide +kernel
theorem dX12_any_38 : decode cX12_any 38 = .ok (.goto (-29), 3) := by decide +kernel
theorem dX12_any_41 : decode cX12_any 41 = .ok (.iconst 1, 1) := by decide +kernel
theorem dX12_any_42 : decode cX12_any 42 = .ok (.ireturn, 1) := by decide +kernel
theorem dX12_all_0 : decode cX12_all 0 = .ok (.aload_n 0, 1) := by decide +kernel
theorem dX12_all_1 : decode cX12_all 1 = .ok (.invokevirtual 480, 3) := by decide +kernel
theorem dX12_all_4 : decode cX12_all 4 = .ok (.ifCond .ne 5, 3) := by decide +kernel
theorem dX12_all_7 : decode cX12_all 7 = .ok (.iconst 0, 1) := by decide +kernel
theorem dX12_all_8 : decode cX12_all 8 = .ok (.ireturn, 1) := by decide +kernel
theorem dX12_all_9 : decode cX12_all 9 = .ok (.aload_n 0, 1) := by decide +kernel
theorem dX12_all_10 : decode cX12_all 10 = .ok (.getfield 422, 3) := by decide +kernel
theorem dX12_all_13 : decode cX12_all 13 = .ok (.bipush 12, 2) := by decide +kernel
theorem dX12_all_15 : decode cX12_all 15 = .ok (.if_icmp .ne 26, 3) := by decide +kernel
theorem dX12_all_18 : decode cX12_all 18 = .ok (.aload_n 0, 1) := by decide +kernel
theorem dX12_all_19 : decode cX12_all 19 = .ok (.invokevirtual 446, 3) := by decide +kernel
theorem dX12_all_22 : decode cX12_all 22 = .ok (.aload_n 0, 1) := by decide +kernel
theorem dX12_all_23 : decode cX12_all 23 = .ok (.invokevirtual 480, 3) := by decide +kernel
theorem dX12_all_26 : decode cX12_all 26 = .ok (.ifCond .ne 5, 3) := by decide +kernel
theorem dX12_all_29 : decode cX12_all 29 = .ok (.iconst 0, 1) := by decide +kernel
theorem dX12_all_30 : decode cX12_all 30 = .ok (.ireturn, 1) := by decide +kernel
theorem dX12_all_31 : decode cX12_all 31 = .ok (.aload_n 0, 1) := by decide +kernel
theorem dX12_all_32 : decode cX12_all 32 = .ok (.bipush 16, 2) := by decide +kernel
theorem dX12_all_34 : decode cX12_all 34 = .ok (.iconst 0, 1) := by decide +kernel
theorem dX12_all_35 : decode cX12_all 35 = .ok (.invokevirtual 462, 3) := by decide +kernel
theorem dX12_all_38 : decode cX12_all 38 = .ok (.goto (-29), 3) := by decide +kernel
theorem dX12_all_41 : decode cX12_all 41 = .ok (.iconst 1, 1) := by decide +kernel
theorem dX12_all_42 : decode cX12_all 42 = .ok (.ireturn, 1) := by decide +kernel
theorem dX12_one_0 : decode cX12_one 0 = .ok (.aload_n 0, 1) := by decide +kernel
theorem dX12_one_1 : decode cX12_one 1 = .ok (.getfield 422, 3) := by decide +kernel
theorem dX12_one_4 : decode cX12_one 4 = .ok (.bipush 13, 2) := by decide +kernel
theorem dX12_one_6 : decode cX12_one 6 = .ok (.if_icmp .ne 38, 3) := by decide +kernel
theorem dX12_one_9 : decode cX12_one 9 = .ok (.aload_n 0, 1) := by decide +kernel
theorem dX12_one_10 : decode cX12_one 10 = .ok (.invokevirtual 468, 3) := by decide +kernel
theorem dX12_one_13 : decode cX12_one 13 = .ok (.ifCond .eq 10, 3) := by decide +kernel
theorem dX12_one_16 : decode cX12_one 16 = .ok (.aload_n 0, 1) := by decide +kernel
theorem dX12_one_17 : decode cX12_one 17 = .ok (.invokevirtual 480, 3) := by decide +kernel
theorem dX12_one_20 : decode cX12_one 20 = .ok (.ifCond .ne 5, 3) := by decide +kernel
theorem dX12_one_23 : decode cX12_one 23 = .ok (.iconst 0, 1) := by decide +kernel
theorem dX12_one_24 : decode cX12_one 24 = .ok (.ireturn, 1) := by decide +kernel
theorem dX12_one_25 : decode cX12_one 25 = .ok (.aload_n 0, 1) := by decide +kernel
theorem dX12_one_26 : decode cX12_one 26 = .ok (.dup, 1) := by decide +kernel
theorem dX12_one_27 : decode cX12_one 27 = .ok (.getfield 455, 3) := by decide +kernel
theorem dX12_one_30 : decode cX12_one 30 = .ok (.iconst 1, 1) := by decide +kernel
theorem dX12_one_31 : decode cX12_one 31 = .ok (.isub, 1) := by decide +kernel
theorem dX12_one_32 : decode cX12_one 32 = .ok (.putfield 455, 3) := by decide +kernel
theorem dX12_one_35 : decode cX12_one 35 = .ok (.aload_n 0, 1) := by decide +kernel
theorem dX12_one_36 : decode cX12_one 36 = .ok (.bipush 15, 2) := by decide +kernel
theorem dX12_one_38 : decode cX12_one 38 = .ok (.iconst 0, 1) := by decide +kernel
theorem dX12_one_39 : decode cX12_one 39 = .ok (.invokevirtual 462, 3) := by decide +kernel
theorem dX12_one_42 : decode cX12_one 42 = .ok (.iconst 1, 1) := by decide +kernel
theorem dX12_one_43 : decode cX12_one 43 = .ok (.ireturn, 1) := by decide +kernel
theorem dX12_one_44 : decode cX12_one 44 = .ok (.aload_n 0, 1) := by decide +kernel
theorem dX12_one_45 : decode cX12_one 45 = .ok (.invokevirtual 471, 3) := by decide +kernel
theorem dX12_one_48 : decode cX12_one 48 = .ok (.ifCond .ne 5, 3) := by decide +kernel
theorem dX12_one_51 : decode cX12_one 51 = .ok (.iconst 0, 1) := by decide +kernel
theorem dX12_one_52 : decode cX12_one 52 = .ok (.ireturn, 1) := by decide +kernel
theorem dX12_one_53 : decode cX12_one 53 = .ok (.aload_n 0, 1) := by decide +kernel
theorem dX12_one_54 : decode cX12_one 54 = .ok (.getfield 422, 3) := by decide +kernel
theorem dX12_one_57 : decode cX12_one 57 = .ok (.bipush 60, 2) := by decide +kernel
theorem dX12_one_59 : decode cX12_one 59 = .ok (.if_icmp .ne 8, 3) := by decide +kernel
theorem dX12_one_62 : decode cX12_one 62 = .ok (.bipush 12, 2) := by decide +kernel
theorem dX12_one_64 : decode cX12_one 64 = .ok (.goto 32, 3) := by decide +kernel
theorem dX12_one_67 : decode cX12_one 67 = .ok (.aload_n 0, 1) := by decide +kernel
theorem dX12_one_68 : decode cX12_one 68 = .ok (.getfield 422, 3) := by decide +kernel
theorem dX12_one_71 : decode cX12_one 71 = .ok (.bipush 61, 2) := by decide +kernel
theorem dX12_one_73 : decode cX12_one 73 = .ok (.if_icmp .ne 8, 3) := by decide +kernel
theorem dX12_one_76 : decode cX12_one 76 = .ok (.bipush 13, 2) := by decide +kernel
theorem dX12_one_78 : decode cX12_one 78 = .ok (.goto 18, 3) := by decide +kernel
theorem dX12_one_81 : decode cX12_one 81 = .ok (.aload_n 0, 1) := by decide +kernel
theorem dX12_one_82 : decode cX12_one 82 = .ok (.getfield 422, 3) := by decide +kernel
theorem dX12_one_85 : decode cX12_one 85 = .ok (.bipush 62, 2) := by decide +kernel
theorem dX12_one_87 : decode cX12_one 87 = .ok (.if_icmp .ne 8, 3) := by decide +kernel
theorem dX12_one_90 : decode cX12_one 90 = .ok (.bipush 14, 2) := by decide +kernel
theorem dX12_one_92 : decode cX12_one 92 = .ok (.goto 4, 3) := by decide +kernel
theorem dX12_one_95 : decode cX12_one 95 = .ok (.iconst (-1), 1) := by decide +kernel
theorem dX12_one_96 : decode cX12_one 96 = .ok (.istore_n 1, 1) := by decide +kernel
theorem dX12_one_97 : decode cX12_one 97 = .ok (.iload_n 1, 1) := by decide +kernel
theorem dX12_one_98 : decode cX12_one 98 = .ok (.iconst (-1), 1) := by decide +kernel
theorem dX12_one_99 : decode cX12_one 99 = .ok (.if_icmp .ne 9, 3) := by decide +kernel
theorem dX12_one_102 : decode cX12_one 102 = .ok (.aload_n 0, 1) := by decide +kernel
theorem dX12_one_103 : decode cX12_one 103 = .ok (.iconst 1, 1) := by decide +kernel
theorem dX12_one_104 : decode cX12_one 104 = .ok (.invokevirtual 443, 3) := by decide +kernel
theorem dX12_one_107 : decode cX12_one 107 = .ok (.ireturn, 1) := by decide +kernel
theorem dX12_one_108 : decode cX12_one 108 = .ok (.aload_n 0, 1) := by decide +kernel
theorem dX12_one_109 : decode cX12_one 109 = .ok (.invokevirtual 446, 3) := by decide +kernel
theorem dX12_one_112 : decode cX12_one 112 = .ok (.aload_n 0, 1) := by decide +kernel
theorem dX12_one_113 : decode cX12_one 113 = .ok (.invokevirtual 471, 3) := by decide +kernel
theorem dX12_one_116 : decode cX12_one 116 = .ok (.ifCond .ne 5, 3) := by decide +kernel
theorem dX12_one_119 : decode cX12_one 119 = .ok (.iconst 0, 1) := by decide +kernel
theorem dX12_one_120 : decode cX12_one 120 = .ok (.ireturn, 1) := by decide +kernel
theorem dX12_one_121 : decode cX12_one 121 = .ok (.aload_n 0, 1) := by decide +kernel
theorem dX12_one_122 : decode cX12_one 122 = .ok (.iload_n 1, 1) := by decide +kernel
theorem dX12_one_123 : decode cX12_one 123 = .ok (.iconst 0, 1) := by decide +kernel
theorem dX12_one_124 : decode cX12_one 124 = .ok (.invokevirtual 462, 3) := by decide +kernel
theorem dX12_one_127 : decode cX12_one 127 = .ok (.iconst 1, 1) := by decide +kernel
theorem dX12_one_128 : decode cX12_one 128 = .ok (.ireturn, 1) := by decide +kernel
theorem dX12_aCharge_0 : decode cX12_aCharge 0 = .ok (.aload_n 0, 1) := by decide +kernel
theorem dX12_aCharge_1 : decode cX12_aCharge 1 = .ok (.getfield 107, 3) := by decide +kernel
theorem dX12_aCharge_4 : decode cX12_aCharge 4 = .ok (.aload_n 0, 1) := by decide +kernel
theorem dX12_aCharge_5 : decode cX12_aCharge 5 = .ok (.getfield 483, 3) := by decide +kernel
theorem dX12_aCharge_8 : decode cX12_aCharge 8 = .ok (.aload_n 0, 1) := by decide +kernel
theorem dX12_aCharge_9 : decode cX12_aCharge 9 = .ok (.getfield 452, 3) := by decide +kernel
theorem dX12_aCharge_12 : decode cX12_aCharge 12 = .ok (.iastore, 1) := by decide +kernel
theorem dX12_aCharge_13 : decode cX12_aCharge 13 = .ok (.aload_n 0, 1) := by decide +kernel
theorem dX12_aCharge_14 : decode cX12_aCharge 14 = .ok (.invokevirtual 471, 3) := by decide +kernel
theorem dX12_aCharge_17 : decode cX12_aCharge 17 = .ok (.ifCond .ne 5, 3) := by decide +kernel
theorem dX12_aCharge_20 : decode cX12_aCharge 20 = .ok (.iconst 0, 1) := by decide +kernel
theorem dX12_aCharge_21 : decode cX12_aCharge 21 = .ok (.ireturn, 1) := by decide +kernel
theorem dX12_aCharge_22 : decode cX12_aCharge 22 = .ok (.aload_n 0, 1) := by decide +kernel
theorem dX12_aCharge_23 : decode cX12_aCharge 23 = .ok (.getfield 110, 3) := by decide +kernel
theorem dX12_aCharge_26 : decode cX12_aCharge 26 = .ok (.aload_n 0, 1) := by decide +kernel
theorem dX12_aCharge_27 : decode cX12_aCharge 27 = .ok (.getfield 483, 3) := by decide +kernel
theorem dX12_aCharge_30 : decode cX12_aCharge 30 = .ok (.aload_n 0, 1) := by decide +kernel
theorem dX12_aCharge_31 : decode cX12_aCharge 31 = .ok (.getfield 452, 3) := by decide +kernel
theorem dX12_aCharge_34 : decode cX12_aCharge 34 = .ok (.iastore, 1) := by decide +kernel
theorem dX12_aCharge_35 : decode cX12_aCharge 35 = .ok (.aload_n 0, 1) := by decide +kernel
theorem dX12_aCharge_36 : decode cX12_aCharge 36 = .ok (.getfield 422, 3) := by decide +kernel
theorem dX12_aCharge_39 : decode cX12_aCharge 39 = .ok (.bipush 10, 2) := by decide +kernel
theorem dX12_aCharge_41 : decode cX12_aCharge 41 = .ok (.if_icmp .ne 16, 3) := by decide +kernel
theorem dX12_aCharge_44 : decode cX12_aCharge 44 = .ok (.aload_n 0, 1) := by decide +kernel
theorem dX12_aCharge_45 : decode cX12_aCharge 45 = .ok (.invokevirtual 446, 3) := by decide +kernel
theorem dX12_aCharge_48 : decode cX12_aCharge 48 = .ok (.aload_n 0, 1) := by decide +kernel
theorem dX12_aCharge_49 : decode cX12_aCharge 49 = .ok (.invokevirtual 486, 3) := by decide +kernel
theorem dX12_aCharge_52 : decode cX12_aCharge 52 = .ok (.ifCond .ne 5, 3) := by decide +kernel
theorem dX12_aCharge_55 : decode cX12_aCharge 55 = .ok (.iconst 0, 1) := by decide +kernel
theorem dX12_aCharge_56 : decode cX12_aCharge 56 = .ok (.ireturn, 1) := by decide +kernel
theorem dX12_aCharge_57 : decode cX12_aCharge 57 = .ok (.aload_n 0, 1) := by decide +kernel
theorem dX12_aCharge_58 : decode cX12_aCharge 58 = .ok (.dup, 1) := by decide +kernel
theorem dX12_aCharge_59 : decode cX12_aCharge 59 = .ok (.getfield 483, 3) := by decide +kernel
theorem dX12_aCharge_62 : decode cX12_aCharge 62 = .ok (.iconst 1, 1) := by decide +kernel
theorem dX12_aCharge_63 : decode cX12_aCharge 63 = .ok (.iadd, 1) := by decide +kernel
theorem dX12_aCharge_64 : decode cX12_aCharge 64 = .ok (.putfield 483, 3) := by decide +kernel
theorem dX12_aCharge_67 : decode cX12_aCharge 67 = .ok (.iconst 1, 1) := by decide +kernel
theorem dX12_aCharge_68 : decode cX12_aCharge 68 = .ok (.ireturn, 1) := by decide +kernel
theorem dX12_inner_0 : decode cX12_inner 0 = .ok (.iload_n 1, 1) := by decide +kernel
theorem dX12_inner_1 : decode cX12_inner 1 = .ok (.iconst 3, 1) := by decide +kernel
theorem dX12_inner_2 : decode cX12_inner 2 = .ok (.if_icmp .ne 8, 3) := by decide +kernel
theorem dX12_inner_5 : decode cX12_inner 5 = .ok (.aload_n 0, 1) := by decide +kernel
theorem dX12_inner_6 : decode cX12_inner 6 = .ok (.invokevirtual 489, 3) := by decide +kernel
theorem dX12_inner_9 : decode cX12_inner 9 = .ok (.ireturn, 1) := by decide +kernel
theorem dX12_inner_10 : decode cX12_inner 10 = .ok (.aload_n 0, 1) := by decide +kernel
theorem dX12_inner_11 : decode cX12_inner 11 = .ok (.iload_n 1, 1) := by decide +kernel
theorem dX12_inner_12 : decode cX12_inner 12 = .ok (.iconst 5, 1) := by decide +kernel
theorem dX12_inner_13 : decode cX12_inner 13 = .ok (.if_icmp .ne 8, 3) := by decide +kernel
theorem dX12_inner_16 : decode cX12_inner 16 = .ok (.bipush 99, 2) := by decide +kernel
theorem dX12_inner_18 : decode cX12_inner 18 = .ok (.goto 6, 3) := by decide +kernel
theorem dX12_inner_21 : decode cX12_inner 21 = .ok (.sipush 9999, 3) := by decide +kernel
theorem dX12_inner_24 : decode cX12_inner 24 = .ok (.invokevirtual 492, 3) := by decide +kernel
theorem dX12_inner_27 : decode cX12_inner 27 = .ok (.ifCond .ne 5, 3) := by decide +kernel
theorem dX12_inner_30 : decode cX12_inner 30 = .ok (.iconst 0, 1) := by decide +kernel
theorem dX12_inner_31 : decode cX12_inner 31 = .ok (.ireturn, 1) := by decide +kernel
theorem dX12_inner_32 : decode cX12_inner 32 = .ok (.iload_n 1, 1) := by decide +kernel
theorem dX12_inner_33 : decode cX12_inner 33 = .ok (.iconst 4, 1) := by decide +kernel
theorem dX12_inner_34 : decode cX12_inner 34 = .ok (.if_icmp .ne 42, 3) := by decide +kernel
theorem dX12_inner_37 : decode cX12_inner 37 = .ok (.aload_n 0, 1) := by decide +kernel
theorem dX12_inner_38 : decode cX12_inner 38 = .ok (.getfield 449, 3) := by decide +kernel
theorem dX12_inner_41 : decode cX12_inner 41 = .ok (.istore_n 2, 1) := by decide +kernel
theorem dX12_inner_42 : decode cX12_inner 42 = .ok (.aload_n 0, 1) := by decide +kernel
theorem dX12_inner_43 : decode cX12_inner 43 = .ok (.bipush 9, 2) := by decide +kernel
theorem dX12_inner_45 : decode cX12_inner 45 = .ok (.invokevirtual 474, 3) := by decide +kernel
theorem dX12_inner_48 : decode cX12_inner 48 = .ok (.ifCond .eq 13, 3) := by decide +kernel
theorem dX12_inner_51 : decode cX12_inner 51 = .ok (.aload_n 0, 1) := by decide +kernel
theorem dX12_inner_52 : decode cX12_inner 52 = .ok (.sipush 1439, 3) := by decide +kernel
theorem dX12_inner_55 : decode cX12_inner 55 = .ok (.invokevirtual 492, 3) := by decide +kernel
theorem dX12_inner_58 : decode cX12_inner 58 = .ok (.ifCond .ne 5, 3) := by decide +kernel
theorem dX12_inner_61 : decode cX12_inner 61 = .ok (.iconst 0, 1) := by decide +kernel
theorem dX12_inner_62 : decode cX12_inner 62 = .ok (.ireturn, 1) := by decide +kernel
theorem dX12_inner_63 : decode cX12_inner 63 = .ok (.aload_n 0, 1) := by decide +kernel
theorem dX12_inner_64 : decode cX12_inner 64 = .ok (.iload_n 2, 1) := by decide +kernel
theorem dX12_inner_65 : decode cX12_inner 65 = .ok (.putfield 495, 3) := by decide +kernel
theorem dX12_inner_68 : decode cX12_inner 68 = .ok (.aload_n 0, 1) := by decide +kernel
theorem dX12_inner_69 : decode cX12_inner 69 = .ok (.aload_n 0, 1) := by decide +kernel
theorem dX12_inner_70 : decode cX12_inner 70 = .ok (.getfield 449, 3) := by decide +kernel
theorem dX12_inner_73 : decode cX12_inner 73 = .ok (.putfield 498, 3) := by decide +kernel
theorem dX12_inner_76 : decode cX12_inner 76 = .ok (.iload_n 1, 1) := by decide +kernel
theorem dX12_inner_77 : decode cX12_inner 77 = .ok (.iconst 5, 1) := by decide +kernel
theorem dX12_inner_78 : decode cX12_inner 78 = .ok (.if_icmp .ne 11, 3) := by decide +kernel
theorem dX12_inner_81 : decode cX12_inner 81 = .ok (.aload_n 0, 1) := by decide +kernel
theorem dX12_inner_82 : decode cX12_inner 82 = .ok (.aload_n 0, 1) := by decide +kernel
theorem dX12_inner_83 : decode cX12_inner 83 = .ok (.getfield 449, 3) := by decide +kernel
theorem dX12_inner_86 : decode cX12_inner 86 = .ok (.putfield 501, 3) := by decide +kernel
theorem dX12_inner_89 : decode cX12_inner 89 = .ok (.iload_n 1, 1) := by decide +kernel
theorem dX12_inner_90 : decode cX12_inner 90 = .ok (.bipush 6, 2) := by decide +kernel
theorem dX12_inner_92 : decode cX12_inner 92 = .ok (.if_icmp .ne 11, 3) := by decide +kernel
theorem dX12_inner_95 : decode cX12_inner 95 = .ok (.aload_n 0, 1) := by decide +kernel
theorem dX12_inner_96 : decode cX12_inner 96 = .ok (.aload_n 0, 1) := by decide +kernel
theorem dX12_inner_97 : decode cX12_inner 97 = .ok (.getfield 449, 3) := by decide +kernel
theorem dX12_inner_100 : decode cX12_inner 100 = .ok (.putfield 504, 3) := by decide +kernel
theorem dX12_inner_103 : decode cX12_inner 103 = .ok (.iload_n 1, 1) := by decide +kernel
theorem dX12_inner_104 : decode cX12_inner 104 = .ok (.bipush 7, 2) := by decide +kernel
theorem dX12_inner_106 : decode cX12_inner 106 = .ok (.if_icmp .ne 11, 3) := by decide +kernel
theorem dX12_inner_109 : decode cX12_inner 109 = .ok (.aload_n 0, 1) := by decide +kernel
theorem dX12_inner_110 : decode cX12_inner 110 = .ok (.aload_n 0, 1) := by decide +kernel
theorem dX12_inner_111 : decode cX12_inner 111 = .ok (.getfield 449, 3) := by decide +kernel
theorem dX12_inner_114 : decode cX12_inner 114 = .ok (.putfield 507, 3) := by decide +kernel
theorem dX12_inner_117 : decode cX12_inner 117 = .ok (.iload_n 1, 1) := by decide +kernel
theorem dX12_inner_118 : decode cX12_inner 118 = .ok (.bipush 8, 2) := by decide +kernel
theorem dX12_inner_120 : decode cX12_inner 120 = .ok (.if_icmp .ne 11, 3) := by decide +kernel
theorem dX12_inner_123 : decode cX12_inner 123 = .ok (.aload_n 0, 1) := by decide +kernel
theorem dX12_inner_124 : decode cX12_inner 124 = .ok (.aload_n 0, 1) := by decide +kernel
theorem dX12_inner_125 : decode cX12_inner 125 = .ok (.getfield 449, 3) := by decide +kernel
theorem dX12_inner_128 : decode cX12_inner 128 = .ok (.putfield 510, 3) := by decide +kernel
theorem dX12_inner_131 : decode cX12_inner 131 = .ok (.iconst 1, 1) := by decide +kernel
theorem dX12_inner_132 : decode cX12_inner 132 = .ok (.ireturn, 1) := by decide +kernel
theorem dX12_aLine_0 : decode cX12_aLine 0 = .ok (.aload_n 0, 1) := by decide +kernel
theorem dX12_aLine_1 : decode cX12_aLine 1 = .ok (.getfield 422, 3) := by decide +kernel
theorem dX12_aLine_4 : decode cX12_aLine 4 = .ok (.iconst 3, 1) := by decide +kernel
theorem dX12_aLine_5 : decode cX12_aLine 5 = .ok (.bipush 8, 2) := by decide +kernel
theorem dX12_aLine_7 : decode cX12_aLine 7 = .ok (.invokestatic 286, 3) := by decide +kernel
theorem dX12_aLine_10 : decode cX12_aLine 10 = .ok (.ifCond .ne 9, 3) := by decide +kernel
theorem dX12_aLine_13 : decode cX12_aLine 13 = .ok (.aload_n 0, 1) := by decide +kernel
theorem dX12_aLine_14 : decode cX12_aLine 14 = .ok (.iconst 1, 1) := by decide +kernel
theorem dX12_aLine_15 : decode cX12_aLine 15 = .ok (.invokevirtual 443, 3) := by decide +kernel
theorem dX12_aLine_18 : decode cX12_aLine 18 = .ok (.ireturn, 1) := by decide +kernel
theorem dX12_aLine_19 : decode cX12_aLine 19 = .ok (.aload_n 0, 1) := by decide +kernel
theorem dX12_aLine_20 : decode cX12_aLine 20 = .ok (.getfield 513, 3) := by decide +kernel
theorem dX12_aLine_23 : decode cX12_aLine 23 = .ok (.bipush 24, 2) := by decide +kernel
theorem dX12_aLine_25 : decode cX12_aLine 25 = .ok (.if_icmp .ne 9, 3) := by decide +kernel
theorem dX12_aLine_28 : decode cX12_aLine 28 = .ok (.aload_n 0, 1) := by decide +kernel
theorem dX12_aLine_29 : decode cX12_aLine 29 = .ok (.iconst 3, 1) := by decide +kernel
theorem dX12_aLine_30 : decode cX12_aLine 30 = .ok (.invokevirtual 443, 3) := by decide +kernel
theorem dX12_aLine_33 : decode cX12_aLine 33 = .ok (.ireturn, 1) := by decide +kernel
theorem dX12_aLine_34 : decode cX12_aLine 34 = .ok (.aload_n 0, 1) := by decide +kernel
theorem dX12_aLine_35 : decode cX12_aLine 35 = .ok (.getfield 422, 3) := by decide +kernel
theorem dX12_aLine_38 : decode cX12_aLine 38 = .ok (.istore_n 1, 1) := by decide +kernel
theorem dX12_aLine_39 : decode cX12_aLine 39 = .ok (.aload_n 0, 1) := by decide +kernel
theorem dX12_aLine_40 : decode cX12_aLine 40 = .ok (.iconst 0, 1) := by decide +kernel
theorem dX12_aLine_41 : decode cX12_aLine 41 = .ok (.putfield 455, 3) := by decide +kernel
theorem dX12_aLine_44 : decode cX12_aLine 44 = .ok (.aload_n 0, 1) := by decide +kernel
theorem dX12_aLine_45 : decode cX12_aLine 45 = .ok (.invokevirtual 446, 3) := by decide +kernel
theorem dX12_aLine_48 : decode cX12_aLine 48 = .ok (.aload_n 0, 1) := by decide +kernel
theorem dX12_aLine_49 : decode cX12_aLine 49 = .ok (.iload_n 1, 1) := by decide +kernel
theorem dX12_aLine_50 : decode cX12_aLine 50 = .ok (.invokevirtual 516, 3) := by decide +kernel
theorem dX12_aLine_53 : decode cX12_aLine 53 = .ok (.ifCond .ne 5, 3) := by decide +kernel
theorem dX12_aLine_56 : decode cX12_aLine 56 = .ok (.iconst 0, 1) := by decide +kernel
theorem dX12_aLine_57 : decode cX12_aLine 57 = .ok (.ireturn, 1) := by decide +kernel
theorem dX12_aLine_58 : decode cX12_aLine 58 = .ok (.aload_n 0, 1) := by decide +kernel
theorem dX12_aLine_59 : decode cX12_aLine 59 = .ok (.dup, 1) := by decide +kernel
theorem dX12_aLine_60 : decode cX12_aLine 60 = .ok (.getfield 513, 3) := by decide +kernel
theorem dX12_aLine_63 : decode cX12_aLine 63 = .ok (.iconst 1, 1) := by decide +kernel
theorem dX12_aLine_64 : decode cX12_aLine 64 = .ok (.iadd, 1) := by decide +kernel
theorem dX12_aLine_65 : decode cX12_aLine 65 = .ok (.putfield 513, 3) := by decide +kernel
theorem dX12_aLine_68 : decode cX12_aLine 68 = .ok (.aload_n 0, 1) := by decide +kernel
theorem dX12_aLine_69 : decode cX12_aLine 69 = .ok (.bipush 59, 2) := by decide +kernel
theorem dX12_aLine_71 : decode cX12_aLine 71 = .ok (.invokevirtual 474, 3) := by decide +kernel
theorem dX12_aLine_74 : decode cX12_aLine 74 = .ok (.ireturn, 1) := by decide +kernel
theorem dX12_act_0 : decode cX12_act 0 = .ok (.aload_n 0, 1) := by decide +kernel
theorem dX12_act_1 : decode cX12_act 1 = .ok (.iconst 0, 1) := by decide +kernel
theorem dX12_act_2 : decode cX12_act 2 = .ok (.putfield 519, 3) := by decide +kernel
theorem dX12_act_5 : decode cX12_act 5 = .ok (.aload_n 0, 1) := by decide +kernel
theorem dX12_act_6 : decode cX12_act 6 = .ok (.iconst (-1), 1) := by decide +kernel
theorem dX12_act_7 : decode cX12_act 7 = .ok (.putfield 122, 3) := by decide +kernel
theorem dX12_act_10 : decode cX12_act 10 = .ok (.iload_n 1, 1) := by decide +kernel
theorem dX12_act_11 : decode cX12_act 11 = .ok (.invokestatic 316, 3) := by decide +kernel
theorem dX12_act_14 : decode cX12_act 14 = .ok (.ifCond .eq 34, 3) := by decide +kernel
theorem dX12_act_17 : decode cX12_act 17 = .ok (.aload_n 0, 1) := by decide +kernel
theorem dX12_act_18 : decode cX12_act 18 = .ok (.getfield 522, 3) := by decide +kernel
theorem dX12_act_21 : decode cX12_act 21 = .ok (.bipush 6, 2) := by decide +kernel
theorem dX12_act_23 : decode cX12_act 23 = .ok (.if_icmp .eq 25, 3) := by decide +kernel
theorem dX12_act_26 : decode cX12_act 26 = .ok (.aload_n 0, 1) := by decide +kernel
theorem dX12_act_27 : decode cX12_act 27 = .ok (.getfield 522, 3) := by decide +kernel
theorem dX12_act_30 : decode cX12_act 30 = .ok (.ifCond .le 25, 3) := by decide +kernel
theorem dX12_act_33 : decode cX12_act 33 = .ok (.iload_n 1, 1) := by decide +kernel
theorem dX12_act_34 : decode cX12_act 34 = .ok (.aload_n 0, 1) := by decide +kernel
theorem dX12_act_35 : decode cX12_act 35 = .ok (.getfield 71, 3) := by decide +kernel
theorem dX12_act_38 : decode cX12_act 38 = .ok (.aload_n 0, 1) := by decide +kernel
theorem dX12_act_39 : decode cX12_act 39 = .ok (.getfield 522, 3) := by decide +kernel
theorem dX12_act_42 : decode cX12_act 42 = .ok (.iconst 1, 1) := by decide +kernel
theorem dX12_act_43 : decode cX12_act 43 = .ok (.isub, 1) := by decide +kernel
theorem dX12_act_44 : decode cX12_act 44 = .ok (.iaload, 1) := by decide +kernel
theorem dX12_act_45 : decode cX12_act 45 = .ok (.if_icmp .ge 10, 3) := by decide +kernel
theorem dX12_act_48 : decode cX12_act 48 = .ok (.aload_n 0, 1) := by decide +kernel
theorem dX12_act_49 : decode cX12_act 49 = .ok (.iconst 0, 1) := by decide +kernel
theorem dX12_act_50 : decode cX12_act 50 = .ok (.putfield 364, 3) := by decide +kernel
theorem dX12_act_53 : decode cX12_act 53 = .ok (.iconst (-1), 1) := by decide +kernel
theorem dX12_act_54 : decode cX12_act 54 = .ok (.ireturn, 1) := by decide +kernel
theorem dX12_act_55 : decode cX12_act 55 = .ok (.aload_n 0, 1) := by decide +kernel
theorem dX12_act_56 : decode cX12_act 56 = .ok (.iconst 0, 1) := by decide +kernel
theorem dX12_act_57 : decode cX12_act 57 = .ok (.putfield 437, 3) := by decide +kernel
theorem dX12_act_60 : decode cX12_act 60 = .ok (.aload_n 0, 1) := by decide +kernel
theorem dX12_act_61 : decode cX12_act 61 = .ok (.iconst 0, 1) := by decide +kernel
theorem dX12_act_62 : decode cX12_act 62 = .ok (.putfield 367, 3) := by decide +kernel
theorem dX12_act_65 : decode cX12_act 65 = .ok (.aload_n 0, 1) := by decide +kernel
theorem dX12_act_66 : decode cX12_act 66 = .ok (.iconst 0, 1) := by decide +kernel
theorem dX12_act_67 : decode cX12_act 67 = .ok (.putfield 513, 3) := by decide +kernel
theorem dX12_act_70 : decode cX12_act 70 = .ok (.aload_n 0, 1) := by decide +kernel
theorem dX12_act_71 : decode cX12_act 71 = .ok (.iconst 0, 1) := by decide +kernel
theorem dX12_act_72 : decode cX12_act 72 = .ok (.putfield 483, 3) := by decide +kernel
theorem dX12_act_75 : decode cX12_act 75 = .ok (.aload_n 0, 1) := by decide +kernel
theorem dX12_act_76 : decode cX12_act 76 = .ok (.iconst 0, 1) := by decide +kernel
theorem dX12_act_77 : decode cX12_act 77 = .ok (.putfield 452, 3) := by decide +kernel
theorem dX12_act_80 : decode cX12_act 80 = .ok (.aload_n 0, 1) := by decide +kernel
theorem dX12_act_81 : decode cX12_act 81 = .ok (.iconst 0, 1) := by decide +kernel
theorem dX12_act_82 : decode cX12_act 82 = .ok (.putfield 495, 3) := by decide +kernel
theorem dX12_act_85 : decode cX12_act 85 = .ok (.aload_n 0, 1) := by decide +kernel
theorem dX12_act_86 : decode cX12_act 86 = .ok (.sipush 1439, 3) := by decide +kernel
theorem dX12_act_89 : decode cX12_act 89 = .ok (.putfield 498, 3) := by decide +kernel
theorem dX12_act_92 : decode cX12_act 92 = .ok (.aload_n 0, 1) := by decide +kernel
theorem dX12_act_93 : decode cX12_act 93 = .ok (.iconst 0, 1) := by decide +kernel
theorem dX12_act_94 : decode cX12_act 94 = .ok (.putfield 501, 3) := by decide +kernel
theorem dX12_act_97 : decode cX12_act 97 = .ok (.aload_n 0, 1) := by decide +kernel
theorem dX12_act_98 : decode cX12_act 98 = .ok (.iconst 0, 1) := by decide +kernel
theorem dX12_act_99 : decode cX12_act 99 = .ok (.putfield 504, 3) := by decide +kernel
theorem dX12_act_102 : decode cX12_act 102 = .ok (.aload_n 0, 1) := by decide +kernel
theorem dX12_act_103 : decode cX12_act 103 = .ok (.iconst 0, 1) := by decide +kernel
theorem dX12_act_104 : decode cX12_act 104 = .ok (.putfield 507, 3) := by decide +kernel
theorem dX12_act_107 : decode cX12_act 107 = .ok (.aload_n 0, 1) := by decide +kernel
theorem dX12_act_108 : decode cX12_act 108 = .ok (.iconst 3, 1) := by decide +kernel
theorem dX12_act_109 : decode cX12_act 109 = .ok (.putfield 510, 3) := by decide +kernel
theorem dX12_act_112 : decode cX12_act 112 = .ok (.aload_n 0, 1) := by decide +kernel
theorem dX12_act_113 : decode cX12_act 113 = .ok (.invokevirtual 446, 3) := by decide +kernel
theorem dX12_act_116 : decode cX12_act 116 = .ok (.iconst 1, 1) := by decide +kernel
theorem dX12_act_117 : decode cX12_act 117 = .ok (.istore_n 2, 1) := by decide +kernel
theorem dX12_act_118 : decode cX12_act 118 = .ok (.iload_n 2, 1) := by decide +kernel
theorem dX12_act_119 : decode cX12_act 119 = .ok (.ifCond .eq 18, 3) := by decide +kernel
theorem dX12_act_122 : decode cX12_act 122 = .ok (.aload_n 0, 1) := by decide +kernel
theorem dX12_act_123 : decode cX12_act 123 = .ok (.getfield 422, 3) := by decide +kernel
theorem dX12_act_126 : decode cX12_act 126 = .ok (.ifCond .eq 11, 3) := by decide +kernel
theorem dX12_act_129 : decode cX12_act 129 = .ok (.aload_n 0, 1) := by decide +kernel
theorem dX12_act_130 : decode cX12_act 130 = .ok (.invokevirtual 525, 3) := by decide +kernel
theorem dX12_act_133 : decode cX12_act 133 = .ok (.istore_n 2, 1) := by decide +kernel
theorem dX12_act_134 : decode cX12_act 134 = .ok (.goto (-16), 3) := by decide +kernel
theorem dX12_act_137 : decode cX12_act 137 = .ok (.aload_n 0, 1) := by decide +kernel
theorem dX12_act_138 : decode cX12_act 138 = .ok (.iconst 0, 1) := by decide +kernel
theorem dX12_act_139 : decode cX12_act 139 = .ok (.putfield 364, 3) := by decide +kernel
theorem dX12_act_142 : decode cX12_act 142 = .ok (.aload_n 0, 1) := by decide +kernel
theorem dX12_act_143 : decode cX12_act 143 = .ok (.aload_n 0, 1) := by decide +kernel
theorem dX12_act_144 : decode cX12_act 144 = .ok (.getfield 437, 3) := by decide +kernel
theorem dX12_act_147 : decode cX12_act 147 = .ok (.putfield 519, 3) := by decide +kernel
theorem dX12_act_150 : decode cX12_act 150 = .ok (.aload_n 0, 1) := by decide +kernel
theorem dX12_act_151 : decode cX12_act 151 = .ok (.iload_n 2, 1) := by decide +kernel
theorem dX12_act_152 : decode cX12_act 152 = .ok (.ifCond .eq 7, 3) := by decide +kernel
theorem dX12_act_155 : decode cX12_act 155 = .ok (.iconst (-1), 1) := by decide +kernel
theorem dX12_act_156 : decode cX12_act 156 = .ok (.goto 7, 3) := by decide +kernel
theorem dX12_act_159 : decode cX12_act 159 = .ok (.aload_n 0, 1) := by decide +kernel
theorem dX12_act_160 : decode cX12_act 160 = .ok (.getfield 440, 3) := by decide +kernel
theorem dX12_act_163 : decode cX12_act 163 = .ok (.putfield 122, 3) := by decide +kernel
theorem dX12_act_166 : decode cX12_act 166 = .ok (.iload_n 2, 1) := by decide +kernel
theorem dX12_act_167 : decode cX12_act 167 = .ok (.ifCond .ne 5, 3) := by decide +kernel
theorem dX12_act_170 : decode cX12_act 170 = .ok (.iconst (-1), 1) := by decide +kernel
theorem dX12_act_171 : decode cX12_act 171 = .ok (.ireturn, 1) := by decide +kernel
theorem dX12_act_172 : decode cX12_act 172 = .ok (.aload_n 0, 1) := by decide +kernel
theorem dX12_act_173 : decode cX12_act 173 = .ok (.getfield 522, 3) := by decide +kernel
theorem dX12_act_176 : decode cX12_act 176 = .ok (.istore_n 3, 1) := by decide +kernel
theorem dX12_act_177 : decode cX12_act 177 = .ok (.aload_n 0, 1) := by decide +kernel
theorem dX12_act_178 : decode cX12_act 178 = .ok (.dup, 1) := by decide +kernel
theorem dX12_act_179 : decode cX12_act 179 = .ok (.getfield 522, 3) := by decide +kernel
theorem dX12_act_182 : decode cX12_act 182 = .ok (.iconst 1, 1) := by decide +kernel
theorem dX12_act_183 : decode cX12_act 183 = .ok (.iadd, 1) := by decide +kernel
theorem dX12_act_184 : decode cX12_act 184 = .ok (.putfield 522, 3) := by decide +kernel
theorem dX12_act_187 : decode cX12_act 187 = .ok (.aload_n 0, 1) := by decide +kernel
theorem dX12_act_188 : decode cX12_act 188 = .ok (.getfield 71, 3) := by decide +kernel
theorem dX12_act_191 : decode cX12_act 191 = .ok (.iload_n 3, 1) := by decide +kernel
theorem dX12_act_192 : decode cX12_act 192 = .ok (.iload_n 1, 1) := by decide +kernel
theorem dX12_act_193 : decode cX12_act 193 = .ok (.iastore, 1) := by decide +kernel
theorem dX12_act_194 : decode cX12_act 194 = .ok (.aload_n 0, 1) := by decide +kernel
theorem dX12_act_195 : decode cX12_act 195 = .ok (.getfield 74, 3) := by decide +kernel
theorem dX12_act_198 : decode cX12_act 198 = .ok (.iload_n 3, 1) := by decide +kernel
theorem dX12_act_199 : decode cX12_act 199 = .ok (.aload_n 0, 1) := by decide +kernel
theorem dX12_act_200 : decode cX12_act 200 = .ok (.getfield 513, 3) := by decide +kernel
theorem dX12_act_203 : decode cX12_act 203 = .ok (.iastore, 1) := by decide +kernel
theorem dX12_act_204 : decode cX12_act 204 = .ok (.aload_n 0, 1) := by decide +kernel
theorem dX12_act_205 : decode cX12_act 205 = .ok (.getfield 77, 3) := by decide +kernel
theorem dX12_act_208 : decode cX12_act 208 = .ok (.iload_n 3, 1) := by decide +kernel
theorem dX12_act_209 : decode cX12_act 209 = .ok (.aload_n 0, 1) := by decide +kernel
theorem dX12_act_210 : decode cX12_act 210 = .ok (.getfield 495, 3) := by decide +kernel
theorem dX12_act_213 : decode cX12_act 213 = .ok (.iastore, 1) := by decide +kernel
theorem dX12_act_214 : decode cX12_act 214 = .ok (.aload_n 0, 1) := by decide +kernel
theorem dX12_act_215 : decode cX12_act 215 = .ok (.getfield 80, 3) := by decide +kernel
theorem dX12_act_218 : decode cX12_act 218 = .ok (.iload_n 3, 1) := by decide +kernel
theorem dX12_act_219 : decode cX12_act 219 = .ok (.aload_n 0, 1) := by decide +kernel
theorem dX12_act_220 : decode cX12_act 220 = .ok (.getfield 498, 3) := by decide +kernel
theorem dX12_act_223 : decode cX12_act 223 = .ok (.iastore, 1) := by decide +kernel
theorem dX12_act_224 : decode cX12_act 224 = .ok (.aload_n 0, 1) := by decide +kernel
theorem dX12_act_225 : decode cX12_act 225 = .ok (.getfield 83, 3) := by decide +kernel
theorem dX12_act_228 : decode cX12_act 228 = .ok (.iload_n 3, 1) := by decide +kernel
theorem dX12_act_229 : decode cX12_act 229 = .ok (.aload_n 0, 1) := by decide +kernel
theorem dX12_act_230 : decode cX12_act 230 = .ok (.getfield 501, 3) := by decide +kernel
theorem dX12_act_233 : decode cX12_act 233 = .ok (.iastore, 1) := by decide +kernel
theorem dX12_act_234 : decode cX12_act 234 = .ok (.aload_n 0, 1) := by decide +kernel
theorem dX12_act_235 : decode cX12_act 235 = .ok (.getfield 86, 3) := by decide +kernel
theorem dX12_act_238 : decode cX12_act 238 = .ok (.iload_n 3, 1) := by decide +kernel
theorem dX12_act_239 : decode cX12_act 239 = .ok (.aload_n 0, 1) := by decide +kernel
theorem dX12_act_240 : decode cX12_act 240 = .ok (.getfield 504, 3) := by decide +kernel
theorem dX12_act_243 : decode cX12_act 243 = .ok (.iastore, 1) := by decide +kernel
theorem dX12_act_244 : decode cX12_act 244 = .ok (.aload_n 0, 1) := by decide +kernel
theorem dX12_act_245 : decode cX12_act 245 = .ok (.getfield 89, 3) := by decide +kernel
theorem dX12_act_248 : decode cX12_act 248 = .ok (.iload_n 3, 1) := by decide +kernel
theorem dX12_act_249 : decode cX12_act 249 = .ok (.aload_n 0, 1) := by decide +kernel
theorem dX12_act_250 : decode cX12_act 250 = .ok (.getfield 507, 3) := by decide +kernel
theorem dX12_act_253 : decode cX12_act 253 = .ok (.iastore, 1) := by decide +kernel
theorem dX12_act_254 : decode cX12_act 254 = .ok (.aload_n 0, 1) := by decide +kernel
theorem dX12_act_255 : decode cX12_act 255 = .ok (.getfield 92, 3) := by decide +kernel
theorem dX12_act_258 : decode cX12_act 258 = .ok (.iload_n 3, 1) := by decide +kernel
theorem dX12_act_259 : decode cX12_act 259 = .ok (.aload_n 0, 1) := by decide +kernel
theorem dX12_act_260 : decode cX12_act 260 = .ok (.getfield 510, 3) := by decide +kernel
theorem dX12_act_263 : decode cX12_act 263 = .ok (.iastore, 1) := by decide +kernel
theorem dX12_act_264 : decode cX12_act 264 = .ok (.aload_n 0, 1) := by decide +kernel
theorem dX12_act_265 : decode cX12_act 265 = .ok (.getfield 95, 3) := by decide +kernel
theorem dX12_act_268 : decode cX12_act 268 = .ok (.iload_n 3, 1) := by decide +kernel
theorem dX12_act_269 : decode cX12_act 269 = .ok (.aload_n 0, 1) := by decide +kernel
theorem dX12_act_270 : decode cX12_act 270 = .ok (.getfield 483, 3) := by decide +kernel
theorem dX12_act_273 : decode cX12_act 273 = .ok (.iastore, 1) := by decide +kernel
theorem dX12_act_274 : decode cX12_act 274 = .ok (.iconst 0, 1) := by decide +kernel
theorem dX12_act_275 : decode cX12_act 275 = .ok (.istore 4, 2) := by decide +kernel
theorem dX12_act_277 : decode cX12_act 277 = .ok (.iload 4, 2) := by decide +kernel
theorem dX12_act_279 : decode cX12_act 279 = .ok (.aload_n 0, 1) := by decide +kernel
theorem dX12_act_280 : decode cX12_act 280 = .ok (.getfield 483, 3) := by decide +kernel
theorem dX12_act_283 : decode cX12_act 283 = .ok (.if_icmp .ge 47, 3) := by decide +kernel
theorem dX12_act_286 : decode cX12_act 286 = .ok (.aload_n 0, 1) := by decide +kernel
theorem dX12_act_287 : decode cX12_act 287 = .ok (.getfield 98, 3) := by decide +kernel
theorem dX12_act_290 : decode cX12_act 290 = .ok (.bipush 25, 2) := by decide +kernel
theorem dX12_act_292 : decode cX12_act 292 = .ok (.iload_n 3, 1) := by decide +kernel
theorem dX12_act_293 : decode cX12_act 293 = .ok (.imul, 1) := by decide +kernel
theorem dX12_act_294 : decode cX12_act 294 = .ok (.iload 4, 2) := by decide +kernel
theorem dX12_act_296 : decode cX12_act 296 = .ok (.iadd, 1) := by decide +kernel
theorem dX12_act_297 : decode cX12_act 297 = .ok (.aload_n 0, 1) := by decide +kernel
theorem dX12_act_298 : decode cX12_act 298 = .ok (.getfield 107, 3) := by decide +kernel
theorem dX12_act_301 : decode cX12_act 301 = .ok (.iload 4, 2) := by decide +kernel
theorem dX12_act_303 : decode cX12_act 303 = .ok (.iaload, 1) := by decide +kernel
theorem dX12_act_304 : decode cX12_act 304 = .ok (.iastore, 1) := by decide +kernel
theorem dX12_act_305 : decode cX12_act 305 = .ok (.aload_n 0, 1) := by decide +kernel
theorem dX12_act_306 : decode cX12_act 306 = .ok (.getfield 101, 3) := by decide +kernel
theorem dX12_act_309 : decode cX12_act 309 = .ok (.bipush 24, 2) := by decide +kernel
theorem dX12_act_311 : decode cX12_act 311 = .ok (.iload_n 3, 1) := by decide +kernel
theorem dX12_act_312 : decode cX12_act 312 = .ok (.imul, 1) := by decide +kernel
theorem dX12_act_313 : decode cX12_act 313 = .ok (.iload 4, 2) := by decide +kernel
theorem dX12_act_315 : decode cX12_act 315 = .ok (.iadd, 1) := by decide +kernel
theorem dX12_act_316 : decode cX12_act 316 = .ok (.aload_n 0, 1) := by decide +kernel
theorem dX12_act_317 : decode cX12_act 317 = .ok (.getfield 110, 3) := by decide +kernel
theorem dX12_act_320 : decode cX12_act 320 = .ok (.iload 4, 2) := by decide +kernel
theorem dX12_act_322 : decode cX12_act 322 = .ok (.iaload, 1) := by decide +kernel
theorem dX12_act_323 : decode cX12_act 323 = .ok (.iastore, 1) := by decide +kernel
theorem dX12_act_324 : decode cX12_act 324 = .ok (.iinc 4 1, 3) := by decide +kernel
theorem dX12_act_327 : decode cX12_act 327 = .ok (.goto (-50), 3) := by decide +kernel
theorem dX12_act_330 : decode cX12_act 330 = .ok (.aload_n 0, 1) := by decide +kernel
theorem dX12_act_331 : decode cX12_act 331 = .ok (.getfield 98, 3) := by decide +kernel
theorem dX12_act_334 : decode cX12_act 334 = .ok (.bipush 25, 2) := by decide +kernel
theorem dX12_act_336 : decode cX12_act 336 = .ok (.iload_n 3, 1) := by decide +kernel
theorem dX12_act_337 : decode cX12_act 337 = .ok (.imul, 1) := by decide +kernel
theorem dX12_act_338 : decode cX12_act 338 = .ok (.aload_n 0, 1) := by decide +kernel
theorem dX12_act_339 : decode cX12_act 339 = .ok (.getfield 483, 3) := by decide +kernel
theorem dX12_act_342 : decode cX12_act 342 = .ok (.iadd, 1) := by decide +kernel
theorem dX12_act_343 : decode cX12_act 343 = .ok (.aload_n 0, 1) := by decide +kernel
theorem dX12_act_344 : decode cX12_act 344 = .ok (.getfield 452, 3) := by decide +kernel
theorem dX12_act_347 : decode cX12_act 347 = .ok (.iastore, 1) := by decide +kernel
theorem dX12_act_348 : decode cX12_act 348 = .ok (.iconst 0, 1) := by decide +kernel
theorem dX12_act_349 : decode cX12_act 349 = .ok (.istore 4, 2) := by decide +kernel
theorem dX12_act_351 : decode cX12_act 351 = .ok (.iload 4, 2) := by decide +kernel
theorem dX12_act_353 : decode cX12_act 353 = .ok (.iconst 2, 1) := by decide +kernel
theorem dX12_act_354 : decode cX12_act 354 = .ok (.aload_n 0, 1) := by decide +kernel
theorem dX12_act_355 : decode cX12_act 355 = .ok (.getfield 452, 3) := by decide +kernel
theorem dX12_act_358 : decode cX12_act 358 = .ok (.imul, 1) := by decide +kernel
theorem dX12_act_359 : decode cX12_act 359 = .ok (.if_icmp .ge 29, 3) := by decide +kernel
theorem dX12_act_362 : decode cX12_act 362 = .ok (.aload_n 0, 1) := by decide +kernel
theorem dX12_act_363 : decode cX12_act 363 = .ok (.getfield 104, 3) := by decide +kernel
theorem dX12_act_366 : decode cX12_act 366 = .ok (.sipush 1220, 3) := by decide +kernel
theorem dX12_act_369 : decode cX12_act 369 = .ok (.iload_n 3, 1) := by decide +kernel
theorem dX12_act_370 : decode cX12_act 370 = .ok (.imul, 1) := by decide +kernel
theorem dX12_act_371 : decode cX12_act 371 = .ok (.iload 4, 2) := by decide +kernel
theorem dX12_act_373 : decode cX12_act 373 = .ok (.iadd, 1) := by decide +kernel
theorem dX12_act_374 : decode cX12_act 374 = .ok (.aload_n 0, 1) := by decide +kernel
theorem dX12_act_375 : decode cX12_act 375 = .ok (.getfield 113, 3) := by decide +kernel
theorem dX12_act_378 : decode cX12_act 378 = .ok (.iload 4, 2) := by decide +kernel
theorem dX12_act_380 : decode cX12_act 380 = .ok (.iaload, 1) := by decide +kernel
theorem dX12_act_381 : decode cX12_act 381 = .ok (.iastore, 1) := by decide +kernel
theorem dX12_act_382 : decode cX12_act 382 = .ok (.iinc 4 1, 3) := by decide +kernel
theorem dX12_act_385 : decode cX12_act 385 = .ok (.goto (-34), 3) := by decide +kernel
theorem dX12_act_388 : decode cX12_act 388 = .ok (.iload_n 3, 1) := by decide +kernel
theorem dX12_act_389 : decode cX12_act 389 = .ok (.ireturn, 1) := by decide +kernel
theorem dX12_fault_0 : decode cX12_fault 0 = .ok (.iload_n 1, 1) := by decide +kernel
theorem dX12_fault_1 : decode cX12_fault 1 = .ok (.ifCond .ne 10, 3) := by decide +kernel
theorem dX12_fault_4 : decode cX12_fault 4 = .ok (.aload_n 0, 1) := by decide +kernel
theorem dX12_fault_5 : decode cX12_fault 5 = .ok (.getfield 519, 3) := by decide +kernel
theorem dX12_fault_8 : decode cX12_fault 8 = .ok (.goto 16, 3) := by decide +kernel
theorem dX12_fault_11 : decode cX12_fault 11 = .ok (.iload_n 1, 1) := by decide +kernel
theorem dX12_fault_12 : decode cX12_fault 12 = .ok (.iconst 1, 1) := by decide +kernel
theorem dX12_fault_13 : decode cX12_fault 13 = .ok (.if_icmp .ne 10, 3) := by decide +kernel
theorem dX12_fault_16 : decode cX12_fault 16 = .ok (.aload_n 0, 1) := by decide +kernel
theorem dX12_fault_17 : decode cX12_fault 17 = .ok (.getfield 122, 3) := by decide +kernel
theorem dX12_fault_20 : decode cX12_fault 20 = .ok (.goto 4, 3) := by decide +kernel
theorem dX12_fault_23 : decode cX12_fault 23 = .ok (.iconst (-1), 1) := by decide +kernel
theorem dX12_fault_24 : decode cX12_fault 24 = .ok (.ireturn, 1) := by decide +kernel
theorem dX12_actOn_0 : decode cX12_actOn 0 = .ok (.aload_n 0, 1) := by decide +kernel
theorem dX12_actOn_1 : decode cX12_actOn 1 = .ok (.getfield 522, 3) := by decide +kernel
theorem dX12_actOn_4 : decode cX12_actOn 4 = .ok (.iconst 1, 1) := by decide +kernel
theorem dX12_actOn_5 : decode cX12_actOn 5 = .ok (.isub, 1) := by decide +kernel
theorem dX12_actOn_6 : decode cX12_actOn 6 = .ok (.istore_n 2, 1) := by decide +kernel
theorem dX12_actOn_7 : decode cX12_actOn 7 = .ok (.iload_n 2, 1) := by decide +kernel
theorem dX12_actOn_8 : decode cX12_actOn 8 = .ok (.ifCond .lt 19, 3) := by decide +kernel
theorem dX12_actOn_11 : decode cX12_actOn 11 = .ok (.aload_n 0, 1) := by decide +kernel
theorem dX12_actOn_12 : decode cX12_actOn 12 = .ok (.getfield 71, 3) := by decide +kernel
theorem dX12_actOn_15 : decode cX12_actOn 15 = .ok (.iload_n 2, 1) := by decide +kernel
theorem dX12_actOn_16 : decode cX12_actOn 16 = .ok (.iaload, 1) := by decide +kernel
theorem dX12_actOn_17 : decode cX12_actOn 17 = .ok (.iload_n 1, 1) := by decide +kernel
theorem dX12_actOn_18 : decode cX12_actOn 18 = .ok (.if_icmp .le 9, 3) := by decide +kernel
theorem dX12_actOn_21 : decode cX12_actOn 21 = .ok (.iinc 2 (-1), 3) := by decide +kernel
theorem dX12_actOn_24 : decode cX12_actOn 24 = .ok (.goto (-17), 3) := by decide +kernel
theorem dX12_actOn_27 : decode cX12_actOn 27 = .ok (.iload_n 2, 1) := by decide +kernel
theorem dX12_actOn_28 : decode cX12_actOn 28 = .ok (.ireturn, 1) := by decide +kernel
theorem dX12_inForce_0 : decode cX12_inForce 0 = .ok (.iload_n 1, 1) := by decide +kernel
theorem dX12_inForce_1 : decode cX12_inForce 1 = .ok (.invokestatic 316, 3) := by decide +kernel
theorem dX12_inForce_4 : decode cX12_inForce 4 = .ok (.ifCond .eq 11, 3) := by decide +kernel
theorem dX12_inForce_7 : decode cX12_inForce 7 = .ok (.aload_n 0, 1) := by decide +kernel
theorem dX12_inForce_8 : decode cX12_inForce 8 = .ok (.iload_n 1, 1) := by decide +kernel
theorem dX12_inForce_9 : decode cX12_inForce 9 = .ok (.invokevirtual 528, 3) := by decide +kernel
theorem dX12_inForce_12 : decode cX12_inForce 12 = .ok (.goto 4, 3) := by decide +kernel
theorem dX12_inForce_15 : decode cX12_inForce 15 = .ok (.iconst (-1), 1) := by decide +kernel
theorem dX12_inForce_16 : decode cX12_inForce 16 = .ok (.istore_n 3, 1) := by decide +kernel
theorem dX12_inForce_17 : decode cX12_inForce 17 = .ok (.iload_n 3, 1) := by decide +kernel
theorem dX12_inForce_18 : decode cX12_inForce 18 = .ok (.iconst (-1), 1) := by decide +kernel
theorem dX12_inForce_19 : decode cX12_inForce 19 = .ok (.if_icmp .ne 5, 3) := by decide +kernel
theorem dX12_inForce_22 : decode cX12_inForce 22 = .ok (.iconst (-1), 1) := by decide +kernel
theorem dX12_inForce_23 : decode cX12_inForce 23 = .ok (.ireturn, 1) := by decide +kernel
theorem dX12_inForce_24 : decode cX12_inForce 24 = .ok (.iload_n 2, 1) := by decide +kernel
theorem dX12_inForce_25 : decode cX12_inForce 25 = .ok (.tableswitch 98 0 7 #[47, 49, 56, 63, 70, 77, 84, 91], 47) := by decide +kernel
theorem dX12_inForce_72 : decode cX12_inForce 72 = .ok (.iload_n 3, 1) := by decide +kernel
theorem dX12_inForce_73 : decode cX12_inForce 73 = .ok (.ireturn, 1) := by decide +kernel
theorem dX12_inForce_74 : decode cX12_inForce 74 = .ok (.aload_n 0, 1) := by decide +kernel
theorem dX12_inForce_75 : decode cX12_inForce 75 = .ok (.getfield 74, 3) := by decide +kernel
theorem dX12_inForce_78 : decode cX12_inForce 78 = .ok (.iload_n 3, 1) := by decide +kernel
theorem dX12_inForce_79 : decode cX12_inForce 79 = .ok (.iaload, 1) := by decide +kernel
theorem dX12_inForce_80 : decode cX12_inForce 80 = .ok (.ireturn, 1) := by decide +kernel
theorem dX12_inForce_81 : decode cX12_inForce 81 = .ok (.aload_n 0, 1) := by decide +kernel
theorem dX12_inForce_82 : decode cX12_inForce 82 = .ok (.getfield 77, 3) := by decide +kernel
theorem dX12_inForce_85 : decode cX12_inForce 85 = .ok (.iload_n 3, 1) := by decide +kernel
theorem dX12_inForce_86 : decode cX12_inForce 86 = .ok (.iaload, 1) := by decide +kernel
theorem dX12_inForce_87 : decode cX12_inForce 87 = .ok (.ireturn, 1) := by decide +kernel
theorem dX12_inForce_88 : decode cX12_inForce 88 = .ok (.aload_n 0, 1) := by decide +kernel
theorem dX12_inForce_89 : decode cX12_inForce 89 = .ok (.getfield 80, 3) := by decide +kernel
theorem dX12_inForce_92 : decode cX12_inForce 92 = .ok (.iload_n 3, 1) := by decide +kernel
theorem dX12_inForce_93 : decode cX12_inForce 93 = .ok (.iaload, 1) := by decide +kernel
theorem dX12_inForce_94 : decode cX12_inForce 94 = .ok (.ireturn, 1) := by decide +kernel
theorem dX12_inForce_95 : decode cX12_inForce 95 = .ok (.aload_n 0, 1) := by decide +kernel
theorem dX12_inForce_96 : decode cX12_inForce 96 = .ok (.getfield 83, 3) := by decide +kernel
theorem dX12_inForce_99 : decode cX12_inForce 99 = .ok (.iload_n 3, 1) := by decide +kernel
theorem dX12_inForce_100 : decode cX12_inForce 100 = .ok (.iaload, 1) := by decide +kernel
theorem dX12_inForce_101 : decode cX12_inForce 101 = .ok (.ireturn, 1) := by decide +kernel
theorem dX12_inForce_102 : decode cX12_inForce 102 = .ok (.aload_n 0, 1) := by decide +kernel
theorem dX12_inForce_103 : decode cX12_inForce 103 = .ok (.getfield 86, 3) := by decide +kernel
theorem dX12_inForce_106 : decode cX12_inForce 106 = .ok (.iload_n 3, 1) := by decide +kernel
theorem dX12_inForce_107 : decode cX12_inForce 107 = .ok (.iaload, 1) := by decide +kernel
theorem dX12_inForce_108 : decode cX12_inForce 108 = .ok (.ireturn, 1) := by decide +kernel
theorem dX12_inForce_109 : decode cX12_inForce 109 = .ok (.aload_n 0, 1) := by decide +kernel
theorem dX12_inForce_110 : decode cX12_inForce 110 = .ok (.getfield 89, 3) := by decide +kernel
theorem dX12_inForce_113 : decode cX12_inForce 113 = .ok (.iload_n 3, 1) := by decide +kernel
theorem dX12_inForce_114 : decode cX12_inForce 114 = .ok (.iaload, 1) := by decide +kernel
theorem dX12_inForce_115 : decode cX12_inForce 115 = .ok (.ireturn, 1) := by decide +kernel
theorem dX12_inForce_116 : decode cX12_inForce 116 = .ok (.aload_n 0, 1) := by decide +kernel
theorem dX12_inForce_117 : decode cX12_inForce 117 = .ok (.getfield 92, 3) := by decide +kernel
theorem dX12_inForce_120 : decode cX12_inForce 120 = .ok (.iload_n 3, 1) := by decide +kernel
theorem dX12_inForce_121 : decode cX12_inForce 121 = .ok (.iaload, 1) := by decide +kernel
theorem dX12_inForce_122 : decode cX12_inForce 122 = .ok (.ireturn, 1) := by decide +kernel
theorem dX12_inForce_123 : decode cX12_inForce 123 = .ok (.iconst (-1), 1) := by decide +kernel
theorem dX12_inForce_124 : decode cX12_inForce 124 = .ok (.ireturn, 1) := by decide +kernel
theorem dX12_isLetterOf_0 : decode cX12_isLetterOf 0 = .ok (.iload_n 1, 1) := by decide +kernel
theorem dX12_isLetterOf_1 : decode cX12_isLetterOf 1 = .ok (.iconst 0, 1) := by decide +kernel
theorem dX12_isLetterOf_2 : decode cX12_isLetterOf 2 = .ok (.aload_n 0, 1) := by decide +kernel
theorem dX12_isLetterOf_3 : decode cX12_isLetterOf 3 = .ok (.getfield 531, 3) := by decide +kernel
theorem dX12_isLetterOf_6 : decode cX12_isLetterOf 6 = .ok (.iconst 1, 1) := by decide +kernel
theorem dX12_isLetterOf_7 : decode cX12_isLetterOf 7 = .ok (.isub, 1) := by decide +kernel
theorem dX12_isLetterOf_8 : decode cX12_isLetterOf 8 = .ok (.invokestatic 286, 3) := by decide +kernel
theorem dX12_isLetterOf_11 : decode cX12_isLetterOf 11 = .ok (.ireturn, 1) := by decide +kernel
theorem dX12_isCross_0 : decode cX12_isCross 0 = .ok (.iload_n 1, 1) := by decide +kernel
theorem dX12_isCross_1 : decode cX12_isCross 1 = .ok (.ifCond .eq 7, 3) := by decide +kernel
theorem dX12_isCross_4 : decode cX12_isCross 4 = .ok (.iload_n 2, 1) := by decide +kernel
theorem dX12_isCross_5 : decode cX12_isCross 5 = .ok (.ifCond .ne 5, 3) := by decide +kernel
theorem dX12_isCross_8 : decode cX12_isCross 8 = .ok (.iconst 0, 1) := by decide +kernel
theorem dX12_isCross_9 : decode cX12_isCross 9 = .ok (.ireturn, 1) := by decide +kernel
theorem dX12_isCross_10 : decode cX12_isCross 10 = .ok (.aload_n 0, 1) := by decide +kernel
theorem dX12_isCross_11 : decode cX12_isCross 11 = .ok (.iload_n 1, 1) := by decide +kernel
theorem dX12_isCross_12 : decode cX12_isCross 12 = .ok (.iload_n 2, 1) := by decide +kernel
theorem dX12_isCross_13 : decode cX12_isCross 13 = .ok (.iconst 0, 1) := by decide +kernel
theorem dX12_isCross_14 : decode cX12_isCross 14 = .ok (.invokevirtual 306, 3) := by decide +kernel
theorem dX12_isCross_17 : decode cX12_isCross 17 = .ok (.istore_n 3, 1) := by decide +kernel
theorem dX12_isCross_18 : decode cX12_isCross 18 = .ok (.iload_n 3, 1) := by decide +kernel
theorem dX12_isCross_19 : decode cX12_isCross 19 = .ok (.ldc_w 301, 3) := by decide +kernel
theorem dX12_isCross_22 : decode cX12_isCross 22 = .ok (.if_icmp .eq 18, 3) := by decide +kernel
theorem dX12_isCross_25 : decode cX12_isCross 25 = .ok (.aload_n 0, 1) := by decide +kernel
theorem dX12_isCross_26 : decode cX12_isCross 26 = .ok (.iload_n 1, 1) := by decide +kernel
theorem dX12_isCross_27 : decode cX12_isCross 27 = .ok (.iload_n 2, 1) := by decide +kernel
theorem dX12_isCross_28 : decode cX12_isCross 28 = .ok (.iconst 1, 1) := by decide +kernel
theorem dX12_isCross_29 : decode cX12_isCross 29 = .ok (.invokevirtual 306, 3) := by decide +kernel
theorem dX12_isCross_32 : decode cX12_isCross 32 = .ok (.iload_n 3, 1) := by decide +kernel
theorem dX12_isCross_33 : decode cX12_isCross 33 = .ok (.if_icmp .ne 7, 3) := by decide +kernel
theorem dX12_isCross_36 : decode cX12_isCross 36 = .ok (.iconst 1, 1) := by decide +kernel
theorem dX12_isCross_37 : decode cX12_isCross 37 = .ok (.goto 4, 3) := by decide +kernel
theorem dX12_isCross_40 : decode cX12_isCross 40 = .ok (.iconst 0, 1) := by decide +kernel
theorem dX12_isCross_41 : decode cX12_isCross 41 = .ok (.ireturn, 1) := by decide +kernel
theorem dX12_turns_0 : decode cX12_turns 0 = .ok (.aload_n 0, 1) := by decide +kernel
theorem dX12_turns_1 : decode cX12_turns 1 = .ok (.getfield 177, 3) := by decide +kernel
theorem dX12_turns_4 : decode cX12_turns 4 = .ok (.iload_n 1, 1) := by decide +kernel
theorem dX12_turns_5 : decode cX12_turns 5 = .ok (.iload_n 3, 1) := by decide +kernel
theorem dX12_turns_6 : decode cX12_turns 6 = .ok (.iastore, 1) := by decide +kernel
theorem dX12_turns_7 : decode cX12_turns 7 = .ok (.aload_n 0, 1) := by decide +kernel
theorem dX12_turns_8 : decode cX12_turns 8 = .ok (.getfield 180, 3) := by decide +kernel
theorem dX12_turns_11 : decode cX12_turns 11 = .ok (.iload_n 1, 1) := by decide +kernel
theorem dX12_turns_12 : decode cX12_turns 12 = .ok (.iload 4, 2) := by decide +kernel
theorem dX12_turns_14 : decode cX12_turns 14 = .ok (.iastore, 1) := by decide +kernel
theorem dX12_turns_15 : decode cX12_turns 15 = .ok (.aload_n 0, 1) := by decide +kernel
theorem dX12_turns_16 : decode cX12_turns 16 = .ok (.getfield 189, 3) := by decide +kernel
theorem dX12_turns_19 : decode cX12_turns 19 = .ok (.iload_n 1, 1) := by decide +kernel
theorem dX12_turns_20 : decode cX12_turns 20 = .ok (.iload_n 2, 1) := by decide +kernel
theorem dX12_turns_21 : decode cX12_turns 21 = .ok (.iastore, 1) := by decide +kernel
theorem dX12_turns_22 : decode cX12_turns 22 = .ok (.sipush 1000, 3) := by decide +kernel
theorem dX12_turns_25 : decode cX12_turns 25 = .ok (.iload_n 1, 1) := by decide +kernel
theorem dX12_turns_26 : decode cX12_turns 26 = .ok (.imul, 1) := by decide +kernel
theorem dX12_turns_27 : decode cX12_turns 27 = .ok (.aload_n 0, 1) := by decide +kernel
theorem dX12_turns_28 : decode cX12_turns 28 = .ok (.getfield 162, 3) := by decide +kernel
theorem dX12_turns_31 : decode cX12_turns 31 = .ok (.iload_n 1, 1) := by decide +kernel
theorem dX12_turns_32 : decode cX12_turns 32 = .ok (.iaload, 1) := by decide +kernel
theorem dX12_turns_33 : decode cX12_turns 33 = .ok (.iadd, 1) := by decide +kernel
theorem dX12_turns_34 : decode cX12_turns 34 = .ok (.istore 5, 2) := by decide +kernel
theorem dX12_turns_36 : decode cX12_turns 36 = .ok (.aload_n 0, 1) := by decide +kernel
theorem dX12_turns_37 : decode cX12_turns 37 = .ok (.getfield 199, 3) := by decide +kernel
theorem dX12_turns_40 : decode cX12_turns 40 = .ok (.iload 5, 2) := by decide +kernel
theorem dX12_turns_42 : decode cX12_turns 42 = .ok (.iload_n 2, 1) := by decide +kernel
theorem dX12_turns_43 : decode cX12_turns 43 = .ok (.iastore, 1) := by decide +kernel
theorem dX12_turns_44 : decode cX12_turns 44 = .ok (.aload_n 0, 1) := by decide +kernel
theorem dX12_turns_45 : decode cX12_turns 45 = .ok (.getfield 202, 3) := by decide +kernel
theorem dX12_turns_48 : decode cX12_turns 48 = .ok (.iload 5, 2) := by decide +kernel
theorem dX12_turns_50 : decode cX12_turns 50 = .ok (.iload_n 3, 1) := by decide +kernel
theorem dX12_turns_51 : decode cX12_turns 51 = .ok (.iastore, 1) := by decide +kernel
theorem dX12_turns_52 : decode cX12_turns 52 = .ok (.aload_n 0, 1) := by decide +kernel
theorem dX12_turns_53 : decode cX12_turns 53 = .ok (.getfield 205, 3) := by decide +kernel
theorem dX12_turns_56 : decode cX12_turns 56 = .ok (.iload 5, 2) := by decide +kernel
theorem dX12_turns_58 : decode cX12_turns 58 = .ok (.iload 4, 2) := by decide +kernel
theorem dX12_turns_60 : decode cX12_turns 60 = .ok (.iastore, 1) := by decide +kernel
theorem dX12_turns_61 : decode cX12_turns 61 = .ok (.aload_n 0, 1) := by decide +kernel
theorem dX12_turns_62 : decode cX12_turns 62 = .ok (.getfield 162, 3) := by decide +kernel
theorem dX12_turns_65 : decode cX12_turns 65 = .ok (.iload_n 1, 1) := by decide +kernel
theorem dX12_turns_66 : decode cX12_turns 66 = .ok (.dup2, 1) := by decide +kernel
theorem dX12_turns_67 : decode cX12_turns 67 = .ok (.iaload, 1) := by decide +kernel
theorem dX12_turns_68 : decode cX12_turns 68 = .ok (.iconst 1, 1) := by decide +kernel
theorem dX12_turns_69 : decode cX12_turns 69 = .ok (.iadd, 1) := by decide +kernel
theorem dX12_turns_70 : decode cX12_turns 70 = .ok (.iastore, 1) := by decide +kernel
theorem dX12_turns_71 : decode cX12_turns 71 = .ok (.return_, 1) := by decide +kernel
theorem dX12_gathers_0 : decode cX12_gathers 0 = .ok (.aload_n 0, 1) := by decide +kernel
theorem dX12_gathers_1 : decode cX12_gathers 1 = .ok (.getfield 208, 3) := by decide +kernel
theorem dX12_gathers_4 : decode cX12_gathers 4 = .ok (.iconst 1, 1) := by decide +kernel
theorem dX12_gathers_5 : decode cX12_gathers 5 = .ok (.aload_n 0, 1) := by decide +kernel
theorem dX12_gathers_6 : decode cX12_gathers 6 = .ok (.getfield 147, 3) := by decide +kernel
theorem dX12_gathers_9 : decode cX12_gathers 9 = .ok (.iload_n 1, 1) := by decide +kernel
theorem dX12_gathers_10 : decode cX12_gathers 10 = .ok (.iaload, 1) := by decide +kernel
theorem dX12_gathers_11 : decode cX12_gathers 11 = .ok (.ldc_w 301, 3) := by decide +kernel
theorem dX12_gathers_14 : decode cX12_gathers 14 = .ok (.if_icmp .ne 7, 3) := by decide +kernel
theorem dX12_gathers_17 : decode cX12_gathers 17 = .ok (.iconst 0, 1) := by decide +kernel
theorem dX12_gathers_18 : decode cX12_gathers 18 = .ok (.goto 9, 3) := by decide +kernel
theorem dX12_gathers_21 : decode cX12_gathers 21 = .ok (.aload_n 0, 1) := by decide +kernel
theorem dX12_gathers_22 : decode cX12_gathers 22 = .ok (.getfield 147, 3) := by decide +kernel
theorem dX12_gathers_25 : decode cX12_gathers 25 = .ok (.iload_n 1, 1) := by decide +kernel
theorem dX12_gathers_26 : decode cX12_gathers 26 = .ok (.iaload, 1) := by decide +kernel
theorem dX12_gathers_27 : decode cX12_gathers 27 = .ok (.iastore, 1) := by decide +kernel
theorem dX12_gathers_28 : decode cX12_gathers 28 = .ok (.aload_n 0, 1) := by decide +kernel
theorem dX12_gathers_29 : decode cX12_gathers 29 = .ok (.getfield 208, 3) := by decide +kernel
theorem dX12_gathers_32 : decode cX12_gathers 32 = .ok (.iconst 2, 1) := by decide +kernel
theorem dX12_gathers_33 : decode cX12_gathers 33 = .ok (.aload_n 0, 1) := by decide +kernel
theorem dX12_gathers_34 : decode cX12_gathers 34 = .ok (.getfield 135, 3) := by decide +kernel
theorem dX12_gathers_37 : decode cX12_gathers 37 = .ok (.iload_n 1, 1) := by decide +kernel
theorem dX12_gathers_38 : decode cX12_gathers 38 = .ok (.iaload, 1) := by decide +kernel
theorem dX12_gathers_39 : decode cX12_gathers 39 = .ok (.iastore, 1) := by decide +kernel
theorem dX12_gathers_40 : decode cX12_gathers 40 = .ok (.aload_n 0, 1) := by decide +kernel
theorem dX12_gathers_41 : decode cX12_gathers 41 = .ok (.getfield 208, 3) := by decide +kernel
theorem dX12_gathers_44 : decode cX12_gathers 44 = .ok (.iconst 3, 1) := by decide +kernel
theorem dX12_gathers_45 : decode cX12_gathers 45 = .ok (.aload_n 0, 1) := by decide +kernel
theorem dX12_gathers_46 : decode cX12_gathers 46 = .ok (.getfield 138, 3) := by decide +kernel
theorem dX12_gathers_49 : decode cX12_gathers 49 = .ok (.iload_n 1, 1) := by decide +kernel
theorem dX12_gathers_50 : decode cX12_gathers 50 = .ok (.iaload, 1) := by decide +kernel
theorem dX12_gathers_51 : decode cX12_gathers 51 = .ok (.iastore, 1) := by decide +kernel
theorem dX12_gathers_52 : decode cX12_gathers 52 = .ok (.aload_n 0, 1) := by decide +kernel
theorem dX12_gathers_53 : decode cX12_gathers 53 = .ok (.getfield 208, 3) := by decide +kernel
theorem dX12_gathers_56 : decode cX12_gathers 56 = .ok (.iconst 4, 1) := by decide +kernel
theorem dX12_gathers_57 : decode cX12_gathers 57 = .ok (.aload_n 0, 1) := by decide +kernel
theorem dX12_gathers_58 : decode cX12_gathers 58 = .ok (.getfield 144, 3) := by decide +kernel
theorem dX12_gathers_61 : decode cX12_gathers 61 = .ok (.iload_n 1, 1) := by decide +kernel
theorem dX12_gathers_62 : decode cX12_gathers 62 = .ok (.iaload, 1) := by decide +kernel
theorem dX12_gathers_63 : decode cX12_gathers 63 = .ok (.sipush 1440, 3) := by decide +kernel
theorem dX12_gathers_66 : decode cX12_gathers 66 = .ok (.irem, 1) := by decide +kernel
theorem dX12_gathers_67 : decode cX12_gathers 67 = .ok (.bipush 60, 2) := by decide +kernel
theorem dX12_gathers_69 : decode cX12_gathers 69 = .ok (.idiv, 1) := by decide +kernel
theorem dX12_gathers_70 : decode cX12_gathers 70 = .ok (.iastore, 1) := by decide +kernel
theorem dX12_gathers_71 : decode cX12_gathers 71 = .ok (.aload_n 0, 1) := by decide +kernel
theorem dX12_gathers_72 : decode cX12_gathers 72 = .ok (.getfield 208, 3) := by decide +kernel
theorem dX12_gathers_75 : decode cX12_gathers 75 = .ok (.iconst 5, 1) := by decide +kernel
theorem dX12_gathers_76 : decode cX12_gathers 76 = .ok (.aload_n 0, 1) := by decide +kernel
theorem dX12_gathers_77 : decode cX12_gathers 77 = .ok (.getfield 144, 3) := by decide +kernel
theorem dX12_gathers_80 : decode cX12_gathers 80 = .ok (.iload_n 1, 1) := by decide +kernel
theorem dX12_gathers_81 : decode cX12_gathers 81 = .ok (.iaload, 1) := by decide +kernel
theorem dX12_gathers_82 : decode cX12_gathers 82 = .ok (.sipush 1440, 3) := by decide +kernel
theorem dX12_gathers_85 : decode cX12_gathers 85 = .ok (.idiv, 1) := by decide +kernel
theorem dX12_gathers_86 : decode cX12_gathers 86 = .ok (.iastore, 1) := by decide +kernel
theorem dX12_gathers_87 : decode cX12_gathers 87 = .ok (.aload_n 0, 1) := by decide +kernel
theorem dX12_gathers_88 : decode cX12_gathers 88 = .ok (.getfield 208, 3) := by decide +kernel
theorem dX12_gathers_91 : decode cX12_gathers 91 = .ok (.bipush 6, 2) := by decide +kernel
theorem dX12_gathers_93 : decode cX12_gathers 93 = .ok (.aload_n 0, 1) := by decide +kernel
theorem dX12_gathers_94 : decode cX12_gathers 94 = .ok (.getfield 126, 3) := by decide +kernel
theorem dX12_gathers_97 : decode cX12_gathers 97 = .ok (.iload_n 1, 1) := by decide +kernel
theorem dX12_gathers_98 : decode cX12_gathers 98 = .ok (.iaload, 1) := by decide +kernel
theorem dX12_gathers_99 : decode cX12_gathers 99 = .ok (.iastore, 1) := by decide +kernel
theorem dX12_gathers_100 : decode cX12_gathers 100 = .ok (.aload_n 0, 1) := by decide +kernel
theorem dX12_gathers_101 : decode cX12_gathers 101 = .ok (.getfield 208, 3) := by decide +kernel
theorem dX12_gathers_104 : decode cX12_gathers 104 = .ok (.bipush 7, 2) := by decide +kernel
theorem dX12_gathers_106 : decode cX12_gathers 106 = .ok (.aload_n 0, 1) := by decide +kernel
theorem dX12_gathers_107 : decode cX12_gathers 107 = .ok (.getfield 168, 3) := by decide +kernel
theorem dX12_gathers_110 : decode cX12_gathers 110 = .ok (.iload_n 1, 1) := by decide +kernel
theorem dX12_gathers_111 : decode cX12_gathers 111 = .ok (.baload, 1) := by decide +kernel
theorem dX12_gathers_112 : decode cX12_gathers 112 = .ok (.ifCond .eq 7, 3) := by decide +kernel
theorem dX12_gathers_115 : decode cX12_gathers 115 = .ok (.iconst 1, 1) := by decide +kernel
theorem dX12_gathers_116 : decode cX12_gathers 116 = .ok (.goto 4, 3) := by decide +kernel
theorem dX12_gathers_119 : decode cX12_gathers 119 = .ok (.iconst 0, 1) := by decide +kernel
theorem dX12_gathers_120 : decode cX12_gathers 120 = .ok (.iastore, 1) := by decide +kernel
theorem dX12_gathers_121 : decode cX12_gathers 121 = .ok (.return_, 1) := by decide +kernel
theorem dX12_both_0 : decode cX12_both 0 = .ok (.iload_n 0, 1) := by decide +kernel
theorem dX12_both_1 : decode cX12_both 1 = .ok (.tableswitch 100 8 16 #[51, 55, 59, 100, 63, 74, 85, 100, 96], 51) := by decide +kernel
theorem dX12_both_52 : decode cX12_both 52 = .ok (.iload_n 1, 1) := by decide +kernel
theorem dX12_both_53 : decode cX12_both 53 = .ok (.iload_n 2, 1) := by decide +kernel
theorem dX12_both_54 : decode cX12_both 54 = .ok (.iadd, 1) := by decide +kernel
theorem dX12_both_55 : decode cX12_both 55 = .ok (.ireturn, 1) := by decide +kernel
theorem dX12_both_56 : decode cX12_both 56 = .ok (.iload_n 1, 1) := by decide +kernel
theorem dX12_both_57 : decode cX12_both 57 = .ok (.iload_n 2, 1) := by decide +kernel
theorem dX12_both_58 : decode cX12_both 58 = .ok (.isub, 1) := by decide +kernel
theorem dX12_both_59 : decode cX12_both 59 = .ok (.ireturn, 1) := by decide +kernel
theorem dX12_both_60 : decode cX12_both 60 = .ok (.iload_n 1, 1) := by decide +kernel
theorem dX12_both_61 : decode cX12_both 61 = .ok (.iload_n 2, 1) := by decide +kernel
theorem dX12_both_62 : decode cX12_both 62 = .ok (.imul, 1) := by decide +kernel
theorem dX12_both_63 : decode cX12_both 63 = .ok (.ireturn, 1) := by decide +kernel
theorem dX12_both_64 : decode cX12_both 64 = .ok (.iload_n 1, 1) := by decide +kernel
theorem dX12_both_65 : decode cX12_both 65 = .ok (.iload_n 2, 1) := by decide +kernel
theorem dX12_both_66 : decode cX12_both 66 = .ok (.if_icmp .ge 7, 3) := by decide +kernel
theorem dX12_both_69 : decode cX12_both 69 = .ok (.iconst 1, 1) := by decide +kernel
theorem dX12_both_70 : decode cX12_both 70 = .ok (.goto 4, 3) := by decide +kernel
theorem dX12_both_73 : decode cX12_both 73 = .ok (.iconst 0, 1) := by decide +kernel
theorem dX12_both_74 : decode cX12_both 74 = .ok (.ireturn, 1) := by decide +kernel
theorem dX12_both_75 : decode cX12_both 75 = .ok (.iload_n 1, 1) := by decide +kernel
theorem dX12_both_76 : decode cX12_both 76 = .ok (.iload_n 2, 1) := by decide +kernel
theorem dX12_both_77 : decode cX12_both 77 = .ok (.if_icmp .ne 7, 3) := by decide +kernel
theorem dX12_both_80 : decode cX12_both 80 = .ok (.iconst 1, 1) := by decide +kernel
theorem dX12_both_81 : decode cX12_both 81 = .ok (.goto 4, 3) := by decide +kernel
theorem dX12_both_84 : decode cX12_both 84 = .ok (.iconst 0, 1) := by decide +kernel
theorem dX12_both_85 : decode cX12_both 85 = .ok (.ireturn, 1) := by decide +kernel
theorem dX12_both_86 : decode cX12_both 86 = .ok (.iload_n 1, 1) := by decide +kernel
theorem dX12_both_87 : decode cX12_both 87 = .ok (.iload_n 2, 1) := by decide +kernel
theorem dX12_both_88 : decode cX12_both 88 = .ok (.if_icmp .le 7, 3) := by decide +kernel
theorem dX12_both_91 : decode cX12_both 91 = .ok (.iconst 1, 1) := by decide +kernel
theorem dX12_both_92 : decode cX12_both 92 = .ok (.goto 4, 3) := by decide +kernel
theorem dX12_both_95 : decode cX12_both 95 = .ok (.iconst 0, 1) := by decide +kernel
theorem dX12_both_96 : decode cX12_both 96 = .ok (.ireturn, 1) := by decide +kernel
theorem dX12_both_97 : decode cX12_both 97 = .ok (.iload_n 1, 1) := by decide +kernel
theorem dX12_both_98 : decode cX12_both 98 = .ok (.iload_n 2, 1) := by decide +kernel
theorem dX12_both_99 : decode cX12_both 99 = .ok (.iand, 1) := by decide +kernel
theorem dX12_both_100 : decode cX12_both 100 = .ok (.ireturn, 1) := by decide +kernel
theorem dX12_both_101 : decode cX12_both 101 = .ok (.iload_n 1, 1) := by decide +kernel
theorem dX12_both_102 : decode cX12_both 102 = .ok (.iload_n 2, 1) := by decide +kernel
theorem dX12_both_103 : decode cX12_both 103 = .ok (.ior, 1) := by decide +kernel
theorem dX12_both_104 : decode cX12_both 104 = .ok (.ireturn, 1) := by decide +kernel
theorem dX12_comesTo_0 : decode cX12_comesTo 0 = .ok (.iconst 0, 1) := by decide +kernel
theorem dX12_comesTo_1 : decode cX12_comesTo 1 = .ok (.istore 4, 2) := by decide +kernel
theorem dX12_comesTo_3 : decode cX12_comesTo 3 = .ok (.iload_n 2, 1) := by decide +kernel
theorem dX12_comesTo_4 : decode cX12_comesTo 4 = .ok (.istore 5, 2) := by decide +kernel
theorem dX12_comesTo_6 : decode cX12_comesTo 6 = .ok (.iload 5, 2) := by decide +kernel
theorem dX12_comesTo_8 : decode cX12_comesTo 8 = .ok (.iload_n 3, 1) := by decide +kernel
theorem dX12_comesTo_9 : decode cX12_comesTo 9 = .ok (.if_icmp .ge 169, 3) := by decide +kernel
theorem dX12_comesTo_12 : decode cX12_comesTo 12 = .ok (.aload_n 0, 1) := by decide +kernel
theorem dX12_comesTo_13 : decode cX12_comesTo 13 = .ok (.getfield 104, 3) := by decide +kernel
theorem dX12_comesTo_16 : decode cX12_comesTo 16 = .ok (.sipush 1220, 3) := by decide +kernel
theorem dX12_comesTo_19 : decode cX12_comesTo 19 = .ok (.iload_n 1, 1) := by decide +kernel
theorem dX12_comesTo_20 : decode cX12_comesTo 20 = .ok (.imul, 1) := by decide +kernel
theorem dX12_comesTo_21 : decode cX12_comesTo 21 = .ok (.iconst 2, 1) := by decide +kernel
theorem dX12_comesTo_22 : decode cX12_comesTo 22 = .ok (.iload 5, 2) := by decide +kernel
theorem dX12_comesTo_24 : decode cX12_comesTo 24 = .ok (.imul, 1) := by decide +kernel
theorem dX12_comesTo_25 : decode cX12_comesTo 25 = .ok (.iadd, 1) := by decide +kernel
theorem dX12_comesTo_26 : decode cX12_comesTo 26 = .ok (.iaload, 1) := by decide +kernel
theorem dX12_comesTo_27 : decode cX12_comesTo 27 = .ok (.istore 6, 2) := by decide +kernel
theorem dX12_comesTo_29 : decode cX12_comesTo 29 = .ok (.aload_n 0, 1) := by decide +kernel
theorem dX12_comesTo_30 : decode cX12_comesTo 30 = .ok (.getfield 104, 3) := by decide +kernel
theorem dX12_comesTo_33 : decode cX12_comesTo 33 = .ok (.sipush 1220, 3) := by decide +kernel
theorem dX12_comesTo_36 : decode cX12_comesTo 36 = .ok (.iload_n 1, 1) := by decide +kernel
theorem dX12_comesTo_37 : decode cX12_comesTo 37 = .ok (.imul, 1) := by decide +kernel
theorem dX12_comesTo_38 : decode cX12_comesTo 38 = .ok (.iconst 2, 1) := by decide +kernel
theorem dX12_comesTo_39 : decode cX12_comesTo 39 = .ok (.iload 5, 2) := by decide +kernel
theorem dX12_comesTo_41 : decode cX12_comesTo 41 = .ok (.imul, 1) := by decide +kernel
theorem dX12_comesTo_42 : decode cX12_comesTo 42 = .ok (.iadd, 1) := by decide +kernel
theorem dX12_comesTo_43 : decode cX12_comesTo 43 = .ok (.iconst 1, 1) := by decide +kernel
theorem dX12_comesTo_44 : decode cX12_comesTo 44 = .ok (.iadd, 1) := by decide +kernel
theorem dX12_comesTo_45 : decode cX12_comesTo 45 = .ok (.iaload, 1) := by decide +kernel
theorem dX12_comesTo_46 : decode cX12_comesTo 46 = .ok (.istore 7, 2) := by decide +kernel
theorem dX12_comesTo_48 : decode cX12_comesTo 48 = .ok (.iload 6, 2) := by decide +kernel
theorem dX12_comesTo_50 : decode cX12_comesTo 50 = .ok (.bipush 8, 2) := by decide +kernel
theorem dX12_comesTo_52 : decode cX12_comesTo 52 = .ok (.if_icmp .ge 33, 3) := by decide +kernel
theorem dX12_comesTo_55 : decode cX12_comesTo 55 = .ok (.aload_n 0, 1) := by decide +kernel
theorem dX12_comesTo_56 : decode cX12_comesTo 56 = .ok (.getfield 119, 3) := by decide +kernel
theorem dX12_comesTo_59 : decode cX12_comesTo 59 = .ok (.iload 4, 2) := by decide +kernel
theorem dX12_comesTo_61 : decode cX12_comesTo 61 = .ok (.iload 6, 2) := by decide +kernel
theorem dX12_comesTo_63 : decode cX12_comesTo 63 = .ok (.ifCond .ne 8, 3) := by decide +kernel
theorem dX12_comesTo_66 : decode cX12_comesTo 66 = .ok (.iload 7, 2) := by decide +kernel
theorem dX12_comesTo_68 : decode cX12_comesTo 68 = .ok (.goto 10, 3) := by decide +kernel
theorem dX12_comesTo_71 : decode cX12_comesTo 71 = .ok (.aload_n 0, 1) := by decide +kernel
theorem dX12_comesTo_72 : decode cX12_comesTo 72 = .ok (.getfield 208, 3) := by decide +kernel
theorem dX12_comesTo_75 : decode cX12_comesTo 75 = .ok (.iload 6, 2) := by decide +kernel
theorem dX12_comesTo_77 : decode cX12_comesTo 77 = .ok (.iaload, 1) := by decide +kernel
theorem dX12_comesTo_78 : decode cX12_comesTo 78 = .ok (.iastore, 1) := by decide +kernel
theorem dX12_comesTo_79 : decode cX12_comesTo 79 = .ok (.iinc 4 1, 3) := by decide +kernel
theorem dX12_comesTo_82 : decode cX12_comesTo 82 = .ok (.goto 90, 3) := by decide +kernel
theorem dX12_comesTo_85 : decode cX12_comesTo 85 = .ok (.iload 6, 2) := by decide +kernel
theorem dX12_comesTo_87 : decode cX12_comesTo 87 = .ok (.bipush 11, 2) := by decide +kernel
theorem dX12_comesTo_89 : decode cX12_comesTo 89 = .ok (.if_icmp .ne 20, 3) := by decide +kernel
theorem dX12_comesTo_92 : decode cX12_comesTo 92 = .ok (.aload_n 0, 1) := by decide +kernel
theorem dX12_comesTo_93 : decode cX12_comesTo 93 = .ok (.getfield 119, 3) := by decide +kernel
theorem dX12_comesTo_96 : decode cX12_comesTo 96 = .ok (.iload 4, 2) := by decide +kernel
theorem dX12_comesTo_98 : decode cX12_comesTo 98 = .ok (.iconst 1, 1) := by decide +kernel
theorem dX12_comesTo_99 : decode cX12_comesTo 99 = .ok (.isub, 1) := by decide +kernel
theorem dX12_comesTo_100 : decode cX12_comesTo 100 = .ok (.dup2, 1) := by decide +kernel
theorem dX12_comesTo_101 : decode cX12_comesTo 101 = .ok (.iaload, 1) := by decide +kernel
theorem dX12_comesTo_102 : decode cX12_comesTo 102 = .ok (.iload 7, 2) := by decide +kernel
theorem dX12_comesTo_104 : decode cX12_comesTo 104 = .ok (.idiv, 1) := by decide +kernel
theorem dX12_comesTo_105 : decode cX12_comesTo 105 = .ok (.iastore, 1) := by decide +kernel
theorem dX12_comesTo_106 : decode cX12_comesTo 106 = .ok (.goto 66, 3) := by decide +kernel
theorem dX12_comesTo_109 : decode cX12_comesTo 109 = .ok (.iload 6, 2) := by decide +kernel
theorem dX12_comesTo_111 : decode cX12_comesTo 111 = .ok (.bipush 15, 2) := by decide +kernel
theorem dX12_comesTo_113 : decode cX12_comesTo 113 = .ok (.if_icmp .ne 26, 3) := by decide +kernel
theorem dX12_comesTo_116 : decode cX12_comesTo 116 = .ok (.aload_n 0, 1) := by decide +kernel
theorem dX12_comesTo_117 : decode cX12_comesTo 117 = .ok (.getfield 119, 3) := by decide +kernel
theorem dX12_comesTo_120 : decode cX12_comesTo 120 = .ok (.iload 4, 2) := by decide +kernel
theorem dX12_comesTo_122 : decode cX12_comesTo 122 = .ok (.iconst 1, 1) := by decide +kernel
theorem dX12_comesTo_123 : decode cX12_comesTo 123 = .ok (.isub, 1) := by decide +kernel
theorem dX12_comesTo_124 : decode cX12_comesTo 124 = .ok (.iconst 1, 1) := by decide +kernel
theorem dX12_comesTo_125 : decode cX12_comesTo 125 = .ok (.aload_n 0, 1) := by decide +kernel
theorem dX12_comesTo_126 : decode cX12_comesTo 126 = .ok (.getfield 119, 3) := by decide +kernel
theorem dX12_comesTo_129 : decode cX12_comesTo 129 = .ok (.iload 4, 2) := by decide +kernel
theorem dX12_comesTo_131 : decode cX12_comesTo 131 = .ok (.iconst 1, 1) := by decide +kernel
theorem dX12_comesTo_132 : decode cX12_comesTo 132 = .ok (.isub, 1) := by decide +kernel
theorem dX12_comesTo_133 : decode cX12_comesTo 133 = .ok (.iaload, 1) := by decide +kernel
theorem dX12_comesTo_134 : decode cX12_comesTo 134 = .ok (.isub, 1) := by decide +kernel
theorem dX12_comesTo_135 : decode cX12_comesTo 135 = .ok (.iastore, 1) := by decide +kernel
theorem dX12_comesTo_136 : decode cX12_comesTo 136 = .ok (.goto 36, 3) := by decide +kernel
theorem dX12_comesTo_139 : decode cX12_comesTo 139 = .ok (.iinc 4 (-1), 3) := by decide +kernel
theorem dX12_comesTo_142 : decode cX12_comesTo 142 = .ok (.aload_n 0, 1) := by decide +kernel
theorem dX12_comesTo_143 : decode cX12_comesTo 143 = .ok (.getfield 119, 3) := by decide +kernel
theorem dX12_comesTo_146 : decode cX12_comesTo 146 = .ok (.iload 4, 2) := by decide +kernel
theorem dX12_comesTo_148 : decode cX12_comesTo 148 = .ok (.iconst 1, 1) := by decide +kernel
theorem dX12_comesTo_149 : decode cX12_comesTo 149 = .ok (.isub, 1) := by decide +kernel
theorem dX12_comesTo_150 : decode cX12_comesTo 150 = .ok (.iload 6, 2) := by decide +kernel
theorem dX12_comesTo_152 : decode cX12_comesTo 152 = .ok (.aload_n 0, 1) := by decide +kernel
theorem dX12_comesTo_153 : decode cX12_comesTo 153 = .ok (.getfield 119, 3) := by decide +kernel
theorem dX12_comesTo_156 : decode cX12_comesTo 156 = .ok (.iload 4, 2) := by decide +kernel
theorem dX12_comesTo_158 : decode cX12_comesTo 158 = .ok (.iconst 1, 1) := by decide +kernel
theorem dX12_comesTo_159 : decode cX12_comesTo 159 = .ok (.isub, 1) := by decide +kernel
theorem dX12_comesTo_160 : decode cX12_comesTo 160 = .ok (.iaload, 1) := by decide +kernel
theorem dX12_comesTo_161 : decode cX12_comesTo 161 = .ok (.aload_n 0, 1) := by decide +kernel
theorem dX12_comesTo_162 : decode cX12_comesTo 162 = .ok (.getfield 119, 3) := by decide +kernel
theorem dX12_comesTo_165 : decode cX12_comesTo 165 = .ok (.iload 4, 2) := by decide +kernel
theorem dX12_comesTo_167 : decode cX12_comesTo 167 = .ok (.iaload, 1) := by decide +kernel
theorem dX12_comesTo_168 : decode cX12_comesTo 168 = .ok (.invokestatic 534, 3) := by decide +kernel
theorem dX12_comesTo_171 : decode cX12_comesTo 171 = .ok (.iastore, 1) := by decide +kernel
theorem dX12_comesTo_172 : decode cX12_comesTo 172 = .ok (.iinc 5 1, 3) := by decide +kernel
theorem dX12_comesTo_175 : decode cX12_comesTo 175 = .ok (.goto (-169), 3) := by decide +kernel
theorem dX12_comesTo_178 : decode cX12_comesTo 178 = .ok (.aload_n 0, 1) := by decide +kernel
theorem dX12_comesTo_179 : decode cX12_comesTo 179 = .ok (.getfield 119, 3) := by decide +kernel
theorem dX12_comesTo_182 : decode cX12_comesTo 182 = .ok (.iconst 0, 1) := by decide +kernel
theorem dX12_comesTo_183 : decode cX12_comesTo 183 = .ok (.iaload, 1) := by decide +kernel
theorem dX12_comesTo_184 : decode cX12_comesTo 184 = .ok (.ireturn, 1) := by decide +kernel
theorem dX12_isFree_0 : decode cX12_isFree 0 = .ok (.aload_n 0, 1) := by decide +kernel
theorem dX12_isFree_1 : decode cX12_isFree 1 = .ok (.getfield 126, 3) := by decide +kernel
theorem dX12_isFree_4 : decode cX12_isFree 4 = .ok (.iload_n 1, 1) := by decide +kernel
theorem dX12_isFree_5 : decode cX12_isFree 5 = .ok (.iaload, 1) := by decide +kernel
theorem dX12_isFree_6 : decode cX12_isFree 6 = .ok (.iconst 2, 1) := by decide +kernel
theorem dX12_isFree_7 : decode cX12_isFree 7 = .ok (.if_icmp .ne 22, 3) := by decide +kernel
theorem dX12_isFree_10 : decode cX12_isFree 10 = .ok (.aload_n 0, 1) := by decide +kernel
theorem dX12_isFree_11 : decode cX12_isFree 11 = .ok (.getfield 150, 3) := by decide +kernel
theorem dX12_isFree_14 : decode cX12_isFree 14 = .ok (.iload_n 1, 1) := by decide +kernel
theorem dX12_isFree_15 : decode cX12_isFree 15 = .ok (.iaload, 1) := by decide +kernel
theorem dX12_isFree_16 : decode cX12_isFree 16 = .ok (.aload_n 0, 1) := by decide +kernel
theorem dX12_isFree_17 : decode cX12_isFree 17 = .ok (.getfield 83, 3) := by decide +kernel
theorem dX12_isFree_20 : decode cX12_isFree 20 = .ok (.iload_n 2, 1) := by decide +kernel
theorem dX12_isFree_21 : decode cX12_isFree 21 = .ok (.iaload, 1) := by decide +kernel
theorem dX12_isFree_22 : decode cX12_isFree 22 = .ok (.if_icmp .gt 7, 3) := by decide +kernel
theorem dX12_isFree_25 : decode cX12_isFree 25 = .ok (.iconst 1, 1) := by decide +kernel
theorem dX12_isFree_26 : decode cX12_isFree 26 = .ok (.goto 4, 3) := by decide +kernel
theorem dX12_isFree_29 : decode cX12_isFree 29 = .ok (.iconst 0, 1) := by decide +kernel
theorem dX12_isFree_30 : decode cX12_isFree 30 = .ok (.ireturn, 1) := by decide +kernel
theorem dX12_lineOf_0 : decode cX12_lineOf 0 = .ok (.aload_n 0, 1) := by decide +kernel
theorem dX12_lineOf_1 : decode cX12_lineOf 1 = .ok (.iload_n 1, 1) := by decide +kernel
theorem dX12_lineOf_2 : decode cX12_lineOf 2 = .ok (.invokevirtual 537, 3) := by decide +kernel
theorem dX12_lineOf_5 : decode cX12_lineOf 5 = .ok (.iconst 0, 1) := by decide +kernel
theorem dX12_lineOf_6 : decode cX12_lineOf 6 = .ok (.istore_n 3, 1) := by decide +kernel
theorem dX12_lineOf_7 : decode cX12_lineOf 7 = .ok (.iload_n 3, 1) := by decide +kernel
theorem dX12_lineOf_8 : decode cX12_lineOf 8 = .ok (.aload_n 0, 1) := by decide +kernel
theorem dX12_lineOf_9 : decode cX12_lineOf 9 = .ok (.getfield 95, 3) := by decide +kernel
theorem dX12_lineOf_12 : decode cX12_lineOf 12 = .ok (.iload_n 2, 1) := by decide +kernel
theorem dX12_lineOf_13 : decode cX12_lineOf 13 = .ok (.iaload, 1) := by decide +kernel
theorem dX12_lineOf_14 : decode cX12_lineOf 14 = .ok (.if_icmp .ge 59, 3) := by decide +kernel
theorem dX12_lineOf_17 : decode cX12_lineOf 17 = .ok (.aload_n 0, 1) := by decide +kernel
theorem dX12_lineOf_18 : decode cX12_lineOf 18 = .ok (.getfield 101, 3) := by decide +kernel
theorem dX12_lineOf_21 : decode cX12_lineOf 21 = .ok (.bipush 24, 2) := by decide +kernel
theorem dX12_lineOf_23 : decode cX12_lineOf 23 = .ok (.iload_n 2, 1) := by decide +kernel
theorem dX12_lineOf_24 : decode cX12_lineOf 24 = .ok (.imul, 1) := by decide +kernel
theorem dX12_lineOf_25 : decode cX12_lineOf 25 = .ok (.iload_n 3, 1) := by decide +kernel
theorem dX12_lineOf_26 : decode cX12_lineOf 26 = .ok (.iadd, 1) := by decide +kernel
theorem dX12_lineOf_27 : decode cX12_lineOf 27 = .ok (.iaload, 1) := by decide +kernel
theorem dX12_lineOf_28 : decode cX12_lineOf 28 = .ok (.istore 4, 2) := by decide +kernel
theorem dX12_lineOf_30 : decode cX12_lineOf 30 = .ok (.aload_n 0, 1) := by decide +kernel
theorem dX12_lineOf_31 : decode cX12_lineOf 31 = .ok (.getfield 98, 3) := by decide +kernel
theorem dX12_lineOf_34 : decode cX12_lineOf 34 = .ok (.bipush 25, 2) := by decide +kernel
theorem dX12_lineOf_36 : decode cX12_lineOf 36 = .ok (.iload_n 2, 1) := by decide +kernel
theorem dX12_lineOf_37 : decode cX12_lineOf 37 = .ok (.imul, 1) := by decide +kernel
theorem dX12_lineOf_38 : decode cX12_lineOf 38 = .ok (.iload_n 3, 1) := by decide +kernel
theorem dX12_lineOf_39 : decode cX12_lineOf 39 = .ok (.iadd, 1) := by decide +kernel
theorem dX12_lineOf_40 : decode cX12_lineOf 40 = .ok (.iconst 1, 1) := by decide +kernel
theorem dX12_lineOf_41 : decode cX12_lineOf 41 = .ok (.iadd, 1) := by decide +kernel
theorem dX12_lineOf_42 : decode cX12_lineOf 42 = .ok (.iaload, 1) := by decide +kernel
theorem dX12_lineOf_43 : decode cX12_lineOf 43 = .ok (.istore 5, 2) := by decide +kernel
theorem dX12_lineOf_45 : decode cX12_lineOf 45 = .ok (.iload 4, 2) := by decide +kernel
theorem dX12_lineOf_47 : decode cX12_lineOf 47 = .ok (.iload 5, 2) := by decide +kernel
theorem dX12_lineOf_49 : decode cX12_lineOf 49 = .ok (.if_icmp .eq 16, 3) := by decide +kernel
theorem dX12_lineOf_52 : decode cX12_lineOf 52 = .ok (.aload_n 0, 1) := by decide +kernel
theorem dX12_lineOf_53 : decode cX12_lineOf 53 = .ok (.iload_n 2, 1) := by decide +kernel
theorem dX12_lineOf_54 : decode cX12_lineOf 54 = .ok (.iload 4, 2) := by decide +kernel
theorem dX12_lineOf_56 : decode cX12_lineOf 56 = .ok (.iload 5, 2) := by decide +kernel
theorem dX12_lineOf_58 : decode cX12_lineOf 58 = .ok (.invokevirtual 540, 3) := by decide +kernel
theorem dX12_lineOf_61 : decode cX12_lineOf 61 = .ok (.iconst 1, 1) := by decide +kernel
theorem dX12_lineOf_62 : decode cX12_lineOf 62 = .ok (.if_icmp .ne 5, 3) := by decide +kernel
theorem dX12_lineOf_65 : decode cX12_lineOf 65 = .ok (.iload_n 3, 1) := by decide +kernel
theorem dX12_lineOf_66 : decode cX12_lineOf 66 = .ok (.ireturn, 1) := by decide +kernel
theorem dX12_lineOf_67 : decode cX12_lineOf 67 = .ok (.iinc 3 1, 3) := by decide +kernel
theorem dX12_lineOf_70 : decode cX12_lineOf 70 = .ok (.goto (-63), 3) := by decide +kernel
theorem dX12_lineOf_73 : decode cX12_lineOf 73 = .ok (.iconst (-1), 1) := by decide +kernel
theorem dX12_lineOf_74 : decode cX12_lineOf 74 = .ok (.ireturn, 1) := by decide +kernel
theorem dX12_chargeBy_0 : decode cX12_chargeBy 0 = .ok (.aload_n 0, 1) := by decide +kernel
theorem dX12_chargeBy_1 : decode cX12_chargeBy 1 = .ok (.iload_n 1, 1) := by decide +kernel
theorem dX12_chargeBy_2 : decode cX12_chargeBy 2 = .ok (.iload_n 2, 1) := by decide +kernel
theorem dX12_chargeBy_3 : decode cX12_chargeBy 3 = .ok (.invokevirtual 543, 3) := by decide +kernel
theorem dX12_chargeBy_6 : decode cX12_chargeBy 6 = .ok (.ifCond .eq 5, 3) := by decide +kernel
theorem dX12_chargeBy_9 : decode cX12_chargeBy 9 = .ok (.iconst 0, 1) := by decide +kernel
theorem dX12_chargeBy_10 : decode cX12_chargeBy 10 = .ok (.ireturn, 1) := by decide +kernel
theorem dX12_chargeBy_11 : decode cX12_chargeBy 11 = .ok (.aload_n 0, 1) := by decide +kernel
theorem dX12_chargeBy_12 : decode cX12_chargeBy 12 = .ok (.iload_n 1, 1) := by decide +kernel
theorem dX12_chargeBy_13 : decode cX12_chargeBy 13 = .ok (.iload_n 2, 1) := by decide +kernel
theorem dX12_chargeBy_14 : decode cX12_chargeBy 14 = .ok (.invokevirtual 546, 3) := by decide +kernel
theorem dX12_chargeBy_17 : decode cX12_chargeBy 17 = .ok (.istore_n 3, 1) := by decide +kernel
theorem dX12_chargeBy_18 : decode cX12_chargeBy 18 = .ok (.iload_n 3, 1) := by decide +kernel
theorem dX12_chargeBy_19 : decode cX12_chargeBy 19 = .ok (.iconst (-1), 1) := by decide +kernel
theorem dX12_chargeBy_20 : decode cX12_chargeBy 20 = .ok (.if_icmp .ne 7, 3) := by decide +kernel
theorem dX12_chargeBy_23 : decode cX12_chargeBy 23 = .ok (.iconst 0, 1) := by decide +kernel
theorem dX12_chargeBy_24 : decode cX12_chargeBy 24 = .ok (.goto 30, 3) := by decide +kernel
theorem dX12_chargeBy_27 : decode cX12_chargeBy 27 = .ok (.aload_n 0, 1) := by decide +kernel
theorem dX12_chargeBy_28 : decode cX12_chargeBy 28 = .ok (.iload_n 2, 1) := by decide +kernel
theorem dX12_chargeBy_29 : decode cX12_chargeBy 29 = .ok (.aload_n 0, 1) := by decide +kernel
theorem dX12_chargeBy_30 : decode cX12_chargeBy 30 = .ok (.getfield 98, 3) := by decide +kernel
theorem dX12_chargeBy_33 : decode cX12_chargeBy 33 = .ok (.bipush 25, 2) := by decide +kernel
theorem dX12_chargeBy_35 : decode cX12_chargeBy 35 = .ok (.iload_n 2, 1) := by decide +kernel
theorem dX12_chargeBy_36 : decode cX12_chargeBy 36 = .ok (.imul, 1) := by decide +kernel
theorem dX12_chargeBy_37 : decode cX12_chargeBy 37 = .ok (.iload_n 3, 1) := by decide +kernel
theorem dX12_chargeBy_38 : decode cX12_chargeBy 38 = .ok (.iadd, 1) := by decide +kernel
theorem dX12_chargeBy_39 : decode cX12_chargeBy 39 = .ok (.iaload, 1) := by decide +kernel
theorem dX12_chargeBy_40 : decode cX12_chargeBy 40 = .ok (.aload_n 0, 1) := by decide +kernel
theorem dX12_chargeBy_41 : decode cX12_chargeBy 41 = .ok (.getfield 101, 3) := by decide +kernel
theorem dX12_chargeBy_44 : decode cX12_chargeBy 44 = .ok (.bipush 24, 2) := by decide +kernel
theorem dX12_chargeBy_46 : decode cX12_chargeBy 46 = .ok (.iload_n 2, 1) := by decide +kernel
theorem dX12_chargeBy_47 : decode cX12_chargeBy 47 = .ok (.imul, 1) := by decide +kernel
theorem dX12_chargeBy_48 : decode cX12_chargeBy 48 = .ok (.iload_n 3, 1) := by decide +kernel
theorem dX12_chargeBy_49 : decode cX12_chargeBy 49 = .ok (.iadd, 1) := by decide +kernel
theorem dX12_chargeBy_50 : decode cX12_chargeBy 50 = .ok (.iaload, 1) := by decide +kernel
theorem dX12_chargeBy_51 : decode cX12_chargeBy 51 = .ok (.invokevirtual 540, 3) := by decide +kernel
theorem dX12_chargeBy_54 : decode cX12_chargeBy 54 = .ok (.istore 4, 2) := by decide +kernel
theorem dX12_chargeBy_56 : decode cX12_chargeBy 56 = .ok (.iload 4, 2) := by decide +kernel
theorem dX12_chargeBy_58 : decode cX12_chargeBy 58 = .ok (.ifCond .ge 7, 3) := by decide +kernel
theorem dX12_chargeBy_61 : decode cX12_chargeBy 61 = .ok (.iconst 0, 1) := by decide +kernel
theorem dX12_chargeBy_62 : decode cX12_chargeBy 62 = .ok (.goto 19, 3) := by decide +kernel
theorem dX12_chargeBy_65 : decode cX12_chargeBy 65 = .ok (.iload 4, 2) := by decide +kernel
theorem dX12_chargeBy_67 : decode cX12_chargeBy 67 = .ok (.ldc_w 549, 3) := by decide +kernel
theorem dX12_chargeBy_70 : decode cX12_chargeBy 70 = .ok (.if_icmp .le 9, 3) := by decide +kernel
theorem dX12_chargeBy_73 : decode cX12_chargeBy 73 = .ok (.ldc_w 549, 3) := by decide +kernel
theorem dX12_chargeBy_76 : decode cX12_chargeBy 76 = .ok (.goto 5, 3) := by decide +kernel
theorem dX12_chargeBy_79 : decode cX12_chargeBy 79 = .ok (.iload 4, 2) := by decide +kernel
theorem dX12_chargeBy_81 : decode cX12_chargeBy 81 = .ok (.istore 4, 2) := by decide +kernel
theorem dX12_chargeBy_83 : decode cX12_chargeBy 83 = .ok (.aload_n 0, 1) := by decide +kernel
theorem dX12_chargeBy_84 : decode cX12_chargeBy 84 = .ok (.getfield 144, 3) := by decide +kernel
theorem dX12_chargeBy_87 : decode cX12_chargeBy 87 = .ok (.iload_n 1, 1) := by decide +kernel
theorem dX12_chargeBy_88 : decode cX12_chargeBy 88 = .ok (.iaload, 1) := by decide +kernel
theorem dX12_chargeBy_89 : decode cX12_chargeBy 89 = .ok (.sipush 1440, 3) := by decide +kernel
theorem dX12_chargeBy_92 : decode cX12_chargeBy 92 = .ok (.irem, 1) := by decide +kernel
theorem dX12_chargeBy_93 : decode cX12_chargeBy 93 = .ok (.aload_n 0, 1) := by decide +kernel
theorem dX12_chargeBy_94 : decode cX12_chargeBy 94 = .ok (.getfield 80, 3) := by decide +kernel
theorem dX12_chargeBy_97 : decode cX12_chargeBy 97 = .ok (.iload_n 2, 1) := by decide +kernel
theorem dX12_chargeBy_98 : decode cX12_chargeBy 98 = .ok (.iaload, 1) := by decide +kernel
theorem dX12_chargeBy_99 : decode cX12_chargeBy 99 = .ok (.if_icmp .le 14, 3) := by decide +kernel
theorem dX12_chargeBy_102 : decode cX12_chargeBy 102 = .ok (.iload 4, 2) := by decide +kernel
theorem dX12_chargeBy_104 : decode cX12_chargeBy 104 = .ok (.aload_n 0, 1) := by decide +kernel
theorem dX12_chargeBy_105 : decode cX12_chargeBy 105 = .ok (.getfield 77, 3) := by decide +kernel
theorem dX12_chargeBy_108 : decode cX12_chargeBy 108 = .ok (.iload_n 2, 1) := by decide +kernel
theorem dX12_chargeBy_109 : decode cX12_chargeBy 109 = .ok (.iaload, 1) := by decide +kernel
theorem dX12_chargeBy_110 : decode cX12_chargeBy 110 = .ok (.iadd, 1) := by decide +kernel
theorem dX12_chargeBy_111 : decode cX12_chargeBy 111 = .ok (.istore 4, 2) := by decide +kernel
theorem dX12_chargeBy_113 : decode cX12_chargeBy 113 = .ok (.aload_n 0, 1) := by decide +kernel
theorem dX12_chargeBy_114 : decode cX12_chargeBy 114 = .ok (.getfield 126, 3) := by decide +kernel
theorem dX12_chargeBy_117 : decode cX12_chargeBy 117 = .ok (.iload_n 1, 1) := by decide +kernel
theorem dX12_chargeBy_118 : decode cX12_chargeBy 118 = .ok (.iaload, 1) := by decide +kernel
theorem dX12_chargeBy_119 : decode cX12_chargeBy 119 = .ok (.iconst 3, 1) := by decide +kernel
theorem dX12_chargeBy_120 : decode cX12_chargeBy 120 = .ok (.if_icmp .ne 14, 3) := by decide +kernel
theorem dX12_chargeBy_123 : decode cX12_chargeBy 123 = .ok (.iload 4, 2) := by decide +kernel
theorem dX12_chargeBy_125 : decode cX12_chargeBy 125 = .ok (.aload_n 0, 1) := by decide +kernel
theorem dX12_chargeBy_126 : decode cX12_chargeBy 126 = .ok (.getfield 86, 3) := by decide +kernel
theorem dX12_chargeBy_129 : decode cX12_chargeBy 129 = .ok (.iload_n 2, 1) := by decide +kernel
theorem dX12_chargeBy_130 : decode cX12_chargeBy 130 = .ok (.iaload, 1) := by decide +kernel
theorem dX12_chargeBy_131 : decode cX12_chargeBy 131 = .ok (.iadd, 1) := by decide +kernel
theorem dX12_chargeBy_132 : decode cX12_chargeBy 132 = .ok (.istore 4, 2) := by decide +kernel
theorem dX12_chargeBy_134 : decode cX12_chargeBy 134 = .ok (.aload_n 0, 1) := by decide +kernel
theorem dX12_chargeBy_135 : decode cX12_chargeBy 135 = .ok (.getfield 126, 3) := by decide +kernel
theorem dX12_chargeBy_138 : decode cX12_chargeBy 138 = .ok (.iload_n 1, 1) := by decide +kernel
theorem dX12_chargeBy_139 : decode cX12_chargeBy 139 = .ok (.iaload, 1) := by decide +kernel
theorem dX12_chargeBy_140 : decode cX12_chargeBy 140 = .ok (.iconst 4, 1) := by decide +kernel
theorem dX12_chargeBy_141 : decode cX12_chargeBy 141 = .ok (.if_icmp .ne 14, 3) := by decide +kernel
theorem dX12_chargeBy_144 : decode cX12_chargeBy 144 = .ok (.iload 4, 2) := by decide +kernel
theorem dX12_chargeBy_146 : decode cX12_chargeBy 146 = .ok (.aload_n 0, 1) := by decide +kernel
theorem dX12_chargeBy_147 : decode cX12_chargeBy 147 = .ok (.getfield 89, 3) := by decide +kernel
theorem dX12_chargeBy_150 : decode cX12_chargeBy 150 = .ok (.iload_n 2, 1) := by decide +kernel
theorem dX12_chargeBy_151 : decode cX12_chargeBy 151 = .ok (.iaload, 1) := by decide +kernel
theorem dX12_chargeBy_152 : decode cX12_chargeBy 152 = .ok (.iadd, 1) := by decide +kernel
theorem dX12_chargeBy_153 : decode cX12_chargeBy 153 = .ok (.istore 4, 2) := by decide +kernel
theorem dX12_chargeBy_155 : decode cX12_chargeBy 155 = .ok (.iload 4, 2) := by decide +kernel
theorem dX12_chargeBy_157 : decode cX12_chargeBy 157 = .ok (.ireturn, 1) := by decide +kernel
theorem dX12_post_0 : decode cX12_post 0 = .ok (.iload_n 1, 1) := by decide +kernel
theorem dX12_post_1 : decode cX12_post 1 = .ok (.iconst 0, 1) := by decide +kernel
theorem dX12_post_2 : decode cX12_post 2 = .ok (.iconst 4, 1) := by decide +kernel
theorem dX12_post_3 : decode cX12_post 3 = .ok (.invokestatic 286, 3) := by decide +kernel
theorem dX12_post_6 : decode cX12_post 6 = .ok (.ifCond .eq 66, 3) := by decide +kernel
theorem dX12_post_9 : decode cX12_post 9 = .ok (.aload_n 0, 1) := by decide +kernel
theorem dX12_post_10 : decode cX12_post 10 = .ok (.iload_n 2, 1) := by decide +kernel
theorem dX12_post_11 : decode cX12_post 11 = .ok (.invokevirtual 297, 3) := by decide +kernel
theorem dX12_post_14 : decode cX12_post 14 = .ok (.ifCond .eq 58, 3) := by decide +kernel
theorem dX12_post_17 : decode cX12_post 17 = .ok (.aload_n 0, 1) := by decide +kernel
theorem dX12_post_18 : decode cX12_post 18 = .ok (.iload_n 3, 1) := by decide +kernel
theorem dX12_post_19 : decode cX12_post 19 = .ok (.invokevirtual 297, 3) := by decide +kernel
theorem dX12_post_22 : decode cX12_post 22 = .ok (.ifCond .eq 50, 3) := by decide +kernel
theorem dX12_post_25 : decode cX12_post 25 = .ok (.iload_n 2, 1) := by decide +kernel
theorem dX12_post_26 : decode cX12_post 26 = .ok (.iload_n 3, 1) := by decide +kernel
theorem dX12_post_27 : decode cX12_post 27 = .ok (.if_icmp .eq 45, 3) := by decide +kernel
theorem dX12_post_30 : decode cX12_post 30 = .ok (.iload 4, 2) := by decide +kernel
theorem dX12_post_32 : decode cX12_post 32 = .ok (.iconst 1, 1) := by decide +kernel
theorem dX12_post_33 : decode cX12_post 33 = .ok (.bipush 9, 2) := by decide +kernel
theorem dX12_post_35 : decode cX12_post 35 = .ok (.invokestatic 286, 3) := by decide +kernel
theorem dX12_post_38 : decode cX12_post 38 = .ok (.ifCond .eq 34, 3) := by decide +kernel
theorem dX12_post_41 : decode cX12_post 41 = .ok (.iload 5, 2) := by decide +kernel
theorem dX12_post_43 : decode cX12_post 43 = .ok (.iconst 0, 1) := by decide +kernel
theorem dX12_post_44 : decode cX12_post 44 = .ok (.bipush 99, 2) := by decide +kernel
theorem dX12_post_46 : decode cX12_post 46 = .ok (.invokestatic 286, 3) := by decide +kernel
theorem dX12_post_49 : decode cX12_post 49 = .ok (.ifCond .eq 23, 3) := by decide +kernel
theorem dX12_post_52 : decode cX12_post 52 = .ok (.iload 6, 2) := by decide +kernel
theorem dX12_post_54 : decode cX12_post 54 = .ok (.iconst 0, 1) := by decide +kernel
theorem dX12_post_55 : decode cX12_post 55 = .ok (.bipush 9, 2) := by decide +kernel
theorem dX12_post_57 : decode cX12_post 57 = .ok (.invokestatic 286, 3) := by decide +kernel
theorem dX12_post_60 : decode cX12_post 60 = .ok (.ifCond .eq 12, 3) := by decide +kernel
theorem dX12_post_63 : decode cX12_post 63 = .ok (.aload_n 0, 1) := by decide +kernel
theorem dX12_post_64 : decode cX12_post 64 = .ok (.getfield 531, 3) := by decide +kernel
theorem dX12_post_67 : decode cX12_post 67 = .ok (.bipush 120, 2) := by decide +kernel
theorem dX12_post_69 : decode cX12_post 69 = .ok (.if_icmp .ne 5, 3) := by decide +kernel
theorem dX12_post_72 : decode cX12_post 72 = .ok (.iconst (-1), 1) := by decide +kernel
theorem dX12_post_73 : decode cX12_post 73 = .ok (.ireturn, 1) := by decide +kernel
theorem dX12_post_74 : decode cX12_post 74 = .ok (.aload_n 0, 1) := by decide +kernel
theorem dX12_post_75 : decode cX12_post 75 = .ok (.getfield 531, 3) := by decide +kernel
theorem dX12_post_78 : decode cX12_post 78 = .ok (.istore 7, 2) := by decide +kernel
theorem dX12_post_80 : decode cX12_post 80 = .ok (.aload_n 0, 1) := by decide +kernel
theorem dX12_post_81 : decode cX12_post 81 = .ok (.dup, 1) := by decide +kernel
theorem dX12_post_82 : decode cX12_post 82 = .ok (.getfield 531, 3) := by decide +kernel
theorem dX12_post_85 : decode cX12_post 85 = .ok (.iconst 1, 1) := by decide +kernel
theorem dX12_post_86 : decode cX12_post 86 = .ok (.iadd, 1) := by decide +kernel
theorem dX12_post_87 : decode cX12_post 87 = .ok (.putfield 531, 3) := by decide +kernel
theorem dX12_post_90 : decode cX12_post 90 = .ok (.aload_n 0, 1) := by decide +kernel
theorem dX12_post_91 : decode cX12_post 91 = .ok (.getfield 126, 3) := by decide +kernel
theorem dX12_post_94 : decode cX12_post 94 = .ok (.iload 7, 2) := by decide +kernel
theorem dX12_post_96 : decode cX12_post 96 = .ok (.iload_n 1, 1) := by decide +kernel
theorem dX12_post_97 : decode cX12_post 97 = .ok (.iastore, 1) := by decide +kernel
theorem dX12_post_98 : decode cX12_post 98 = .ok (.aload_n 0, 1) := by decide +kernel
theorem dX12_post_99 : decode cX12_post 99 = .ok (.getfield 129, 3) := by decide +kernel
theorem dX12_post_102 : decode cX12_post 102 = .ok (.iload 7, 2) := by decide +kernel
theorem dX12_post_104 : decode cX12_post 104 = .ok (.iload_n 2, 1) := by decide +kernel
theorem dX12_post_105 : decode cX12_post 105 = .ok (.iastore, 1) := by decide +kernel
theorem dX12_post_106 : decode cX12_post 106 = .ok (.aload_n 0, 1) := by decide +kernel
theorem dX12_post_107 : decode cX12_post 107 = .ok (.getfield 132, 3) := by decide +kernel
theorem dX12_post_110 : decode cX12_post 110 = .ok (.iload 7, 2) := by decide +kernel
theorem dX12_post_112 : decode cX12_post 112 = .ok (.iload_n 3, 1) := by decide +kernel
theorem dX12_post_113 : decode cX12_post 113 = .ok (.iastore, 1) := by decide +kernel
theorem dX12_post_114 : decode cX12_post 114 = .ok (.aload_n 0, 1) := by decide +kernel
theorem dX12_post_115 : decode cX12_post 115 = .ok (.getfield 135, 3) := by decide +kernel
theorem dX12_post_118 : decode cX12_post 118 = .ok (.iload 7, 2) := by decide +kernel
theorem dX12_post_120 : decode cX12_post 120 = .ok (.iload 4, 2) := by decide +kernel
theorem dX12_post_122 : decode cX12_post 122 = .ok (.iastore, 1) := by decide +kernel
theorem dX12_post_123 : decode cX12_post 123 = .ok (.aload_n 0, 1) := by decide +kernel
theorem dX12_post_124 : decode cX12_post 124 = .ok (.getfield 138, 3) := by decide +kernel
theorem dX12_post_127 : decode cX12_post 127 = .ok (.iload 7, 2) := by decide +kernel
theorem dX12_post_129 : decode cX12_post 129 = .ok (.iload 5, 2) := by decide +kernel
theorem dX12_post_131 : decode cX12_post 131 = .ok (.iastore, 1) := by decide +kernel
theorem dX12_post_132 : decode cX12_post 132 = .ok (.aload_n 0, 1) := by decide +kernel
theorem dX12_post_133 : decode cX12_post 133 = .ok (.getfield 141, 3) := by decide +kernel
theorem dX12_post_136 : decode cX12_post 136 = .ok (.iload 7, 2) := by decide +kernel
theorem dX12_post_138 : decode cX12_post 138 = .ok (.iload 6, 2) := by decide +kernel
theorem dX12_post_140 : decode cX12_post 140 = .ok (.iastore, 1) := by decide +kernel
theorem dX12_post_141 : decode cX12_post 141 = .ok (.aload_n 0, 1) := by decide +kernel
theorem dX12_post_142 : decode cX12_post 142 = .ok (.getfield 144, 3) := by decide +kernel
theorem dX12_post_145 : decode cX12_post 145 = .ok (.iload 7, 2) := by decide +kernel
theorem dX12_post_147 : decode cX12_post 147 = .ok (.aload_n 0, 1) := by decide +kernel
theorem dX12_post_148 : decode cX12_post 148 = .ok (.getfield 313, 3) := by decide +kernel
theorem dX12_post_151 : decode cX12_post 151 = .ok (.iastore, 1) := by decide +kernel
theorem dX12_post_152 : decode cX12_post 152 = .ok (.aload_n 0, 1) := by decide +kernel
theorem dX12_post_153 : decode cX12_post 153 = .ok (.getfield 147, 3) := by decide +kernel
theorem dX12_post_156 : decode cX12_post 156 = .ok (.iload 7, 2) := by decide +kernel
theorem dX12_post_158 : decode cX12_post 158 = .ok (.aload_n 0, 1) := by decide +kernel
theorem dX12_post_159 : decode cX12_post 159 = .ok (.iload_n 2, 1) := by decide +kernel
theorem dX12_post_160 : decode cX12_post 160 = .ok (.iload_n 3, 1) := by decide +kernel
theorem dX12_post_161 : decode cX12_post 161 = .ok (.iconst 0, 1) := by decide +kernel
theorem dX12_post_162 : decode cX12_post 162 = .ok (.invokevirtual 306, 3) := by decide +kernel
theorem dX12_post_165 : decode cX12_post 165 = .ok (.iastore, 1) := by decide +kernel
theorem dX12_post_166 : decode cX12_post 166 = .ok (.aload_n 0, 1) := by decide +kernel
theorem dX12_post_167 : decode cX12_post 167 = .ok (.getfield 168, 3) := by decide +kernel
theorem dX12_post_170 : decode cX12_post 170 = .ok (.iload 7, 2) := by decide +kernel
theorem dX12_post_172 : decode cX12_post 172 = .ok (.aload_n 0, 1) := by decide +kernel
theorem dX12_post_173 : decode cX12_post 173 = .ok (.iload_n 2, 1) := by decide +kernel
theorem dX12_post_174 : decode cX12_post 174 = .ok (.iload_n 3, 1) := by decide +kernel
theorem dX12_post_175 : decode cX12_post 175 = .ok (.invokevirtual 550, 3) := by decide +kernel
theorem dX12_post_178 : decode cX12_post 178 = .ok (.bastore, 1) := by decide +kernel
theorem dX12_post_179 : decode cX12_post 179 = .ok (.aload_n 0, 1) := by decide +kernel
theorem dX12_post_180 : decode cX12_post 180 = .ok (.getfield 150, 3) := by decide +kernel
theorem dX12_post_183 : decode cX12_post 183 = .ok (.iload 7, 2) := by decide +kernel
theorem dX12_post_185 : decode cX12_post 185 = .ok (.iconst 0, 1) := by decide +kernel
theorem dX12_post_186 : decode cX12_post 186 = .ok (.iastore, 1) := by decide +kernel
theorem dX12_post_187 : decode cX12_post 187 = .ok (.iconst 0, 1) := by decide +kernel
theorem dX12_post_188 : decode cX12_post 188 = .ok (.istore 8, 2) := by decide +kernel
theorem dX12_post_190 : decode cX12_post 190 = .ok (.iload 8, 2) := by decide +kernel
theorem dX12_post_192 : decode cX12_post 192 = .ok (.iload 7, 2) := by decide +kernel
theorem dX12_post_194 : decode cX12_post 194 = .ok (.if_icmp .gt 69, 3) := by decide +kernel
theorem dX12_post_197 : decode cX12_post 197 = .ok (.aload_n 0, 1) := by decide +kernel
theorem dX12_post_198 : decode cX12_post 198 = .ok (.getfield 150, 3) := by decide +kernel
theorem dX12_post_201 : decode cX12_post 201 = .ok (.iload 7, 2) := by decide +kernel
theorem dX12_post_203 : decode cX12_post 203 = .ok (.dup2, 1) := by decide +kernel
theorem dX12_post_204 : decode cX12_post 204 = .ok (.iaload, 1) := by decide +kernel
theorem dX12_post_205 : decode cX12_post 205 = .ok (.aload_n 0, 1) := by decide +kernel
theorem dX12_post_206 : decode cX12_post 206 = .ok (.getfield 126, 3) := by decide +kernel
theorem dX12_post_209 : decode cX12_post 209 = .ok (.iload 8, 2) := by decide +kernel
theorem dX12_post_211 : decode cX12_post 211 = .ok (.iaload, 1) := by decide +kernel
theorem dX12_post_212 : decode cX12_post 212 = .ok (.iconst 2, 1) := by decide +kernel
theorem dX12_post_213 : decode cX12_post 213 = .ok (.if_icmp .ne 41, 3) := by decide +kernel
theorem dX12_post_216 : decode cX12_post 216 = .ok (.aload_n 0, 1) := by decide +kernel
theorem dX12_post_217 : decode cX12_post 217 = .ok (.getfield 141, 3) := by decide +kernel
theorem dX12_post_220 : decode cX12_post 220 = .ok (.iload 8, 2) := by decide +kernel
theorem dX12_post_222 : decode cX12_post 222 = .ok (.iaload, 1) := by decide +kernel
theorem dX12_post_223 : decode cX12_post 223 = .ok (.iload 6, 2) := by decide +kernel
theorem dX12_post_225 : decode cX12_post 225 = .ok (.if_icmp .ne 29, 3) := by decide +kernel
theorem dX12_post_228 : decode cX12_post 228 = .ok (.aload_n 0, 1) := by decide +kernel
theorem dX12_post_229 : decode cX12_post 229 = .ok (.getfield 144, 3) := by decide +kernel
theorem dX12_post_232 : decode cX12_post 232 = .ok (.iload 8, 2) := by decide +kernel
theorem dX12_post_234 : decode cX12_post 234 = .ok (.iaload, 1) := by decide +kernel
theorem dX12_post_235 : decode cX12_post 235 = .ok (.sipush 1440, 3) := by decide +kernel
theorem dX12_post_238 : decode cX12_post 238 = .ok (.idiv, 1) := by decide +kernel
theorem dX12_post_239 : decode cX12_post 239 = .ok (.aload_n 0, 1) := by decide +kernel
theorem dX12_post_240 : decode cX12_post 240 = .ok (.getfield 313, 3) := by decide +kernel
theorem dX12_post_243 : decode cX12_post 243 = .ok (.sipush 1440, 3) := by decide +kernel
theorem dX12_post_246 : decode cX12_post 246 = .ok (.idiv, 1) := by decide +kernel
theorem dX12_post_247 : decode cX12_post 247 = .ok (.if_icmp .ne 7, 3) := by decide +kernel
theorem dX12_post_250 : decode cX12_post 250 = .ok (.iconst 1, 1) := by decide +kernel
theorem dX12_post_251 : decode cX12_post 251 = .ok (.goto 4, 3) := by decide +kernel
theorem dX12_post_254 : decode cX12_post 254 = .ok (.iconst 0, 1) := by decide +kernel
theorem dX12_post_255 : decode cX12_post 255 = .ok (.iadd, 1) := by decide +kernel
theorem dX12_post_256 : decode cX12_post 256 = .ok (.iastore, 1) := by decide +kernel
theorem dX12_post_257 : decode cX12_post 257 = .ok (.iinc 8 1, 3) := by decide +kernel
theorem dX12_post_260 : decode cX12_post 260 = .ok (.goto (-70), 3) := by decide +kernel
theorem dX12_post_263 : decode cX12_post 263 = .ok (.aload_n 0, 1) := by decide +kernel
theorem dX12_post_264 : decode cX12_post 264 = .ok (.getfield 153, 3) := by decide +kernel
theorem dX12_post_267 : decode cX12_post 267 = .ok (.iload 7, 2) := by decide +kernel
theorem dX12_post_269 : decode cX12_post 269 = .ok (.aload_n 0, 1) := by decide +kernel
theorem dX12_post_270 : decode cX12_post 270 = .ok (.aload_n 0, 1) := by decide +kernel
theorem dX12_post_271 : decode cX12_post 271 = .ok (.getfield 313, 3) := by decide +kernel
theorem dX12_post_274 : decode cX12_post 274 = .ok (.sipush 1440, 3) := by decide +kernel
theorem dX12_post_277 : decode cX12_post 277 = .ok (.idiv, 1) := by decide +kernel
theorem dX12_post_278 : decode cX12_post 278 = .ok (.invokevirtual 528, 3) := by decide +kernel
theorem dX12_post_281 : decode cX12_post 281 = .ok (.iastore, 1) := by decide +kernel
theorem dX12_post_282 : decode cX12_post 282 = .ok (.aload_n 0, 1) := by decide +kernel
theorem dX12_post_283 : decode cX12_post 283 = .ok (.getfield 171, 3) := by decide +kernel
theorem dX12_post_286 : decode cX12_post 286 = .ok (.iload 7, 2) := by decide +kernel
theorem dX12_post_288 : decode cX12_post 288 = .ok (.aload_n 0, 1) := by decide +kernel
theorem dX12_post_289 : decode cX12_post 289 = .ok (.getfield 153, 3) := by decide +kernel
theorem dX12_post_292 : decode cX12_post 292 = .ok (.iload 7, 2) := by decide +kernel
theorem dX12_post_294 : decode cX12_post 294 = .ok (.iaload, 1) := by decide +kernel
theorem dX12_post_295 : decode cX12_post 295 = .ok (.iconst (-1), 1) := by decide +kernel
theorem dX12_post_296 : decode cX12_post 296 = .ok (.if_icmp .eq 23, 3) := by decide +kernel
theorem dX12_post_299 : decode cX12_post 299 = .ok (.aload_n 0, 1) := by decide +kernel
theorem dX12_post_300 : decode cX12_post 300 = .ok (.iload 7, 2) := by decide +kernel
theorem dX12_post_302 : decode cX12_post 302 = .ok (.aload_n 0, 1) := by decide +kernel
theorem dX12_post_303 : decode cX12_post 303 = .ok (.getfield 153, 3) := by decide +kernel
theorem dX12_post_306 : decode cX12_post 306 = .ok (.iload 7, 2) := by decide +kernel
theorem dX12_post_308 : decode cX12_post 308 = .ok (.iaload, 1) := by decide +kernel
theorem dX12_post_309 : decode cX12_post 309 = .ok (.invokevirtual 543, 3) := by decide +kernel
theorem dX12_post_312 : decode cX12_post 312 = .ok (.ifCond .eq 7, 3) := by decide +kernel
theorem dX12_post_315 : decode cX12_post 315 = .ok (.iconst 1, 1) := by decide +kernel
theorem dX12_post_316 : decode cX12_post 316 = .ok (.goto 4, 3) := by decide +kernel
theorem dX12_post_319 : decode cX12_post 319 = .ok (.iconst 0, 1) := by decide +kernel
theorem dX12_post_320 : decode cX12_post 320 = .ok (.bastore, 1) := by decide +kernel
theorem dX12_post_321 : decode cX12_post 321 = .ok (.aload_n 0, 1) := by decide +kernel
theorem dX12_post_322 : decode cX12_post 322 = .ok (.getfield 156, 3) := by decide +kernel
theorem dX12_post_325 : decode cX12_post 325 = .ok (.iload 7, 2) := by decide +kernel
theorem dX12_post_327 : decode cX12_post 327 = .ok (.aload_n 0, 1) := by decide +kernel
theorem dX12_post_328 : decode cX12_post 328 = .ok (.getfield 153, 3) := by decide +kernel
theorem dX12_post_331 : decode cX12_post 331 = .ok (.iload 7, 2) := by decide +kernel
theorem dX12_post_333 : decode cX12_post 333 = .ok (.iaload, 1) := by decide +kernel
theorem dX12_post_334 : decode cX12_post 334 = .ok (.iconst (-1), 1) := by decide +kernel
theorem dX12_post_335 : decode cX12_post 335 = .ok (.if_icmp .ne 7, 3) := by decide +kernel
theorem dX12_post_338 : decode cX12_post 338 = .ok (.iconst 0, 1) := by decide +kernel
theorem dX12_post_339 : decode cX12_post 339 = .ok (.goto 16, 3) := by decide +kernel
theorem dX12_post_342 : decode cX12_post 342 = .ok (.aload_n 0, 1) := by decide +kernel
theorem dX12_post_343 : decode cX12_post 343 = .ok (.iload 7, 2) := by decide +kernel
theorem dX12_post_345 : decode cX12_post 345 = .ok (.aload_n 0, 1) := by decide +kernel
theorem dX12_post_346 : decode cX12_post 346 = .ok (.getfield 153, 3) := by decide +kernel
theorem dX12_post_349 : decode cX12_post 349 = .ok (.iload 7, 2) := by decide +kernel
theorem dX12_post_351 : decode cX12_post 351 = .ok (.iaload, 1) := by decide +kernel
theorem dX12_post_352 : decode cX12_post 352 = .ok (.invokevirtual 553, 3) := by decide +kernel
theorem dX12_post_355 : decode cX12_post 355 = .ok (.iastore, 1) := by decide +kernel
theorem dX12_post_356 : decode cX12_post 356 = .ok (.aload_n 0, 1) := by decide +kernel
theorem dX12_post_357 : decode cX12_post 357 = .ok (.getfield 159, 3) := by decide +kernel
theorem dX12_post_360 : decode cX12_post 360 = .ok (.iload 7, 2) := by decide +kernel
theorem dX12_post_362 : decode cX12_post 362 = .ok (.aload_n 0, 1) := by decide +kernel
theorem dX12_post_363 : decode cX12_post 363 = .ok (.getfield 153, 3) := by decide +kernel
theorem dX12_post_366 : decode cX12_post 366 = .ok (.iload 7, 2) := by decide +kernel
theorem dX12_post_368 : decode cX12_post 368 = .ok (.iaload, 1) := by decide +kernel
theorem dX12_post_369 : decode cX12_post 369 = .ok (.iconst (-1), 1) := by decide +kernel
theorem dX12_post_370 : decode cX12_post 370 = .ok (.if_icmp .ne 7, 3) := by decide +kernel
theorem dX12_post_373 : decode cX12_post 373 = .ok (.iconst (-1), 1) := by decide +kernel
theorem dX12_post_374 : decode cX12_post 374 = .ok (.goto 16, 3) := by decide +kernel
theorem dX12_post_377 : decode cX12_post 377 = .ok (.aload_n 0, 1) := by decide +kernel
theorem dX12_post_378 : decode cX12_post 378 = .ok (.iload 7, 2) := by decide +kernel
theorem dX12_post_380 : decode cX12_post 380 = .ok (.aload_n 0, 1) := by decide +kernel
theorem dX12_post_381 : decode cX12_post 381 = .ok (.getfield 153, 3) := by decide +kernel
theorem dX12_post_384 : decode cX12_post 384 = .ok (.iload 7, 2) := by decide +kernel
theorem dX12_post_386 : decode cX12_post 386 = .ok (.iaload, 1) := by decide +kernel
theorem dX12_post_387 : decode cX12_post 387 = .ok (.invokevirtual 546, 3) := by decide +kernel
theorem dX12_post_390 : decode cX12_post 390 = .ok (.iastore, 1) := by decide +kernel
theorem dX12_post_391 : decode cX12_post 391 = .ok (.aload_n 0, 1) := by decide +kernel
theorem dX12_post_392 : decode cX12_post 392 = .ok (.getfield 183, 3) := by decide +kernel
theorem dX12_post_395 : decode cX12_post 395 = .ok (.iload 7, 2) := by decide +kernel
theorem dX12_post_397 : decode cX12_post 397 = .ok (.iconst (-1), 1) := by decide +kernel
theorem dX12_post_398 : decode cX12_post 398 = .ok (.iastore, 1) := by decide +kernel
theorem dX12_post_399 : decode cX12_post 399 = .ok (.aload_n 0, 1) := by decide +kernel
theorem dX12_post_400 : decode cX12_post 400 = .ok (.iload 7, 2) := by decide +kernel
theorem dX12_post_402 : decode cX12_post 402 = .ok (.aload_n 0, 1) := by decide +kernel
theorem dX12_post_403 : decode cX12_post 403 = .ok (.getfield 313, 3) := by decide +kernel
theorem dX12_post_406 : decode cX12_post 406 = .ok (.iconst 0, 1) := by decide +kernel
theorem dX12_post_407 : decode cX12_post 407 = .ok (.iload_n 2, 1) := by decide +kernel
theorem dX12_post_408 : decode cX12_post 408 = .ok (.invokevirtual 556, 3) := by decide +kernel
theorem dX12_post_411 : decode cX12_post 411 = .ok (.iload 7, 2) := by decide +kernel
theorem dX12_post_413 : decode cX12_post 413 = .ok (.ireturn, 1) := by decide +kernel
theorem dX12_isOwed_0 : decode cX12_isOwed 0 = .ok (.aload_n 0, 1) := by decide +kernel
theorem dX12_isOwed_1 : decode cX12_isOwed 1 = .ok (.getfield 126, 3) := by decide +kernel
theorem dX12_isOwed_4 : decode cX12_isOwed 4 = .ok (.iload_n 1, 1) := by decide +kernel
theorem dX12_isOwed_5 : decode cX12_isOwed 5 = .ok (.iaload, 1) := by decide +kernel
theorem dX12_isOwed_6 : decode cX12_isOwed 6 = .ok (.ifCond .eq 13, 3) := by decide +kernel
theorem dX12_isOwed_9 : decode cX12_isOwed 9 = .ok (.aload_n 0, 1) := by decide +kernel
theorem dX12_isOwed_10 : decode cX12_isOwed 10 = .ok (.getfield 126, 3) := by decide +kernel
theorem dX12_isOwed_13 : decode cX12_isOwed 13 = .ok (.iload_n 1, 1) := by decide +kernel
theorem dX12_isOwed_14 : decode cX12_isOwed 14 = .ok (.iaload, 1) := by decide +kernel
theorem dX12_isOwed_15 : decode cX12_isOwed 15 = .ok (.iconst 3, 1) := by decide +kernel
theorem dX12_isOwed_16 : decode cX12_isOwed 16 = .ok (.if_icmp .ne 7, 3) := by decide +kernel
theorem dX12_isOwed_19 : decode cX12_isOwed 19 = .ok (.iconst 1, 1) := by decide +kernel
theorem dX12_isOwed_20 : decode cX12_isOwed 20 = .ok (.goto 4, 3) := by decide +kernel
theorem dX12_isOwed_23 : decode cX12_isOwed 23 = .ok (.iconst 0, 1) := by decide +kernel
theorem dX12_isOwed_24 : decode cX12_isOwed 24 = .ok (.ireturn, 1) := by decide +kernel
theorem dX12_owed_0 : decode cX12_owed 0 = .ok (.aload_n 0, 1) := by decide +kernel
theorem dX12_owed_1 : decode cX12_owed 1 = .ok (.iload_n 1, 1) := by decide +kernel
theorem dX12_owed_2 : decode cX12_owed 2 = .ok (.invokevirtual 560, 3) := by decide +kernel
theorem dX12_owed_5 : decode cX12_owed 5 = .ok (.ifCond .eq 12, 3) := by decide +kernel
theorem dX12_owed_8 : decode cX12_owed 8 = .ok (.aload_n 0, 1) := by decide +kernel
theorem dX12_owed_9 : decode cX12_owed 9 = .ok (.getfield 156, 3) := by decide +kernel
theorem dX12_owed_12 : decode cX12_owed 12 = .ok (.iload_n 1, 1) := by decide +kernel
theorem dX12_owed_13 : decode cX12_owed 13 = .ok (.iaload, 1) := by decide +kernel
theorem dX12_owed_14 : decode cX12_owed 14 = .ok (.goto 4, 3) := by decide +kernel
theorem dX12_owed_17 : decode cX12_owed 17 = .ok (.iconst 0, 1) := by decide +kernel
theorem dX12_owed_18 : decode cX12_owed 18 = .ok (.ireturn, 1) := by decide +kernel
theorem dX12_of_0 : decode cX12_of 0 = .ok (.aload_n 0, 1) := by decide +kernel
theorem dX12_of_1 : decode cX12_of 1 = .ok (.iload_n 1, 1) := by decide +kernel
theorem dX12_of_2 : decode cX12_of 2 = .ok (.invokevirtual 563, 3) := by decide +kernel
theorem dX12_of_5 : decode cX12_of 5 = .ok (.ifCond .ne 5, 3) := by decide +kernel
theorem dX12_of_8 : decode cX12_of 8 = .ok (.iconst (-1), 1) := by decide +kernel
theorem dX12_of_9 : decode cX12_of 9 = .ok (.ireturn, 1) := by decide +kernel
theorem dX12_of_10 : decode cX12_of 10 = .ok (.iload_n 2, 1) := by decide +kernel
theorem dX12_of_11 : decode cX12_of 11 = .ok (.tableswitch 196 0 12 #[65, 72, 79, 86, 93, 100, 107, 114, 121, 128, 143, 168, 189], 65) := by decide +kernel
theorem dX12_of_76 : decode cX12_of 76 = .ok (.aload_n 0, 1) := by decide +kernel
theorem dX12_of_77 : decode cX12_of 77 = .ok (.getfield 126, 3) := by decide +kernel
theorem dX12_of_80 : decode cX12_of 80 = .ok (.iload_n 1, 1) := by decide +kernel
theorem dX12_of_81 : decode cX12_of 81 = .ok (.iaload, 1) := by decide +kernel
theorem dX12_of_82 : decode cX12_of 82 = .ok (.ireturn, 1) := by decide +kernel
theorem dX12_of_83 : decode cX12_of 83 = .ok (.aload_n 0, 1) := by decide +kernel
theorem dX12_of_84 : decode cX12_of 84 = .ok (.getfield 129, 3) := by decide +kernel
theorem dX12_of_87 : decode cX12_of 87 = .ok (.iload_n 1, 1) := by decide +kernel
theorem dX12_of_88 : decode cX12_of 88 = .ok (.iaload, 1) := by decide +kernel
theorem dX12_of_89 : decode cX12_of 89 = .ok (.ireturn, 1) := by decide +kernel
theorem dX12_of_90 : decode cX12_of 90 = .ok (.aload_n 0, 1) := by decide +kernel
theorem dX12_of_91 : decode cX12_of 91 = .ok (.getfield 132, 3) := by decide +kernel
theorem dX12_of_94 : decode cX12_of 94 = .ok (.iload_n 1, 1) := by decide +kernel
theorem dX12_of_95 : decode cX12_of 95 = .ok (.iaload, 1) := by decide +kernel
theorem dX12_of_96 : decode cX12_of 96 = .ok (.ireturn, 1) := by decide +kernel
theorem dX12_of_97 : decode cX12_of 97 = .ok (.aload_n 0, 1) := by decide +kernel
theorem dX12_of_98 : decode cX12_of 98 = .ok (.getfield 135, 3) := by decide +kernel
theorem dX12_of_101 : decode cX12_of 101 = .ok (.iload_n 1, 1) := by decide +kernel
theorem dX12_of_102 : decode cX12_of 102 = .ok (.iaload, 1) := by decide +kernel
theorem dX12_of_103 : decode cX12_of 103 = .ok (.ireturn, 1) := by decide +kernel
theorem dX12_of_104 : decode cX12_of 104 = .ok (.aload_n 0, 1) := by decide +kernel
theorem dX12_of_105 : decode cX12_of 105 = .ok (.getfield 138, 3) := by decide +kernel
theorem dX12_of_108 : decode cX12_of 108 = .ok (.iload_n 1, 1) := by decide +kernel
theorem dX12_of_109 : decode cX12_of 109 = .ok (.iaload, 1) := by decide +kernel
theorem dX12_of_110 : decode cX12_of 110 = .ok (.ireturn, 1) := by decide +kernel
theorem dX12_of_111 : decode cX12_of 111 = .ok (.aload_n 0, 1) := by decide +kernel
theorem dX12_of_112 : decode cX12_of 112 = .ok (.getfield 141, 3) := by decide +kernel
theorem dX12_of_115 : decode cX12_of 115 = .ok (.iload_n 1, 1) := by decide +kernel
theorem dX12_of_116 : decode cX12_of 116 = .ok (.iaload, 1) := by decide +kernel
theorem dX12_of_117 : decode cX12_of 117 = .ok (.ireturn, 1) := by decide +kernel
theorem dX12_of_118 : decode cX12_of 118 = .ok (.aload_n 0, 1) := by decide +kernel
theorem dX12_of_119 : decode cX12_of 119 = .ok (.getfield 144, 3) := by decide +kernel
theorem dX12_of_122 : decode cX12_of 122 = .ok (.iload_n 1, 1) := by decide +kernel
theorem dX12_of_123 : decode cX12_of 123 = .ok (.iaload, 1) := by decide +kernel
theorem dX12_of_124 : decode cX12_of 124 = .ok (.ireturn, 1) := by decide +kernel
theorem dX12_of_125 : decode cX12_of 125 = .ok (.aload_n 0, 1) := by decide +kernel
theorem dX12_of_126 : decode cX12_of 126 = .ok (.getfield 177, 3) := by decide +kernel
theorem dX12_of_129 : decode cX12_of 129 = .ok (.iload_n 1, 1) := by decide +kernel
theorem dX12_of_130 : decode cX12_of 130 = .ok (.iaload, 1) := by decide +kernel
theorem dX12_of_131 : decode cX12_of 131 = .ok (.ireturn, 1) := by decide +kernel
theorem dX12_of_132 : decode cX12_of 132 = .ok (.aload_n 0, 1) := by decide +kernel
theorem dX12_of_133 : decode cX12_of 133 = .ok (.getfield 180, 3) := by decide +kernel
theorem dX12_of_136 : decode cX12_of 136 = .ok (.iload_n 1, 1) := by decide +kernel
theorem dX12_of_137 : decode cX12_of 137 = .ok (.iaload, 1) := by decide +kernel
theorem dX12_of_138 : decode cX12_of 138 = .ok (.ireturn, 1) := by decide +kernel
theorem dX12_of_139 : decode cX12_of 139 = .ok (.aload_n 0, 1) := by decide +kernel
theorem dX12_of_140 : decode cX12_of 140 = .ok (.getfield 168, 3) := by decide +kernel
theorem dX12_of_143 : decode cX12_of 143 = .ok (.iload_n 1, 1) := by decide +kernel
theorem dX12_of_144 : decode cX12_of 144 = .ok (.baload, 1) := by decide +kernel
theorem dX12_of_145 : decode cX12_of 145 = .ok (.ifCond .eq 7, 3) := by decide +kernel
theorem dX12_of_148 : decode cX12_of 148 = .ok (.iconst 1, 1) := by decide +kernel
theorem dX12_of_149 : decode cX12_of 149 = .ok (.goto 4, 3) := by decide +kernel
theorem dX12_of_152 : decode cX12_of 152 = .ok (.iconst 0, 1) := by decide +kernel
theorem dX12_of_153 : decode cX12_of 153 = .ok (.ireturn, 1) := by decide +kernel
theorem dX12_of_154 : decode cX12_of 154 = .ok (.aload_n 0, 1) := by decide +kernel
theorem dX12_of_155 : decode cX12_of 155 = .ok (.getfield 177, 3) := by decide +kernel
theorem dX12_of_158 : decode cX12_of 158 = .ok (.iload_n 1, 1) := by decide +kernel
theorem dX12_of_159 : decode cX12_of 159 = .ok (.iaload, 1) := by decide +kernel
theorem dX12_of_160 : decode cX12_of 160 = .ok (.iconst 1, 1) := by decide +kernel
theorem dX12_of_161 : decode cX12_of 161 = .ok (.if_icmp .ne 16, 3) := by decide +kernel
theorem dX12_of_164 : decode cX12_of 164 = .ok (.aload_n 0, 1) := by decide +kernel
theorem dX12_of_165 : decode cX12_of 165 = .ok (.getfield 195, 3) := by decide +kernel
theorem dX12_of_168 : decode cX12_of 168 = .ok (.iload_n 1, 1) := by decide +kernel
theorem dX12_of_169 : decode cX12_of 169 = .ok (.baload, 1) := by decide +kernel
theorem dX12_of_170 : decode cX12_of 170 = .ok (.ifCond .eq 7, 3) := by decide +kernel
theorem dX12_of_173 : decode cX12_of 173 = .ok (.iconst 1, 1) := by decide +kernel
theorem dX12_of_174 : decode cX12_of 174 = .ok (.goto 4, 3) := by decide +kernel
theorem dX12_of_177 : decode cX12_of 177 = .ok (.iconst 0, 1) := by decide +kernel
theorem dX12_of_178 : decode cX12_of 178 = .ok (.ireturn, 1) := by decide +kernel
theorem dX12_of_179 : decode cX12_of 179 = .ok (.aload_n 0, 1) := by decide +kernel
theorem dX12_of_180 : decode cX12_of 180 = .ok (.getfield 177, 3) := by decide +kernel
theorem dX12_of_183 : decode cX12_of 183 = .ok (.iload_n 1, 1) := by decide +kernel
theorem dX12_of_184 : decode cX12_of 184 = .ok (.iaload, 1) := by decide +kernel
theorem dX12_of_185 : decode cX12_of 185 = .ok (.iconst 1, 1) := by decide +kernel
theorem dX12_of_186 : decode cX12_of 186 = .ok (.if_icmp .ne 12, 3) := by decide +kernel
theorem dX12_of_189 : decode cX12_of 189 = .ok (.aload_n 0, 1) := by decide +kernel
theorem dX12_of_190 : decode cX12_of 190 = .ok (.getfield 183, 3) := by decide +kernel
theorem dX12_of_193 : decode cX12_of 193 = .ok (.iload_n 1, 1) := by decide +kernel
theorem dX12_of_194 : decode cX12_of 194 = .ok (.iaload, 1) := by decide +kernel
theorem dX12_of_195 : decode cX12_of 195 = .ok (.goto 4, 3) := by decide +kernel
theorem dX12_of_198 : decode cX12_of 198 = .ok (.iconst (-1), 1) := by decide +kernel
theorem dX12_of_199 : decode cX12_of 199 = .ok (.ireturn, 1) := by decide +kernel
theorem dX12_of_200 : decode cX12_of 200 = .ok (.aload_n 0, 1) := by decide +kernel
theorem dX12_of_201 : decode cX12_of 201 = .ok (.getfield 186, 3) := by decide +kernel
theorem dX12_of_204 : decode cX12_of 204 = .ok (.iload_n 1, 1) := by decide +kernel
theorem dX12_of_205 : decode cX12_of 205 = .ok (.iaload, 1) := by decide +kernel
theorem dX12_of_206 : decode cX12_of 206 = .ok (.ireturn, 1) := by decide +kernel
theorem dX12_of_207 : decode cX12_of 207 = .ok (.iconst (-1), 1) := by decide +kernel
theorem dX12_of_208 : decode cX12_of 208 = .ok (.ireturn, 1) := by decide +kernel
theorem dX12_charge_0 : decode cX12_charge 0 = .ok (.aload_n 0, 1) := by decide +kernel
theorem dX12_charge_1 : decode cX12_charge 1 = .ok (.iload_n 1, 1) := by decide +kernel
theorem dX12_charge_2 : decode cX12_charge 2 = .ok (.invokevirtual 563, 3) := by decide +kernel
theorem dX12_charge_5 : decode cX12_charge 5 = .ok (.ifCond .ne 5, 3) := by decide +kernel
theorem dX12_charge_8 : decode cX12_charge 8 = .ok (.iconst (-1), 1) := by decide +kernel
theorem dX12_charge_9 : decode cX12_charge 9 = .ok (.ireturn, 1) := by decide +kernel
theorem dX12_charge_10 : decode cX12_charge 10 = .ok (.iload_n 2, 1) := by decide +kernel
theorem dX12_charge_11 : decode cX12_charge 11 = .ok (.tableswitch 111 0 5 #[37, 44, 51, 71, 77, 96], 37) := by decide +kernel
theorem dX12_charge_48 : decode cX12_charge 48 = .ok (.aload_n 0, 1) := by decide +kernel
theorem dX12_charge_49 : decode cX12_charge 49 = .ok (.getfield 156, 3) := by decide +kernel
theorem dX12_charge_52 : decode cX12_charge 52 = .ok (.iload_n 1, 1) := by decide +kernel
theorem dX12_charge_53 : decode cX12_charge 53 = .ok (.iaload, 1) := by decide +kernel
theorem dX12_charge_54 : decode cX12_charge 54 = .ok (.ireturn, 1) := by decide +kernel
theorem dX12_charge_55 : decode cX12_charge 55 = .ok (.aload_n 0, 1) := by decide +kernel
theorem dX12_charge_56 : decode cX12_charge 56 = .ok (.getfield 153, 3) := by decide +kernel
theorem dX12_charge_59 : decode cX12_charge 59 = .ok (.iload_n 1, 1) := by decide +kernel
theorem dX12_charge_60 : decode cX12_charge 60 = .ok (.iaload, 1) := by decide +kernel
theorem dX12_charge_61 : decode cX12_charge 61 = .ok (.ireturn, 1) := by decide +kernel
theorem dX12_charge_62 : decode cX12_charge 62 = .ok (.aload_n 0, 1) := by decide +kernel
theorem dX12_charge_63 : decode cX12_charge 63 = .ok (.getfield 171, 3) := by decide +kernel
theorem dX12_charge_66 : decode cX12_charge 66 = .ok (.iload_n 1, 1) := by decide +kernel
theorem dX12_charge_67 : decode cX12_charge 67 = .ok (.baload, 1) := by decide +kernel
theorem dX12_charge_68 : decode cX12_charge 68 = .ok (.ifCond .eq 7, 3) := by decide +kernel
theorem dX12_charge_71 : decode cX12_charge 71 = .ok (.iconst (-1), 1) := by decide +kernel
theorem dX12_charge_72 : decode cX12_charge 72 = .ok (.goto 9, 3) := by decide +kernel
theorem dX12_charge_75 : decode cX12_charge 75 = .ok (.aload_n 0, 1) := by decide +kernel
theorem dX12_charge_76 : decode cX12_charge 76 = .ok (.getfield 159, 3) := by decide +kernel
theorem dX12_charge_79 : decode cX12_charge 79 = .ok (.iload_n 1, 1) := by decide +kernel
theorem dX12_charge_80 : decode cX12_charge 80 = .ok (.iaload, 1) := by decide +kernel
theorem dX12_charge_81 : decode cX12_charge 81 = .ok (.ireturn, 1) := by decide +kernel
theorem dX12_charge_82 : decode cX12_charge 82 = .ok (.aload_n 0, 1) := by decide +kernel
theorem dX12_charge_83 : decode cX12_charge 83 = .ok (.iload_n 1, 1) := by decide +kernel
theorem dX12_charge_84 : decode cX12_charge 84 = .ok (.invokevirtual 566, 3) := by decide +kernel
theorem dX12_charge_87 : decode cX12_charge 87 = .ok (.ireturn, 1) := by decide +kernel
theorem dX12_charge_88 : decode cX12_charge 88 = .ok (.aload_n 0, 1) := by decide +kernel
theorem dX12_charge_89 : decode cX12_charge 89 = .ok (.iload_n 1, 1) := by decide +kernel
theorem dX12_charge_90 : decode cX12_charge 90 = .ok (.invokevirtual 560, 3) := by decide +kernel
theorem dX12_charge_93 : decode cX12_charge 93 = .ok (.ifCond .eq 7, 3) := by decide +kernel
theorem dX12_charge_96 : decode cX12_charge 96 = .ok (.iconst 0, 1) := by decide +kernel
theorem dX12_charge_97 : decode cX12_charge 97 = .ok (.goto 9, 3) := by decide +kernel
theorem dX12_charge_100 : decode cX12_charge 100 = .ok (.aload_n 0, 1) := by decide +kernel
theorem dX12_charge_101 : decode cX12_charge 101 = .ok (.getfield 156, 3) := by decide +kernel
theorem dX12_charge_104 : decode cX12_charge 104 = .ok (.iload_n 1, 1) := by decide +kernel
theorem dX12_charge_105 : decode cX12_charge 105 = .ok (.iaload, 1) := by decide +kernel
theorem dX12_charge_106 : decode cX12_charge 106 = .ok (.ireturn, 1) := by decide +kernel
theorem dX12_charge_107 : decode cX12_charge 107 = .ok (.aload_n 0, 1) := by decide +kernel
theorem dX12_charge_108 : decode cX12_charge 108 = .ok (.getfield 171, 3) := by decide +kernel
theorem dX12_charge_111 : decode cX12_charge 111 = .ok (.iload_n 1, 1) := by decide +kernel
theorem dX12_charge_112 : decode cX12_charge 112 = .ok (.baload, 1) := by decide +kernel
theorem dX12_charge_113 : decode cX12_charge 113 = .ok (.ifCond .eq 7, 3) := by decide +kernel
theorem dX12_charge_116 : decode cX12_charge 116 = .ok (.iconst 1, 1) := by decide +kernel
theorem dX12_charge_117 : decode cX12_charge 117 = .ok (.goto 4, 3) := by decide +kernel
theorem dX12_charge_120 : decode cX12_charge 120 = .ok (.iconst 0, 1) := by decide +kernel
theorem dX12_charge_121 : decode cX12_charge 121 = .ok (.ireturn, 1) := by decide +kernel
theorem dX12_charge_122 : decode cX12_charge 122 = .ok (.iconst (-1), 1) := by decide +kernel
theorem dX12_charge_123 : decode cX12_charge 123 = .ok (.ireturn, 1) := by decide +kernel
theorem dX12_lead_0 : decode cX12_lead 0 = .ok (.aload_n 0, 1) := by decide +kernel
theorem dX12_lead_1 : decode cX12_lead 1 = .ok (.iload_n 1, 1) := by decide +kernel
theorem dX12_lead_2 : decode cX12_lead 2 = .ok (.invokevirtual 563, 3) := by decide +kernel
theorem dX12_lead_5 : decode cX12_lead 5 = .ok (.ifCond .eq 19, 3) := by decide +kernel
theorem dX12_lead_8 : decode cX12_lead 8 = .ok (.iload_n 2, 1) := by decide +kernel
theorem dX12_lead_9 : decode cX12_lead 9 = .ok (.iconst 0, 1) := by decide +kernel
theorem dX12_lead_10 : decode cX12_lead 10 = .ok (.aload_n 0, 1) := by decide +kernel
theorem dX12_lead_11 : decode cX12_lead 11 = .ok (.getfield 162, 3) := by decide +kernel
theorem dX12_lead_14 : decode cX12_lead 14 = .ok (.iload_n 1, 1) := by decide +kernel
theorem dX12_lead_15 : decode cX12_lead 15 = .ok (.iaload, 1) := by decide +kernel
theorem dX12_lead_16 : decode cX12_lead 16 = .ok (.iconst 1, 1) := by decide +kernel
theorem dX12_lead_17 : decode cX12_lead 17 = .ok (.isub, 1) := by decide +kernel
theorem dX12_lead_18 : decode cX12_lead 18 = .ok (.invokestatic 286, 3) := by decide +kernel
theorem dX12_lead_21 : decode cX12_lead 21 = .ok (.ifCond .ne 5, 3) := by decide +kernel
theorem dX12_lead_24 : decode cX12_lead 24 = .ok (.iconst (-1), 1) := by decide +kernel
theorem dX12_lead_25 : decode cX12_lead 25 = .ok (.ireturn, 1) := by decide +kernel
theorem dX12_lead_26 : decode cX12_lead 26 = .ok (.sipush 1000, 3) := by decide +kernel
theorem dX12_lead_29 : decode cX12_lead 29 = .ok (.iload_n 1, 1) := by decide +kernel
theorem dX12_lead_30 : decode cX12_lead 30 = .ok (.imul, 1) := by decide +kernel
theorem dX12_lead_31 : decode cX12_lead 31 = .ok (.iload_n 2, 1) := by decide +kernel
theorem dX12_lead_32 : decode cX12_lead 32 = .ok (.iadd, 1) := by decide +kernel
theorem dX12_lead_33 : decode cX12_lead 33 = .ok (.istore 4, 2) := by decide +kernel
theorem dX12_lead_35 : decode cX12_lead 35 = .ok (.iload_n 3, 1) := by decide +kernel
theorem dX12_lead_36 : decode cX12_lead 36 = .ok (.ifCond .ne 13, 3) := by decide +kernel
theorem dX12_lead_39 : decode cX12_lead 39 = .ok (.aload_n 0, 1) := by decide +kernel
theorem dX12_lead_40 : decode cX12_lead 40 = .ok (.getfield 199, 3) := by decide +kernel
theorem dX12_lead_43 : decode cX12_lead 43 = .ok (.iload 4, 2) := by decide +kernel
theorem dX12_lead_45 : decode cX12_lead 45 = .ok (.iaload, 1) := by decide +kernel
theorem dX12_lead_46 : decode cX12_lead 46 = .ok (.goto 34, 3) := by decide +kernel
theorem dX12_lead_49 : decode cX12_lead 49 = .ok (.iload_n 3, 1) := by decide +kernel
theorem dX12_lead_50 : decode cX12_lead 50 = .ok (.iconst 1, 1) := by decide +kernel
theorem dX12_lead_51 : decode cX12_lead 51 = .ok (.if_icmp .ne 13, 3) := by decide +kernel
theorem dX12_lead_54 : decode cX12_lead 54 = .ok (.aload_n 0, 1) := by decide +kernel
theorem dX12_lead_55 : decode cX12_lead 55 = .ok (.getfield 202, 3) := by decide +kernel
theorem dX12_lead_58 : decode cX12_lead 58 = .ok (.iload 4, 2) := by decide +kernel
theorem dX12_lead_60 : decode cX12_lead 60 = .ok (.iaload, 1) := by decide +kernel
theorem dX12_lead_61 : decode cX12_lead 61 = .ok (.goto 19, 3) := by decide +kernel
theorem dX12_lead_64 : decode cX12_lead 64 = .ok (.iload_n 3, 1) := by decide +kernel
theorem dX12_lead_65 : decode cX12_lead 65 = .ok (.iconst 2, 1) := by decide +kernel
theorem dX12_lead_66 : decode cX12_lead 66 = .ok (.if_icmp .ne 13, 3) := by decide +kernel
theorem dX12_lead_69 : decode cX12_lead 69 = .ok (.aload_n 0, 1) := by decide +kernel
theorem dX12_lead_70 : decode cX12_lead 70 = .ok (.getfield 205, 3) := by decide +kernel
theorem dX12_lead_73 : decode cX12_lead 73 = .ok (.iload 4, 2) := by decide +kernel
theorem dX12_lead_75 : decode cX12_lead 75 = .ok (.iaload, 1) := by decide +kernel
theorem dX12_lead_76 : decode cX12_lead 76 = .ok (.goto 4, 3) := by decide +kernel
theorem dX12_lead_79 : decode cX12_lead 79 = .ok (.iconst (-1), 1) := by decide +kernel
theorem dX12_lead_80 : decode cX12_lead 80 = .ok (.ireturn, 1) := by decide +kernel
theorem dX12_where_0 : decode cX12_where 0 = .ok (.aload_n 0, 1) := by decide +kernel
theorem dX12_where_1 : decode cX12_where 1 = .ok (.iload_n 1, 1) := by decide +kernel
theorem dX12_where_2 : decode cX12_where 2 = .ok (.invokevirtual 563, 3) := by decide +kernel
theorem dX12_where_5 : decode cX12_where 5 = .ok (.ifCond .eq 29, 3) := by decide +kernel
theorem dX12_where_8 : decode cX12_where 8 = .ok (.iload_n 2, 1) := by decide +kernel
theorem dX12_where_9 : decode cX12_where 9 = .ok (.aload_n 0, 1) := by decide +kernel
theorem dX12_where_10 : decode cX12_where 10 = .ok (.getfield 144, 3) := by decide +kernel
theorem dX12_where_13 : decode cX12_where 13 = .ok (.iload_n 1, 1) := by decide +kernel
theorem dX12_where_14 : decode cX12_where 14 = .ok (.iaload, 1) := by decide +kernel
theorem dX12_where_15 : decode cX12_where 15 = .ok (.aload_n 0, 1) := by decide +kernel
theorem dX12_where_16 : decode cX12_where 16 = .ok (.getfield 313, 3) := by decide +kernel
theorem dX12_where_19 : decode cX12_where 19 = .ok (.invokestatic 286, 3) := by decide +kernel
theorem dX12_where_22 : decode cX12_where 22 = .ok (.ifCond .eq 12, 3) := by decide +kernel
theorem dX12_where_25 : decode cX12_where 25 = .ok (.iload_n 3, 1) := by decide +kernel
theorem dX12_where_26 : decode cX12_where 26 = .ok (.iconst 0, 1) := by decide +kernel
theorem dX12_where_27 : decode cX12_where 27 = .ok (.iconst 1, 1) := by decide +kernel
theorem dX12_where_28 : decode cX12_where 28 = .ok (.invokestatic 286, 3) := by decide +kernel
theorem dX12_where_31 : decode cX12_where 31 = .ok (.ifCond .ne 5, 3) := by decide +kernel
theorem dX12_where_34 : decode cX12_where 34 = .ok (.iconst (-1), 1) := by decide +kernel
theorem dX12_where_35 : decode cX12_where 35 = .ok (.ireturn, 1) := by decide +kernel
theorem dX12_where_36 : decode cX12_where 36 = .ok (.aload_n 0, 1) := by decide +kernel
theorem dX12_where_37 : decode cX12_where 37 = .ok (.getfield 162, 3) := by decide +kernel
theorem dX12_where_40 : decode cX12_where 40 = .ok (.iload_n 1, 1) := by decide +kernel
theorem dX12_where_41 : decode cX12_where 41 = .ok (.iaload, 1) := by decide +kernel
theorem dX12_where_42 : decode cX12_where 42 = .ok (.iconst 1, 1) := by decide +kernel
theorem dX12_where_43 : decode cX12_where 43 = .ok (.isub, 1) := by decide +kernel
theorem dX12_where_44 : decode cX12_where 44 = .ok (.istore 4, 2) := by decide +kernel
theorem dX12_where_46 : decode cX12_where 46 = .ok (.aload_n 0, 1) := by decide +kernel
theorem dX12_where_47 : decode cX12_where 47 = .ok (.getfield 199, 3) := by decide +kernel
theorem dX12_where_50 : decode cX12_where 50 = .ok (.sipush 1000, 3) := by decide +kernel
theorem dX12_where_53 : decode cX12_where 53 = .ok (.iload_n 1, 1) := by decide +kernel
theorem dX12_where_54 : decode cX12_where 54 = .ok (.imul, 1) := by decide +kernel
theorem dX12_where_55 : decode cX12_where 55 = .ok (.iload 4, 2) := by decide +kernel
theorem dX12_where_57 : decode cX12_where 57 = .ok (.iadd, 1) := by decide +kernel
theorem dX12_where_58 : decode cX12_where 58 = .ok (.iaload, 1) := by decide +kernel
theorem dX12_where_59 : decode cX12_where 59 = .ok (.iload_n 2, 1) := by decide +kernel
theorem dX12_where_60 : decode cX12_where 60 = .ok (.if_icmp .le 9, 3) := by decide +kernel
theorem dX12_where_63 : decode cX12_where 63 = .ok (.iinc 4 (-1), 3) := by decide +kernel
theorem dX12_where_66 : decode cX12_where 66 = .ok (.goto (-20), 3) := by decide +kernel
theorem dX12_where_69 : decode cX12_where 69 = .ok (.iload_n 3, 1) := by decide +kernel
theorem dX12_where_70 : decode cX12_where 70 = .ok (.ifCond .ne 19, 3) := by decide +kernel
theorem dX12_where_73 : decode cX12_where 73 = .ok (.aload_n 0, 1) := by decide +kernel
theorem dX12_where_74 : decode cX12_where 74 = .ok (.getfield 202, 3) := by decide +kernel
theorem dX12_where_77 : decode cX12_where 77 = .ok (.sipush 1000, 3) := by decide +kernel
theorem dX12_where_80 : decode cX12_where 80 = .ok (.iload_n 1, 1) := by decide +kernel
theorem dX12_where_81 : decode cX12_where 81 = .ok (.imul, 1) := by decide +kernel
theorem dX12_where_82 : decode cX12_where 82 = .ok (.iload 4, 2) := by decide +kernel
theorem dX12_where_84 : decode cX12_where 84 = .ok (.iadd, 1) := by decide +kernel
theorem dX12_where_85 : decode cX12_where 85 = .ok (.iaload, 1) := by decide +kernel
theorem dX12_where_86 : decode cX12_where 86 = .ok (.goto 16, 3) := by decide +kernel
theorem dX12_where_89 : decode cX12_where 89 = .ok (.aload_n 0, 1) := by decide +kernel
theorem dX12_where_90 : decode cX12_where 90 = .ok (.getfield 205, 3) := by decide +kernel
theorem dX12_where_93 : decode cX12_where 93 = .ok (.sipush 1000, 3) := by decide +kernel
theorem dX12_where_96 : decode cX12_where 96 = .ok (.iload_n 1, 1) := by decide +kernel
theorem dX12_where_97 : decode cX12_where 97 = .ok (.imul, 1) := by decide +kernel
theorem dX12_where_98 : decode cX12_where 98 = .ok (.iload 4, 2) := by decide +kernel
theorem dX12_where_100 : decode cX12_where 100 = .ok (.iadd, 1) := by decide +kernel
theorem dX12_where_101 : decode cX12_where 101 = .ok (.iaload, 1) := by decide +kernel
theorem dX12_where_102 : decode cX12_where 102 = .ok (.ireturn, 1) := by decide +kernel
theorem dX12_sorter_0 : decode cX12_sorter 0 = .ok (.iload_n 1, 1) := by decide +kernel
theorem dX12_sorter_1 : decode cX12_sorter 1 = .ok (.iconst 1, 1) := by decide +kernel
theorem dX12_sorter_2 : decode cX12_sorter 2 = .ok (.bipush 99, 2) := by decide +kernel
theorem dX12_sorter_4 : decode cX12_sorter 4 = .ok (.invokestatic 286, 3) := by decide +kernel
theorem dX12_sorter_7 : decode cX12_sorter 7 = .ok (.ifCond .eq 23, 3) := by decide +kernel
theorem dX12_sorter_10 : decode cX12_sorter 10 = .ok (.iload_n 2, 1) := by decide +kernel
theorem dX12_sorter_11 : decode cX12_sorter 11 = .ok (.iconst 0, 1) := by decide +kernel
theorem dX12_sorter_12 : decode cX12_sorter 12 = .ok (.sipush 4095, 3) := by decide +kernel
theorem dX12_sorter_15 : decode cX12_sorter 15 = .ok (.invokestatic 286, 3) := by decide +kernel
theorem dX12_sorter_18 : decode cX12_sorter 18 = .ok (.ifCond .eq 12, 3) := by decide +kernel
theorem dX12_sorter_21 : decode cX12_sorter 21 = .ok (.aload_n 0, 1) := by decide +kernel
theorem dX12_sorter_22 : decode cX12_sorter 22 = .ok (.getfield 569, 3) := by decide +kernel
theorem dX12_sorter_25 : decode cX12_sorter 25 = .ok (.bipush 8, 2) := by decide +kernel
theorem dX12_sorter_27 : decode cX12_sorter 27 = .ok (.if_icmp .ne 5, 3) := by decide +kernel
theorem dX12_sorter_30 : decode cX12_sorter 30 = .ok (.iconst (-1), 1) := by decide +kernel
theorem dX12_sorter_31 : decode cX12_sorter 31 = .ok (.ireturn, 1) := by decide +kernel
theorem dX12_sorter_32 : decode cX12_sorter 32 = .ok (.aload_n 0, 1) := by decide +kernel
theorem dX12_sorter_33 : decode cX12_sorter 33 = .ok (.getfield 211, 3) := by decide +kernel
theorem dX12_sorter_36 : decode cX12_sorter 36 = .ok (.aload_n 0, 1) := by decide +kernel
theorem dX12_sorter_37 : decode cX12_sorter 37 = .ok (.getfield 569, 3) := by decide +kernel
theorem dX12_sorter_40 : decode cX12_sorter 40 = .ok (.iload_n 1, 1) := by decide +kernel
theorem dX12_sorter_41 : decode cX12_sorter 41 = .ok (.iastore, 1) := by decide +kernel
theorem dX12_sorter_42 : decode cX12_sorter 42 = .ok (.aload_n 0, 1) := by decide +kernel
theorem dX12_sorter_43 : decode cX12_sorter 43 = .ok (.getfield 214, 3) := by decide +kernel
theorem dX12_sorter_46 : decode cX12_sorter 46 = .ok (.aload_n 0, 1) := by decide +kernel
theorem dX12_sorter_47 : decode cX12_sorter 47 = .ok (.getfield 569, 3) := by decide +kernel
theorem dX12_sorter_50 : decode cX12_sorter 50 = .ok (.iload_n 2, 1) := by decide +kernel
theorem dX12_sorter_51 : decode cX12_sorter 51 = .ok (.iastore, 1) := by decide +kernel
theorem dX12_sorter_52 : decode cX12_sorter 52 = .ok (.aload_n 0, 1) := by decide +kernel
theorem dX12_sorter_53 : decode cX12_sorter 53 = .ok (.dup, 1) := by decide +kernel
theorem dX12_sorter_54 : decode cX12_sorter 54 = .ok (.getfield 569, 3) := by decide +kernel
theorem dX12_sorter_57 : decode cX12_sorter 57 = .ok (.iconst 1, 1) := by decide +kernel
theorem dX12_sorter_58 : decode cX12_sorter 58 = .ok (.iadd, 1) := by decide +kernel
theorem dX12_sorter_59 : decode cX12_sorter 59 = .ok (.putfield 569, 3) := by decide +kernel
theorem dX12_sorter_62 : decode cX12_sorter 62 = .ok (.aload_n 0, 1) := by decide +kernel
theorem dX12_sorter_63 : decode cX12_sorter 63 = .ok (.getfield 569, 3) := by decide +kernel
theorem dX12_sorter_66 : decode cX12_sorter 66 = .ok (.iconst 1, 1) := by decide +kernel
theorem dX12_sorter_67 : decode cX12_sorter 67 = .ok (.isub, 1) := by decide +kernel
theorem dX12_sorter_68 : decode cX12_sorter 68 = .ok (.ireturn, 1) := by decide +kernel
theorem dX12_seat_0 : decode cX12_seat 0 = .ok (.iload_n 1, 1) := by decide +kernel
theorem dX12_seat_1 : decode cX12_seat 1 = .ok (.iconst 0, 1) := by decide +kernel
theorem dX12_seat_2 : decode cX12_seat 2 = .ok (.aload_n 0, 1) := by decide +kernel
theorem dX12_seat_3 : decode cX12_seat 3 = .ok (.getfield 569, 3) := by decide +kernel
theorem dX12_seat_6 : decode cX12_seat 6 = .ok (.iconst 1, 1) := by decide +kernel
theorem dX12_seat_7 : decode cX12_seat 7 = .ok (.isub, 1) := by decide +kernel
theorem dX12_seat_8 : decode cX12_seat 8 = .ok (.invokestatic 286, 3) := by decide +kernel
theorem dX12_seat_11 : decode cX12_seat 11 = .ok (.ifCond .eq 16, 3) := by decide +kernel
theorem dX12_seat_14 : decode cX12_seat 14 = .ok (.iload_n 2, 1) := by decide +kernel
theorem dX12_seat_15 : decode cX12_seat 15 = .ok (.iconst (-1), 1) := by decide +kernel
theorem dX12_seat_16 : decode cX12_seat 16 = .ok (.if_icmp .eq 13, 3) := by decide +kernel
theorem dX12_seat_19 : decode cX12_seat 19 = .ok (.aload_n 0, 1) := by decide +kernel
theorem dX12_seat_20 : decode cX12_seat 20 = .ok (.iload_n 2, 1) := by decide +kernel
theorem dX12_seat_21 : decode cX12_seat 21 = .ok (.invokevirtual 310, 3) := by decide +kernel
theorem dX12_seat_24 : decode cX12_seat 24 = .ok (.ifCond .ne 5, 3) := by decide +kernel
theorem dX12_seat_27 : decode cX12_seat 27 = .ok (.iconst 0, 1) := by decide +kernel
theorem dX12_seat_28 : decode cX12_seat 28 = .ok (.ireturn, 1) := by decide +kernel
theorem dX12_seat_29 : decode cX12_seat 29 = .ok (.aload_n 0, 1) := by decide +kernel
theorem dX12_seat_30 : decode cX12_seat 30 = .ok (.getfield 217, 3) := by decide +kernel
theorem dX12_seat_33 : decode cX12_seat 33 = .ok (.iload_n 1, 1) := by decide +kernel
theorem dX12_seat_34 : decode cX12_seat 34 = .ok (.iload_n 2, 1) := by decide +kernel
theorem dX12_seat_35 : decode cX12_seat 35 = .ok (.iastore, 1) := by decide +kernel
theorem dX12_seat_36 : decode cX12_seat 36 = .ok (.iconst 1, 1) := by decide +kernel
theorem dX12_seat_37 : decode cX12_seat 37 = .ok (.ireturn, 1) := by decide +kernel
theorem dX12_code_0 : decode cX12_code 0 = .ok (.bipush 10, 2) := by decide +kernel
theorem dX12_code_2 : decode cX12_code 2 = .ok (.iload_n 0, 1) := by decide +kernel
theorem dX12_code_3 : decode cX12_code 3 = .ok (.bipush 7, 2) := by decide +kernel
theorem dX12_code_5 : decode cX12_code 5 = .ok (.irem, 1) := by decide +kernel
theorem dX12_code_6 : decode cX12_code 6 = .ok (.imul, 1) := by decide +kernel
theorem dX12_code_7 : decode cX12_code 7 = .ok (.iload_n 0, 1) := by decide +kernel
theorem dX12_code_8 : decode cX12_code 8 = .ok (.bipush 7, 2) := by decide +kernel
theorem dX12_code_10 : decode cX12_code 10 = .ok (.idiv, 1) := by decide +kernel
theorem dX12_code_11 : decode cX12_code 11 = .ok (.iadd, 1) := by decide +kernel
theorem dX12_code_12 : decode cX12_code 12 = .ok (.ireturn, 1) := by decide +kernel
theorem dX12_isAboard_0 : decode cX12_isAboard 0 = .ok (.aload_n 0, 1) := by decide +kernel
theorem dX12_isAboard_1 : decode cX12_isAboard 1 = .ok (.getfield 177, 3) := by decide +kernel
theorem dX12_isAboard_4 : decode cX12_isAboard 4 = .ok (.iload_n 1, 1) := by decide +kernel
theorem dX12_isAboard_5 : decode cX12_isAboard 5 = .ok (.iaload, 1) := by decide +kernel
theorem dX12_isAboard_6 : decode cX12_isAboard 6 = .ok (.iconst 1, 1) := by decide +kernel
theorem dX12_isAboard_7 : decode cX12_isAboard 7 = .ok (.if_icmp .ne 20, 3) := by decide +kernel
theorem dX12_isAboard_10 : decode cX12_isAboard 10 = .ok (.aload_n 0, 1) := by decide +kernel
theorem dX12_isAboard_11 : decode cX12_isAboard 11 = .ok (.getfield 180, 3) := by decide +kernel
theorem dX12_isAboard_14 : decode cX12_isAboard 14 = .ok (.iload_n 1, 1) := by decide +kernel
theorem dX12_isAboard_15 : decode cX12_isAboard 15 = .ok (.iaload, 1) := by decide +kernel
theorem dX12_isAboard_16 : decode cX12_isAboard 16 = .ok (.iload_n 2, 1) := by decide +kernel
theorem dX12_isAboard_17 : decode cX12_isAboard 17 = .ok (.invokestatic 572, 3) := by decide +kernel
theorem dX12_isAboard_20 : decode cX12_isAboard 20 = .ok (.if_icmp .ne 7, 3) := by decide +kernel
theorem dX12_isAboard_23 : decode cX12_isAboard 23 = .ok (.iconst 1, 1) := by decide +kernel
theorem dX12_isAboard_24 : decode cX12_isAboard 24 = .ok (.goto 4, 3) := by decide +kernel
theorem dX12_isAboard_27 : decode cX12_isAboard 27 = .ok (.iconst 0, 1) := by decide +kernel
theorem dX12_isAboard_28 : decode cX12_isAboard 28 = .ok (.ireturn, 1) := by decide +kernel
theorem dX12_putsDown_0 : decode cX12_putsDown 0 = .ok (.aload_n 0, 1) := by decide +kernel
theorem dX12_putsDown_1 : decode cX12_putsDown 1 = .ok (.getfield 195, 3) := by decide +kernel
theorem dX12_putsDown_4 : decode cX12_putsDown 4 = .ok (.iload_n 1, 1) := by decide +kernel
theorem dX12_putsDown_5 : decode cX12_putsDown 5 = .ok (.iconst 0, 1) := by decide +kernel
theorem dX12_putsDown_6 : decode cX12_putsDown 6 = .ok (.bastore, 1) := by decide +kernel
theorem dX12_putsDown_7 : decode cX12_putsDown 7 = .ok (.aload_n 0, 1) := by decide +kernel
theorem dX12_putsDown_8 : decode cX12_putsDown 8 = .ok (.getfield 183, 3) := by decide +kernel
theorem dX12_putsDown_11 : decode cX12_putsDown 11 = .ok (.iload_n 1, 1) := by decide +kernel
theorem dX12_putsDown_12 : decode cX12_putsDown 12 = .ok (.iconst (-1), 1) := by decide +kernel
theorem dX12_putsDown_13 : decode cX12_putsDown 13 = .ok (.iastore, 1) := by decide +kernel
theorem dX12_putsDown_14 : decode cX12_putsDown 14 = .ok (.aload_n 0, 1) := by decide +kernel
theorem dX12_putsDown_15 : decode cX12_putsDown 15 = .ok (.iload_n 1, 1) := by decide +kernel
theorem dX12_putsDown_16 : decode cX12_putsDown 16 = .ok (.iload_n 2, 1) := by decide +kernel
theorem dX12_putsDown_17 : decode cX12_putsDown 17 = .ok (.aload_n 0, 1) := by decide +kernel
theorem dX12_putsDown_18 : decode cX12_putsDown 18 = .ok (.getfield 132, 3) := by decide +kernel
theorem dX12_putsDown_21 : decode cX12_putsDown 21 = .ok (.iload_n 1, 1) := by decide +kernel
theorem dX12_putsDown_22 : decode cX12_putsDown 22 = .ok (.iaload, 1) := by decide +kernel
theorem dX12_putsDown_23 : decode cX12_putsDown 23 = .ok (.iload_n 3, 1) := by decide +kernel
theorem dX12_putsDown_24 : decode cX12_putsDown 24 = .ok (.if_icmp .eq 7, 3) := by decide +kernel
theorem dX12_putsDown_27 : decode cX12_putsDown 27 = .ok (.iconst 0, 1) := by decide +kernel
theorem dX12_putsDown_28 : decode cX12_putsDown 28 = .ok (.goto 17, 3) := by decide +kernel
theorem dX12_putsDown_31 : decode cX12_putsDown 31 = .ok (.aload_n 0, 1) := by decide +kernel
theorem dX12_putsDown_32 : decode cX12_putsDown 32 = .ok (.getfield 174, 3) := by decide +kernel
theorem dX12_putsDown_35 : decode cX12_putsDown 35 = .ok (.iload_n 1, 1) := by decide +kernel
theorem dX12_putsDown_36 : decode cX12_putsDown 36 = .ok (.baload, 1) := by decide +kernel
theorem dX12_putsDown_37 : decode cX12_putsDown 37 = .ok (.ifCond .eq 7, 3) := by decide +kernel
theorem dX12_putsDown_40 : decode cX12_putsDown 40 = .ok (.iconst 3, 1) := by decide +kernel
theorem dX12_putsDown_41 : decode cX12_putsDown 41 = .ok (.goto 4, 3) := by decide +kernel
theorem dX12_putsDown_44 : decode cX12_putsDown 44 = .ok (.iconst 2, 1) := by decide +kernel
theorem dX12_putsDown_45 : decode cX12_putsDown 45 = .ok (.iload_n 3, 1) := by decide +kernel
theorem dX12_putsDown_46 : decode cX12_putsDown 46 = .ok (.invokevirtual 556, 3) := by decide +kernel
theorem dX12_putsDown_49 : decode cX12_putsDown 49 = .ok (.aload_n 0, 1) := by decide +kernel
theorem dX12_putsDown_50 : decode cX12_putsDown 50 = .ok (.getfield 177, 3) := by decide +kernel
theorem dX12_putsDown_53 : decode cX12_putsDown 53 = .ok (.iload_n 1, 1) := by decide +kernel
theorem dX12_putsDown_54 : decode cX12_putsDown 54 = .ok (.iaload, 1) := by decide +kernel
theorem dX12_putsDown_55 : decode cX12_putsDown 55 = .ok (.iconst 3, 1) := by decide +kernel
theorem dX12_putsDown_56 : decode cX12_putsDown 56 = .ok (.if_icmp .ne 10, 3) := by decide +kernel
theorem dX12_putsDown_59 : decode cX12_putsDown 59 = .ok (.aload_n 0, 1) := by decide +kernel
theorem dX12_putsDown_60 : decode cX12_putsDown 60 = .ok (.getfield 165, 3) := by decide +kernel
theorem dX12_putsDown_63 : decode cX12_putsDown 63 = .ok (.iload_n 1, 1) := by decide +kernel
theorem dX12_putsDown_64 : decode cX12_putsDown 64 = .ok (.iconst 0, 1) := by decide +kernel
theorem dX12_putsDown_65 : decode cX12_putsDown 65 = .ok (.iastore, 1) := by decide +kernel
theorem dX12_putsDown_66 : decode cX12_putsDown 66 = .ok (.return_, 1) := by decide +kernel
theorem dX12_coming_0 : decode cX12_coming 0 = .ok (.aload_n 0, 1) := by decide +kernel
theorem dX12_coming_1 : decode cX12_coming 1 = .ok (.getfield 44, 3) := by decide +kernel
theorem dX12_coming_4 : decode cX12_coming 4 = .ok (.iload_n 1, 1) := by decide +kernel
theorem dX12_coming_5 : decode cX12_coming 5 = .ok (.iaload, 1) := by decide +kernel
theorem dX12_coming_6 : decode cX12_coming 6 = .ok (.istore_n 2, 1) := by decide +kernel
theorem dX12_coming_7 : decode cX12_coming 7 = .ok (.aload_n 0, 1) := by decide +kernel
theorem dX12_coming_8 : decode cX12_coming 8 = .ok (.getfield 47, 3) := by decide +kernel
theorem dX12_coming_11 : decode cX12_coming 11 = .ok (.iload_n 1, 1) := by decide +kernel
theorem dX12_coming_12 : decode cX12_coming 12 = .ok (.iaload, 1) := by decide +kernel
theorem dX12_coming_13 : decode cX12_coming 13 = .ok (.istore_n 3, 1) := by decide +kernel
theorem dX12_coming_14 : decode cX12_coming 14 = .ok (.iload_n 3, 1) := by decide +kernel
theorem dX12_coming_15 : decode cX12_coming 15 = .ok (.aload_n 0, 1) := by decide +kernel
theorem dX12_coming_16 : decode cX12_coming 16 = .ok (.getfield 13, 3) := by decide +kernel
theorem dX12_coming_19 : decode cX12_coming 19 = .ok (.iload_n 2, 1) := by decide +kernel
theorem dX12_coming_20 : decode cX12_coming 20 = .ok (.bipush 7, 2) := by decide +kernel
theorem dX12_coming_22 : decode cX12_coming 22 = .ok (.idiv, 1) := by decide +kernel
theorem dX12_coming_23 : decode cX12_coming 23 = .ok (.iaload, 1) := by decide +kernel
theorem dX12_coming_24 : decode cX12_coming 24 = .ok (.iconst 1, 1) := by decide +kernel
theorem dX12_coming_25 : decode cX12_coming 25 = .ok (.isub, 1) := by decide +kernel
theorem dX12_coming_26 : decode cX12_coming 26 = .ok (.if_icmp .ne 7, 3) := by decide +kernel
theorem dX12_coming_29 : decode cX12_coming 29 = .ok (.iconst 1, 1) := by decide +kernel
theorem dX12_coming_30 : decode cX12_coming 30 = .ok (.goto 4, 3) := by decide +kernel
theorem dX12_coming_33 : decode cX12_coming 33 = .ok (.iconst 0, 1) := by decide +kernel
theorem dX12_coming_34 : decode cX12_coming 34 = .ok (.istore 4, 2) := by decide +kernel
theorem dX12_coming_36 : decode cX12_coming 36 = .ok (.aload_n 0, 1) := by decide +kernel
theorem dX12_coming_37 : decode cX12_coming 37 = .ok (.getfield 32, 3) := by decide +kernel
theorem dX12_coming_40 : decode cX12_coming 40 = .ok (.bipush 8, 2) := by decide +kernel
theorem dX12_coming_42 : decode cX12_coming 42 = .ok (.iload_n 2, 1) := by decide +kernel
theorem dX12_coming_43 : decode cX12_coming 43 = .ok (.imul, 1) := by decide +kernel
theorem dX12_coming_44 : decode cX12_coming 44 = .ok (.iload_n 3, 1) := by decide +kernel
theorem dX12_coming_45 : decode cX12_coming 45 = .ok (.iadd, 1) := by decide +kernel
theorem dX12_coming_46 : decode cX12_coming 46 = .ok (.baload, 1) := by decide +kernel
theorem dX12_coming_47 : decode cX12_coming 47 = .ok (.ifCond .eq 4, 3) := by decide +kernel
theorem dX12_coming_50 : decode cX12_coming 50 = .ok (.return_, 1) := by decide +kernel
theorem dX12_coming_51 : decode cX12_coming 51 = .ok (.iconst 0, 1) := by decide +kernel
theorem dX12_coming_52 : decode cX12_coming 52 = .ok (.istore 5, 2) := by decide +kernel
theorem dX12_coming_54 : decode cX12_coming 54 = .ok (.iload 5, 2) := by decide +kernel
theorem dX12_coming_56 : decode cX12_coming 56 = .ok (.aload_n 0, 1) := by decide +kernel
theorem dX12_coming_57 : decode cX12_coming 57 = .ok (.getfield 531, 3) := by decide +kernel
theorem dX12_coming_60 : decode cX12_coming 60 = .ok (.if_icmp .ge 118, 3) := by decide +kernel
theorem dX12_coming_63 : decode cX12_coming 63 = .ok (.aload_n 0, 1) := by decide +kernel
theorem dX12_coming_64 : decode cX12_coming 64 = .ok (.iload 5, 2) := by decide +kernel
theorem dX12_coming_66 : decode cX12_coming 66 = .ok (.iload_n 2, 1) := by decide +kernel
theorem dX12_coming_67 : decode cX12_coming 67 = .ok (.invokevirtual 575, 3) := by decide +kernel
theorem dX12_coming_70 : decode cX12_coming 70 = .ok (.ifCond .ne 6, 3) := by decide +kernel
theorem dX12_coming_73 : decode cX12_coming 73 = .ok (.goto 99, 3) := by decide +kernel
theorem dX12_coming_76 : decode cX12_coming 76 = .ok (.aload_n 0, 1) := by decide +kernel
theorem dX12_coming_77 : decode cX12_coming 77 = .ok (.getfield 195, 3) := by decide +kernel
theorem dX12_coming_80 : decode cX12_coming 80 = .ok (.iload 5, 2) := by decide +kernel
theorem dX12_coming_82 : decode cX12_coming 82 = .ok (.baload, 1) := by decide +kernel
theorem dX12_coming_83 : decode cX12_coming 83 = .ok (.ifCond .eq 35, 3) := by decide +kernel
theorem dX12_coming_86 : decode cX12_coming 86 = .ok (.aload_n 0, 1) := by decide +kernel
theorem dX12_coming_87 : decode cX12_coming 87 = .ok (.getfield 183, 3) := by decide +kernel
theorem dX12_coming_90 : decode cX12_coming 90 = .ok (.iload 5, 2) := by decide +kernel
theorem dX12_coming_92 : decode cX12_coming 92 = .ok (.iaload, 1) := by decide +kernel
theorem dX12_coming_93 : decode cX12_coming 93 = .ok (.iload_n 3, 1) := by decide +kernel
theorem dX12_coming_94 : decode cX12_coming 94 = .ok (.if_icmp .gt 24, 3) := by decide +kernel
theorem dX12_coming_97 : decode cX12_coming 97 = .ok (.aload_n 0, 1) := by decide +kernel
theorem dX12_coming_98 : decode cX12_coming 98 = .ok (.iload 5, 2) := by decide +kernel
theorem dX12_coming_100 : decode cX12_coming 100 = .ok (.aload_n 0, 1) := by decide +kernel
theorem dX12_coming_101 : decode cX12_coming 101 = .ok (.getfield 38, 3) := by decide +kernel
theorem dX12_coming_104 : decode cX12_coming 104 = .ok (.iload_n 1, 1) := by decide +kernel
theorem dX12_coming_105 : decode cX12_coming 105 = .ok (.iaload, 1) := by decide +kernel
theorem dX12_coming_106 : decode cX12_coming 106 = .ok (.aload_n 0, 1) := by decide +kernel
theorem dX12_coming_107 : decode cX12_coming 107 = .ok (.iload_n 2, 1) := by decide +kernel
theorem dX12_coming_108 : decode cX12_coming 108 = .ok (.iload_n 3, 1) := by decide +kernel
theorem dX12_coming_109 : decode cX12_coming 109 = .ok (.invokevirtual 349, 3) := by decide +kernel
theorem dX12_coming_112 : decode cX12_coming 112 = .ok (.invokevirtual 578, 3) := by decide +kernel
theorem dX12_coming_115 : decode cX12_coming 115 = .ok (.goto 57, 3) := by decide +kernel
theorem dX12_coming_118 : decode cX12_coming 118 = .ok (.iload 4, 2) := by decide +kernel
theorem dX12_coming_120 : decode cX12_coming 120 = .ok (.ifCond .eq 52, 3) := by decide +kernel
theorem dX12_coming_123 : decode cX12_coming 123 = .ok (.aload_n 0, 1) := by decide +kernel
theorem dX12_coming_124 : decode cX12_coming 124 = .ok (.getfield 195, 3) := by decide +kernel
theorem dX12_coming_127 : decode cX12_coming 127 = .ok (.iload 5, 2) := by decide +kernel
theorem dX12_coming_129 : decode cX12_coming 129 = .ok (.baload, 1) := by decide +kernel
theorem dX12_coming_130 : decode cX12_coming 130 = .ok (.ifCond .ne 24, 3) := by decide +kernel
theorem dX12_coming_133 : decode cX12_coming 133 = .ok (.aload_n 0, 1) := by decide +kernel
theorem dX12_coming_134 : decode cX12_coming 134 = .ok (.getfield 186, 3) := by decide +kernel
theorem dX12_coming_137 : decode cX12_coming 137 = .ok (.iload 5, 2) := by decide +kernel
theorem dX12_coming_139 : decode cX12_coming 139 = .ok (.dup2, 1) := by decide +kernel
theorem dX12_coming_140 : decode cX12_coming 140 = .ok (.iaload, 1) := by decide +kernel
theorem dX12_coming_141 : decode cX12_coming 141 = .ok (.iconst 1, 1) := by decide +kernel
theorem dX12_coming_142 : decode cX12_coming 142 = .ok (.iadd, 1) := by decide +kernel
theorem dX12_coming_143 : decode cX12_coming 143 = .ok (.iastore, 1) := by decide +kernel
theorem dX12_coming_144 : decode cX12_coming 144 = .ok (.aload_n 0, 1) := by decide +kernel
theorem dX12_coming_145 : decode cX12_coming 145 = .ok (.getfield 192, 3) := by decide +kernel
theorem dX12_coming_148 : decode cX12_coming 148 = .ok (.iload_n 2, 1) := by decide +kernel
theorem dX12_coming_149 : decode cX12_coming 149 = .ok (.dup2, 1) := by decide +kernel
theorem dX12_coming_150 : decode cX12_coming 150 = .ok (.iaload, 1) := by decide +kernel
theorem dX12_coming_151 : decode cX12_coming 151 = .ok (.iconst 1, 1) := by decide +kernel
theorem dX12_coming_152 : decode cX12_coming 152 = .ok (.iadd, 1) := by decide +kernel
theorem dX12_coming_153 : decode cX12_coming 153 = .ok (.iastore, 1) := by decide +kernel
theorem dX12_coming_154 : decode cX12_coming 154 = .ok (.aload_n 0, 1) := by decide +kernel
theorem dX12_coming_155 : decode cX12_coming 155 = .ok (.iload 5, 2) := by decide +kernel
theorem dX12_coming_157 : decode cX12_coming 157 = .ok (.aload_n 0, 1) := by decide +kernel
theorem dX12_coming_158 : decode cX12_coming 158 = .ok (.getfield 38, 3) := by decide +kernel
theorem dX12_coming_161 : decode cX12_coming 161 = .ok (.iload_n 1, 1) := by decide +kernel
theorem dX12_coming_162 : decode cX12_coming 162 = .ok (.iaload, 1) := by decide +kernel
theorem dX12_coming_163 : decode cX12_coming 163 = .ok (.aload_n 0, 1) := by decide +kernel
theorem dX12_coming_164 : decode cX12_coming 164 = .ok (.iload_n 2, 1) := by decide +kernel
theorem dX12_coming_165 : decode cX12_coming 165 = .ok (.iload_n 3, 1) := by decide +kernel
theorem dX12_coming_166 : decode cX12_coming 166 = .ok (.invokevirtual 349, 3) := by decide +kernel
theorem dX12_coming_169 : decode cX12_coming 169 = .ok (.invokevirtual 578, 3) := by decide +kernel
theorem dX12_coming_172 : decode cX12_coming 172 = .ok (.iinc 5 1, 3) := by decide +kernel
theorem dX12_coming_175 : decode cX12_coming 175 = .ok (.goto (-121), 3) := by decide +kernel
theorem dX12_coming_178 : decode cX12_coming 178 = .ok (.return_, 1) := by decide +kernel
theorem dX12_leaves_0 : decode cX12_leaves 0 = .ok (.aload_n 0, 1) := by decide +kernel
theorem dX12_leaves_1 : decode cX12_leaves 1 = .ok (.getfield 44, 3) := by decide +kernel
theorem dX12_leaves_4 : decode cX12_leaves 4 = .ok (.iload_n 1, 1) := by decide +kernel
theorem dX12_leaves_5 : decode cX12_leaves 5 = .ok (.iaload, 1) := by decide +kernel
theorem dX12_leaves_6 : decode cX12_leaves 6 = .ok (.istore_n 2, 1) := by decide +kernel
theorem dX12_leaves_7 : decode cX12_leaves 7 = .ok (.aload_n 0, 1) := by decide +kernel
theorem dX12_leaves_8 : decode cX12_leaves 8 = .ok (.getfield 47, 3) := by decide +kernel
theorem dX12_leaves_11 : decode cX12_leaves 11 = .ok (.iload_n 1, 1) := by decide +kernel
theorem dX12_leaves_12 : decode cX12_leaves 12 = .ok (.iaload, 1) := by decide +kernel
theorem dX12_leaves_13 : decode cX12_leaves 13 = .ok (.istore_n 3, 1) := by decide +kernel
theorem dX12_leaves_14 : decode cX12_leaves 14 = .ok (.aload_n 0, 1) := by decide +kernel
theorem dX12_leaves_15 : decode cX12_leaves 15 = .ok (.iload_n 2, 1) := by decide +kernel
theorem dX12_leaves_16 : decode cX12_leaves 16 = .ok (.iload_n 3, 1) := by decide +kernel
theorem dX12_leaves_17 : decode cX12_leaves 17 = .ok (.invokevirtual 349, 3) := by decide +kernel
theorem dX12_leaves_20 : decode cX12_leaves 20 = .ok (.istore 4, 2) := by decide +kernel
theorem dX12_leaves_22 : decode cX12_leaves 22 = .ok (.iconst 0, 1) := by decide +kernel
theorem dX12_leaves_23 : decode cX12_leaves 23 = .ok (.istore 5, 2) := by decide +kernel
theorem dX12_leaves_25 : decode cX12_leaves 25 = .ok (.iload 5, 2) := by decide +kernel
theorem dX12_leaves_27 : decode cX12_leaves 27 = .ok (.aload_n 0, 1) := by decide +kernel
theorem dX12_leaves_28 : decode cX12_leaves 28 = .ok (.getfield 531, 3) := by decide +kernel
theorem dX12_leaves_31 : decode cX12_leaves 31 = .ok (.if_icmp .ge 120, 3) := by decide +kernel
theorem dX12_leaves_34 : decode cX12_leaves 34 = .ok (.aload_n 0, 1) := by decide +kernel
theorem dX12_leaves_35 : decode cX12_leaves 35 = .ok (.getfield 32, 3) := by decide +kernel
theorem dX12_leaves_38 : decode cX12_leaves 38 = .ok (.bipush 8, 2) := by decide +kernel
theorem dX12_leaves_40 : decode cX12_leaves 40 = .ok (.iload_n 2, 1) := by decide +kernel
theorem dX12_leaves_41 : decode cX12_leaves 41 = .ok (.imul, 1) := by decide +kernel
theorem dX12_leaves_42 : decode cX12_leaves 42 = .ok (.iload_n 3, 1) := by decide +kernel
theorem dX12_leaves_43 : decode cX12_leaves 43 = .ok (.iadd, 1) := by decide +kernel
theorem dX12_leaves_44 : decode cX12_leaves 44 = .ok (.baload, 1) := by decide +kernel
theorem dX12_leaves_45 : decode cX12_leaves 45 = .ok (.ifCond .ne 106, 3) := by decide +kernel
theorem dX12_leaves_48 : decode cX12_leaves 48 = .ok (.aload_n 0, 1) := by decide +kernel
theorem dX12_leaves_49 : decode cX12_leaves 49 = .ok (.getfield 177, 3) := by decide +kernel
theorem dX12_leaves_52 : decode cX12_leaves 52 = .ok (.iload 5, 2) := by decide +kernel
theorem dX12_leaves_54 : decode cX12_leaves 54 = .ok (.iaload, 1) := by decide +kernel
theorem dX12_leaves_55 : decode cX12_leaves 55 = .ok (.ifCond .ne 90, 3) := by decide +kernel
theorem dX12_leaves_58 : decode cX12_leaves 58 = .ok (.aload_n 0, 1) := by decide +kernel
theorem dX12_leaves_59 : decode cX12_leaves 59 = .ok (.getfield 180, 3) := by decide +kernel
theorem dX12_leaves_62 : decode cX12_leaves 62 = .ok (.iload 5, 2) := by decide +kernel
theorem dX12_leaves_64 : decode cX12_leaves 64 = .ok (.iaload, 1) := by decide +kernel
theorem dX12_leaves_65 : decode cX12_leaves 65 = .ok (.iload 4, 2) := by decide +kernel
theorem dX12_leaves_67 : decode cX12_leaves 67 = .ok (.if_icmp .ne 78, 3) := by decide +kernel
theorem dX12_leaves_70 : decode cX12_leaves 70 = .ok (.aload_n 0, 1) := by decide +kernel
theorem dX12_leaves_71 : decode cX12_leaves 71 = .ok (.iload 4, 2) := by decide +kernel
theorem dX12_leaves_73 : decode cX12_leaves 73 = .ok (.aload_n 0, 1) := by decide +kernel
theorem dX12_leaves_74 : decode cX12_leaves 74 = .ok (.getfield 38, 3) := by decide +kernel
theorem dX12_leaves_77 : decode cX12_leaves 77 = .ok (.iload_n 1, 1) := by decide +kernel
theorem dX12_leaves_78 : decode cX12_leaves 78 = .ok (.iaload, 1) := by decide +kernel
theorem dX12_leaves_79 : decode cX12_leaves 79 = .ok (.aload_n 0, 1) := by decide +kernel
theorem dX12_leaves_80 : decode cX12_leaves 80 = .ok (.getfield 132, 3) := by decide +kernel
theorem dX12_leaves_83 : decode cX12_leaves 83 = .ok (.iload 5, 2) := by decide +kernel
theorem dX12_leaves_85 : decode cX12_leaves 85 = .ok (.iaload, 1) := by decide +kernel
theorem dX12_leaves_86 : decode cX12_leaves 86 = .ok (.invokevirtual 361, 3) := by decide +kernel
theorem dX12_leaves_89 : decode cX12_leaves 89 = .ok (.iload_n 1, 1) := by decide +kernel
theorem dX12_leaves_90 : decode cX12_leaves 90 = .ok (.if_icmp .eq 6, 3) := by decide +kernel
theorem dX12_leaves_93 : decode cX12_leaves 93 = .ok (.goto 52, 3) := by decide +kernel
theorem dX12_leaves_96 : decode cX12_leaves 96 = .ok (.aload_n 0, 1) := by decide +kernel
theorem dX12_leaves_97 : decode cX12_leaves 97 = .ok (.getfield 183, 3) := by decide +kernel
theorem dX12_leaves_100 : decode cX12_leaves 100 = .ok (.iload 5, 2) := by decide +kernel
theorem dX12_leaves_102 : decode cX12_leaves 102 = .ok (.aload_n 0, 1) := by decide +kernel
theorem dX12_leaves_103 : decode cX12_leaves 103 = .ok (.getfield 59, 3) := by decide +kernel
theorem dX12_leaves_106 : decode cX12_leaves 106 = .ok (.bipush 12, 2) := by decide +kernel
theorem dX12_leaves_108 : decode cX12_leaves 108 = .ok (.iload_n 1, 1) := by decide +kernel
theorem dX12_leaves_109 : decode cX12_leaves 109 = .ok (.imul, 1) := by decide +kernel
theorem dX12_leaves_110 : decode cX12_leaves 110 = .ok (.aload_n 0, 1) := by decide +kernel
theorem dX12_leaves_111 : decode cX12_leaves 111 = .ok (.getfield 132, 3) := by decide +kernel
theorem dX12_leaves_114 : decode cX12_leaves 114 = .ok (.iload 5, 2) := by decide +kernel
theorem dX12_leaves_116 : decode cX12_leaves 116 = .ok (.iaload, 1) := by decide +kernel
theorem dX12_leaves_117 : decode cX12_leaves 117 = .ok (.iadd, 1) := by decide +kernel
theorem dX12_leaves_118 : decode cX12_leaves 118 = .ok (.iaload, 1) := by decide +kernel
theorem dX12_leaves_119 : decode cX12_leaves 119 = .ok (.iastore, 1) := by decide +kernel
theorem dX12_leaves_120 : decode cX12_leaves 120 = .ok (.aload_n 0, 1) := by decide +kernel
theorem dX12_leaves_121 : decode cX12_leaves 121 = .ok (.getfield 195, 3) := by decide +kernel
theorem dX12_leaves_124 : decode cX12_leaves 124 = .ok (.iload 5, 2) := by decide +kernel
theorem dX12_leaves_126 : decode cX12_leaves 126 = .ok (.iconst 0, 1) := by decide +kernel
theorem dX12_leaves_127 : decode cX12_leaves 127 = .ok (.bastore, 1) := by decide +kernel
theorem dX12_leaves_128 : decode cX12_leaves 128 = .ok (.aload_n 0, 1) := by decide +kernel
theorem dX12_leaves_129 : decode cX12_leaves 129 = .ok (.iload 5, 2) := by decide +kernel
theorem dX12_leaves_131 : decode cX12_leaves 131 = .ok (.aload_n 0, 1) := by decide +kernel
theorem dX12_leaves_132 : decode cX12_leaves 132 = .ok (.getfield 38, 3) := by decide +kernel
theorem dX12_leaves_135 : decode cX12_leaves 135 = .ok (.iload_n 1, 1) := by decide +kernel
theorem dX12_leaves_136 : decode cX12_leaves 136 = .ok (.iaload, 1) := by decide +kernel
theorem dX12_leaves_137 : decode cX12_leaves 137 = .ok (.iconst 1, 1) := by decide +kernel
theorem dX12_leaves_138 : decode cX12_leaves 138 = .ok (.iload_n 2, 1) := by decide +kernel
theorem dX12_leaves_139 : decode cX12_leaves 139 = .ok (.invokestatic 572, 3) := by decide +kernel
theorem dX12_leaves_142 : decode cX12_leaves 142 = .ok (.invokevirtual 556, 3) := by decide +kernel
theorem dX12_leaves_145 : decode cX12_leaves 145 = .ok (.iinc 5 1, 3) := by decide +kernel
theorem dX12_leaves_148 : decode cX12_leaves 148 = .ok (.goto (-123), 3) := by decide +kernel
theorem dX12_leaves_151 : decode cX12_leaves 151 = .ok (.aload_n 0, 1) := by decide +kernel
theorem dX12_leaves_152 : decode cX12_leaves 152 = .ok (.iload_n 2, 1) := by decide +kernel
theorem dX12_leaves_153 : decode cX12_leaves 153 = .ok (.iload_n 3, 1) := by decide +kernel
theorem dX12_leaves_154 : decode cX12_leaves 154 = .ok (.iconst 1, 1) := by decide +kernel
theorem dX12_leaves_155 : decode cX12_leaves 155 = .ok (.iadd, 1) := by decide +kernel
theorem dX12_leaves_156 : decode cX12_leaves 156 = .ok (.invokevirtual 326, 3) := by decide +kernel
theorem dX12_leaves_159 : decode cX12_leaves 159 = .ok (.aload_n 0, 1) := by decide +kernel
theorem dX12_leaves_160 : decode cX12_leaves 160 = .ok (.iload_n 2, 1) := by decide +kernel
theorem dX12_leaves_161 : decode cX12_leaves 161 = .ok (.iload_n 3, 1) := by decide +kernel
theorem dX12_leaves_162 : decode cX12_leaves 162 = .ok (.invokevirtual 329, 3) := by decide +kernel
theorem dX12_leaves_165 : decode cX12_leaves 165 = .ok (.isub, 1) := by decide +kernel
theorem dX12_leaves_166 : decode cX12_leaves 166 = .ok (.istore 5, 2) := by decide +kernel
theorem dX12_leaves_168 : decode cX12_leaves 168 = .ok (.iconst 0, 1) := by decide +kernel
theorem dX12_leaves_169 : decode cX12_leaves 169 = .ok (.istore 6, 2) := by decide +kernel
theorem dX12_leaves_171 : decode cX12_leaves 171 = .ok (.iload 6, 2) := by decide +kernel
theorem dX12_leaves_173 : decode cX12_leaves 173 = .ok (.aload_n 0, 1) := by decide +kernel
theorem dX12_leaves_174 : decode cX12_leaves 174 = .ok (.getfield 569, 3) := by decide +kernel
theorem dX12_leaves_177 : decode cX12_leaves 177 = .ok (.if_icmp .ge 44, 3) := by decide +kernel
theorem dX12_leaves_180 : decode cX12_leaves 180 = .ok (.aload_n 0, 1) := by decide +kernel
theorem dX12_leaves_181 : decode cX12_leaves 181 = .ok (.getfield 220, 3) := by decide +kernel
theorem dX12_leaves_184 : decode cX12_leaves 184 = .ok (.iload 6, 2) := by decide +kernel
theorem dX12_leaves_186 : decode cX12_leaves 186 = .ok (.aload_n 0, 1) := by decide +kernel
theorem dX12_leaves_187 : decode cX12_leaves 187 = .ok (.getfield 217, 3) := by decide +kernel
theorem dX12_leaves_190 : decode cX12_leaves 190 = .ok (.iload 6, 2) := by decide +kernel
theorem dX12_leaves_192 : decode cX12_leaves 192 = .ok (.iaload, 1) := by decide +kernel
theorem dX12_leaves_193 : decode cX12_leaves 193 = .ok (.iload_n 2, 1) := by decide +kernel
theorem dX12_leaves_194 : decode cX12_leaves 194 = .ok (.bipush 7, 2) := by decide +kernel
theorem dX12_leaves_196 : decode cX12_leaves 196 = .ok (.idiv, 1) := by decide +kernel
theorem dX12_leaves_197 : decode cX12_leaves 197 = .ok (.if_icmp .ne 16, 3) := by decide +kernel
theorem dX12_leaves_200 : decode cX12_leaves 200 = .ok (.aload_n 0, 1) := by decide +kernel
theorem dX12_leaves_201 : decode cX12_leaves 201 = .ok (.getfield 211, 3) := by decide +kernel
theorem dX12_leaves_204 : decode cX12_leaves 204 = .ok (.iload 6, 2) := by decide +kernel
theorem dX12_leaves_206 : decode cX12_leaves 206 = .ok (.iaload, 1) := by decide +kernel
theorem dX12_leaves_207 : decode cX12_leaves 207 = .ok (.iload 5, 2) := by decide +kernel
theorem dX12_leaves_209 : decode cX12_leaves 209 = .ok (.imul, 1) := by decide +kernel
theorem dX12_leaves_210 : decode cX12_leaves 210 = .ok (.goto 4, 3) := by decide +kernel
theorem dX12_leaves_213 : decode cX12_leaves 213 = .ok (.iconst 0, 1) := by decide +kernel
theorem dX12_leaves_214 : decode cX12_leaves 214 = .ok (.iastore, 1) := by decide +kernel
theorem dX12_leaves_215 : decode cX12_leaves 215 = .ok (.iinc 6 1, 3) := by decide +kernel
theorem dX12_leaves_218 : decode cX12_leaves 218 = .ok (.goto (-47), 3) := by decide +kernel
theorem dX12_leaves_221 : decode cX12_leaves 221 = .ok (.iconst 0, 1) := by decide +kernel
theorem dX12_leaves_222 : decode cX12_leaves 222 = .ok (.istore 6, 2) := by decide +kernel
theorem dX12_leaves_224 : decode cX12_leaves 224 = .ok (.iload 6, 2) := by decide +kernel
theorem dX12_leaves_226 : decode cX12_leaves 226 = .ok (.bipush 8, 2) := by decide +kernel
theorem dX12_leaves_228 : decode cX12_leaves 228 = .ok (.if_icmp .ge 72, 3) := by decide +kernel
theorem dX12_leaves_231 : decode cX12_leaves 231 = .ok (.iconst 0, 1) := by decide +kernel
theorem dX12_leaves_232 : decode cX12_leaves 232 = .ok (.istore 7, 2) := by decide +kernel
theorem dX12_leaves_234 : decode cX12_leaves 234 = .ok (.iload 7, 2) := by decide +kernel
theorem dX12_leaves_236 : decode cX12_leaves 236 = .ok (.aload_n 0, 1) := by decide +kernel
theorem dX12_leaves_237 : decode cX12_leaves 237 = .ok (.getfield 531, 3) := by decide +kernel
theorem dX12_leaves_240 : decode cX12_leaves 240 = .ok (.if_icmp .ge 54, 3) := by decide +kernel
theorem dX12_leaves_243 : decode cX12_leaves 243 = .ok (.aload_n 0, 1) := by decide +kernel
theorem dX12_leaves_244 : decode cX12_leaves 244 = .ok (.iload 7, 2) := by decide +kernel
theorem dX12_leaves_246 : decode cX12_leaves 246 = .ok (.iload_n 2, 1) := by decide +kernel
theorem dX12_leaves_247 : decode cX12_leaves 247 = .ok (.invokevirtual 575, 3) := by decide +kernel
theorem dX12_leaves_250 : decode cX12_leaves 250 = .ok (.ifCond .eq 38, 3) := by decide +kernel
theorem dX12_leaves_253 : decode cX12_leaves 253 = .ok (.aload_n 0, 1) := by decide +kernel
theorem dX12_leaves_254 : decode cX12_leaves 254 = .ok (.getfield 195, 3) := by decide +kernel
theorem dX12_leaves_257 : decode cX12_leaves 257 = .ok (.iload 7, 2) := by decide +kernel
theorem dX12_leaves_259 : decode cX12_leaves 259 = .ok (.baload, 1) := by decide +kernel
theorem dX12_leaves_260 : decode cX12_leaves 260 = .ok (.ifCond .ne 28, 3) := by decide +kernel
theorem dX12_leaves_263 : decode cX12_leaves 263 = .ok (.aload_n 0, 1) := by decide +kernel
theorem dX12_leaves_264 : decode cX12_leaves 264 = .ok (.getfield 183, 3) := by decide +kernel
theorem dX12_leaves_267 : decode cX12_leaves 267 = .ok (.iload 7, 2) := by decide +kernel
theorem dX12_leaves_269 : decode cX12_leaves 269 = .ok (.iaload, 1) := by decide +kernel
theorem dX12_leaves_270 : decode cX12_leaves 270 = .ok (.iload 6, 2) := by decide +kernel
theorem dX12_leaves_272 : decode cX12_leaves 272 = .ok (.if_icmp .ne 16, 3) := by decide +kernel
theorem dX12_leaves_275 : decode cX12_leaves 275 = .ok (.aload_n 0, 1) := by decide +kernel
theorem dX12_leaves_276 : decode cX12_leaves 276 = .ok (.iload 7, 2) := by decide +kernel
theorem dX12_leaves_278 : decode cX12_leaves 278 = .ok (.aload_n 0, 1) := by decide +kernel
theorem dX12_leaves_279 : decode cX12_leaves 279 = .ok (.iload_n 2, 1) := by decide +kernel
theorem dX12_leaves_280 : decode cX12_leaves 280 = .ok (.iload 6, 2) := by decide +kernel
theorem dX12_leaves_282 : decode cX12_leaves 282 = .ok (.invokevirtual 349, 3) := by decide +kernel
theorem dX12_leaves_285 : decode cX12_leaves 285 = .ok (.invokevirtual 582, 3) := by decide +kernel
theorem dX12_leaves_288 : decode cX12_leaves 288 = .ok (.iinc 7 1, 3) := by decide +kernel
theorem dX12_leaves_291 : decode cX12_leaves 291 = .ok (.goto (-57), 3) := by decide +kernel
theorem dX12_leaves_294 : decode cX12_leaves 294 = .ok (.iinc 6 1, 3) := by decide +kernel
theorem dX12_leaves_297 : decode cX12_leaves 297 = .ok (.goto (-73), 3) := by decide +kernel
theorem dX12_leaves_300 : decode cX12_leaves 300 = .ok (.return_, 1) := by decide +kernel
theorem dX12_sorts_0 : decode cX12_sorts 0 = .ok (.iconst 0, 1) := by decide +kernel
theorem dX12_sorts_1 : decode cX12_sorts 1 = .ok (.istore_n 3, 1) := by decide +kernel
theorem dX12_sorts_2 : decode cX12_sorts 2 = .ok (.iload_n 3, 1) := by decide +kernel
theorem dX12_sorts_3 : decode cX12_sorts 3 = .ok (.aload_n 0, 1) := by decide +kernel
theorem dX12_sorts_4 : decode cX12_sorts 4 = .ok (.getfield 569, 3) := by decide +kernel
theorem dX12_sorts_7 : decode cX12_sorts 7 = .ok (.if_icmp .ge 52, 3) := by decide +kernel
theorem dX12_sorts_10 : decode cX12_sorts 10 = .ok (.aload_n 0, 1) := by decide +kernel
theorem dX12_sorts_11 : decode cX12_sorts 11 = .ok (.getfield 220, 3) := by decide +kernel
theorem dX12_sorts_14 : decode cX12_sorts 14 = .ok (.iload_n 3, 1) := by decide +kernel
theorem dX12_sorts_15 : decode cX12_sorts 15 = .ok (.iaload, 1) := by decide +kernel
theorem dX12_sorts_16 : decode cX12_sorts 16 = .ok (.ifCond .eq 37, 3) := by decide +kernel
theorem dX12_sorts_19 : decode cX12_sorts 19 = .ok (.aload_n 0, 1) := by decide +kernel
theorem dX12_sorts_20 : decode cX12_sorts 20 = .ok (.getfield 214, 3) := by decide +kernel
theorem dX12_sorts_23 : decode cX12_sorts 23 = .ok (.iload_n 3, 1) := by decide +kernel
theorem dX12_sorts_24 : decode cX12_sorts 24 = .ok (.iaload, 1) := by decide +kernel
theorem dX12_sorts_25 : decode cX12_sorts 25 = .ok (.iload_n 2, 1) := by decide +kernel
theorem dX12_sorts_26 : decode cX12_sorts 26 = .ok (.ishr, 1) := by decide +kernel
theorem dX12_sorts_27 : decode cX12_sorts 27 = .ok (.iconst 1, 1) := by decide +kernel
theorem dX12_sorts_28 : decode cX12_sorts 28 = .ok (.iand, 1) := by decide +kernel
theorem dX12_sorts_29 : decode cX12_sorts 29 = .ok (.ifCond .ne 6, 3) := by decide +kernel
theorem dX12_sorts_32 : decode cX12_sorts 32 = .ok (.goto 21, 3) := by decide +kernel
theorem dX12_sorts_35 : decode cX12_sorts 35 = .ok (.aload_n 0, 1) := by decide +kernel
theorem dX12_sorts_36 : decode cX12_sorts 36 = .ok (.getfield 220, 3) := by decide +kernel
theorem dX12_sorts_39 : decode cX12_sorts 39 = .ok (.iload_n 3, 1) := by decide +kernel
theorem dX12_sorts_40 : decode cX12_sorts 40 = .ok (.dup2, 1) := by decide +kernel
theorem dX12_sorts_41 : decode cX12_sorts 41 = .ok (.iaload, 1) := by decide +kernel
theorem dX12_sorts_42 : decode cX12_sorts 42 = .ok (.iconst 1, 1) := by decide +kernel
theorem dX12_sorts_43 : decode cX12_sorts 43 = .ok (.isub, 1) := by decide +kernel
theorem dX12_sorts_44 : decode cX12_sorts 44 = .ok (.iastore, 1) := by decide +kernel
theorem dX12_sorts_45 : decode cX12_sorts 45 = .ok (.aload_n 0, 1) := by decide +kernel
theorem dX12_sorts_46 : decode cX12_sorts 46 = .ok (.getfield 195, 3) := by decide +kernel
theorem dX12_sorts_49 : decode cX12_sorts 49 = .ok (.iload_n 1, 1) := by decide +kernel
theorem dX12_sorts_50 : decode cX12_sorts 50 = .ok (.iconst 1, 1) := by decide +kernel
theorem dX12_sorts_51 : decode cX12_sorts 51 = .ok (.bastore, 1) := by decide +kernel
theorem dX12_sorts_52 : decode cX12_sorts 52 = .ok (.return_, 1) := by decide +kernel
theorem dX12_sorts_53 : decode cX12_sorts 53 = .ok (.iinc 3 1, 3) := by decide +kernel
theorem dX12_sorts_56 : decode cX12_sorts 56 = .ok (.goto (-54), 3) := by decide +kernel
theorem dX12_sorts_59 : decode cX12_sorts 59 = .ok (.return_, 1) := by decide +kernel
theorem dX12_begins_0 : decode cX12_begins 0 = .ok (.iconst 0, 1) := by decide +kernel
theorem dX12_begins_1 : decode cX12_begins 1 = .ok (.istore_n 2, 1) := by decide +kernel
theorem dX12_begins_2 : decode cX12_begins 2 = .ok (.iload_n 2, 1) := by decide +kernel
theorem dX12_begins_3 : decode cX12_begins 3 = .ok (.aload_n 0, 1) := by decide +kernel
theorem dX12_begins_4 : decode cX12_begins 4 = .ok (.getfield 531, 3) := by decide +kernel
theorem dX12_begins_7 : decode cX12_begins 7 = .ok (.if_icmp .ge 80, 3) := by decide +kernel
theorem dX12_begins_10 : decode cX12_begins 10 = .ok (.aload_n 0, 1) := by decide +kernel
theorem dX12_begins_11 : decode cX12_begins 11 = .ok (.getfield 177, 3) := by decide +kernel
theorem dX12_begins_14 : decode cX12_begins 14 = .ok (.iload_n 2, 1) := by decide +kernel
theorem dX12_begins_15 : decode cX12_begins 15 = .ok (.iaload, 1) := by decide +kernel
theorem dX12_begins_16 : decode cX12_begins 16 = .ok (.iconst 3, 1) := by decide +kernel
theorem dX12_begins_17 : decode cX12_begins 17 = .ok (.if_icmp .eq 6, 3) := by decide +kernel
theorem dX12_begins_20 : decode cX12_begins 20 = .ok (.goto 61, 3) := by decide +kernel
theorem dX12_begins_23 : decode cX12_begins 23 = .ok (.aload_n 0, 1) := by decide +kernel
theorem dX12_begins_24 : decode cX12_begins 24 = .ok (.getfield 165, 3) := by decide +kernel
theorem dX12_begins_27 : decode cX12_begins 27 = .ok (.iload_n 2, 1) := by decide +kernel
theorem dX12_begins_28 : decode cX12_begins 28 = .ok (.dup2, 1) := by decide +kernel
theorem dX12_begins_29 : decode cX12_begins 29 = .ok (.iaload, 1) := by decide +kernel
theorem dX12_begins_30 : decode cX12_begins 30 = .ok (.iconst 1, 1) := by decide +kernel
theorem dX12_begins_31 : decode cX12_begins 31 = .ok (.iadd, 1) := by decide +kernel
theorem dX12_begins_32 : decode cX12_begins 32 = .ok (.iastore, 1) := by decide +kernel
theorem dX12_begins_33 : decode cX12_begins 33 = .ok (.aload_n 0, 1) := by decide +kernel

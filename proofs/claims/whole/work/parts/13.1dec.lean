/-! how the instructions read, 1 -/
theorem dX10_firstBehind_7 : decode cX10_firstBehind 7 = .ok (.if_icmp .ge 23, 3) := by decide +kernel
theorem dX10_firstBehind_10 : decode cX10_firstBehind 10 = .ok (.aload_n 0, 1) := by decide +kernel
theorem dX10_firstBehind_11 : decode cX10_firstBehind 11 = .ok (.iload_n 2, 1) := by decide +kernel
theorem dX10_firstBehind_12 : decode cX10_firstBehind 12 = .ok (.invokevirtual 46, 3) := by decide +kernel
theorem dX10_firstBehind_15 : decode cX10_firstBehind 15 = .ok (.invokestatic 50, 3) := by decide +kernel
theorem dX10_firstBehind_18 : decode cX10_firstBehind 18 = .ok (.iload_n 1, 1) := by decide +kernel
theorem dX10_firstBehind_19 : decode cX10_firstBehind 19 = .ok (.if_icmp .le 5, 3) := by decide +kernel
theorem dX10_firstBehind_22 : decode cX10_firstBehind 22 = .ok (.iload_n 2, 1) := by decide +kernel
theorem dX10_firstBehind_23 : decode cX10_firstBehind 23 = .ok (.ireturn, 1) := by decide +kernel
theorem dX10_firstBehind_24 : decode cX10_firstBehind 24 = .ok (.iinc 2 1, 3) := by decide +kernel
theorem dX10_firstBehind_27 : decode cX10_firstBehind 27 = .ok (.goto (-25), 3) := by decide +kernel
theorem dX10_firstBehind_30 : decode cX10_firstBehind 30 = .ok (.aload_n 0, 1) := by decide +kernel
theorem dX10_firstBehind_31 : decode cX10_firstBehind 31 = .ok (.getfield 42, 3) := by decide +kernel
theorem dX10_firstBehind_34 : decode cX10_firstBehind 34 = .ok (.ireturn, 1) := by decide +kernel
theorem dX10_minuteIn_0 : decode cX10_minuteIn 0 = .ok (.iload_n 0, 1) := by decide +kernel
theorem dX10_minuteIn_1 : decode cX10_minuteIn 1 = .ok (.bipush 11, 2) := by decide +kernel
theorem dX10_minuteIn_3 : decode cX10_minuteIn 3 = .ok (.ishr, 1) := by decide +kernel
theorem dX10_minuteIn_4 : decode cX10_minuteIn 4 = .ok (.ireturn, 1) := by decide +kernel
theorem dX10_isGoing_0 : decode cX10_isGoing 0 = .ok (.iload_n 0, 1) := by decide +kernel
theorem dX10_isGoing_1 : decode cX10_isGoing 1 = .ok (.sipush 1024, 3) := by decide +kernel
theorem dX10_isGoing_4 : decode cX10_isGoing 4 = .ok (.iand, 1) := by decide +kernel
theorem dX10_isGoing_5 : decode cX10_isGoing 5 = .ok (.ifCond .eq 7, 3) := by decide +kernel
theorem dX10_isGoing_8 : decode cX10_isGoing 8 = .ok (.iconst 1, 1) := by decide +kernel
theorem dX10_isGoing_9 : decode cX10_isGoing 9 = .ok (.goto 4, 3) := by decide +kernel
theorem dX10_isGoing_12 : decode cX10_isGoing 12 = .ok (.iconst 0, 1) := by decide +kernel
theorem dX10_isGoing_13 : decode cX10_isGoing 13 = .ok (.ireturn, 1) := by decide +kernel
theorem dX10_trainIn_0 : decode cX10_trainIn 0 = .ok (.iload_n 0, 1) := by decide +kernel
theorem dX10_trainIn_1 : decode cX10_trainIn 1 = .ok (.bipush 6, 2) := by decide +kernel
theorem dX10_trainIn_3 : decode cX10_trainIn 3 = .ok (.ishr, 1) := by decide +kernel
theorem dX10_trainIn_4 : decode cX10_trainIn 4 = .ok (.bipush 15, 2) := by decide +kernel
theorem dX10_trainIn_6 : decode cX10_trainIn 6 = .ok (.iand, 1) := by decide +kernel
theorem dX10_trainIn_7 : decode cX10_trainIn 7 = .ok (.ireturn, 1) := by decide +kernel
theorem dX10_dayIn_0 : decode cX10_dayIn 0 = .ok (.iload_n 0, 1) := by decide +kernel
theorem dX10_dayIn_1 : decode cX10_dayIn 1 = .ok (.iconst 3, 1) := by decide +kernel
theorem dX10_dayIn_2 : decode cX10_dayIn 2 = .ok (.ishr, 1) := by decide +kernel
theorem dX10_dayIn_3 : decode cX10_dayIn 3 = .ok (.bipush 7, 2) := by decide +kernel
theorem dX10_dayIn_5 : decode cX10_dayIn 5 = .ok (.iand, 1) := by decide +kernel
theorem dX10_dayIn_6 : decode cX10_dayIn 6 = .ok (.ireturn, 1) := by decide +kernel
theorem dX10_stopIn_0 : decode cX10_stopIn 0 = .ok (.iload_n 0, 1) := by decide +kernel
theorem dX10_stopIn_1 : decode cX10_stopIn 1 = .ok (.bipush 7, 2) := by decide +kernel
theorem dX10_stopIn_3 : decode cX10_stopIn 3 = .ok (.iand, 1) := by decide +kernel
theorem dX10_stopIn_4 : decode cX10_stopIn 4 = .ok (.ireturn, 1) := by decide +kernel
theorem dX10_townIn_0 : decode cX10_townIn 0 = .ok (.aload_n 0, 1) := by decide +kernel
theorem dX10_townIn_1 : decode cX10_townIn 1 = .ok (.getfield 25, 3) := by decide +kernel
theorem dX10_townIn_4 : decode cX10_townIn 4 = .ok (.getfield 53, 3) := by decide +kernel
theorem dX10_townIn_7 : decode cX10_townIn 7 = .ok (.bipush 8, 2) := by decide +kernel
theorem dX10_townIn_9 : decode cX10_townIn 9 = .ok (.iload_n 1, 1) := by decide +kernel
theorem dX10_townIn_10 : decode cX10_townIn 10 = .ok (.invokestatic 58, 3) := by decide +kernel
theorem dX10_townIn_13 : decode cX10_townIn 13 = .ok (.imul, 1) := by decide +kernel
theorem dX10_townIn_14 : decode cX10_townIn 14 = .ok (.iload_n 1, 1) := by decide +kernel
theorem dX10_townIn_15 : decode cX10_townIn 15 = .ok (.invokestatic 61, 3) := by decide +kernel
theorem dX10_townIn_18 : decode cX10_townIn 18 = .ok (.iadd, 1) := by decide +kernel
theorem dX10_townIn_19 : decode cX10_townIn 19 = .ok (.iaload, 1) := by decide +kernel
theorem dX10_townIn_20 : decode cX10_townIn 20 = .ok (.ireturn, 1) := by decide +kernel
theorem dX10_slotIn_0 : decode cX10_slotIn 0 = .ok (.bipush 8, 2) := by decide +kernel
theorem dX10_slotIn_2 : decode cX10_slotIn 2 = .ok (.bipush 10, 2) := by decide +kernel
theorem dX10_slotIn_4 : decode cX10_slotIn 4 = .ok (.iload_n 0, 1) := by decide +kernel
theorem dX10_slotIn_5 : decode cX10_slotIn 5 = .ok (.iconst 3, 1) := by decide +kernel
theorem dX10_slotIn_6 : decode cX10_slotIn 6 = .ok (.ishr, 1) := by decide +kernel
theorem dX10_slotIn_7 : decode cX10_slotIn 7 = .ok (.bipush 7, 2) := by decide +kernel
theorem dX10_slotIn_9 : decode cX10_slotIn 9 = .ok (.iand, 1) := by decide +kernel
theorem dX10_slotIn_10 : decode cX10_slotIn 10 = .ok (.imul, 1) := by decide +kernel
theorem dX10_slotIn_11 : decode cX10_slotIn 11 = .ok (.iload_n 0, 1) := by decide +kernel
theorem dX10_slotIn_12 : decode cX10_slotIn 12 = .ok (.bipush 6, 2) := by decide +kernel
theorem dX10_slotIn_14 : decode cX10_slotIn 14 = .ok (.ishr, 1) := by decide +kernel
theorem dX10_slotIn_15 : decode cX10_slotIn 15 = .ok (.bipush 15, 2) := by decide +kernel
theorem dX10_slotIn_17 : decode cX10_slotIn 17 = .ok (.iand, 1) := by decide +kernel
theorem dX10_slotIn_18 : decode cX10_slotIn 18 = .ok (.iadd, 1) := by decide +kernel
theorem dX10_slotIn_19 : decode cX10_slotIn 19 = .ok (.imul, 1) := by decide +kernel
theorem dX10_slotIn_20 : decode cX10_slotIn 20 = .ok (.iload_n 0, 1) := by decide +kernel
theorem dX10_slotIn_21 : decode cX10_slotIn 21 = .ok (.bipush 7, 2) := by decide +kernel
theorem dX10_slotIn_23 : decode cX10_slotIn 23 = .ok (.iand, 1) := by decide +kernel
theorem dX10_slotIn_24 : decode cX10_slotIn 24 = .ok (.iadd, 1) := by decide +kernel
theorem dX10_slotIn_25 : decode cX10_slotIn 25 = .ok (.ireturn, 1) := by decide +kernel
theorem dX10_leftBehind_0 : decode cX10_leftBehind 0 = .ok (.aload_n 0, 1) := by decide +kernel
theorem dX10_leftBehind_1 : decode cX10_leftBehind 1 = .ok (.getfield 15, 3) := by decide +kernel
theorem dX10_leftBehind_4 : decode cX10_leftBehind 4 = .ok (.iload_n 1, 1) := by decide +kernel
theorem dX10_leftBehind_5 : decode cX10_leftBehind 5 = .ok (.invokestatic 64, 3) := by decide +kernel
theorem dX10_leftBehind_8 : decode cX10_leftBehind 8 = .ok (.laload, 1) := by decide +kernel
theorem dX10_leftBehind_9 : decode cX10_leftBehind 9 = .ok (.iconst 3, 1) := by decide +kernel
theorem dX10_leftBehind_10 : decode cX10_leftBehind 10 = .ok (.iload_n 2, 1) := by decide +kernel
theorem dX10_leftBehind_11 : decode cX10_leftBehind 11 = .ok (.imul, 1) := by decide +kernel
theorem dX10_leftBehind_12 : decode cX10_leftBehind 12 = .ok (.lshr, 1) := by decide +kernel
theorem dX10_leftBehind_13 : decode cX10_leftBehind 13 = .ok (.l2i, 1) := by decide +kernel
theorem dX10_leftBehind_14 : decode cX10_leftBehind 14 = .ok (.bipush 7, 2) := by decide +kernel
theorem dX10_leftBehind_16 : decode cX10_leftBehind 16 = .ok (.iand, 1) := by decide +kernel
theorem dX10_leftBehind_17 : decode cX10_leftBehind 17 = .ok (.ireturn, 1) := by decide +kernel
theorem dX10_firstTaken_0 : decode cX10_firstTaken 0 = .ok (.iconst 0, 1) := by decide +kernel
theorem dX10_firstTaken_1 : decode cX10_firstTaken 1 = .ok (.istore 4, 2) := by decide +kernel
theorem dX10_firstTaken_3 : decode cX10_firstTaken 3 = .ok (.iload 4, 2) := by decide +kernel
theorem dX10_firstTaken_5 : decode cX10_firstTaken 5 = .ok (.aload_n 0, 1) := by decide +kernel
theorem dX10_firstTaken_6 : decode cX10_firstTaken 6 = .ok (.getfield 42, 3) := by decide +kernel
theorem dX10_firstTaken_9 : decode cX10_firstTaken 9 = .ok (.if_icmp .ge 58, 3) := by decide +kernel
theorem dX10_firstTaken_12 : decode cX10_firstTaken 12 = .ok (.aload_n 0, 1) := by decide +kernel
theorem dX10_firstTaken_13 : decode cX10_firstTaken 13 = .ok (.getfield 11, 3) := by decide +kernel
theorem dX10_firstTaken_16 : decode cX10_firstTaken 16 = .ok (.iload 4, 2) := by decide +kernel
theorem dX10_firstTaken_18 : decode cX10_firstTaken 18 = .ok (.iaload, 1) := by decide +kernel
theorem dX10_firstTaken_19 : decode cX10_firstTaken 19 = .ok (.istore 5, 2) := by decide +kernel
theorem dX10_firstTaken_21 : decode cX10_firstTaken 21 = .ok (.iload 5, 2) := by decide +kernel
theorem dX10_firstTaken_23 : decode cX10_firstTaken 23 = .ok (.invokestatic 67, 3) := by decide +kernel
theorem dX10_firstTaken_26 : decode cX10_firstTaken 26 = .ok (.ifCond .eq 35, 3) := by decide +kernel
theorem dX10_firstTaken_29 : decode cX10_firstTaken 29 = .ok (.iload 5, 2) := by decide +kernel
theorem dX10_firstTaken_31 : decode cX10_firstTaken 31 = .ok (.invokestatic 50, 3) := by decide +kernel
theorem dX10_firstTaken_34 : decode cX10_firstTaken 34 = .ok (.iload_n 2, 1) := by decide +kernel
theorem dX10_firstTaken_35 : decode cX10_firstTaken 35 = .ok (.if_icmp .lt 26, 3) := by decide +kernel
theorem dX10_firstTaken_38 : decode cX10_firstTaken 38 = .ok (.aload_n 0, 1) := by decide +kernel
theorem dX10_firstTaken_39 : decode cX10_firstTaken 39 = .ok (.iload 5, 2) := by decide +kernel
theorem dX10_firstTaken_41 : decode cX10_firstTaken 41 = .ok (.invokevirtual 71, 3) := by decide +kernel
theorem dX10_firstTaken_44 : decode cX10_firstTaken 44 = .ok (.iload_n 1, 1) := by decide +kernel
theorem dX10_firstTaken_45 : decode cX10_firstTaken 45 = .ok (.if_icmp .ne 16, 3) := by decide +kernel
theorem dX10_firstTaken_48 : decode cX10_firstTaken 48 = .ok (.aload_n 0, 1) := by decide +kernel
theorem dX10_firstTaken_49 : decode cX10_firstTaken 49 = .ok (.iload 5, 2) := by decide +kernel
theorem dX10_firstTaken_51 : decode cX10_firstTaken 51 = .ok (.iload_n 3, 1) := by decide +kernel
theorem dX10_firstTaken_52 : decode cX10_firstTaken 52 = .ok (.invokevirtual 74, 3) := by decide +kernel
theorem dX10_firstTaken_55 : decode cX10_firstTaken 55 = .ok (.ifCond .le 6, 3) := by decide +kernel
theorem dX10_firstTaken_58 : decode cX10_firstTaken 58 = .ok (.iload 5, 2) := by decide +kernel
theorem dX10_firstTaken_60 : decode cX10_firstTaken 60 = .ok (.ireturn, 1) := by decide +kernel
theorem dX10_firstTaken_61 : decode cX10_firstTaken 61 = .ok (.iinc 4 1, 3) := by decide +kernel
theorem dX10_firstTaken_64 : decode cX10_firstTaken 64 = .ok (.goto (-61), 3) := by decide +kernel
theorem dX10_firstTaken_67 : decode cX10_firstTaken 67 = .ok (.iconst (-1), 1) := by decide +kernel
theorem dX10_firstTaken_68 : decode cX10_firstTaken 68 = .ok (.ireturn, 1) := by decide +kernel
theorem dX10_bestFrom_0 : decode cX10_bestFrom 0 = .ok (.aload_n 0, 1) := by decide +kernel
theorem dX10_bestFrom_1 : decode cX10_bestFrom 1 = .ok (.invokevirtual 78, 3) := by decide +kernel
theorem dX10_bestFrom_4 : decode cX10_bestFrom 4 = .ok (.aload_n 0, 1) := by decide +kernel
theorem dX10_bestFrom_5 : decode cX10_bestFrom 5 = .ok (.iload_n 1, 1) := by decide +kernel
theorem dX10_bestFrom_6 : decode cX10_bestFrom 6 = .ok (.iload_n 2, 1) := by decide +kernel
theorem dX10_bestFrom_7 : decode cX10_bestFrom 7 = .ok (.iload_n 3, 1) := by decide +kernel
theorem dX10_bestFrom_8 : decode cX10_bestFrom 8 = .ok (.invokevirtual 81, 3) := by decide +kernel
theorem dX10_bestFrom_11 : decode cX10_bestFrom 11 = .ok (.istore 4, 2) := by decide +kernel
theorem dX10_bestFrom_13 : decode cX10_bestFrom 13 = .ok (.iload 4, 2) := by decide +kernel
theorem dX10_bestFrom_15 : decode cX10_bestFrom 15 = .ok (.istore 5, 2) := by decide +kernel
theorem dX10_bestFrom_17 : decode cX10_bestFrom 17 = .ok (.iconst 1, 1) := by decide +kernel
theorem dX10_bestFrom_18 : decode cX10_bestFrom 18 = .ok (.istore 6, 2) := by decide +kernel
theorem dX10_bestFrom_20 : decode cX10_bestFrom 20 = .ok (.iload 6, 2) := by decide +kernel
theorem dX10_bestFrom_22 : decode cX10_bestFrom 22 = .ok (.bipush 70, 2) := by decide +kernel
theorem dX10_bestFrom_24 : decode cX10_bestFrom 24 = .ok (.if_icmp .gt 122, 3) := by decide +kernel
theorem dX10_bestFrom_27 : decode cX10_bestFrom 27 = .ok (.iload 5, 2) := by decide +kernel
theorem dX10_bestFrom_29 : decode cX10_bestFrom 29 = .ok (.iconst (-1), 1) := by decide +kernel
theorem dX10_bestFrom_30 : decode cX10_bestFrom 30 = .ok (.if_icmp .eq 116, 3) := by decide +kernel
theorem dX10_bestFrom_33 : decode cX10_bestFrom 33 = .ok (.aload_n 0, 1) := by decide +kernel
theorem dX10_bestFrom_34 : decode cX10_bestFrom 34 = .ok (.iload 5, 2) := by decide +kernel
theorem dX10_bestFrom_36 : decode cX10_bestFrom 36 = .ok (.iload_n 3, 1) := by decide +kernel
theorem dX10_bestFrom_37 : decode cX10_bestFrom 37 = .ok (.invokevirtual 74, 3) := by decide +kernel
theorem dX10_bestFrom_40 : decode cX10_bestFrom 40 = .ok (.istore 7, 2) := by decide +kernel
theorem dX10_bestFrom_42 : decode cX10_bestFrom 42 = .ok (.aload_n 0, 1) := by decide +kernel
theorem dX10_bestFrom_43 : decode cX10_bestFrom 43 = .ok (.getfield 25, 3) := by decide +kernel
theorem dX10_bestFrom_46 : decode cX10_bestFrom 46 = .ok (.getfield 53, 3) := by decide +kernel
theorem dX10_bestFrom_49 : decode cX10_bestFrom 49 = .ok (.bipush 8, 2) := by decide +kernel
theorem dX10_bestFrom_51 : decode cX10_bestFrom 51 = .ok (.iload 5, 2) := by decide +kernel
theorem dX10_bestFrom_53 : decode cX10_bestFrom 53 = .ok (.invokestatic 58, 3) := by decide +kernel
theorem dX10_bestFrom_56 : decode cX10_bestFrom 56 = .ok (.imul, 1) := by decide +kernel
theorem dX10_bestFrom_57 : decode cX10_bestFrom 57 = .ok (.iload 7, 2) := by decide +kernel
theorem dX10_bestFrom_59 : decode cX10_bestFrom 59 = .ok (.iadd, 1) := by decide +kernel
theorem dX10_bestFrom_60 : decode cX10_bestFrom 60 = .ok (.iaload, 1) := by decide +kernel
theorem dX10_bestFrom_61 : decode cX10_bestFrom 61 = .ok (.istore 8, 2) := by decide +kernel
theorem dX10_bestFrom_63 : decode cX10_bestFrom 63 = .ok (.aload_n 0, 1) := by decide +kernel
theorem dX10_bestFrom_64 : decode cX10_bestFrom 64 = .ok (.getfield 25, 3) := by decide +kernel
theorem dX10_bestFrom_67 : decode cX10_bestFrom 67 = .ok (.iload 5, 2) := by decide +kernel
theorem dX10_bestFrom_69 : decode cX10_bestFrom 69 = .ok (.invokestatic 58, 3) := by decide +kernel
theorem dX10_bestFrom_72 : decode cX10_bestFrom 72 = .ok (.iload 5, 2) := by decide +kernel
theorem dX10_bestFrom_74 : decode cX10_bestFrom 74 = .ok (.invokestatic 85, 3) := by decide +kernel
theorem dX10_bestFrom_77 : decode cX10_bestFrom 77 = .ok (.iload 7, 2) := by decide +kernel
theorem dX10_bestFrom_79 : decode cX10_bestFrom 79 = .ok (.invokevirtual 88, 3) := by decide +kernel
theorem dX10_bestFrom_82 : decode cX10_bestFrom 82 = .ok (.istore 9, 2) := by decide +kernel
theorem dX10_bestFrom_84 : decode cX10_bestFrom 84 = .ok (.iload 8, 2) := by decide +kernel
theorem dX10_bestFrom_86 : decode cX10_bestFrom 86 = .ok (.iload_n 3, 1) := by decide +kernel
theorem dX10_bestFrom_87 : decode cX10_bestFrom 87 = .ok (.if_icmp .ne 42, 3) := by decide +kernel
theorem dX10_bestFrom_90 : decode cX10_bestFrom 90 = .ok (.iload 9, 2) := by decide +kernel
theorem dX10_bestFrom_92 : decode cX10_bestFrom 92 = .ok (.i2l, 1) := by decide +kernel
theorem dX10_bestFrom_93 : decode cX10_bestFrom 93 = .ok (.bipush 21, 2) := by decide +kernel
theorem dX10_bestFrom_95 : decode cX10_bestFrom 95 = .ok (.lshl, 1) := by decide +kernel
theorem dX10_bestFrom_96 : decode cX10_bestFrom 96 = .ok (.iload 6, 2) := by decide +kernel
theorem dX10_bestFrom_98 : decode cX10_bestFrom 98 = .ok (.bipush 13, 2) := by decide +kernel
theorem dX10_bestFrom_100 : decode cX10_bestFrom 100 = .ok (.ishl, 1) := by decide +kernel
theorem dX10_bestFrom_101 : decode cX10_bestFrom 101 = .ok (.i2l, 1) := by decide +kernel
theorem dX10_bestFrom_102 : decode cX10_bestFrom 102 = .ok (.lor, 1) := by decide +kernel
theorem dX10_bestFrom_103 : decode cX10_bestFrom 103 = .ok (.iload 4, 2) := by decide +kernel
theorem dX10_bestFrom_105 : decode cX10_bestFrom 105 = .ok (.invokestatic 91, 3) := by decide +kernel
theorem dX10_bestFrom_108 : decode cX10_bestFrom 108 = .ok (.i2l, 1) := by decide +kernel
theorem dX10_bestFrom_109 : decode cX10_bestFrom 109 = .ok (.lor, 1) := by decide +kernel
theorem dX10_bestFrom_110 : decode cX10_bestFrom 110 = .ok (.iload 4, 2) := by decide +kernel
theorem dX10_bestFrom_112 : decode cX10_bestFrom 112 = .ok (.invokestatic 61, 3) := by decide +kernel
theorem dX10_bestFrom_115 : decode cX10_bestFrom 115 = .ok (.iconst 3, 1) := by decide +kernel
theorem dX10_bestFrom_116 : decode cX10_bestFrom 116 = .ok (.ishl, 1) := by decide +kernel
theorem dX10_bestFrom_117 : decode cX10_bestFrom 117 = .ok (.i2l, 1) := by decide +kernel
theorem dX10_bestFrom_118 : decode cX10_bestFrom 118 = .ok (.lor, 1) := by decide +kernel
theorem dX10_bestFrom_119 : decode cX10_bestFrom 119 = .ok (.aload_n 0, 1) := by decide +kernel
theorem dX10_bestFrom_120 : decode cX10_bestFrom 120 = .ok (.iload 4, 2) := by decide +kernel
theorem dX10_bestFrom_122 : decode cX10_bestFrom 122 = .ok (.iload_n 3, 1) := by decide +kernel
theorem dX10_bestFrom_123 : decode cX10_bestFrom 123 = .ok (.invokevirtual 74, 3) := by decide +kernel
theorem dX10_bestFrom_126 : decode cX10_bestFrom 126 = .ok (.i2l, 1) := by decide +kernel
theorem dX10_bestFrom_127 : decode cX10_bestFrom 127 = .ok (.lor, 1) := by decide +kernel
theorem dX10_bestFrom_128 : decode cX10_bestFrom 128 = .ok (.lreturn, 1) := by decide +kernel
theorem dX10_bestFrom_129 : decode cX10_bestFrom 129 = .ok (.aload_n 0, 1) := by decide +kernel
theorem dX10_bestFrom_130 : decode cX10_bestFrom 130 = .ok (.iload 8, 2) := by decide +kernel
theorem dX10_bestFrom_132 : decode cX10_bestFrom 132 = .ok (.iload 9, 2) := by decide +kernel
theorem dX10_bestFrom_134 : decode cX10_bestFrom 134 = .ok (.iload_n 3, 1) := by decide +kernel
theorem dX10_bestFrom_135 : decode cX10_bestFrom 135 = .ok (.invokevirtual 81, 3) := by decide +kernel
theorem dX10_bestFrom_138 : decode cX10_bestFrom 138 = .ok (.istore 5, 2) := by decide +kernel
theorem dX10_bestFrom_140 : decode cX10_bestFrom 140 = .ok (.iinc 6 1, 3) := by decide +kernel
theorem dX10_bestFrom_143 : decode cX10_bestFrom 143 = .ok (.goto (-123), 3) := by decide +kernel
theorem dX10_bestFrom_146 : decode cX10_bestFrom 146 = .ok (.ldc2_w 94, 3) := by decide +kernel
theorem dX10_bestFrom_149 : decode cX10_bestFrom 149 = .ok (.lreturn, 1) := by decide +kernel
theorem dX10_legOf_0 : decode cX10_legOf 0 = .ok (.iload_n 0, 1) := by decide +kernel
theorem dX10_legOf_1 : decode cX10_legOf 1 = .ok (.invokestatic 58, 3) := by decide +kernel
theorem dX10_legOf_4 : decode cX10_legOf 4 = .ok (.bipush 9, 2) := by decide +kernel
theorem dX10_legOf_6 : decode cX10_legOf 6 = .ok (.ishl, 1) := by decide +kernel
theorem dX10_legOf_7 : decode cX10_legOf 7 = .ok (.iload_n 0, 1) := by decide +kernel
theorem dX10_legOf_8 : decode cX10_legOf 8 = .ok (.invokestatic 85, 3) := by decide +kernel
theorem dX10_legOf_11 : decode cX10_legOf 11 = .ok (.bipush 6, 2) := by decide +kernel
theorem dX10_legOf_13 : decode cX10_legOf 13 = .ok (.ishl, 1) := by decide +kernel
theorem dX10_legOf_14 : decode cX10_legOf 14 = .ok (.ior, 1) := by decide +kernel
theorem dX10_legOf_15 : decode cX10_legOf 15 = .ok (.ireturn, 1) := by decide +kernel
theorem dX10_collect_0 : decode cX10_collect 0 = .ok (.aload_n 0, 1) := by decide +kernel
theorem dX10_collect_1 : decode cX10_collect 1 = .ok (.iconst 0, 1) := by decide +kernel
theorem dX10_collect_2 : decode cX10_collect 2 = .ok (.putfield 42, 3) := by decide +kernel
theorem dX10_collect_5 : decode cX10_collect 5 = .ok (.iconst 0, 1) := by decide +kernel
theorem dX10_collect_6 : decode cX10_collect 6 = .ok (.istore_n 1, 1) := by decide +kernel
theorem dX10_collect_7 : decode cX10_collect 7 = .ok (.iload_n 1, 1) := by decide +kernel
theorem dX10_collect_8 : decode cX10_collect 8 = .ok (.aload_n 0, 1) := by decide +kernel
theorem dX10_collect_9 : decode cX10_collect 9 = .ok (.getfield 25, 3) := by decide +kernel
theorem dX10_collect_12 : decode cX10_collect 12 = .ok (.getfield 96, 3) := by decide +kernel
theorem dX10_collect_15 : decode cX10_collect 15 = .ok (.if_icmp .ge 111, 3) := by decide +kernel
theorem dX10_collect_18 : decode cX10_collect 18 = .ok (.iconst 0, 1) := by decide +kernel
theorem dX10_collect_19 : decode cX10_collect 19 = .ok (.istore_n 2, 1) := by decide +kernel
theorem dX10_collect_20 : decode cX10_collect 20 = .ok (.iload_n 2, 1) := by decide +kernel
theorem dX10_collect_21 : decode cX10_collect 21 = .ok (.bipush 7, 2) := by decide +kernel
theorem dX10_collect_23 : decode cX10_collect 23 = .ok (.if_icmp .ge 97, 3) := by decide +kernel
theorem dX10_collect_26 : decode cX10_collect 26 = .ok (.iconst 0, 1) := by decide +kernel
theorem dX10_collect_27 : decode cX10_collect 27 = .ok (.istore_n 3, 1) := by decide +kernel
theorem dX10_collect_28 : decode cX10_collect 28 = .ok (.iload_n 3, 1) := by decide +kernel
theorem dX10_collect_29 : decode cX10_collect 29 = .ok (.aload_n 0, 1) := by decide +kernel
theorem dX10_collect_30 : decode cX10_collect 30 = .ok (.getfield 25, 3) := by decide +kernel
theorem dX10_collect_33 : decode cX10_collect 33 = .ok (.getfield 99, 3) := by decide +kernel
theorem dX10_collect_36 : decode cX10_collect 36 = .ok (.iload_n 1, 1) := by decide +kernel
theorem dX10_collect_37 : decode cX10_collect 37 = .ok (.iaload, 1) := by decide +kernel
theorem dX10_collect_38 : decode cX10_collect 38 = .ok (.if_icmp .ge 76, 3) := by decide +kernel
theorem dX10_collect_41 : decode cX10_collect 41 = .ok (.iload_n 1, 1) := by decide +kernel
theorem dX10_collect_42 : decode cX10_collect 42 = .ok (.bipush 6, 2) := by decide +kernel
theorem dX10_collect_44 : decode cX10_collect 44 = .ok (.ishl, 1) := by decide +kernel
theorem dX10_collect_45 : decode cX10_collect 45 = .ok (.iload_n 2, 1) := by decide +kernel
theorem dX10_collect_46 : decode cX10_collect 46 = .ok (.iconst 3, 1) := by decide +kernel
theorem dX10_collect_47 : decode cX10_collect 47 = .ok (.ishl, 1) := by decide +kernel
theorem dX10_collect_48 : decode cX10_collect 48 = .ok (.ior, 1) := by decide +kernel
theorem dX10_collect_49 : decode cX10_collect 49 = .ok (.iload_n 3, 1) := by decide +kernel
theorem dX10_collect_50 : decode cX10_collect 50 = .ok (.ior, 1) := by decide +kernel
theorem dX10_collect_51 : decode cX10_collect 51 = .ok (.istore 4, 2) := by decide +kernel
theorem dX10_collect_53 : decode cX10_collect 53 = .ok (.iload_n 3, 1) := by decide +kernel
theorem dX10_collect_54 : decode cX10_collect 54 = .ok (.ifCond .le 19, 3) := by decide +kernel
theorem dX10_collect_57 : decode cX10_collect 57 = .ok (.aload_n 0, 1) := by decide +kernel
theorem dX10_collect_58 : decode cX10_collect 58 = .ok (.aload_n 0, 1) := by decide +kernel
theorem dX10_collect_59 : decode cX10_collect 59 = .ok (.getfield 25, 3) := by decide +kernel
theorem dX10_collect_62 : decode cX10_collect 62 = .ok (.iload_n 1, 1) := by decide +kernel
theorem dX10_collect_63 : decode cX10_collect 63 = .ok (.iload_n 2, 1) := by decide +kernel
theorem dX10_collect_64 : decode cX10_collect 64 = .ok (.iload_n 3, 1) := by decide +kernel
theorem dX10_collect_65 : decode cX10_collect 65 = .ok (.invokevirtual 88, 3) := by decide +kernel
theorem dX10_collect_68 : decode cX10_collect 68 = .ok (.iload 4, 2) := by decide +kernel
theorem dX10_collect_70 : decode cX10_collect 70 = .ok (.invokevirtual 102, 3) := by decide +kernel
theorem dX10_collect_73 : decode cX10_collect 73 = .ok (.iload_n 3, 1) := by decide +kernel
theorem dX10_collect_74 : decode cX10_collect 74 = .ok (.aload_n 0, 1) := by decide +kernel
theorem dX10_collect_75 : decode cX10_collect 75 = .ok (.getfield 25, 3) := by decide +kernel
theorem dX10_collect_78 : decode cX10_collect 78 = .ok (.getfield 99, 3) := by decide +kernel
theorem dX10_collect_81 : decode cX10_collect 81 = .ok (.iload_n 1, 1) := by decide +kernel
theorem dX10_collect_82 : decode cX10_collect 82 = .ok (.iaload, 1) := by decide +kernel
theorem dX10_collect_83 : decode cX10_collect 83 = .ok (.iconst 1, 1) := by decide +kernel
theorem dX10_collect_84 : decode cX10_collect 84 = .ok (.isub, 1) := by decide +kernel
theorem dX10_collect_85 : decode cX10_collect 85 = .ok (.if_icmp .ge 23, 3) := by decide +kernel
theorem dX10_collect_88 : decode cX10_collect 88 = .ok (.aload_n 0, 1) := by decide +kernel
theorem dX10_collect_89 : decode cX10_collect 89 = .ok (.aload_n 0, 1) := by decide +kernel
theorem dX10_collect_90 : decode cX10_collect 90 = .ok (.getfield 25, 3) := by decide +kernel
theorem dX10_collect_93 : decode cX10_collect 93 = .ok (.iload_n 1, 1) := by decide +kernel
theorem dX10_collect_94 : decode cX10_collect 94 = .ok (.iload_n 2, 1) := by decide +kernel
theorem dX10_collect_95 : decode cX10_collect 95 = .ok (.iload_n 3, 1) := by decide +kernel
theorem dX10_collect_96 : decode cX10_collect 96 = .ok (.invokevirtual 106, 3) := by decide +kernel
theorem dX10_collect_99 : decode cX10_collect 99 = .ok (.sipush 1024, 3) := by decide +kernel
theorem dX10_collect_102 : decode cX10_collect 102 = .ok (.iload 4, 2) := by decide +kernel
theorem dX10_collect_104 : decode cX10_collect 104 = .ok (.ior, 1) := by decide +kernel
theorem dX10_collect_105 : decode cX10_collect 105 = .ok (.invokevirtual 102, 3) := by decide +kernel
theorem dX10_collect_108 : decode cX10_collect 108 = .ok (.iinc 3 1, 3) := by decide +kernel
theorem dX10_collect_111 : decode cX10_collect 111 = .ok (.goto (-83), 3) := by decide +kernel
theorem dX10_collect_114 : decode cX10_collect 114 = .ok (.iinc 2 1, 3) := by decide +kernel
theorem dX10_collect_117 : decode cX10_collect 117 = .ok (.goto (-97), 3) := by decide +kernel
theorem dX10_collect_120 : decode cX10_collect 120 = .ok (.iinc 1 1, 3) := by decide +kernel
theorem dX10_collect_123 : decode cX10_collect 123 = .ok (.goto (-116), 3) := by decide +kernel
theorem dX10_collect_126 : decode cX10_collect 126 = .ok (.return_, 1) := by decide +kernel
theorem dX10_addKey_0 : decode cX10_addKey 0 = .ok (.iload_n 1, 1) := by decide +kernel
theorem dX10_addKey_1 : decode cX10_addKey 1 = .ok (.sipush 10079, 3) := by decide +kernel
theorem dX10_addKey_4 : decode cX10_addKey 4 = .ok (.if_icmp .gt 38, 3) := by decide +kernel
theorem dX10_addKey_7 : decode cX10_addKey 7 = .ok (.aload_n 0, 1) := by decide +kernel
theorem dX10_addKey_8 : decode cX10_addKey 8 = .ok (.getfield 42, 3) := by decide +kernel
theorem dX10_addKey_11 : decode cX10_addKey 11 = .ok (.sipush 980, 3) := by decide +kernel
theorem dX10_addKey_14 : decode cX10_addKey 14 = .ok (.if_icmp .ge 28, 3) := by decide +kernel
theorem dX10_addKey_17 : decode cX10_addKey 17 = .ok (.aload_n 0, 1) := by decide +kernel
theorem dX10_addKey_18 : decode cX10_addKey 18 = .ok (.getfield 11, 3) := by decide +kernel
theorem dX10_addKey_21 : decode cX10_addKey 21 = .ok (.aload_n 0, 1) := by decide +kernel
theorem dX10_addKey_22 : decode cX10_addKey 22 = .ok (.getfield 42, 3) := by decide +kernel
theorem dX10_addKey_25 : decode cX10_addKey 25 = .ok (.iload_n 1, 1) := by decide +kernel
theorem dX10_addKey_26 : decode cX10_addKey 26 = .ok (.bipush 11, 2) := by decide +kernel
theorem dX10_addKey_28 : decode cX10_addKey 28 = .ok (.ishl, 1) := by decide +kernel
theorem dX10_addKey_29 : decode cX10_addKey 29 = .ok (.iload_n 2, 1) := by decide +kernel
theorem dX10_addKey_30 : decode cX10_addKey 30 = .ok (.ior, 1) := by decide +kernel
theorem dX10_addKey_31 : decode cX10_addKey 31 = .ok (.iastore, 1) := by decide +kernel
theorem dX10_addKey_32 : decode cX10_addKey 32 = .ok (.aload_n 0, 1) := by decide +kernel
theorem dX10_addKey_33 : decode cX10_addKey 33 = .ok (.dup, 1) := by decide +kernel
theorem dX10_addKey_34 : decode cX10_addKey 34 = .ok (.getfield 42, 3) := by decide +kernel
theorem dX10_addKey_37 : decode cX10_addKey 37 = .ok (.iconst 1, 1) := by decide +kernel
theorem dX10_addKey_38 : decode cX10_addKey 38 = .ok (.iadd, 1) := by decide +kernel
theorem dX10_addKey_39 : decode cX10_addKey 39 = .ok (.putfield 42, 3) := by decide +kernel
theorem dX10_addKey_42 : decode cX10_addKey 42 = .ok (.return_, 1) := by decide +kernel
theorem dX10_sortKeys_0 : decode cX10_sortKeys 0 = .ok (.sipush 364, 3) := by decide +kernel
theorem dX10_sortKeys_3 : decode cX10_sortKeys 3 = .ok (.istore_n 1, 1) := by decide +kernel
theorem dX10_sortKeys_4 : decode cX10_sortKeys 4 = .ok (.iload_n 1, 1) := by decide +kernel
theorem dX10_sortKeys_5 : decode cX10_sortKeys 5 = .ok (.ifCond .le 88, 3) := by decide +kernel
theorem dX10_sortKeys_8 : decode cX10_sortKeys 8 = .ok (.iload_n 1, 1) := by decide +kernel
theorem dX10_sortKeys_9 : decode cX10_sortKeys 9 = .ok (.istore_n 2, 1) := by decide +kernel
theorem dX10_sortKeys_10 : decode cX10_sortKeys 10 = .ok (.iload_n 2, 1) := by decide +kernel
theorem dX10_sortKeys_11 : decode cX10_sortKeys 11 = .ok (.aload_n 0, 1) := by decide +kernel
theorem dX10_sortKeys_12 : decode cX10_sortKeys 12 = .ok (.getfield 42, 3) := by decide +kernel
theorem dX10_sortKeys_15 : decode cX10_sortKeys 15 = .ok (.if_icmp .ge 71, 3) := by decide +kernel
theorem dX10_sortKeys_18 : decode cX10_sortKeys 18 = .ok (.aload_n 0, 1) := by decide +kernel
theorem dX10_sortKeys_19 : decode cX10_sortKeys 19 = .ok (.getfield 11, 3) := by decide +kernel
theorem dX10_sortKeys_22 : decode cX10_sortKeys 22 = .ok (.iload_n 2, 1) := by decide +kernel
theorem dX10_sortKeys_23 : decode cX10_sortKeys 23 = .ok (.iaload, 1) := by decide +kernel
theorem dX10_sortKeys_24 : decode cX10_sortKeys 24 = .ok (.istore_n 3, 1) := by decide +kernel
theorem dX10_sortKeys_25 : decode cX10_sortKeys 25 = .ok (.iload_n 2, 1) := by decide +kernel
theorem dX10_sortKeys_26 : decode cX10_sortKeys 26 = .ok (.istore 4, 2) := by decide +kernel
theorem dX10_sortKeys_28 : decode cX10_sortKeys 28 = .ok (.iload 4, 2) := by decide +kernel
theorem dX10_sortKeys_30 : decode cX10_sortKeys 30 = .ok (.iload_n 1, 1) := by decide +kernel
theorem dX10_sortKeys_31 : decode cX10_sortKeys 31 = .ok (.if_icmp .lt 41, 3) := by decide +kernel
theorem dX10_sortKeys_34 : decode cX10_sortKeys 34 = .ok (.aload_n 0, 1) := by decide +kernel
theorem dX10_sortKeys_35 : decode cX10_sortKeys 35 = .ok (.getfield 11, 3) := by decide +kernel
theorem dX10_sortKeys_38 : decode cX10_sortKeys 38 = .ok (.iload 4, 2) := by decide +kernel
theorem dX10_sortKeys_40 : decode cX10_sortKeys 40 = .ok (.iload_n 1, 1) := by decide +kernel
theorem dX10_sortKeys_41 : decode cX10_sortKeys 41 = .ok (.isub, 1) := by decide +kernel
theorem dX10_sortKeys_42 : decode cX10_sortKeys 42 = .ok (.iaload, 1) := by decide +kernel
theorem dX10_sortKeys_43 : decode cX10_sortKeys 43 = .ok (.iload_n 3, 1) := by decide +kernel
theorem dX10_sortKeys_44 : decode cX10_sortKeys 44 = .ok (.if_icmp .le 28, 3) := by decide +kernel
theorem dX10_sortKeys_47 : decode cX10_sortKeys 47 = .ok (.aload_n 0, 1) := by decide +kernel
theorem dX10_sortKeys_48 : decode cX10_sortKeys 48 = .ok (.getfield 11, 3) := by decide +kernel
theorem dX10_sortKeys_51 : decode cX10_sortKeys 51 = .ok (.iload 4, 2) := by decide +kernel
theorem dX10_sortKeys_53 : decode cX10_sortKeys 53 = .ok (.aload_n 0, 1) := by decide +kernel
theorem dX10_sortKeys_54 : decode cX10_sortKeys 54 = .ok (.getfield 11, 3) := by decide +kernel
theorem dX10_sortKeys_57 : decode cX10_sortKeys 57 = .ok (.iload 4, 2) := by decide +kernel
theorem dX10_sortKeys_59 : decode cX10_sortKeys 59 = .ok (.iload_n 1, 1) := by decide +kernel
theorem dX10_sortKeys_60 : decode cX10_sortKeys 60 = .ok (.isub, 1) := by decide +kernel
theorem dX10_sortKeys_61 : decode cX10_sortKeys 61 = .ok (.iaload, 1) := by decide +kernel
theorem dX10_sortKeys_62 : decode cX10_sortKeys 62 = .ok (.iastore, 1) := by decide +kernel
theorem dX10_sortKeys_63 : decode cX10_sortKeys 63 = .ok (.iload 4, 2) := by decide +kernel
theorem dX10_sortKeys_65 : decode cX10_sortKeys 65 = .ok (.iload_n 1, 1) := by decide +kernel
theorem dX10_sortKeys_66 : decode cX10_sortKeys 66 = .ok (.isub, 1) := by decide +kernel
theorem dX10_sortKeys_67 : decode cX10_sortKeys 67 = .ok (.istore 4, 2) := by decide +kernel
theorem dX10_sortKeys_69 : decode cX10_sortKeys 69 = .ok (.goto (-41), 3) := by decide +kernel
theorem dX10_sortKeys_72 : decode cX10_sortKeys 72 = .ok (.aload_n 0, 1) := by decide +kernel
theorem dX10_sortKeys_73 : decode cX10_sortKeys 73 = .ok (.getfield 11, 3) := by decide +kernel
theorem dX10_sortKeys_76 : decode cX10_sortKeys 76 = .ok (.iload 4, 2) := by decide +kernel
theorem dX10_sortKeys_78 : decode cX10_sortKeys 78 = .ok (.iload_n 3, 1) := by decide +kernel
theorem dX10_sortKeys_79 : decode cX10_sortKeys 79 = .ok (.iastore, 1) := by decide +kernel
theorem dX10_sortKeys_80 : decode cX10_sortKeys 80 = .ok (.iinc 2 1, 3) := by decide +kernel
theorem dX10_sortKeys_83 : decode cX10_sortKeys 83 = .ok (.goto (-73), 3) := by decide +kernel
theorem dX10_sortKeys_86 : decode cX10_sortKeys 86 = .ok (.iload_n 1, 1) := by decide +kernel
theorem dX10_sortKeys_87 : decode cX10_sortKeys 87 = .ok (.iconst 3, 1) := by decide +kernel
theorem dX10_sortKeys_88 : decode cX10_sortKeys 88 = .ok (.idiv, 1) := by decide +kernel
theorem dX10_sortKeys_89 : decode cX10_sortKeys 89 = .ok (.istore_n 1, 1) := by decide +kernel
theorem dX10_sortKeys_90 : decode cX10_sortKeys 90 = .ok (.goto (-86), 3) := by decide +kernel
theorem dX10_sortKeys_93 : decode cX10_sortKeys 93 = .ok (.return_, 1) := by decide +kernel
theorem dX10_trace_0 : decode cX10_trace 0 = .ok (.aload_n 0, 1) := by decide +kernel
theorem dX10_trace_1 : decode cX10_trace 1 = .ok (.getfield 15, 3) := by decide +kernel
theorem dX10_trace_4 : decode cX10_trace 4 = .ok (.lconst 0, 1) := by decide +kernel
theorem dX10_trace_5 : decode cX10_trace 5 = .ok (.invokestatic 109, 3) := by decide +kernel
theorem dX10_trace_8 : decode cX10_trace 8 = .ok (.aload_n 0, 1) := by decide +kernel
theorem dX10_trace_9 : decode cX10_trace 9 = .ok (.getfield 19, 3) := by decide +kernel
theorem dX10_trace_12 : decode cX10_trace 12 = .ok (.ldc2_w 94, 3) := by decide +kernel
theorem dX10_trace_15 : decode cX10_trace 15 = .ok (.invokestatic 109, 3) := by decide +kernel
theorem dX10_trace_18 : decode cX10_trace 18 = .ok (.aload_n 0, 1) := by decide +kernel
theorem dX10_trace_19 : decode cX10_trace 19 = .ok (.getfield 22, 3) := by decide +kernel
theorem dX10_trace_22 : decode cX10_trace 22 = .ok (.ldc2_w 94, 3) := by decide +kernel
theorem dX10_trace_25 : decode cX10_trace 25 = .ok (.invokestatic 109, 3) := by decide +kernel
theorem dX10_trace_28 : decode cX10_trace 28 = .ok (.aload_n 0, 1) := by decide +kernel
theorem dX10_trace_29 : decode cX10_trace 29 = .ok (.getfield 42, 3) := by decide +kernel
theorem dX10_trace_32 : decode cX10_trace 32 = .ok (.iconst 1, 1) := by decide +kernel
theorem dX10_trace_33 : decode cX10_trace 33 = .ok (.isub, 1) := by decide +kernel
theorem dX10_trace_34 : decode cX10_trace 34 = .ok (.istore_n 1, 1) := by decide +kernel
theorem dX10_trace_35 : decode cX10_trace 35 = .ok (.iload_n 1, 1) := by decide +kernel
theorem dX10_trace_36 : decode cX10_trace 36 = .ok (.ifCond .lt 46, 3) := by decide +kernel
theorem dX10_trace_39 : decode cX10_trace 39 = .ok (.aload_n 0, 1) := by decide +kernel
theorem dX10_trace_40 : decode cX10_trace 40 = .ok (.getfield 11, 3) := by decide +kernel
theorem dX10_trace_43 : decode cX10_trace 43 = .ok (.iload_n 1, 1) := by decide +kernel
theorem dX10_trace_44 : decode cX10_trace 44 = .ok (.iaload, 1) := by decide +kernel
theorem dX10_trace_45 : decode cX10_trace 45 = .ok (.istore_n 2, 1) := by decide +kernel
theorem dX10_trace_46 : decode cX10_trace 46 = .ok (.iload_n 2, 1) := by decide +kernel
theorem dX10_trace_47 : decode cX10_trace 47 = .ok (.invokestatic 67, 3) := by decide +kernel
theorem dX10_trace_50 : decode cX10_trace 50 = .ok (.ifCond .eq 16, 3) := by decide +kernel
theorem dX10_trace_53 : decode cX10_trace 53 = .ok (.aload_n 0, 1) := by decide +kernel
theorem dX10_trace_54 : decode cX10_trace 54 = .ok (.iload_n 2, 1) := by decide +kernel
theorem dX10_trace_55 : decode cX10_trace 55 = .ok (.aload_n 0, 1) := by decide +kernel
theorem dX10_trace_56 : decode cX10_trace 56 = .ok (.iload_n 2, 1) := by decide +kernel
theorem dX10_trace_57 : decode cX10_trace 57 = .ok (.invokevirtual 71, 3) := by decide +kernel
theorem dX10_trace_60 : decode cX10_trace 60 = .ok (.invokevirtual 115, 3) := by decide +kernel
theorem dX10_trace_63 : decode cX10_trace 63 = .ok (.goto 13, 3) := by decide +kernel
theorem dX10_trace_66 : decode cX10_trace 66 = .ok (.aload_n 0, 1) := by decide +kernel
theorem dX10_trace_67 : decode cX10_trace 67 = .ok (.iload_n 2, 1) := by decide +kernel
theorem dX10_trace_68 : decode cX10_trace 68 = .ok (.aload_n 0, 1) := by decide +kernel
theorem dX10_trace_69 : decode cX10_trace 69 = .ok (.iload_n 2, 1) := by decide +kernel
theorem dX10_trace_70 : decode cX10_trace 70 = .ok (.invokevirtual 71, 3) := by decide +kernel
theorem dX10_trace_73 : decode cX10_trace 73 = .ok (.invokevirtual 118, 3) := by decide +kernel
theorem dX10_trace_76 : decode cX10_trace 76 = .ok (.iinc 1 (-1), 3) := by decide +kernel
theorem dX10_trace_79 : decode cX10_trace 79 = .ok (.goto (-44), 3) := by decide +kernel
theorem dX10_trace_82 : decode cX10_trace 82 = .ok (.return_, 1) := by decide +kernel
theorem dX10_takeRun_0 : decode cX10_takeRun 0 = .ok (.iload_n 1, 1) := by decide +kernel
theorem dX10_takeRun_1 : decode cX10_takeRun 1 = .ok (.invokestatic 64, 3) := by decide +kernel
theorem dX10_takeRun_4 : decode cX10_takeRun 4 = .ok (.istore_n 3, 1) := by decide +kernel
theorem dX10_takeRun_5 : decode cX10_takeRun 5 = .ok (.iconst 0, 1) := by decide +kernel
theorem dX10_takeRun_6 : decode cX10_takeRun 6 = .ok (.istore 4, 2) := by decide +kernel
theorem dX10_takeRun_8 : decode cX10_takeRun 8 = .ok (.iload 4, 2) := by decide +kernel
theorem dX10_takeRun_10 : decode cX10_takeRun 10 = .ok (.bipush 12, 2) := by decide +kernel
theorem dX10_takeRun_12 : decode cX10_takeRun 12 = .ok (.if_icmp .ge 146, 3) := by decide +kernel
theorem dX10_takeRun_15 : decode cX10_takeRun 15 = .ok (.aload_n 0, 1) := by decide +kernel
theorem dX10_takeRun_16 : decode cX10_takeRun 16 = .ok (.getfield 19, 3) := by decide +kernel
theorem dX10_takeRun_19 : decode cX10_takeRun 19 = .ok (.bipush 12, 2) := by decide +kernel
theorem dX10_takeRun_21 : decode cX10_takeRun 21 = .ok (.iload_n 3, 1) := by decide +kernel
theorem dX10_takeRun_22 : decode cX10_takeRun 22 = .ok (.bipush 8, 2) := by decide +kernel
theorem dX10_takeRun_24 : decode cX10_takeRun 24 = .ok (.idiv, 1) := by decide +kernel
theorem dX10_takeRun_25 : decode cX10_takeRun 25 = .ok (.imul, 1) := by decide +kernel
theorem dX10_takeRun_26 : decode cX10_takeRun 26 = .ok (.iload 4, 2) := by decide +kernel
theorem dX10_takeRun_28 : decode cX10_takeRun 28 = .ok (.iadd, 1) := by decide +kernel
theorem dX10_takeRun_29 : decode cX10_takeRun 29 = .ok (.laload, 1) := by decide +kernel
theorem dX10_takeRun_30 : decode cX10_takeRun 30 = .ok (.lstore 5, 2) := by decide +kernel
theorem dX10_takeRun_32 : decode cX10_takeRun 32 = .ok (.lload 5, 2) := by decide +kernel
theorem dX10_takeRun_34 : decode cX10_takeRun 34 = .ok (.ldc2_w 94, 3) := by decide +kernel
theorem dX10_takeRun_37 : decode cX10_takeRun 37 = .ok (.lcmp, 1) := by decide +kernel
theorem dX10_takeRun_38 : decode cX10_takeRun 38 = .ok (.ifCond .eq 15, 3) := by decide +kernel
theorem dX10_takeRun_41 : decode cX10_takeRun 41 = .ok (.lload 5, 2) := by decide +kernel
theorem dX10_takeRun_43 : decode cX10_takeRun 43 = .ok (.iload_n 1, 1) := by decide +kernel
theorem dX10_takeRun_44 : decode cX10_takeRun 44 = .ok (.invokestatic 61, 3) := by decide +kernel
theorem dX10_takeRun_47 : decode cX10_takeRun 47 = .ok (.i2l, 1) := by decide +kernel
theorem dX10_takeRun_48 : decode cX10_takeRun 48 = .ok (.iconst 3, 1) := by decide +kernel
theorem dX10_takeRun_49 : decode cX10_takeRun 49 = .ok (.lshl, 1) := by decide +kernel
theorem dX10_takeRun_50 : decode cX10_takeRun 50 = .ok (.ladd, 1) := by decide +kernel
theorem dX10_takeRun_51 : decode cX10_takeRun 51 = .ok (.lstore 5, 2) := by decide +kernel
theorem dX10_takeRun_53 : decode cX10_takeRun 53 = .ok (.bipush 12, 2) := by decide +kernel
theorem dX10_takeRun_55 : decode cX10_takeRun 55 = .ok (.iload_n 2, 1) := by decide +kernel
theorem dX10_takeRun_56 : decode cX10_takeRun 56 = .ok (.imul, 1) := by decide +kernel
theorem dX10_takeRun_57 : decode cX10_takeRun 57 = .ok (.iload 4, 2) := by decide +kernel
theorem dX10_takeRun_59 : decode cX10_takeRun 59 = .ok (.iadd, 1) := by decide +kernel
theorem dX10_takeRun_60 : decode cX10_takeRun 60 = .ok (.istore 7, 2) := by decide +kernel
theorem dX10_takeRun_62 : decode cX10_takeRun 62 = .ok (.lload 5, 2) := by decide +kernel
theorem dX10_takeRun_64 : decode cX10_takeRun 64 = .ok (.aload_n 0, 1) := by decide +kernel
theorem dX10_takeRun_65 : decode cX10_takeRun 65 = .ok (.getfield 22, 3) := by decide +kernel
theorem dX10_takeRun_68 : decode cX10_takeRun 68 = .ok (.iload 7, 2) := by decide +kernel
theorem dX10_takeRun_70 : decode cX10_takeRun 70 = .ok (.laload, 1) := by decide +kernel
theorem dX10_takeRun_71 : decode cX10_takeRun 71 = .ok (.lcmp, 1) := by decide +kernel
theorem dX10_takeRun_72 : decode cX10_takeRun 72 = .ok (.ifCond .ge 80, 3) := by decide +kernel
theorem dX10_takeRun_75 : decode cX10_takeRun 75 = .ok (.aload_n 0, 1) := by decide +kernel
theorem dX10_takeRun_76 : decode cX10_takeRun 76 = .ok (.aload_n 0, 1) := by decide +kernel
theorem dX10_takeRun_77 : decode cX10_takeRun 77 = .ok (.getfield 22, 3) := by decide +kernel
theorem dX10_takeRun_80 : decode cX10_takeRun 80 = .ok (.iload 7, 2) := by decide +kernel
theorem dX10_takeRun_82 : decode cX10_takeRun 82 = .ok (.laload, 1) := by decide +kernel
theorem dX10_takeRun_83 : decode cX10_takeRun 83 = .ok (.invokevirtual 121, 3) := by decide +kernel
theorem dX10_takeRun_86 : decode cX10_takeRun 86 = .ok (.iload_n 1, 1) := by decide +kernel
theorem dX10_takeRun_87 : decode cX10_takeRun 87 = .ok (.invokestatic 50, 3) := by decide +kernel
theorem dX10_takeRun_90 : decode cX10_takeRun 90 = .ok (.if_icmp .ne 33, 3) := by decide +kernel
theorem dX10_takeRun_93 : decode cX10_takeRun 93 = .ok (.aload_n 0, 1) := by decide +kernel
theorem dX10_takeRun_94 : decode cX10_takeRun 94 = .ok (.getfield 15, 3) := by decide +kernel
theorem dX10_takeRun_97 : decode cX10_takeRun 97 = .ok (.aload_n 0, 1) := by decide +kernel
theorem dX10_takeRun_98 : decode cX10_takeRun 98 = .ok (.getfield 22, 3) := by decide +kernel
theorem dX10_takeRun_101 : decode cX10_takeRun 101 = .ok (.iload 7, 2) := by decide +kernel
theorem dX10_takeRun_103 : decode cX10_takeRun 103 = .ok (.laload, 1) := by decide +kernel
theorem dX10_takeRun_104 : decode cX10_takeRun 104 = .ok (.invokestatic 125, 3) := by decide +kernel
theorem dX10_takeRun_107 : decode cX10_takeRun 107 = .ok (.dup2, 1) := by decide +kernel
theorem dX10_takeRun_108 : decode cX10_takeRun 108 = .ok (.laload, 1) := by decide +kernel
theorem dX10_takeRun_109 : decode cX10_takeRun 109 = .ok (.ldc2_w 128, 3) := by decide +kernel
theorem dX10_takeRun_112 : decode cX10_takeRun 112 = .ok (.iconst 3, 1) := by decide +kernel
theorem dX10_takeRun_113 : decode cX10_takeRun 113 = .ok (.iload 4, 2) := by decide +kernel
theorem dX10_takeRun_115 : decode cX10_takeRun 115 = .ok (.imul, 1) := by decide +kernel
theorem dX10_takeRun_116 : decode cX10_takeRun 116 = .ok (.lshl, 1) := by decide +kernel
theorem dX10_takeRun_117 : decode cX10_takeRun 117 = .ok (.ldc2_w 130, 3) := by decide +kernel
theorem dX10_takeRun_120 : decode cX10_takeRun 120 = .ok (.lxor, 1) := by decide +kernel
theorem dX10_takeRun_121 : decode cX10_takeRun 121 = .ok (.land, 1) := by decide +kernel
theorem dX10_takeRun_122 : decode cX10_takeRun 122 = .ok (.lastore, 1) := by decide +kernel
theorem dX10_takeRun_123 : decode cX10_takeRun 123 = .ok (.aload_n 0, 1) := by decide +kernel
theorem dX10_takeRun_124 : decode cX10_takeRun 124 = .ok (.getfield 15, 3) := by decide +kernel
theorem dX10_takeRun_127 : decode cX10_takeRun 127 = .ok (.iload_n 3, 1) := by decide +kernel
theorem dX10_takeRun_128 : decode cX10_takeRun 128 = .ok (.dup2, 1) := by decide +kernel
theorem dX10_takeRun_129 : decode cX10_takeRun 129 = .ok (.laload, 1) := by decide +kernel
theorem dX10_takeRun_130 : decode cX10_takeRun 130 = .ok (.lload 5, 2) := by decide +kernel
theorem dX10_takeRun_132 : decode cX10_takeRun 132 = .ok (.ldc2_w 128, 3) := by decide +kernel
theorem dX10_takeRun_135 : decode cX10_takeRun 135 = .ok (.land, 1) := by decide +kernel
theorem dX10_takeRun_136 : decode cX10_takeRun 136 = .ok (.iconst 3, 1) := by decide +kernel
theorem dX10_takeRun_137 : decode cX10_takeRun 137 = .ok (.iload 4, 2) := by decide +kernel
theorem dX10_takeRun_139 : decode cX10_takeRun 139 = .ok (.imul, 1) := by decide +kernel
theorem dX10_takeRun_140 : decode cX10_takeRun 140 = .ok (.lshl, 1) := by decide +kernel
theorem dX10_takeRun_141 : decode cX10_takeRun 141 = .ok (.lor, 1) := by decide +kernel
theorem dX10_takeRun_142 : decode cX10_takeRun 142 = .ok (.lastore, 1) := by decide +kernel
theorem dX10_takeRun_143 : decode cX10_takeRun 143 = .ok (.aload_n 0, 1) := by decide +kernel
theorem dX10_takeRun_144 : decode cX10_takeRun 144 = .ok (.getfield 22, 3) := by decide +kernel
theorem dX10_takeRun_147 : decode cX10_takeRun 147 = .ok (.iload 7, 2) := by decide +kernel
theorem dX10_takeRun_149 : decode cX10_takeRun 149 = .ok (.lload 5, 2) := by decide +kernel
theorem dX10_takeRun_151 : decode cX10_takeRun 151 = .ok (.lastore, 1) := by decide +kernel
theorem dX10_takeRun_152 : decode cX10_takeRun 152 = .ok (.iinc 4 1, 3) := by decide +kernel
theorem dX10_takeRun_155 : decode cX10_takeRun 155 = .ok (.goto (-147), 3) := by decide +kernel
theorem dX10_takeRun_158 : decode cX10_takeRun 158 = .ok (.return_, 1) := by decide +kernel
theorem dX10_takenAt_0 : decode cX10_takenAt 0 = .ok (.lload_n 1, 1) := by decide +kernel
theorem dX10_takenAt_1 : decode cX10_takenAt 1 = .ok (.ldc2_w 94, 3) := by decide +kernel
theorem dX10_takenAt_4 : decode cX10_takenAt 4 = .ok (.lcmp, 1) := by decide +kernel
theorem dX10_takenAt_5 : decode cX10_takenAt 5 = .ok (.ifCond .ne 7, 3) := by decide +kernel
theorem dX10_takenAt_8 : decode cX10_takenAt 8 = .ok (.iconst (-1), 1) := by decide +kernel
theorem dX10_takenAt_9 : decode cX10_takenAt 9 = .ok (.goto 22, 3) := by decide +kernel
theorem dX10_takenAt_12 : decode cX10_takenAt 12 = .ok (.aload_n 0, 1) := by decide +kernel
theorem dX10_takenAt_13 : decode cX10_takenAt 13 = .ok (.getfield 25, 3) := by decide +kernel
theorem dX10_takenAt_16 : decode cX10_takenAt 16 = .ok (.lload_n 1, 1) := by decide +kernel
theorem dX10_takenAt_17 : decode cX10_takenAt 17 = .ok (.invokestatic 132, 3) := by decide +kernel
theorem dX10_takenAt_20 : decode cX10_takenAt 20 = .ok (.lload_n 1, 1) := by decide +kernel
theorem dX10_takenAt_21 : decode cX10_takenAt 21 = .ok (.invokestatic 135, 3) := by decide +kernel
theorem dX10_takenAt_24 : decode cX10_takenAt 24 = .ok (.lload_n 1, 1) := by decide +kernel
theorem dX10_takenAt_25 : decode cX10_takenAt 25 = .ok (.invokestatic 138, 3) := by decide +kernel
theorem dX10_takenAt_28 : decode cX10_takenAt 28 = .ok (.invokevirtual 106, 3) := by decide +kernel
theorem dX10_takenAt_31 : decode cX10_takenAt 31 = .ok (.ireturn, 1) := by decide +kernel
theorem dX10_slotOf_0 : decode cX10_slotOf 0 = .ok (.bipush 8, 2) := by decide +kernel
theorem dX10_slotOf_2 : decode cX10_slotOf 2 = .ok (.bipush 10, 2) := by decide +kernel
theorem dX10_slotOf_4 : decode cX10_slotOf 4 = .ok (.lload_n 0, 1) := by decide +kernel
theorem dX10_slotOf_5 : decode cX10_slotOf 5 = .ok (.invokestatic 135, 3) := by decide +kernel
theorem dX10_slotOf_8 : decode cX10_slotOf 8 = .ok (.imul, 1) := by decide +kernel
theorem dX10_slotOf_9 : decode cX10_slotOf 9 = .ok (.lload_n 0, 1) := by decide +kernel
theorem dX10_slotOf_10 : decode cX10_slotOf 10 = .ok (.invokestatic 132, 3) := by decide +kernel
theorem dX10_slotOf_13 : decode cX10_slotOf 13 = .ok (.iadd, 1) := by decide +kernel
theorem dX10_slotOf_14 : decode cX10_slotOf 14 = .ok (.imul, 1) := by decide +kernel
theorem dX10_slotOf_15 : decode cX10_slotOf 15 = .ok (.lload_n 0, 1) := by decide +kernel
theorem dX10_slotOf_16 : decode cX10_slotOf 16 = .ok (.invokestatic 138, 3) := by decide +kernel
theorem dX10_slotOf_19 : decode cX10_slotOf 19 = .ok (.iadd, 1) := by decide +kernel
theorem dX10_slotOf_20 : decode cX10_slotOf 20 = .ok (.ireturn, 1) := by decide +kernel
theorem dX10_leaveRun_0 : decode cX10_leaveRun 0 = .ok (.iload_n 1, 1) := by decide +kernel
theorem dX10_leaveRun_1 : decode cX10_leaveRun 1 = .ok (.invokestatic 91, 3) := by decide +kernel
theorem dX10_leaveRun_4 : decode cX10_leaveRun 4 = .ok (.iload_n 1, 1) := by decide +kernel
theorem dX10_leaveRun_5 : decode cX10_leaveRun 5 = .ok (.invokestatic 61, 3) := by decide +kernel
theorem dX10_leaveRun_8 : decode cX10_leaveRun 8 = .ok (.ior, 1) := by decide +kernel
theorem dX10_leaveRun_9 : decode cX10_leaveRun 9 = .ok (.istore_n 3, 1) := by decide +kernel
theorem dX10_leaveRun_10 : decode cX10_leaveRun 10 = .ok (.iconst 0, 1) := by decide +kernel
theorem dX10_leaveRun_11 : decode cX10_leaveRun 11 = .ok (.istore 4, 2) := by decide +kernel
theorem dX10_leaveRun_13 : decode cX10_leaveRun 13 = .ok (.iload 4, 2) := by decide +kernel
theorem dX10_leaveRun_15 : decode cX10_leaveRun 15 = .ok (.bipush 12, 2) := by decide +kernel
theorem dX10_leaveRun_17 : decode cX10_leaveRun 17 = .ok (.if_icmp .ge 117, 3) := by decide +kernel
theorem dX10_leaveRun_20 : decode cX10_leaveRun 20 = .ok (.aload_n 0, 1) := by decide +kernel
theorem dX10_leaveRun_21 : decode cX10_leaveRun 21 = .ok (.getfield 22, 3) := by decide +kernel
theorem dX10_leaveRun_24 : decode cX10_leaveRun 24 = .ok (.bipush 12, 2) := by decide +kernel
theorem dX10_leaveRun_26 : decode cX10_leaveRun 26 = .ok (.iload_n 2, 1) := by decide +kernel
theorem dX10_leaveRun_27 : decode cX10_leaveRun 27 = .ok (.imul, 1) := by decide +kernel
theorem dX10_leaveRun_28 : decode cX10_leaveRun 28 = .ok (.iload 4, 2) := by decide +kernel
theorem dX10_leaveRun_30 : decode cX10_leaveRun 30 = .ok (.iadd, 1) := by decide +kernel
theorem dX10_leaveRun_31 : decode cX10_leaveRun 31 = .ok (.laload, 1) := by decide +kernel
theorem dX10_leaveRun_32 : decode cX10_leaveRun 32 = .ok (.lstore 5, 2) := by decide +kernel
theorem dX10_leaveRun_34 : decode cX10_leaveRun 34 = .ok (.ldc2_w 94, 3) := by decide +kernel
theorem dX10_leaveRun_37 : decode cX10_leaveRun 37 = .ok (.lstore 7, 2) := by decide +kernel
theorem dX10_leaveRun_39 : decode cX10_leaveRun 39 = .ok (.iload 4, 2) := by decide +kernel
theorem dX10_leaveRun_41 : decode cX10_leaveRun 41 = .ok (.iload_n 2, 1) := by decide +kernel
theorem dX10_leaveRun_42 : decode cX10_leaveRun 42 = .ok (.if_icmp .ne 23, 3) := by decide +kernel
theorem dX10_leaveRun_45 : decode cX10_leaveRun 45 = .ok (.iload_n 1, 1) := by decide +kernel
theorem dX10_leaveRun_46 : decode cX10_leaveRun 46 = .ok (.invokestatic 50, 3) := by decide +kernel
theorem dX10_leaveRun_49 : decode cX10_leaveRun 49 = .ok (.i2l, 1) := by decide +kernel
theorem dX10_leaveRun_50 : decode cX10_leaveRun 50 = .ok (.bipush 21, 2) := by decide +kernel
theorem dX10_leaveRun_52 : decode cX10_leaveRun 52 = .ok (.lshl, 1) := by decide +kernel
theorem dX10_leaveRun_53 : decode cX10_leaveRun 53 = .ok (.ldc2_w 141, 3) := by decide +kernel
theorem dX10_leaveRun_56 : decode cX10_leaveRun 56 = .ok (.lor, 1) := by decide +kernel
theorem dX10_leaveRun_57 : decode cX10_leaveRun 57 = .ok (.iload_n 3, 1) := by decide +kernel
theorem dX10_leaveRun_58 : decode cX10_leaveRun 58 = .ok (.i2l, 1) := by decide +kernel
theorem dX10_leaveRun_59 : decode cX10_leaveRun 59 = .ok (.lor, 1) := by decide +kernel
theorem dX10_leaveRun_60 : decode cX10_leaveRun 60 = .ok (.lstore 7, 2) := by decide +kernel
theorem dX10_leaveRun_62 : decode cX10_leaveRun 62 = .ok (.goto 27, 3) := by decide +kernel
theorem dX10_leaveRun_65 : decode cX10_leaveRun 65 = .ok (.lload 5, 2) := by decide +kernel
theorem dX10_leaveRun_67 : decode cX10_leaveRun 67 = .ok (.ldc2_w 94, 3) := by decide +kernel
theorem dX10_leaveRun_70 : decode cX10_leaveRun 70 = .ok (.lcmp, 1) := by decide +kernel
theorem dX10_leaveRun_71 : decode cX10_leaveRun 71 = .ok (.ifCond .eq 18, 3) := by decide +kernel
theorem dX10_leaveRun_74 : decode cX10_leaveRun 74 = .ok (.lload 5, 2) := by decide +kernel
theorem dX10_leaveRun_76 : decode cX10_leaveRun 76 = .ok (.bipush 13, 2) := by decide +kernel
theorem dX10_leaveRun_78 : decode cX10_leaveRun 78 = .ok (.lshr, 1) := by decide +kernel
theorem dX10_leaveRun_79 : decode cX10_leaveRun 79 = .ok (.lconst 1, 1) := by decide +kernel
theorem dX10_leaveRun_80 : decode cX10_leaveRun 80 = .ok (.ladd, 1) := by decide +kernel
theorem dX10_leaveRun_81 : decode cX10_leaveRun 81 = .ok (.bipush 13, 2) := by decide +kernel
theorem dX10_leaveRun_83 : decode cX10_leaveRun 83 = .ok (.lshl, 1) := by decide +kernel
theorem dX10_leaveRun_84 : decode cX10_leaveRun 84 = .ok (.iload_n 3, 1) := by decide +kernel
theorem dX10_leaveRun_85 : decode cX10_leaveRun 85 = .ok (.i2l, 1) := by decide +kernel
theorem dX10_leaveRun_86 : decode cX10_leaveRun 86 = .ok (.lor, 1) := by decide +kernel
theorem dX10_leaveRun_87 : decode cX10_leaveRun 87 = .ok (.lstore 7, 2) := by decide +kernel
theorem dX10_leaveRun_89 : decode cX10_leaveRun 89 = .ok (.bipush 12, 2) := by decide +kernel
theorem dX10_leaveRun_91 : decode cX10_leaveRun 91 = .ok (.bipush 10, 2) := by decide +kernel
theorem dX10_leaveRun_93 : decode cX10_leaveRun 93 = .ok (.iload_n 1, 1) := by decide +kernel
theorem dX10_leaveRun_94 : decode cX10_leaveRun 94 = .ok (.invokestatic 85, 3) := by decide +kernel
theorem dX10_leaveRun_97 : decode cX10_leaveRun 97 = .ok (.imul, 1) := by decide +kernel
theorem dX10_leaveRun_98 : decode cX10_leaveRun 98 = .ok (.iload_n 1, 1) := by decide +kernel
theorem dX10_leaveRun_99 : decode cX10_leaveRun 99 = .ok (.invokestatic 58, 3) := by decide +kernel
theorem dX10_leaveRun_102 : decode cX10_leaveRun 102 = .ok (.iadd, 1) := by decide +kernel
theorem dX10_leaveRun_103 : decode cX10_leaveRun 103 = .ok (.imul, 1) := by decide +kernel
theorem dX10_leaveRun_104 : decode cX10_leaveRun 104 = .ok (.iload 4, 2) := by decide +kernel
theorem dX10_leaveRun_106 : decode cX10_leaveRun 106 = .ok (.iadd, 1) := by decide +kernel
theorem dX10_leaveRun_107 : decode cX10_leaveRun 107 = .ok (.istore 9, 2) := by decide +kernel
theorem dX10_leaveRun_109 : decode cX10_leaveRun 109 = .ok (.aload_n 0, 1) := by decide +kernel
theorem dX10_leaveRun_110 : decode cX10_leaveRun 110 = .ok (.getfield 19, 3) := by decide +kernel
theorem dX10_leaveRun_113 : decode cX10_leaveRun 113 = .ok (.iload 9, 2) := by decide +kernel
theorem dX10_leaveRun_115 : decode cX10_leaveRun 115 = .ok (.aload_n 0, 1) := by decide +kernel
theorem dX10_leaveRun_116 : decode cX10_leaveRun 116 = .ok (.getfield 19, 3) := by decide +kernel
theorem dX10_leaveRun_119 : decode cX10_leaveRun 119 = .ok (.iload 9, 2) := by decide +kernel
theorem dX10_leaveRun_121 : decode cX10_leaveRun 121 = .ok (.laload, 1) := by decide +kernel
theorem dX10_leaveRun_122 : decode cX10_leaveRun 122 = .ok (.lload 7, 2) := by decide +kernel
theorem dX10_leaveRun_124 : decode cX10_leaveRun 124 = .ok (.invokestatic 143, 3) := by decide +kernel
theorem dX10_leaveRun_127 : decode cX10_leaveRun 127 = .ok (.lastore, 1) := by decide +kernel
theorem dX10_leaveRun_128 : decode cX10_leaveRun 128 = .ok (.iinc 4 1, 3) := by decide +kernel
theorem dX10_leaveRun_131 : decode cX10_leaveRun 131 = .ok (.goto (-118), 3) := by decide +kernel
theorem dX10_leaveRun_134 : decode cX10_leaveRun 134 = .ok (.return_, 1) := by decide +kernel
theorem dX11_init_0 : decode cX11_init 0 = .ok (.aload_n 0, 1) := by decide +kernel
theorem dX11_init_1 : decode cX11_init 1 = .ok (.invokespecial 3, 3) := by decide +kernel
theorem dX11_init_4 : decode cX11_init 4 = .ok (.aload_n 0, 1) := by decide +kernel
theorem dX11_init_5 : decode cX11_init 5 = .ok (.new 9, 3) := by decide +kernel
theorem dX11_init_8 : decode cX11_init 8 = .ok (.dup, 1) := by decide +kernel
theorem dX11_init_9 : decode cX11_init 9 = .ok (.invokespecial 11, 3) := by decide +kernel
theorem dX11_init_12 : decode cX11_init 12 = .ok (.putfield 12, 3) := by decide +kernel
theorem dX11_init_15 : decode cX11_init 15 = .ok (.aload_n 0, 1) := by decide +kernel
theorem dX11_init_16 : decode cX11_init 16 = .ok (.new 16, 3) := by decide +kernel
theorem dX11_init_19 : decode cX11_init 19 = .ok (.dup, 1) := by decide +kernel
theorem dX11_init_20 : decode cX11_init 20 = .ok (.invokespecial 18, 3) := by decide +kernel
theorem dX11_init_23 : decode cX11_init 23 = .ok (.putfield 19, 3) := by decide +kernel
theorem dX11_init_26 : decode cX11_init 26 = .ok (.aload_n 0, 1) := by decide +kernel
theorem dX11_init_27 : decode cX11_init 27 = .ok (.new 23, 3) := by decide +kernel
theorem dX11_init_30 : decode cX11_init 30 = .ok (.dup, 1) := by decide +kernel
theorem dX11_init_31 : decode cX11_init 31 = .ok (.aload_n 0, 1) := by decide +kernel
theorem dX11_init_32 : decode cX11_init 32 = .ok (.getfield 19, 3) := by decide +kernel
theorem dX11_init_35 : decode cX11_init 35 = .ok (.invokespecial 25, 3) := by decide +kernel
theorem dX11_init_38 : decode cX11_init 38 = .ok (.putfield 28, 3) := by decide +kernel
theorem dX11_init_41 : decode cX11_init 41 = .ok (.aload_n 0, 1) := by decide +kernel
theorem dX11_init_42 : decode cX11_init 42 = .ok (.new 32, 3) := by decide +kernel
theorem dX11_init_45 : decode cX11_init 45 = .ok (.dup, 1) := by decide +kernel
theorem dX11_init_46 : decode cX11_init 46 = .ok (.invokespecial 34, 3) := by decide +kernel
theorem dX11_init_49 : decode cX11_init 49 = .ok (.putfield 35, 3) := by decide +kernel
theorem dX11_init_52 : decode cX11_init 52 = .ok (.aload_n 0, 1) := by decide +kernel
theorem dX11_init_53 : decode cX11_init 53 = .ok (.new 39, 3) := by decide +kernel
theorem dX11_init_56 : decode cX11_init 56 = .ok (.dup, 1) := by decide +kernel
theorem dX11_init_57 : decode cX11_init 57 = .ok (.invokespecial 41, 3) := by decide +kernel
theorem dX11_init_60 : decode cX11_init 60 = .ok (.putfield 42, 3) := by decide +kernel
theorem dX11_init_63 : decode cX11_init 63 = .ok (.aload_n 0, 1) := by decide +kernel
theorem dX11_init_64 : decode cX11_init 64 = .ok (.bipush 120, 2) := by decide +kernel
theorem dX11_init_66 : decode cX11_init 66 = .ok (.anewarray 46, 3) := by decide +kernel
theorem dX11_init_69 : decode cX11_init 69 = .ok (.putfield 48, 3) := by decide +kernel
theorem dX11_init_72 : decode cX11_init 72 = .ok (.aload_n 0, 1) := by decide +kernel
theorem dX11_init_73 : decode cX11_init 73 = .ok (.new 52, 3) := by decide +kernel
theorem dX11_init_76 : decode cX11_init 76 = .ok (.dup, 1) := by decide +kernel
theorem dX11_init_77 : decode cX11_init 77 = .ok (.aload_n 0, 1) := by decide +kernel
theorem dX11_init_78 : decode cX11_init 78 = .ok (.getfield 19, 3) := by decide +kernel
theorem dX11_init_81 : decode cX11_init 81 = .ok (.aload_n 0, 1) := by decide +kernel
theorem dX11_init_82 : decode cX11_init 82 = .ok (.getfield 28, 3) := by decide +kernel
theorem dX11_init_85 : decode cX11_init 85 = .ok (.aload_n 0, 1) := by decide +kernel
theorem dX11_init_86 : decode cX11_init 86 = .ok (.getfield 48, 3) := by decide +kernel
theorem dX11_init_89 : decode cX11_init 89 = .ok (.invokespecial 54, 3) := by decide +kernel
theorem dX11_init_92 : decode cX11_init 92 = .ok (.putfield 57, 3) := by decide +kernel
theorem dX11_init_95 : decode cX11_init 95 = .ok (.aload_n 0, 1) := by decide +kernel
theorem dX11_init_96 : decode cX11_init 96 = .ok (.new 61, 3) := by decide +kernel
theorem dX11_init_99 : decode cX11_init 99 = .ok (.dup, 1) := by decide +kernel
theorem dX11_init_100 : decode cX11_init 100 = .ok (.aload_n 0, 1) := by decide +kernel
theorem dX11_init_101 : decode cX11_init 101 = .ok (.getfield 19, 3) := by decide +kernel
theorem dX11_init_104 : decode cX11_init 104 = .ok (.aload_n 0, 1) := by decide +kernel
theorem dX11_init_105 : decode cX11_init 105 = .ok (.getfield 28, 3) := by decide +kernel
theorem dX11_init_108 : decode cX11_init 108 = .ok (.aload_n 0, 1) := by decide +kernel
theorem dX11_init_109 : decode cX11_init 109 = .ok (.getfield 35, 3) := by decide +kernel
theorem dX11_init_112 : decode cX11_init 112 = .ok (.aload_n 0, 1) := by decide +kernel
theorem dX11_init_113 : decode cX11_init 113 = .ok (.getfield 48, 3) := by decide +kernel
theorem dX11_init_116 : decode cX11_init 116 = .ok (.aload_n 0, 1) := by decide +kernel
theorem dX11_init_117 : decode cX11_init 117 = .ok (.getfield 57, 3) := by decide +kernel
theorem dX11_init_120 : decode cX11_init 120 = .ok (.invokespecial 63, 3) := by decide +kernel
theorem dX11_init_123 : decode cX11_init 123 = .ok (.putfield 66, 3) := by decide +kernel
theorem dX11_init_126 : decode cX11_init 126 = .ok (.aload_n 0, 1) := by decide +kernel
theorem dX11_init_127 : decode cX11_init 127 = .ok (.new 61, 3) := by decide +kernel
theorem dX11_init_130 : decode cX11_init 130 = .ok (.dup, 1) := by decide +kernel
theorem dX11_init_131 : decode cX11_init 131 = .ok (.aload_n 0, 1) := by decide +kernel
theorem dX11_init_132 : decode cX11_init 132 = .ok (.getfield 19, 3) := by decide +kernel
theorem dX11_init_135 : decode cX11_init 135 = .ok (.aload_n 0, 1) := by decide +kernel
theorem dX11_init_136 : decode cX11_init 136 = .ok (.getfield 28, 3) := by decide +kernel
theorem dX11_init_139 : decode cX11_init 139 = .ok (.aload_n 0, 1) := by decide +kernel
theorem dX11_init_140 : decode cX11_init 140 = .ok (.getfield 35, 3) := by decide +kernel
theorem dX11_init_143 : decode cX11_init 143 = .ok (.aload_n 0, 1) := by decide +kernel
theorem dX11_init_144 : decode cX11_init 144 = .ok (.getfield 48, 3) := by decide +kernel
theorem dX11_init_147 : decode cX11_init 147 = .ok (.aconst_null, 1) := by decide +kernel
theorem dX11_init_148 : decode cX11_init 148 = .ok (.invokespecial 63, 3) := by decide +kernel
theorem dX11_init_151 : decode cX11_init 151 = .ok (.putfield 70, 3) := by decide +kernel
theorem dX11_init_154 : decode cX11_init 154 = .ok (.aload_n 0, 1) := by decide +kernel
theorem dX11_init_155 : decode cX11_init 155 = .ok (.bipush 10, 2) := by decide +kernel
theorem dX11_init_157 : decode cX11_init 157 = .ok (.anewarray 73, 3) := by decide +kernel
theorem dX11_init_160 : decode cX11_init 160 = .ok (.putfield 75, 3) := by decide +kernel
theorem dX11_init_163 : decode cX11_init 163 = .ok (.aload_n 0, 1) := by decide +kernel
theorem dX11_init_164 : decode cX11_init 164 = .ok (.bipush 20, 2) := by decide +kernel
theorem dX11_init_166 : decode cX11_init 166 = .ok (.newarray .int, 2) := by decide +kernel
theorem dX11_init_168 : decode cX11_init 168 = .ok (.putfield 79, 3) := by decide +kernel
theorem dX11_init_171 : decode cX11_init 171 = .ok (.aload_n 0, 1) := by decide +kernel
theorem dX11_init_172 : decode cX11_init 172 = .ok (.bipush 20, 2) := by decide +kernel
theorem dX11_init_174 : decode cX11_init 174 = .ok (.newarray .int, 2) := by decide +kernel
theorem dX11_init_176 : decode cX11_init 176 = .ok (.putfield 83, 3) := by decide +kernel
theorem dX11_init_179 : decode cX11_init 179 = .ok (.aload_n 0, 1) := by decide +kernel
theorem dX11_init_180 : decode cX11_init 180 = .ok (.bipush 120, 2) := by decide +kernel
theorem dX11_init_182 : decode cX11_init 182 = .ok (.newarray .int, 2) := by decide +kernel
theorem dX11_init_184 : decode cX11_init 184 = .ok (.putfield 86, 3) := by decide +kernel
theorem dX11_init_187 : decode cX11_init 187 = .ok (.iconst 0, 1) := by decide +kernel
theorem dX11_init_188 : decode cX11_init 188 = .ok (.istore_n 1, 1) := by decide +kernel
theorem dX11_init_189 : decode cX11_init 189 = .ok (.iload_n 1, 1) := by decide +kernel
theorem dX11_init_190 : decode cX11_init 190 = .ok (.bipush 120, 2) := by decide +kernel
theorem dX11_init_192 : decode cX11_init 192 = .ok (.if_icmp .ge 22, 3) := by decide +kernel
theorem dX11_init_195 : decode cX11_init 195 = .ok (.aload_n 0, 1) := by decide +kernel
theorem dX11_init_196 : decode cX11_init 196 = .ok (.getfield 48, 3) := by decide +kernel
theorem dX11_init_199 : decode cX11_init 199 = .ok (.iload_n 1, 1) := by decide +kernel
theorem dX11_init_200 : decode cX11_init 200 = .ok (.new 46, 3) := by decide +kernel
theorem dX11_init_203 : decode cX11_init 203 = .ok (.dup, 1) := by decide +kernel
theorem dX11_init_204 : decode cX11_init 204 = .ok (.invokespecial 89, 3) := by decide +kernel
theorem dX11_init_207 : decode cX11_init 207 = .ok (.aastore, 1) := by decide +kernel
theorem dX11_init_208 : decode cX11_init 208 = .ok (.iinc 1 1, 3) := by decide +kernel
theorem dX11_init_211 : decode cX11_init 211 = .ok (.goto (-22), 3) := by decide +kernel
theorem dX11_init_214 : decode cX11_init 214 = .ok (.iconst 0, 1) := by decide +kernel
theorem dX11_init_215 : decode cX11_init 215 = .ok (.istore_n 1, 1) := by decide +kernel
theorem dX11_init_216 : decode cX11_init 216 = .ok (.iload_n 1, 1) := by decide +kernel
theorem dX11_init_217 : decode cX11_init 217 = .ok (.bipush 10, 2) := by decide +kernel
theorem dX11_init_219 : decode cX11_init 219 = .ok (.if_icmp .ge 22, 3) := by decide +kernel
theorem dX11_init_222 : decode cX11_init 222 = .ok (.aload_n 0, 1) := by decide +kernel
theorem dX11_init_223 : decode cX11_init 223 = .ok (.getfield 75, 3) := by decide +kernel
theorem dX11_init_226 : decode cX11_init 226 = .ok (.iload_n 1, 1) := by decide +kernel
theorem dX11_init_227 : decode cX11_init 227 = .ok (.new 73, 3) := by decide +kernel
theorem dX11_init_230 : decode cX11_init 230 = .ok (.dup, 1) := by decide +kernel
theorem dX11_init_231 : decode cX11_init 231 = .ok (.invokespecial 90, 3) := by decide +kernel
theorem dX11_init_234 : decode cX11_init 234 = .ok (.aastore, 1) := by decide +kernel
theorem dX11_init_235 : decode cX11_init 235 = .ok (.iinc 1 1, 3) := by decide +kernel
theorem dX11_init_238 : decode cX11_init 238 = .ok (.goto (-22), 3) := by decide +kernel
theorem dX11_init_241 : decode cX11_init 241 = .ok (.return_, 1) := by decide +kernel
theorem dX11_town_0 : decode cX11_town 0 = .ok (.aload_n 0, 1) := by decide +kernel
theorem dX11_town_1 : decode cX11_town 1 = .ok (.getfield 12, 3) := by decide +kernel
theorem dX11_town_4 : decode cX11_town 4 = .ok (.getfield 91, 3) := by decide +kernel
theorem dX11_town_7 : decode cX11_town 7 = .ok (.bipush 12, 2) := by decide +kernel
theorem dX11_town_9 : decode cX11_town 9 = .ok (.if_icmp .lt 5, 3) := by decide +kernel
theorem dX11_town_12 : decode cX11_town 12 = .ok (.iconst (-1), 1) := by decide +kernel
theorem dX11_town_13 : decode cX11_town 13 = .ok (.ireturn, 1) := by decide +kernel
theorem dX11_town_14 : decode cX11_town 14 = .ok (.aload_n 0, 1) := by decide +kernel
theorem dX11_town_15 : decode cX11_town 15 = .ok (.getfield 12, 3) := by decide +kernel
theorem dX11_town_18 : decode cX11_town 18 = .ok (.dup, 1) := by decide +kernel
theorem dX11_town_19 : decode cX11_town 19 = .ok (.getfield 91, 3) := by decide +kernel
theorem dX11_town_22 : decode cX11_town 22 = .ok (.iconst 1, 1) := by decide +kernel
theorem dX11_town_23 : decode cX11_town 23 = .ok (.iadd, 1) := by decide +kernel
theorem dX11_town_24 : decode cX11_town 24 = .ok (.putfield 91, 3) := by decide +kernel
theorem dX11_town_27 : decode cX11_town 27 = .ok (.aload_n 0, 1) := by decide +kernel
theorem dX11_town_28 : decode cX11_town 28 = .ok (.getfield 12, 3) := by decide +kernel
theorem dX11_town_31 : decode cX11_town 31 = .ok (.getfield 91, 3) := by decide +kernel
theorem dX11_town_34 : decode cX11_town 34 = .ok (.iconst 1, 1) := by decide +kernel
theorem dX11_town_35 : decode cX11_town 35 = .ok (.isub, 1) := by decide +kernel
theorem dX11_town_36 : decode cX11_town 36 = .ok (.ireturn, 1) := by decide +kernel
theorem dX11_road_0 : decode cX11_road 0 = .ok (.aload_n 0, 1) := by decide +kernel
theorem dX11_road_1 : decode cX11_road 1 = .ok (.getfield 12, 3) := by decide +kernel
theorem dX11_road_4 : decode cX11_road 4 = .ok (.iload_n 1, 1) := by decide +kernel
theorem dX11_road_5 : decode cX11_road 5 = .ok (.invokevirtual 95, 3) := by decide +kernel
theorem dX11_road_8 : decode cX11_road 8 = .ok (.ifCond .eq 31, 3) := by decide +kernel
theorem dX11_road_11 : decode cX11_road 11 = .ok (.aload_n 0, 1) := by decide +kernel
theorem dX11_road_12 : decode cX11_road 12 = .ok (.getfield 12, 3) := by decide +kernel
theorem dX11_road_15 : decode cX11_road 15 = .ok (.iload_n 2, 1) := by decide +kernel
theorem dX11_road_16 : decode cX11_road 16 = .ok (.invokevirtual 95, 3) := by decide +kernel
theorem dX11_road_19 : decode cX11_road 19 = .ok (.ifCond .eq 20, 3) := by decide +kernel
theorem dX11_road_22 : decode cX11_road 22 = .ok (.iload_n 1, 1) := by decide +kernel
theorem dX11_road_23 : decode cX11_road 23 = .ok (.iload_n 2, 1) := by decide +kernel
theorem dX11_road_24 : decode cX11_road 24 = .ok (.if_icmp .eq 15, 3) := by decide +kernel
theorem dX11_road_27 : decode cX11_road 27 = .ok (.iload_n 3, 1) := by decide +kernel
theorem dX11_road_28 : decode cX11_road 28 = .ok (.iconst 1, 1) := by decide +kernel
theorem dX11_road_29 : decode cX11_road 29 = .ok (.if_icmp .lt 10, 3) := by decide +kernel
theorem dX11_road_32 : decode cX11_road 32 = .ok (.iload_n 3, 1) := by decide +kernel
theorem dX11_road_33 : decode cX11_road 33 = .ok (.sipush 999, 3) := by decide +kernel
theorem dX11_road_36 : decode cX11_road 36 = .ok (.if_icmp .le 5, 3) := by decide +kernel
theorem dX11_road_39 : decode cX11_road 39 = .ok (.iconst 0, 1) := by decide +kernel
theorem dX11_road_40 : decode cX11_road 40 = .ok (.ireturn, 1) := by decide +kernel
theorem dX11_road_41 : decode cX11_road 41 = .ok (.aload_n 0, 1) := by decide +kernel
theorem dX11_road_42 : decode cX11_road 42 = .ok (.getfield 12, 3) := by decide +kernel
theorem dX11_road_45 : decode cX11_road 45 = .ok (.iload_n 1, 1) := by decide +kernel
theorem dX11_road_46 : decode cX11_road 46 = .ok (.iload_n 2, 1) := by decide +kernel
theorem dX11_road_47 : decode cX11_road 47 = .ok (.iload_n 3, 1) := by decide +kernel
theorem dX11_road_48 : decode cX11_road 48 = .ok (.invokevirtual 99, 3) := by decide +kernel
theorem dX11_road_51 : decode cX11_road 51 = .ok (.iconst 1, 1) := by decide +kernel
theorem dX11_road_52 : decode cX11_road 52 = .ok (.ireturn, 1) := by decide +kernel
theorem dX11_miles_0 : decode cX11_miles 0 = .ok (.aload_n 0, 1) := by decide +kernel
theorem dX11_miles_1 : decode cX11_miles 1 = .ok (.getfield 12, 3) := by decide +kernel
theorem dX11_miles_4 : decode cX11_miles 4 = .ok (.iload_n 1, 1) := by decide +kernel
theorem dX11_miles_5 : decode cX11_miles 5 = .ok (.invokevirtual 95, 3) := by decide +kernel
theorem dX11_miles_8 : decode cX11_miles 8 = .ok (.ifCond .eq 14, 3) := by decide +kernel
theorem dX11_miles_11 : decode cX11_miles 11 = .ok (.aload_n 0, 1) := by decide +kernel
theorem dX11_miles_12 : decode cX11_miles 12 = .ok (.getfield 12, 3) := by decide +kernel
theorem dX11_miles_15 : decode cX11_miles 15 = .ok (.iload_n 2, 1) := by decide +kernel
theorem dX11_miles_16 : decode cX11_miles 16 = .ok (.invokevirtual 95, 3) := by decide +kernel
theorem dX11_miles_19 : decode cX11_miles 19 = .ok (.ifCond .ne 5, 3) := by decide +kernel
theorem dX11_miles_22 : decode cX11_miles 22 = .ok (.iconst (-1), 1) := by decide +kernel
theorem dX11_miles_23 : decode cX11_miles 23 = .ok (.ireturn, 1) := by decide +kernel
theorem dX11_miles_24 : decode cX11_miles 24 = .ok (.aload_n 0, 1) := by decide +kernel
theorem dX11_miles_25 : decode cX11_miles 25 = .ok (.getfield 12, 3) := by decide +kernel
theorem dX11_miles_28 : decode cX11_miles 28 = .ok (.iload_n 1, 1) := by decide +kernel
theorem dX11_miles_29 : decode cX11_miles 29 = .ok (.iload_n 2, 1) := by decide +kernel
theorem dX11_miles_30 : decode cX11_miles 30 = .ok (.invokevirtual 103, 3) := by decide +kernel
theorem dX11_miles_33 : decode cX11_miles 33 = .ok (.ireturn, 1) := by decide +kernel
theorem dX11_train_0 : decode cX11_train 0 = .ok (.aload_n 0, 1) := by decide +kernel
theorem dX11_train_1 : decode cX11_train 1 = .ok (.getfield 19, 3) := by decide +kernel
theorem dX11_train_4 : decode cX11_train 4 = .ok (.getfield 107, 3) := by decide +kernel
theorem dX11_train_7 : decode cX11_train 7 = .ok (.bipush 10, 2) := by decide +kernel
theorem dX11_train_9 : decode cX11_train 9 = .ok (.if_icmp .lt 5, 3) := by decide +kernel
theorem dX11_train_12 : decode cX11_train 12 = .ok (.iconst (-1), 1) := by decide +kernel
theorem dX11_train_13 : decode cX11_train 13 = .ok (.ireturn, 1) := by decide +kernel
theorem dX11_train_14 : decode cX11_train 14 = .ok (.aload_n 0, 1) := by decide +kernel
theorem dX11_train_15 : decode cX11_train 15 = .ok (.iconst 0, 1) := by decide +kernel
theorem dX11_train_16 : decode cX11_train 16 = .ok (.putfield 110, 3) := by decide +kernel
theorem dX11_train_19 : decode cX11_train 19 = .ok (.aload_n 0, 1) := by decide +kernel
theorem dX11_train_20 : decode cX11_train 20 = .ok (.getfield 19, 3) := by decide +kernel
theorem dX11_train_23 : decode cX11_train 23 = .ok (.dup, 1) := by decide +kernel
theorem dX11_train_24 : decode cX11_train 24 = .ok (.getfield 107, 3) := by decide +kernel
theorem dX11_train_27 : decode cX11_train 27 = .ok (.iconst 1, 1) := by decide +kernel
theorem dX11_train_28 : decode cX11_train 28 = .ok (.iadd, 1) := by decide +kernel
theorem dX11_train_29 : decode cX11_train 29 = .ok (.putfield 107, 3) := by decide +kernel
theorem dX11_train_32 : decode cX11_train 32 = .ok (.aload_n 0, 1) := by decide +kernel
theorem dX11_train_33 : decode cX11_train 33 = .ok (.getfield 19, 3) := by decide +kernel
theorem dX11_train_36 : decode cX11_train 36 = .ok (.getfield 107, 3) := by decide +kernel
theorem dX11_train_39 : decode cX11_train 39 = .ok (.iconst 1, 1) := by decide +kernel
theorem dX11_train_40 : decode cX11_train 40 = .ok (.isub, 1) := by decide +kernel
theorem dX11_train_41 : decode cX11_train 41 = .ok (.ireturn, 1) := by decide +kernel
theorem dX11_stop_0 : decode cX11_stop 0 = .ok (.aload_n 0, 1) := by decide +kernel
theorem dX11_stop_1 : decode cX11_stop 1 = .ok (.getfield 114, 3) := by decide +kernel
theorem dX11_stop_4 : decode cX11_stop 4 = .ok (.ifCond .gt 25, 3) := by decide +kernel
theorem dX11_stop_7 : decode cX11_stop 7 = .ok (.aload_n 0, 1) := by decide +kernel
theorem dX11_stop_8 : decode cX11_stop 8 = .ok (.getfield 19, 3) := by decide +kernel
theorem dX11_stop_11 : decode cX11_stop 11 = .ok (.iload_n 1, 1) := by decide +kernel
theorem dX11_stop_12 : decode cX11_stop 12 = .ok (.invokevirtual 117, 3) := by decide +kernel
theorem dX11_stop_15 : decode cX11_stop 15 = .ok (.ifCond .eq 14, 3) := by decide +kernel
theorem dX11_stop_18 : decode cX11_stop 18 = .ok (.aload_n 0, 1) := by decide +kernel
theorem dX11_stop_19 : decode cX11_stop 19 = .ok (.getfield 12, 3) := by decide +kernel
theorem dX11_stop_22 : decode cX11_stop 22 = .ok (.iload_n 2, 1) := by decide +kernel
theorem dX11_stop_23 : decode cX11_stop 23 = .ok (.invokevirtual 95, 3) := by decide +kernel
theorem dX11_stop_26 : decode cX11_stop 26 = .ok (.ifCond .ne 5, 3) := by decide +kernel
theorem dX11_stop_29 : decode cX11_stop 29 = .ok (.iconst (-1), 1) := by decide +kernel
theorem dX11_stop_30 : decode cX11_stop 30 = .ok (.ireturn, 1) := by decide +kernel
theorem dX11_stop_31 : decode cX11_stop 31 = .ok (.aload_n 0, 1) := by decide +kernel
theorem dX11_stop_32 : decode cX11_stop 32 = .ok (.getfield 19, 3) := by decide +kernel
theorem dX11_stop_35 : decode cX11_stop 35 = .ok (.iload_n 1, 1) := by decide +kernel
theorem dX11_stop_36 : decode cX11_stop 36 = .ok (.iload_n 2, 1) := by decide +kernel
theorem dX11_stop_37 : decode cX11_stop 37 = .ok (.iload_n 3, 1) := by decide +kernel
theorem dX11_stop_38 : decode cX11_stop 38 = .ok (.iload 4, 2) := by decide +kernel
theorem dX11_stop_40 : decode cX11_stop 40 = .ok (.iload 5, 2) := by decide +kernel
theorem dX11_stop_42 : decode cX11_stop 42 = .ok (.invokevirtual 118, 3) := by decide +kernel
theorem dX11_stop_45 : decode cX11_stop 45 = .ok (.istore 6, 2) := by decide +kernel
theorem dX11_stop_47 : decode cX11_stop 47 = .ok (.iload 6, 2) := by decide +kernel
theorem dX11_stop_49 : decode cX11_stop 49 = .ok (.iconst (-1), 1) := by decide +kernel
theorem dX11_stop_50 : decode cX11_stop 50 = .ok (.if_icmp .eq 7, 3) := by decide +kernel
theorem dX11_stop_53 : decode cX11_stop 53 = .ok (.aload_n 0, 1) := by decide +kernel
theorem dX11_stop_54 : decode cX11_stop 54 = .ok (.invokevirtual 122, 3) := by decide +kernel
theorem dX11_stop_57 : decode cX11_stop 57 = .ok (.iload 6, 2) := by decide +kernel
theorem dX11_stop_59 : decode cX11_stop 59 = .ok (.ireturn, 1) := by decide +kernel
theorem dX11_stopOf_0 : decode cX11_stopOf 0 = .ok (.aload_n 0, 1) := by decide +kernel
theorem dX11_stopOf_1 : decode cX11_stopOf 1 = .ok (.getfield 19, 3) := by decide +kernel
theorem dX11_stopOf_4 : decode cX11_stopOf 4 = .ok (.iload_n 1, 1) := by decide +kernel
theorem dX11_stopOf_5 : decode cX11_stopOf 5 = .ok (.invokevirtual 117, 3) := by decide +kernel
theorem dX11_stopOf_8 : decode cX11_stopOf 8 = .ok (.ifCond .ne 5, 3) := by decide +kernel
theorem dX11_stopOf_11 : decode cX11_stopOf 11 = .ok (.iconst (-1), 1) := by decide +kernel
theorem dX11_stopOf_12 : decode cX11_stopOf 12 = .ok (.ireturn, 1) := by decide +kernel
theorem dX11_stopOf_13 : decode cX11_stopOf 13 = .ok (.iload_n 2, 1) := by decide +kernel
theorem dX11_stopOf_14 : decode cX11_stopOf 14 = .ok (.iconst (-1), 1) := by decide +kernel
theorem dX11_stopOf_15 : decode cX11_stopOf 15 = .ok (.if_icmp .ne 21, 3) := by decide +kernel
theorem dX11_stopOf_18 : decode cX11_stopOf 18 = .ok (.iload_n 3, 1) := by decide +kernel
theorem dX11_stopOf_19 : decode cX11_stopOf 19 = .ok (.ifCond .ne 15, 3) := by decide +kernel
theorem dX11_stopOf_22 : decode cX11_stopOf 22 = .ok (.aload_n 0, 1) := by decide +kernel
theorem dX11_stopOf_23 : decode cX11_stopOf 23 = .ok (.getfield 19, 3) := by decide +kernel
theorem dX11_stopOf_26 : decode cX11_stopOf 26 = .ok (.getfield 125, 3) := by decide +kernel
theorem dX11_stopOf_29 : decode cX11_stopOf 29 = .ok (.iload_n 1, 1) := by decide +kernel
theorem dX11_stopOf_30 : decode cX11_stopOf 30 = .ok (.iaload, 1) := by decide +kernel
theorem dX11_stopOf_31 : decode cX11_stopOf 31 = .ok (.goto 4, 3) := by decide +kernel
theorem dX11_stopOf_34 : decode cX11_stopOf 34 = .ok (.iconst (-1), 1) := by decide +kernel
theorem dX11_stopOf_35 : decode cX11_stopOf 35 = .ok (.ireturn, 1) := by decide +kernel
theorem dX11_stopOf_36 : decode cX11_stopOf 36 = .ok (.iload_n 2, 1) := by decide +kernel
theorem dX11_stopOf_37 : decode cX11_stopOf 37 = .ok (.ifCond .lt 16, 3) := by decide +kernel
theorem dX11_stopOf_40 : decode cX11_stopOf 40 = .ok (.iload_n 2, 1) := by decide +kernel
theorem dX11_stopOf_41 : decode cX11_stopOf 41 = .ok (.aload_n 0, 1) := by decide +kernel
theorem dX11_stopOf_42 : decode cX11_stopOf 42 = .ok (.getfield 19, 3) := by decide +kernel
theorem dX11_stopOf_45 : decode cX11_stopOf 45 = .ok (.getfield 125, 3) := by decide +kernel
theorem dX11_stopOf_48 : decode cX11_stopOf 48 = .ok (.iload_n 1, 1) := by decide +kernel
theorem dX11_stopOf_49 : decode cX11_stopOf 49 = .ok (.iaload, 1) := by decide +kernel
theorem dX11_stopOf_50 : decode cX11_stopOf 50 = .ok (.if_icmp .lt 5, 3) := by decide +kernel
theorem dX11_stopOf_53 : decode cX11_stopOf 53 = .ok (.iconst (-1), 1) := by decide +kernel
theorem dX11_stopOf_54 : decode cX11_stopOf 54 = .ok (.ireturn, 1) := by decide +kernel
theorem dX11_stopOf_55 : decode cX11_stopOf 55 = .ok (.bipush 8, 2) := by decide +kernel
theorem dX11_stopOf_57 : decode cX11_stopOf 57 = .ok (.iload_n 1, 1) := by decide +kernel
theorem dX11_stopOf_58 : decode cX11_stopOf 58 = .ok (.imul, 1) := by decide +kernel
theorem dX11_stopOf_59 : decode cX11_stopOf 59 = .ok (.iload_n 2, 1) := by decide +kernel
theorem dX11_stopOf_60 : decode cX11_stopOf 60 = .ok (.iadd, 1) := by decide +kernel
theorem dX11_stopOf_61 : decode cX11_stopOf 61 = .ok (.istore 4, 2) := by decide +kernel
theorem dX11_stopOf_63 : decode cX11_stopOf 63 = .ok (.iload_n 3, 1) := by decide +kernel
theorem dX11_stopOf_64 : decode cX11_stopOf 64 = .ok (.tableswitch 84 0 3 #[32, 43, 54, 65], 32) := by decide +kernel
theorem dX11_stopOf_96 : decode cX11_stopOf 96 = .ok (.aload_n 0, 1) := by decide +kernel
theorem dX11_stopOf_97 : decode cX11_stopOf 97 = .ok (.getfield 19, 3) := by decide +kernel
theorem dX11_stopOf_100 : decode cX11_stopOf 100 = .ok (.getfield 128, 3) := by decide +kernel
theorem dX11_stopOf_103 : decode cX11_stopOf 103 = .ok (.iload 4, 2) := by decide +kernel
theorem dX11_stopOf_105 : decode cX11_stopOf 105 = .ok (.iaload, 1) := by decide +kernel
theorem dX11_stopOf_106 : decode cX11_stopOf 106 = .ok (.ireturn, 1) := by decide +kernel
theorem dX11_stopOf_107 : decode cX11_stopOf 107 = .ok (.aload_n 0, 1) := by decide +kernel
theorem dX11_stopOf_108 : decode cX11_stopOf 108 = .ok (.getfield 19, 3) := by decide +kernel
theorem dX11_stopOf_111 : decode cX11_stopOf 111 = .ok (.getfield 131, 3) := by decide +kernel
theorem dX11_stopOf_114 : decode cX11_stopOf 114 = .ok (.iload 4, 2) := by decide +kernel
theorem dX11_stopOf_116 : decode cX11_stopOf 116 = .ok (.iaload, 1) := by decide +kernel
theorem dX11_stopOf_117 : decode cX11_stopOf 117 = .ok (.ireturn, 1) := by decide +kernel
theorem dX11_stopOf_118 : decode cX11_stopOf 118 = .ok (.aload_n 0, 1) := by decide +kernel
theorem dX11_stopOf_119 : decode cX11_stopOf 119 = .ok (.getfield 19, 3) := by decide +kernel
theorem dX11_stopOf_122 : decode cX11_stopOf 122 = .ok (.getfield 134, 3) := by decide +kernel
theorem dX11_stopOf_125 : decode cX11_stopOf 125 = .ok (.iload 4, 2) := by decide +kernel
theorem dX11_stopOf_127 : decode cX11_stopOf 127 = .ok (.iaload, 1) := by decide +kernel
theorem dX11_stopOf_128 : decode cX11_stopOf 128 = .ok (.ireturn, 1) := by decide +kernel
theorem dX11_stopOf_129 : decode cX11_stopOf 129 = .ok (.aload_n 0, 1) := by decide +kernel
theorem dX11_stopOf_130 : decode cX11_stopOf 130 = .ok (.getfield 19, 3) := by decide +kernel
theorem dX11_stopOf_133 : decode cX11_stopOf 133 = .ok (.getfield 137, 3) := by decide +kernel
theorem dX11_stopOf_136 : decode cX11_stopOf 136 = .ok (.iload 4, 2) := by decide +kernel
theorem dX11_stopOf_138 : decode cX11_stopOf 138 = .ok (.baload, 1) := by decide +kernel
theorem dX11_stopOf_139 : decode cX11_stopOf 139 = .ok (.ifCond .eq 7, 3) := by decide +kernel
theorem dX11_stopOf_142 : decode cX11_stopOf 142 = .ok (.iconst 1, 1) := by decide +kernel
theorem dX11_stopOf_143 : decode cX11_stopOf 143 = .ok (.goto 4, 3) := by decide +kernel
theorem dX11_stopOf_146 : decode cX11_stopOf 146 = .ok (.iconst 0, 1) := by decide +kernel
theorem dX11_stopOf_147 : decode cX11_stopOf 147 = .ok (.ireturn, 1) := by decide +kernel
theorem dX11_stopOf_148 : decode cX11_stopOf 148 = .ok (.iconst (-1), 1) := by decide +kernel
theorem dX11_stopOf_149 : decode cX11_stopOf 149 = .ok (.ireturn, 1) := by decide +kernel
theorem dX11_late_0 : decode cX11_late 0 = .ok (.aload_n 0, 1) := by decide +kernel
theorem dX11_late_1 : decode cX11_late 1 = .ok (.iload_n 1, 1) := by decide +kernel
theorem dX11_late_2 : decode cX11_late 2 = .ok (.iload_n 2, 1) := by decide +kernel
theorem dX11_late_3 : decode cX11_late 3 = .ok (.iload_n 3, 1) := by decide +kernel
theorem dX11_late_4 : decode cX11_late 4 = .ok (.invokevirtual 141, 3) := by decide +kernel
theorem dX11_late_7 : decode cX11_late 7 = .ok (.ifCond .ne 5, 3) := by decide +kernel
theorem dX11_late_10 : decode cX11_late 10 = .ok (.iconst 0, 1) := by decide +kernel
theorem dX11_late_11 : decode cX11_late 11 = .ok (.ireturn, 1) := by decide +kernel
theorem dX11_late_12 : decode cX11_late 12 = .ok (.aload_n 0, 1) := by decide +kernel
theorem dX11_late_13 : decode cX11_late 13 = .ok (.getfield 19, 3) := by decide +kernel
theorem dX11_late_16 : decode cX11_late 16 = .ok (.getfield 145, 3) := by decide +kernel
theorem dX11_late_19 : decode cX11_late 19 = .ok (.bipush 10, 2) := by decide +kernel
theorem dX11_late_21 : decode cX11_late 21 = .ok (.iload_n 2, 1) := by decide +kernel
theorem dX11_late_22 : decode cX11_late 22 = .ok (.imul, 1) := by decide +kernel
theorem dX11_late_23 : decode cX11_late 23 = .ok (.iload_n 1, 1) := by decide +kernel
theorem dX11_late_24 : decode cX11_late 24 = .ok (.iadd, 1) := by decide +kernel
theorem dX11_late_25 : decode cX11_late 25 = .ok (.iload_n 3, 1) := by decide +kernel
theorem dX11_late_26 : decode cX11_late 26 = .ok (.iastore, 1) := by decide +kernel
theorem dX11_late_27 : decode cX11_late 27 = .ok (.aload_n 0, 1) := by decide +kernel
theorem dX11_late_28 : decode cX11_late 28 = .ok (.invokevirtual 122, 3) := by decide +kernel
theorem dX11_late_31 : decode cX11_late 31 = .ok (.iconst 1, 1) := by decide +kernel
theorem dX11_late_32 : decode cX11_late 32 = .ok (.ireturn, 1) := by decide +kernel
theorem dX11_miss_0 : decode cX11_miss 0 = .ok (.aload_n 0, 1) := by decide +kernel
theorem dX11_miss_1 : decode cX11_miss 1 = .ok (.getfield 19, 3) := by decide +kernel
theorem dX11_miss_4 : decode cX11_miss 4 = .ok (.iload_n 1, 1) := by decide +kernel
theorem dX11_miss_5 : decode cX11_miss 5 = .ok (.iload_n 2, 1) := by decide +kernel
theorem dX11_miss_6 : decode cX11_miss 6 = .ok (.invokevirtual 148, 3) := by decide +kernel
theorem dX11_miss_9 : decode cX11_miss 9 = .ok (.ifCond .eq 22, 3) := by decide +kernel
theorem dX11_miss_12 : decode cX11_miss 12 = .ok (.iload_n 3, 1) := by decide +kernel
theorem dX11_miss_13 : decode cX11_miss 13 = .ok (.ifCond .lt 18, 3) := by decide +kernel
theorem dX11_miss_16 : decode cX11_miss 16 = .ok (.iload_n 3, 1) := by decide +kernel
theorem dX11_miss_17 : decode cX11_miss 17 = .ok (.aload_n 0, 1) := by decide +kernel
theorem dX11_miss_18 : decode cX11_miss 18 = .ok (.getfield 19, 3) := by decide +kernel
theorem dX11_miss_21 : decode cX11_miss 21 = .ok (.getfield 125, 3) := by decide +kernel
theorem dX11_miss_24 : decode cX11_miss 24 = .ok (.iload_n 1, 1) := by decide +kernel
theorem dX11_miss_25 : decode cX11_miss 25 = .ok (.iaload, 1) := by decide +kernel
theorem dX11_miss_26 : decode cX11_miss 26 = .ok (.iconst 1, 1) := by decide +kernel
theorem dX11_miss_27 : decode cX11_miss 27 = .ok (.isub, 1) := by decide +kernel
theorem dX11_miss_28 : decode cX11_miss 28 = .ok (.if_icmp .lt 5, 3) := by decide +kernel
theorem dX11_miss_31 : decode cX11_miss 31 = .ok (.iconst 0, 1) := by decide +kernel
theorem dX11_miss_32 : decode cX11_miss 32 = .ok (.ireturn, 1) := by decide +kernel
theorem dX11_miss_33 : decode cX11_miss 33 = .ok (.bipush 10, 2) := by decide +kernel
theorem dX11_miss_35 : decode cX11_miss 35 = .ok (.iload_n 2, 1) := by decide +kernel
theorem dX11_miss_36 : decode cX11_miss 36 = .ok (.imul, 1) := by decide +kernel
theorem dX11_miss_37 : decode cX11_miss 37 = .ok (.iload_n 1, 1) := by decide +kernel
theorem dX11_miss_38 : decode cX11_miss 38 = .ok (.iadd, 1) := by decide +kernel
theorem dX11_miss_39 : decode cX11_miss 39 = .ok (.istore 4, 2) := by decide +kernel
theorem dX11_miss_41 : decode cX11_miss 41 = .ok (.aload_n 0, 1) := by decide +kernel
theorem dX11_miss_42 : decode cX11_miss 42 = .ok (.getfield 19, 3) := by decide +kernel
theorem dX11_miss_45 : decode cX11_miss 45 = .ok (.getfield 137, 3) := by decide +kernel
theorem dX11_miss_48 : decode cX11_miss 48 = .ok (.bipush 8, 2) := by decide +kernel
theorem dX11_miss_50 : decode cX11_miss 50 = .ok (.iload_n 1, 1) := by decide +kernel
theorem dX11_miss_51 : decode cX11_miss 51 = .ok (.imul, 1) := by decide +kernel
theorem dX11_miss_52 : decode cX11_miss 52 = .ok (.iload_n 3, 1) := by decide +kernel
theorem dX11_miss_53 : decode cX11_miss 53 = .ok (.iadd, 1) := by decide +kernel
theorem dX11_miss_54 : decode cX11_miss 54 = .ok (.baload, 1) := by decide +kernel
theorem dX11_miss_55 : decode cX11_miss 55 = .ok (.ifCond .eq 33, 3) := by decide +kernel
theorem dX11_miss_58 : decode cX11_miss 58 = .ok (.aload_n 0, 1) := by decide +kernel
theorem dX11_miss_59 : decode cX11_miss 59 = .ok (.getfield 19, 3) := by decide +kernel
theorem dX11_miss_62 : decode cX11_miss 62 = .ok (.iload 4, 2) := by decide +kernel
theorem dX11_miss_64 : decode cX11_miss 64 = .ok (.iload_n 3, 1) := by decide +kernel
theorem dX11_miss_65 : decode cX11_miss 65 = .ok (.invokevirtual 152, 3) := by decide +kernel
theorem dX11_miss_68 : decode cX11_miss 68 = .ok (.ifCond .ne 20, 3) := by decide +kernel
theorem dX11_miss_71 : decode cX11_miss 71 = .ok (.aload_n 0, 1) := by decide +kernel
theorem dX11_miss_72 : decode cX11_miss 72 = .ok (.getfield 19, 3) := by decide +kernel
theorem dX11_miss_75 : decode cX11_miss 75 = .ok (.iload_n 1, 1) := by decide +kernel
theorem dX11_miss_76 : decode cX11_miss 76 = .ok (.iload_n 2, 1) := by decide +kernel
theorem dX11_miss_77 : decode cX11_miss 77 = .ok (.iload_n 3, 1) := by decide +kernel
theorem dX11_miss_78 : decode cX11_miss 78 = .ok (.invokevirtual 155, 3) := by decide +kernel
theorem dX11_miss_81 : decode cX11_miss 81 = .ok (.aload_n 0, 1) := by decide +kernel
theorem dX11_miss_82 : decode cX11_miss 82 = .ok (.getfield 114, 3) := by decide +kernel
theorem dX11_miss_85 : decode cX11_miss 85 = .ok (.if_icmp .gt 5, 3) := by decide +kernel
theorem dX11_miss_88 : decode cX11_miss 88 = .ok (.iconst 0, 1) := by decide +kernel
theorem dX11_miss_89 : decode cX11_miss 89 = .ok (.ireturn, 1) := by decide +kernel
theorem dX11_miss_90 : decode cX11_miss 90 = .ok (.aload_n 0, 1) := by decide +kernel
theorem dX11_miss_91 : decode cX11_miss 91 = .ok (.getfield 19, 3) := by decide +kernel
theorem dX11_miss_94 : decode cX11_miss 94 = .ok (.getfield 159, 3) := by decide +kernel
theorem dX11_miss_97 : decode cX11_miss 97 = .ok (.iload 4, 2) := by decide +kernel
theorem dX11_miss_99 : decode cX11_miss 99 = .ok (.dup2, 1) := by decide +kernel
theorem dX11_miss_100 : decode cX11_miss 100 = .ok (.iaload, 1) := by decide +kernel
theorem dX11_miss_101 : decode cX11_miss 101 = .ok (.iconst 1, 1) := by decide +kernel
theorem dX11_miss_102 : decode cX11_miss 102 = .ok (.iload_n 3, 1) := by decide +kernel
theorem dX11_miss_103 : decode cX11_miss 103 = .ok (.ishl, 1) := by decide +kernel
theorem dX11_miss_104 : decode cX11_miss 104 = .ok (.ior, 1) := by decide +kernel
theorem dX11_miss_105 : decode cX11_miss 105 = .ok (.iastore, 1) := by decide +kernel
theorem dX11_miss_106 : decode cX11_miss 106 = .ok (.aload_n 0, 1) := by decide +kernel
theorem dX11_miss_107 : decode cX11_miss 107 = .ok (.iconst 0, 1) := by decide +kernel
theorem dX11_miss_108 : decode cX11_miss 108 = .ok (.putfield 110, 3) := by decide +kernel
theorem dX11_miss_111 : decode cX11_miss 111 = .ok (.iconst 1, 1) := by decide +kernel
theorem dX11_miss_112 : decode cX11_miss 112 = .ok (.ireturn, 1) := by decide +kernel
theorem dX11_minutes_0 : decode cX11_minutes 0 = .ok (.iload_n 1, 1) := by decide +kernel
theorem dX11_minutes_1 : decode cX11_minutes 1 = .ok (.iconst 1, 1) := by decide +kernel
theorem dX11_minutes_2 : decode cX11_minutes 2 = .ok (.if_icmp .lt 22, 3) := by decide +kernel
theorem dX11_minutes_5 : decode cX11_minutes 5 = .ok (.iload_n 1, 1) := by decide +kernel
theorem dX11_minutes_6 : decode cX11_minutes 6 = .ok (.sipush 3000, 3) := by decide +kernel
theorem dX11_minutes_9 : decode cX11_minutes 9 = .ok (.if_icmp .gt 15, 3) := by decide +kernel
theorem dX11_minutes_12 : decode cX11_minutes 12 = .ok (.aload_n 0, 1) := by decide +kernel
theorem dX11_minutes_13 : decode cX11_minutes 13 = .ok (.getfield 114, 3) := by decide +kernel
theorem dX11_minutes_16 : decode cX11_minutes 16 = .ok (.iload_n 1, 1) := by decide +kernel
theorem dX11_minutes_17 : decode cX11_minutes 17 = .ok (.iadd, 1) := by decide +kernel
theorem dX11_minutes_18 : decode cX11_minutes 18 = .ok (.sipush 10079, 3) := by decide +kernel
theorem dX11_minutes_21 : decode cX11_minutes 21 = .ok (.if_icmp .le 5, 3) := by decide +kernel
theorem dX11_minutes_24 : decode cX11_minutes 24 = .ok (.iconst (-1), 1) := by decide +kernel
theorem dX11_minutes_25 : decode cX11_minutes 25 = .ok (.ireturn, 1) := by decide +kernel
theorem dX11_minutes_26 : decode cX11_minutes 26 = .ok (.aload_n 0, 1) := by decide +kernel
theorem dX11_minutes_27 : decode cX11_minutes 27 = .ok (.iconst 0, 1) := by decide +kernel
theorem dX11_minutes_28 : decode cX11_minutes 28 = .ok (.putfield 110, 3) := by decide +kernel
theorem dX11_minutes_31 : decode cX11_minutes 31 = .ok (.aload_n 0, 1) := by decide +kernel
theorem dX11_minutes_32 : decode cX11_minutes 32 = .ok (.getfield 28, 3) := by decide +kernel
theorem dX11_minutes_35 : decode cX11_minutes 35 = .ok (.invokevirtual 162, 3) := by decide +kernel
theorem dX11_minutes_38 : decode cX11_minutes 38 = .ok (.aload_n 0, 1) := by decide +kernel
theorem dX11_minutes_39 : decode cX11_minutes 39 = .ok (.getfield 66, 3) := by decide +kernel
theorem dX11_minutes_42 : decode cX11_minutes 42 = .ok (.aload_n 0, 1) := by decide +kernel
theorem dX11_minutes_43 : decode cX11_minutes 43 = .ok (.getfield 114, 3) := by decide +kernel
theorem dX11_minutes_46 : decode cX11_minutes 46 = .ok (.aload_n 0, 1) := by decide +kernel
theorem dX11_minutes_47 : decode cX11_minutes 47 = .ok (.getfield 114, 3) := by decide +kernel
theorem dX11_minutes_50 : decode cX11_minutes 50 = .ok (.iload_n 1, 1) := by decide +kernel
theorem dX11_minutes_51 : decode cX11_minutes 51 = .ok (.iadd, 1) := by decide +kernel
theorem dX11_minutes_52 : decode cX11_minutes 52 = .ok (.invokevirtual 165, 3) := by decide +kernel
theorem dX11_minutes_55 : decode cX11_minutes 55 = .ok (.aload_n 0, 1) := by decide +kernel
theorem dX11_minutes_56 : decode cX11_minutes 56 = .ok (.dup, 1) := by decide +kernel
theorem dX11_minutes_57 : decode cX11_minutes 57 = .ok (.getfield 114, 3) := by decide +kernel
theorem dX11_minutes_60 : decode cX11_minutes 60 = .ok (.iload_n 1, 1) := by decide +kernel
theorem dX11_minutes_61 : decode cX11_minutes 61 = .ok (.iadd, 1) := by decide +kernel
theorem dX11_minutes_62 : decode cX11_minutes 62 = .ok (.putfield 114, 3) := by decide +kernel
theorem dX11_minutes_65 : decode cX11_minutes 65 = .ok (.aload_n 0, 1) := by decide +kernel
theorem dX11_minutes_66 : decode cX11_minutes 66 = .ok (.getfield 114, 3) := by decide +kernel
theorem dX11_minutes_69 : decode cX11_minutes 69 = .ok (.ireturn, 1) := by decide +kernel
theorem dX11_look_0 : decode cX11_look 0 = .ok (.iload_n 1, 1) := by decide +kernel
theorem dX11_look_1 : decode cX11_look 1 = .ok (.bipush 10, 2) := by decide +kernel
theorem dX11_look_3 : decode cX11_look 3 = .ok (.if_icmp .lt 21, 3) := by decide +kernel
theorem dX11_look_6 : decode cX11_look 6 = .ok (.iload_n 1, 1) := by decide +kernel
theorem dX11_look_7 : decode cX11_look 7 = .ok (.bipush 16, 2) := by decide +kernel
theorem dX11_look_9 : decode cX11_look 9 = .ok (.if_icmp .gt 15, 3) := by decide +kernel
theorem dX11_look_12 : decode cX11_look 12 = .ok (.aload_n 0, 1) := by decide +kernel
theorem dX11_look_13 : decode cX11_look 13 = .ok (.getfield 66, 3) := by decide +kernel
theorem dX11_look_16 : decode cX11_look 16 = .ok (.iload_n 1, 1) := by decide +kernel
theorem dX11_look_17 : decode cX11_look 17 = .ok (.bipush 10, 2) := by decide +kernel
theorem dX11_look_19 : decode cX11_look 19 = .ok (.isub, 1) := by decide +kernel
theorem dX11_look_20 : decode cX11_look 20 = .ok (.invokevirtual 169, 3) := by decide +kernel
theorem dX11_look_23 : decode cX11_look 23 = .ok (.ireturn, 1) := by decide +kernel
theorem dX11_look_24 : decode cX11_look 24 = .ok (.iload_n 1, 1) := by decide +kernel
theorem dX11_look_25 : decode cX11_look 25 = .ok (.tableswitch 84 0 5 #[39, 44, 52, 60, 68, 76], 39) := by decide +kernel
theorem dX11_look_64 : decode cX11_look 64 = .ok (.aload_n 0, 1) := by decide +kernel
theorem dX11_look_65 : decode cX11_look 65 = .ok (.getfield 114, 3) := by decide +kernel
theorem dX11_look_68 : decode cX11_look 68 = .ok (.ireturn, 1) := by decide +kernel
theorem dX11_look_69 : decode cX11_look 69 = .ok (.aload_n 0, 1) := by decide +kernel
theorem dX11_look_70 : decode cX11_look 70 = .ok (.getfield 12, 3) := by decide +kernel
theorem dX11_look_73 : decode cX11_look 73 = .ok (.getfield 91, 3) := by decide +kernel
theorem dX11_look_76 : decode cX11_look 76 = .ok (.ireturn, 1) := by decide +kernel
theorem dX11_look_77 : decode cX11_look 77 = .ok (.aload_n 0, 1) := by decide +kernel
theorem dX11_look_78 : decode cX11_look 78 = .ok (.getfield 19, 3) := by decide +kernel
theorem dX11_look_81 : decode cX11_look 81 = .ok (.getfield 107, 3) := by decide +kernel
theorem dX11_look_84 : decode cX11_look 84 = .ok (.ireturn, 1) := by decide +kernel
theorem dX11_look_85 : decode cX11_look 85 = .ok (.aload_n 0, 1) := by decide +kernel
theorem dX11_look_86 : decode cX11_look 86 = .ok (.getfield 66, 3) := by decide +kernel
theorem dX11_look_89 : decode cX11_look 89 = .ok (.getfield 173, 3) := by decide +kernel
theorem dX11_look_92 : decode cX11_look 92 = .ok (.ireturn, 1) := by decide +kernel
theorem dX11_look_93 : decode cX11_look 93 = .ok (.aload_n 0, 1) := by decide +kernel
theorem dX11_look_94 : decode cX11_look 94 = .ok (.getfield 35, 3) := by decide +kernel
theorem dX11_look_97 : decode cX11_look 97 = .ok (.getfield 174, 3) := by decide +kernel
theorem dX11_look_100 : decode cX11_look 100 = .ok (.ireturn, 1) := by decide +kernel
theorem dX11_look_101 : decode cX11_look 101 = .ok (.aload_n 0, 1) := by decide +kernel
theorem dX11_look_102 : decode cX11_look 102 = .ok (.getfield 42, 3) := by decide +kernel
theorem dX11_look_105 : decode cX11_look 105 = .ok (.getfield 175, 3) := by decide +kernel
theorem dX11_look_108 : decode cX11_look 108 = .ok (.ireturn, 1) := by decide +kernel
theorem dX11_look_109 : decode cX11_look 109 = .ok (.iconst (-1), 1) := by decide +kernel
theorem dX11_look_110 : decode cX11_look 110 = .ok (.ireturn, 1) := by decide +kernel
theorem dX11_feed_0 : decode cX11_feed 0 = .ok (.aload_n 0, 1) := by decide +kernel
theorem dX11_feed_1 : decode cX11_feed 1 = .ok (.getfield 42, 3) := by decide +kernel
theorem dX11_feed_4 : decode cX11_feed 4 = .ok (.getfield 176, 3) := by decide +kernel
theorem dX11_feed_7 : decode cX11_feed 7 = .ok (.astore 6, 2) := by decide +kernel
theorem dX11_feed_9 : decode cX11_feed 9 = .ok (.aload 6, 2) := by decide +kernel
theorem dX11_feed_11 : decode cX11_feed 11 = .ok (.getfield 180, 3) := by decide +kernel
theorem dX11_feed_14 : decode cX11_feed 14 = .ok (.bipush 20, 2) := by decide +kernel
theorem dX11_feed_16 : decode cX11_feed 16 = .ok (.iadd, 1) := by decide +kernel
theorem dX11_feed_17 : decode cX11_feed 17 = .ok (.sipush 600, 3) := by decide +kernel
theorem dX11_feed_20 : decode cX11_feed 20 = .ok (.if_icmp .le 5, 3) := by decide +kernel
theorem dX11_feed_23 : decode cX11_feed 23 = .ok (.iconst (-1), 1) := by decide +kernel
theorem dX11_feed_24 : decode cX11_feed 24 = .ok (.ireturn, 1) := by decide +kernel
theorem dX11_feed_25 : decode cX11_feed 25 = .ok (.aload 6, 2) := by decide +kernel
theorem dX11_feed_27 : decode cX11_feed 27 = .ok (.iload_n 1, 1) := by decide +kernel
theorem dX11_feed_28 : decode cX11_feed 28 = .ok (.invokevirtual 185, 3) := by decide +kernel
theorem dX11_feed_31 : decode cX11_feed 31 = .ok (.aload 6, 2) := by decide +kernel
theorem dX11_feed_33 : decode cX11_feed 33 = .ok (.iload_n 2, 1) := by decide +kernel
theorem dX11_feed_34 : decode cX11_feed 34 = .ok (.invokevirtual 185, 3) := by decide +kernel
theorem dX11_feed_37 : decode cX11_feed 37 = .ok (.aload 6, 2) := by decide +kernel
theorem dX11_feed_39 : decode cX11_feed 39 = .ok (.iload_n 3, 1) := by decide +kernel
theorem dX11_feed_40 : decode cX11_feed 40 = .ok (.invokevirtual 185, 3) := by decide +kernel
theorem dX11_feed_43 : decode cX11_feed 43 = .ok (.aload 6, 2) := by decide +kernel
theorem dX11_feed_45 : decode cX11_feed 45 = .ok (.iload 4, 2) := by decide +kernel
theorem dX11_feed_47 : decode cX11_feed 47 = .ok (.invokevirtual 185, 3) := by decide +kernel
theorem dX11_feed_50 : decode cX11_feed 50 = .ok (.aload 6, 2) := by decide +kernel
theorem dX11_feed_52 : decode cX11_feed 52 = .ok (.iload 5, 2) := by decide +kernel
theorem dX11_feed_54 : decode cX11_feed 54 = .ok (.invokevirtual 185, 3) := by decide +kernel
theorem dX11_feed_57 : decode cX11_feed 57 = .ok (.aload 6, 2) := by decide +kernel
theorem dX11_feed_59 : decode cX11_feed 59 = .ok (.getfield 180, 3) := by decide +kernel
theorem dX11_feed_62 : decode cX11_feed 62 = .ok (.ireturn, 1) := by decide +kernel
theorem dX11_end_0 : decode cX11_end 0 = .ok (.iload_n 1, 1) := by decide +kernel
theorem dX11_end_1 : decode cX11_end 1 = .ok (.ifCond .lt 17, 3) := by decide +kernel
theorem dX11_end_4 : decode cX11_end 4 = .ok (.iload_n 1, 1) := by decide +kernel
theorem dX11_end_5 : decode cX11_end 5 = .ok (.aload_n 0, 1) := by decide +kernel
theorem dX11_end_6 : decode cX11_end 6 = .ok (.getfield 42, 3) := by decide +kernel
theorem dX11_end_9 : decode cX11_end 9 = .ok (.getfield 176, 3) := by decide +kernel
theorem dX11_end_12 : decode cX11_end 12 = .ok (.getfield 180, 3) := by decide +kernel
theorem dX11_end_15 : decode cX11_end 15 = .ok (.if_icmp .le 5, 3) := by decide +kernel
theorem dX11_end_18 : decode cX11_end 18 = .ok (.iconst 0, 1) := by decide +kernel
theorem dX11_end_19 : decode cX11_end 19 = .ok (.ireturn, 1) := by decide +kernel
theorem dX11_end_20 : decode cX11_end 20 = .ok (.aload_n 0, 1) := by decide +kernel
theorem dX11_end_21 : decode cX11_end 21 = .ok (.getfield 42, 3) := by decide +kernel
theorem dX11_end_24 : decode cX11_end 24 = .ok (.getfield 176, 3) := by decide +kernel
theorem dX11_end_27 : decode cX11_end 27 = .ok (.iload_n 1, 1) := by decide +kernel
theorem dX11_end_28 : decode cX11_end 28 = .ok (.putfield 180, 3) := by decide +kernel
theorem dX11_end_31 : decode cX11_end 31 = .ok (.iconst 1, 1) := by decide +kernel
theorem dX11_end_32 : decode cX11_end 32 = .ok (.ireturn, 1) := by decide +kernel
theorem dX11_act_0 : decode cX11_act 0 = .ok (.aload_n 0, 1) := by decide +kernel
theorem dX11_act_1 : decode cX11_act 1 = .ok (.getfield 42, 3) := by decide +kernel
theorem dX11_act_4 : decode cX11_act 4 = .ok (.iload_n 1, 1) := by decide +kernel
theorem dX11_act_5 : decode cX11_act 5 = .ok (.invokevirtual 189, 3) := by decide +kernel
theorem dX11_act_8 : decode cX11_act 8 = .ok (.ifCond .ne 15, 3) := by decide +kernel
theorem dX11_act_11 : decode cX11_act 11 = .ok (.aload_n 0, 1) := by decide +kernel
theorem dX11_act_12 : decode cX11_act 12 = .ok (.getfield 42, 3) := by decide +kernel
theorem dX11_act_15 : decode cX11_act 15 = .ok (.getfield 176, 3) := by decide +kernel
theorem dX11_act_18 : decode cX11_act 18 = .ok (.invokevirtual 192, 3) := by decide +kernel
theorem dX11_act_21 : decode cX11_act 21 = .ok (.iconst (-1), 1) := by decide +kernel
theorem dX11_act_22 : decode cX11_act 22 = .ok (.ireturn, 1) := by decide +kernel
theorem dX11_act_23 : decode cX11_act 23 = .ok (.aload_n 0, 1) := by decide +kernel
theorem dX11_act_24 : decode cX11_act 24 = .ok (.getfield 42, 3) := by decide +kernel
theorem dX11_act_27 : decode cX11_act 27 = .ok (.getfield 176, 3) := by decide +kernel
theorem dX11_act_30 : decode cX11_act 30 = .ok (.aload_n 0, 1) := by decide +kernel
theorem dX11_act_31 : decode cX11_act 31 = .ok (.getfield 42, 3) := by decide +kernel
theorem dX11_act_34 : decode cX11_act 34 = .ok (.iload_n 1, 1) := by decide +kernel
theorem dX11_act_35 : decode cX11_act 35 = .ok (.invokevirtual 195, 3) := by decide +kernel
theorem dX11_act_38 : decode cX11_act 38 = .ok (.invokevirtual 199, 3) := by decide +kernel
theorem dX11_act_41 : decode cX11_act 41 = .ok (.ifCond .eq 13, 3) := by decide +kernel
theorem dX11_act_44 : decode cX11_act 44 = .ok (.aload_n 0, 1) := by decide +kernel
theorem dX11_act_45 : decode cX11_act 45 = .ok (.getfield 42, 3) := by decide +kernel
theorem dX11_act_48 : decode cX11_act 48 = .ok (.invokevirtual 203, 3) := by decide +kernel
theorem dX11_act_51 : decode cX11_act 51 = .ok (.goto 4, 3) := by decide +kernel
theorem dX11_act_54 : decode cX11_act 54 = .ok (.iconst (-1), 1) := by decide +kernel
theorem dX11_act_55 : decode cX11_act 55 = .ok (.ireturn, 1) := by decide +kernel
theorem dX11_fault_0 : decode cX11_fault 0 = .ok (.iload_n 1, 1) := by decide +kernel
theorem dX11_fault_1 : decode cX11_fault 1 = .ok (.ifCond .ne 14, 3) := by decide +kernel
theorem dX11_fault_4 : decode cX11_fault 4 = .ok (.aload_n 0, 1) := by decide +kernel
theorem dX11_fault_5 : decode cX11_fault 5 = .ok (.getfield 42, 3) := by decide +kernel
theorem dX11_fault_8 : decode cX11_fault 8 = .ok (.getfield 176, 3) := by decide +kernel
theorem dX11_fault_11 : decode cX11_fault 11 = .ok (.getfield 206, 3) := by decide +kernel
theorem dX11_fault_14 : decode cX11_fault 14 = .ok (.ireturn, 1) := by decide +kernel
theorem dX11_fault_15 : decode cX11_fault 15 = .ok (.iload_n 1, 1) := by decide +kernel
theorem dX11_fault_16 : decode cX11_fault 16 = .ok (.iconst 1, 1) := by decide +kernel
theorem dX11_fault_17 : decode cX11_fault 17 = .ok (.if_icmp .ne 16, 3) := by decide +kernel
theorem dX11_fault_20 : decode cX11_fault 20 = .ok (.aload_n 0, 1) := by decide +kernel
theorem dX11_fault_21 : decode cX11_fault 21 = .ok (.getfield 42, 3) := by decide +kernel
theorem dX11_fault_24 : decode cX11_fault 24 = .ok (.getfield 176, 3) := by decide +kernel
theorem dX11_fault_27 : decode cX11_fault 27 = .ok (.getfield 209, 3) := by decide +kernel
theorem dX11_fault_30 : decode cX11_fault 30 = .ok (.goto 4, 3) := by decide +kernel
theorem dX11_fault_33 : decode cX11_fault 33 = .ok (.iconst (-1), 1) := by decide +kernel
theorem dX11_fault_34 : decode cX11_fault 34 = .ok (.ireturn, 1) := by decide +kernel
theorem dX11_inForce_0 : decode cX11_inForce 0 = .ok (.iload_n 1, 1) := by decide +kernel
theorem dX11_inForce_1 : decode cX11_inForce 1 = .ok (.ifCond .lt 9, 3) := by decide +kernel
theorem dX11_inForce_4 : decode cX11_inForce 4 = .ok (.iload_n 1, 1) := by decide +kernel
theorem dX11_inForce_5 : decode cX11_inForce 5 = .ok (.bipush 7, 2) := by decide +kernel
theorem dX11_inForce_7 : decode cX11_inForce 7 = .ok (.if_icmp .lt 5, 3) := by decide +kernel
theorem dX11_inForce_10 : decode cX11_inForce 10 = .ok (.iconst (-1), 1) := by decide +kernel
theorem dX11_inForce_11 : decode cX11_inForce 11 = .ok (.ireturn, 1) := by decide +kernel
theorem dX11_inForce_12 : decode cX11_inForce 12 = .ok (.aload_n 0, 1) := by decide +kernel
theorem dX11_inForce_13 : decode cX11_inForce 13 = .ok (.getfield 42, 3) := by decide +kernel
theorem dX11_inForce_16 : decode cX11_inForce 16 = .ok (.iload_n 1, 1) := by decide +kernel
theorem dX11_inForce_17 : decode cX11_inForce 17 = .ok (.invokevirtual 212, 3) := by decide +kernel
theorem dX11_inForce_20 : decode cX11_inForce 20 = .ok (.istore_n 3, 1) := by decide +kernel
theorem dX11_inForce_21 : decode cX11_inForce 21 = .ok (.aload_n 0, 1) := by decide +kernel
theorem dX11_inForce_22 : decode cX11_inForce 22 = .ok (.getfield 42, 3) := by decide +kernel
theorem dX11_inForce_25 : decode cX11_inForce 25 = .ok (.iload_n 3, 1) := by decide +kernel
theorem dX11_inForce_26 : decode cX11_inForce 26 = .ok (.invokevirtual 215, 3) := by decide +kernel
theorem dX11_inForce_29 : decode cX11_inForce 29 = .ok (.astore 4, 2) := by decide +kernel
theorem dX11_inForce_31 : decode cX11_inForce 31 = .ok (.aload 4, 2) := by decide +kernel
theorem dX11_inForce_33 : decode cX11_inForce 33 = .ok (.ifnonnull 5, 3) := by decide +kernel
theorem dX11_inForce_36 : decode cX11_inForce 36 = .ok (.iconst (-1), 1) := by decide +kernel
theorem dX11_inForce_37 : decode cX11_inForce 37 = .ok (.ireturn, 1) := by decide +kernel
theorem dX11_inForce_38 : decode cX11_inForce 38 = .ok (.iload_n 2, 1) := by decide +kernel
theorem dX11_inForce_39 : decode cX11_inForce 39 = .ok (.tableswitch 89 0 7 #[45, 47, 53, 59, 65, 71, 77, 83], 45) := by decide +kernel
theorem dX11_inForce_84 : decode cX11_inForce 84 = .ok (.iload_n 3, 1) := by decide +kernel
theorem dX11_inForce_85 : decode cX11_inForce 85 = .ok (.ireturn, 1) := by decide +kernel
theorem dX11_inForce_86 : decode cX11_inForce 86 = .ok (.aload 4, 2) := by decide +kernel
theorem dX11_inForce_88 : decode cX11_inForce 88 = .ok (.getfield 218, 3) := by decide +kernel
theorem dX11_inForce_91 : decode cX11_inForce 91 = .ok (.ireturn, 1) := by decide +kernel
theorem dX11_inForce_92 : decode cX11_inForce 92 = .ok (.aload 4, 2) := by decide +kernel
theorem dX11_inForce_94 : decode cX11_inForce 94 = .ok (.getfield 223, 3) := by decide +kernel
theorem dX11_inForce_97 : decode cX11_inForce 97 = .ok (.ireturn, 1) := by decide +kernel
theorem dX11_inForce_98 : decode cX11_inForce 98 = .ok (.aload 4, 2) := by decide +kernel
theorem dX11_inForce_100 : decode cX11_inForce 100 = .ok (.getfield 226, 3) := by decide +kernel
theorem dX11_inForce_103 : decode cX11_inForce 103 = .ok (.ireturn, 1) := by decide +kernel
theorem dX11_inForce_104 : decode cX11_inForce 104 = .ok (.aload 4, 2) := by decide +kernel
theorem dX11_inForce_106 : decode cX11_inForce 106 = .ok (.getfield 229, 3) := by decide +kernel
theorem dX11_inForce_109 : decode cX11_inForce 109 = .ok (.ireturn, 1) := by decide +kernel
theorem dX11_inForce_110 : decode cX11_inForce 110 = .ok (.aload 4, 2) := by decide +kernel
theorem dX11_inForce_112 : decode cX11_inForce 112 = .ok (.getfield 232, 3) := by decide +kernel
theorem dX11_inForce_115 : decode cX11_inForce 115 = .ok (.ireturn, 1) := by decide +kernel
theorem dX11_inForce_116 : decode cX11_inForce 116 = .ok (.aload 4, 2) := by decide +kernel
theorem dX11_inForce_118 : decode cX11_inForce 118 = .ok (.getfield 235, 3) := by decide +kernel
theorem dX11_inForce_121 : decode cX11_inForce 121 = .ok (.ireturn, 1) := by decide +kernel
theorem dX11_inForce_122 : decode cX11_inForce 122 = .ok (.aload 4, 2) := by decide +kernel
theorem dX11_inForce_124 : decode cX11_inForce 124 = .ok (.getfield 238, 3) := by decide +kernel
theorem dX11_inForce_127 : decode cX11_inForce 127 = .ok (.ireturn, 1) := by decide +kernel
theorem dX11_inForce_128 : decode cX11_inForce 128 = .ok (.iconst (-1), 1) := by decide +kernel
theorem dX11_inForce_129 : decode cX11_inForce 129 = .ok (.ireturn, 1) := by decide +kernel
theorem dX11_post_0 : decode cX11_post 0 = .ok (.iload_n 1, 1) := by decide +kernel
theorem dX11_post_1 : decode cX11_post 1 = .ok (.ifCond .lt 35, 3) := by decide +kernel
theorem dX11_post_4 : decode cX11_post 4 = .ok (.iload_n 1, 1) := by decide +kernel
theorem dX11_post_5 : decode cX11_post 5 = .ok (.iconst 4, 1) := by decide +kernel
theorem dX11_post_6 : decode cX11_post 6 = .ok (.if_icmp .gt 30, 3) := by decide +kernel
theorem dX11_post_9 : decode cX11_post 9 = .ok (.aload_n 0, 1) := by decide +kernel
theorem dX11_post_10 : decode cX11_post 10 = .ok (.getfield 12, 3) := by decide +kernel
theorem dX11_post_13 : decode cX11_post 13 = .ok (.iload_n 2, 1) := by decide +kernel
theorem dX11_post_14 : decode cX11_post 14 = .ok (.invokevirtual 95, 3) := by decide +kernel
theorem dX11_post_17 : decode cX11_post 17 = .ok (.ifCond .eq 19, 3) := by decide +kernel
theorem dX11_post_20 : decode cX11_post 20 = .ok (.aload_n 0, 1) := by decide +kernel
theorem dX11_post_21 : decode cX11_post 21 = .ok (.getfield 12, 3) := by decide +kernel
theorem dX11_post_24 : decode cX11_post 24 = .ok (.iload_n 3, 1) := by decide +kernel
theorem dX11_post_25 : decode cX11_post 25 = .ok (.invokevirtual 95, 3) := by decide +kernel
theorem dX11_post_28 : decode cX11_post 28 = .ok (.ifCond .eq 8, 3) := by decide +kernel
theorem dX11_post_31 : decode cX11_post 31 = .ok (.iload_n 2, 1) := by decide +kernel
theorem dX11_post_32 : decode cX11_post 32 = .ok (.iload_n 3, 1) := by decide +kernel
theorem dX11_post_33 : decode cX11_post 33 = .ok (.if_icmp .ne 5, 3) := by decide +kernel
theorem dX11_post_36 : decode cX11_post 36 = .ok (.iconst (-1), 1) := by decide +kernel
theorem dX11_post_37 : decode cX11_post 37 = .ok (.ireturn, 1) := by decide +kernel
theorem dX11_post_38 : decode cX11_post 38 = .ok (.iload 4, 2) := by decide +kernel
theorem dX11_post_40 : decode cX11_post 40 = .ok (.iconst 1, 1) := by decide +kernel
theorem dX11_post_41 : decode cX11_post 41 = .ok (.if_icmp .lt 34, 3) := by decide +kernel
theorem dX11_post_44 : decode cX11_post 44 = .ok (.iload 4, 2) := by decide +kernel
theorem dX11_post_46 : decode cX11_post 46 = .ok (.bipush 9, 2) := by decide +kernel
theorem dX11_post_48 : decode cX11_post 48 = .ok (.if_icmp .gt 27, 3) := by decide +kernel
theorem dX11_post_51 : decode cX11_post 51 = .ok (.iload 5, 2) := by decide +kernel
theorem dX11_post_53 : decode cX11_post 53 = .ok (.ifCond .lt 22, 3) := by decide +kernel
theorem dX11_post_56 : decode cX11_post 56 = .ok (.iload 5, 2) := by decide +kernel
theorem dX11_post_58 : decode cX11_post 58 = .ok (.bipush 99, 2) := by decide +kernel
theorem dX11_post_60 : decode cX11_post 60 = .ok (.if_icmp .gt 15, 3) := by decide +kernel
theorem dX11_post_63 : decode cX11_post 63 = .ok (.iload 6, 2) := by decide +kernel
theorem dX11_post_65 : decode cX11_post 65 = .ok (.ifCond .lt 10, 3) := by decide +kernel
theorem dX11_post_68 : decode cX11_post 68 = .ok (.iload 6, 2) := by decide +kernel
theorem dX11_post_70 : decode cX11_post 70 = .ok (.bipush 9, 2) := by decide +kernel
theorem dX11_post_72 : decode cX11_post 72 = .ok (.if_icmp .le 5, 3) := by decide +kernel
theorem dX11_post_75 : decode cX11_post 75 = .ok (.iconst (-1), 1) := by decide +kernel
theorem dX11_post_76 : decode cX11_post 76 = .ok (.ireturn, 1) := by decide +kernel
theorem dX11_post_77 : decode cX11_post 77 = .ok (.aload_n 0, 1) := by decide +kernel
theorem dX11_post_78 : decode cX11_post 78 = .ok (.getfield 66, 3) := by decide +kernel
theorem dX11_post_81 : decode cX11_post 81 = .ok (.getfield 173, 3) := by decide +kernel
theorem dX11_post_84 : decode cX11_post 84 = .ok (.bipush 120, 2) := by decide +kernel
theorem dX11_post_86 : decode cX11_post 86 = .ok (.if_icmp .lt 5, 3) := by decide +kernel
theorem dX11_post_89 : decode cX11_post 89 = .ok (.iconst (-1), 1) := by decide +kernel
theorem dX11_post_90 : decode cX11_post 90 = .ok (.ireturn, 1) := by decide +kernel
theorem dX11_post_91 : decode cX11_post 91 = .ok (.aload_n 0, 1) := by decide +kernel
theorem dX11_post_92 : decode cX11_post 92 = .ok (.getfield 66, 3) := by decide +kernel
theorem dX11_post_95 : decode cX11_post 95 = .ok (.getfield 173, 3) := by decide +kernel
theorem dX11_post_98 : decode cX11_post 98 = .ok (.istore 7, 2) := by decide +kernel
theorem dX11_post_100 : decode cX11_post 100 = .ok (.aload_n 0, 1) := by decide +kernel
theorem dX11_post_101 : decode cX11_post 101 = .ok (.getfield 48, 3) := by decide +kernel
theorem dX11_post_104 : decode cX11_post 104 = .ok (.iload 7, 2) := by decide +kernel
theorem dX11_post_106 : decode cX11_post 106 = .ok (.aaload, 1) := by decide +kernel
theorem dX11_post_107 : decode cX11_post 107 = .ok (.astore 8, 2) := by decide +kernel
theorem dX11_post_109 : decode cX11_post 109 = .ok (.aload 8, 2) := by decide +kernel
theorem dX11_post_111 : decode cX11_post 111 = .ok (.iload_n 1, 1) := by decide +kernel
theorem dX11_post_112 : decode cX11_post 112 = .ok (.iload_n 2, 1) := by decide +kernel
theorem dX11_post_113 : decode cX11_post 113 = .ok (.iload_n 3, 1) := by decide +kernel
theorem dX11_post_114 : decode cX11_post 114 = .ok (.iload 4, 2) := by decide +kernel
theorem dX11_post_116 : decode cX11_post 116 = .ok (.iload 5, 2) := by decide +kernel
theorem dX11_post_118 : decode cX11_post 118 = .ok (.iload 6, 2) := by decide +kernel
theorem dX11_post_120 : decode cX11_post 120 = .ok (.invokevirtual 241, 3) := by decide +kernel
theorem dX11_post_123 : decode cX11_post 123 = .ok (.aload 8, 2) := by decide +kernel
theorem dX11_post_125 : decode cX11_post 125 = .ok (.aload_n 0, 1) := by decide +kernel
theorem dX11_post_126 : decode cX11_post 126 = .ok (.getfield 114, 3) := by decide +kernel
theorem dX11_post_129 : decode cX11_post 129 = .ok (.putfield 245, 3) := by decide +kernel
theorem dX11_post_132 : decode cX11_post 132 = .ok (.aload 8, 2) := by decide +kernel
theorem dX11_post_134 : decode cX11_post 134 = .ok (.aload_n 0, 1) := by decide +kernel
theorem dX11_post_135 : decode cX11_post 135 = .ok (.getfield 12, 3) := by decide +kernel
theorem dX11_post_138 : decode cX11_post 138 = .ok (.iload_n 2, 1) := by decide +kernel
theorem dX11_post_139 : decode cX11_post 139 = .ok (.iload_n 3, 1) := by decide +kernel
theorem dX11_post_140 : decode cX11_post 140 = .ok (.invokevirtual 103, 3) := by decide +kernel
theorem dX11_post_143 : decode cX11_post 143 = .ok (.iconst 0, 1) := by decide +kernel
theorem dX11_post_144 : decode cX11_post 144 = .ok (.invokestatic 248, 3) := by decide +kernel
theorem dX11_post_147 : decode cX11_post 147 = .ok (.putfield 253, 3) := by decide +kernel
theorem dX11_post_150 : decode cX11_post 150 = .ok (.aload 8, 2) := by decide +kernel
theorem dX11_post_152 : decode cX11_post 152 = .ok (.aload_n 0, 1) := by decide +kernel
theorem dX11_post_153 : decode cX11_post 153 = .ok (.getfield 12, 3) := by decide +kernel
theorem dX11_post_156 : decode cX11_post 156 = .ok (.iload_n 2, 1) := by decide +kernel
theorem dX11_post_157 : decode cX11_post 157 = .ok (.iload_n 3, 1) := by decide +kernel
theorem dX11_post_158 : decode cX11_post 158 = .ok (.invokevirtual 256, 3) := by decide +kernel
theorem dX11_post_161 : decode cX11_post 161 = .ok (.putfield 259, 3) := by decide +kernel
theorem dX11_post_164 : decode cX11_post 164 = .ok (.aload 8, 2) := by decide +kernel
theorem dX11_post_166 : decode cX11_post 166 = .ok (.aload_n 0, 1) := by decide +kernel
theorem dX11_post_167 : decode cX11_post 167 = .ok (.aload 8, 2) := by decide +kernel
theorem dX11_post_169 : decode cX11_post 169 = .ok (.invokevirtual 262, 3) := by decide +kernel
theorem dX11_post_172 : decode cX11_post 172 = .ok (.putfield 266, 3) := by decide +kernel
theorem dX11_post_175 : decode cX11_post 175 = .ok (.aload_n 0, 1) := by decide +kernel
theorem dX11_post_176 : decode cX11_post 176 = .ok (.getfield 42, 3) := by decide +kernel
theorem dX11_post_179 : decode cX11_post 179 = .ok (.aload 8, 2) := by decide +kernel
theorem dX11_post_181 : decode cX11_post 181 = .ok (.invokevirtual 268, 3) := by decide +kernel
theorem dX11_post_184 : decode cX11_post 184 = .ok (.aload_n 0, 1) := by decide +kernel
theorem dX11_post_185 : decode cX11_post 185 = .ok (.getfield 66, 3) := by decide +kernel
theorem dX11_post_188 : decode cX11_post 188 = .ok (.aload_n 0, 1) := by decide +kernel
theorem dX11_post_189 : decode cX11_post 189 = .ok (.getfield 114, 3) := by decide +kernel
theorem dX11_post_192 : decode cX11_post 192 = .ok (.iload_n 2, 1) := by decide +kernel
theorem dX11_post_193 : decode cX11_post 193 = .ok (.invokevirtual 272, 3) := by decide +kernel
theorem dX11_post_196 : decode cX11_post 196 = .ok (.aload_n 0, 1) := by decide +kernel
theorem dX11_post_197 : decode cX11_post 197 = .ok (.iconst 0, 1) := by decide +kernel
theorem dX11_post_198 : decode cX11_post 198 = .ok (.putfield 110, 3) := by decide +kernel
theorem dX11_post_201 : decode cX11_post 201 = .ok (.iload 7, 2) := by decide +kernel
theorem dX11_post_203 : decode cX11_post 203 = .ok (.ireturn, 1) := by decide +kernel
theorem dX11_of_0 : decode cX11_of 0 = .ok (.aload_n 0, 1) := by decide +kernel
theorem dX11_of_1 : decode cX11_of 1 = .ok (.iload_n 1, 1) := by decide +kernel
theorem dX11_of_2 : decode cX11_of 2 = .ok (.invokevirtual 274, 3) := by decide +kernel
theorem dX11_of_5 : decode cX11_of 5 = .ok (.astore_n 3, 1) := by decide +kernel
theorem dX11_of_6 : decode cX11_of 6 = .ok (.aload_n 3, 1) := by decide +kernel
theorem dX11_of_7 : decode cX11_of 7 = .ok (.ifnonnull 5, 3) := by decide +kernel
theorem dX11_of_10 : decode cX11_of 10 = .ok (.iconst (-1), 1) := by decide +kernel
theorem dX11_of_11 : decode cX11_of 11 = .ok (.ireturn, 1) := by decide +kernel
theorem dX11_of_12 : decode cX11_of 12 = .ok (.aload_n 0, 1) := by decide +kernel
theorem dX11_of_13 : decode cX11_of 13 = .ok (.getfield 66, 3) := by decide +kernel
theorem dX11_of_16 : decode cX11_of 16 = .ok (.getfield 278, 3) := by decide +kernel
theorem dX11_of_19 : decode cX11_of 19 = .ok (.iload_n 1, 1) := by decide +kernel
theorem dX11_of_20 : decode cX11_of 20 = .ok (.iaload, 1) := by decide +kernel
theorem dX11_of_21 : decode cX11_of 21 = .ok (.iconst 1, 1) := by decide +kernel
theorem dX11_of_22 : decode cX11_of 22 = .ok (.if_icmp .ne 7, 3) := by decide +kernel
theorem dX11_of_25 : decode cX11_of 25 = .ok (.iconst 1, 1) := by decide +kernel
theorem dX11_of_26 : decode cX11_of 26 = .ok (.goto 4, 3) := by decide +kernel
theorem dX11_of_29 : decode cX11_of 29 = .ok (.iconst 0, 1) := by decide +kernel
theorem dX11_of_30 : decode cX11_of 30 = .ok (.istore 4, 2) := by decide +kernel
theorem dX11_of_32 : decode cX11_of 32 = .ok (.iload_n 2, 1) := by decide +kernel
theorem dX11_of_33 : decode cX11_of 33 = .ok (.tableswitch 187 0 12 #[67, 72, 77, 82, 87, 92, 97, 102, 112, 122, 135, 158, 177], 67) := by decide +kernel
theorem dX11_of_100 : decode cX11_of 100 = .ok (.aload_n 3, 1) := by decide +kernel
theorem dX11_of_101 : decode cX11_of 101 = .ok (.getfield 281, 3) := by decide +kernel
theorem dX11_of_104 : decode cX11_of 104 = .ok (.ireturn, 1) := by decide +kernel
theorem dX11_of_105 : decode cX11_of 105 = .ok (.aload_n 3, 1) := by decide +kernel
theorem dX11_of_106 : decode cX11_of 106 = .ok (.getfield 284, 3) := by decide +kernel
theorem dX11_of_109 : decode cX11_of 109 = .ok (.ireturn, 1) := by decide +kernel
theorem dX11_of_110 : decode cX11_of 110 = .ok (.aload_n 3, 1) := by decide +kernel
theorem dX11_of_111 : decode cX11_of 111 = .ok (.getfield 287, 3) := by decide +kernel
theorem dX11_of_114 : decode cX11_of 114 = .ok (.ireturn, 1) := by decide +kernel
theorem dX11_of_115 : decode cX11_of 115 = .ok (.aload_n 3, 1) := by decide +kernel
theorem dX11_of_116 : decode cX11_of 116 = .ok (.getfield 290, 3) := by decide +kernel
theorem dX11_of_119 : decode cX11_of 119 = .ok (.ireturn, 1) := by decide +kernel
theorem dX11_of_120 : decode cX11_of 120 = .ok (.aload_n 3, 1) := by decide +kernel
theorem dX11_of_121 : decode cX11_of 121 = .ok (.getfield 293, 3) := by decide +kernel
theorem dX11_of_124 : decode cX11_of 124 = .ok (.ireturn, 1) := by decide +kernel
theorem dX11_of_125 : decode cX11_of 125 = .ok (.aload_n 3, 1) := by decide +kernel
theorem dX11_of_126 : decode cX11_of 126 = .ok (.getfield 296, 3) := by decide +kernel
theorem dX11_of_129 : decode cX11_of 129 = .ok (.ireturn, 1) := by decide +kernel
theorem dX11_of_130 : decode cX11_of 130 = .ok (.aload_n 3, 1) := by decide +kernel
theorem dX11_of_131 : decode cX11_of 131 = .ok (.getfield 245, 3) := by decide +kernel
theorem dX11_of_134 : decode cX11_of 134 = .ok (.ireturn, 1) := by decide +kernel
theorem dX11_of_135 : decode cX11_of 135 = .ok (.aload_n 0, 1) := by decide +kernel
theorem dX11_of_136 : decode cX11_of 136 = .ok (.getfield 66, 3) := by decide +kernel
theorem dX11_of_139 : decode cX11_of 139 = .ok (.getfield 278, 3) := by decide +kernel
theorem dX11_of_142 : decode cX11_of 142 = .ok (.iload_n 1, 1) := by decide +kernel
theorem dX11_of_143 : decode cX11_of 143 = .ok (.iaload, 1) := by decide +kernel
theorem dX11_of_144 : decode cX11_of 144 = .ok (.ireturn, 1) := by decide +kernel
theorem dX11_of_145 : decode cX11_of 145 = .ok (.aload_n 0, 1) := by decide +kernel
theorem dX11_of_146 : decode cX11_of 146 = .ok (.getfield 66, 3) := by decide +kernel
theorem dX11_of_149 : decode cX11_of 149 = .ok (.getfield 299, 3) := by decide +kernel
theorem dX11_of_152 : decode cX11_of 152 = .ok (.iload_n 1, 1) := by decide +kernel
theorem dX11_of_153 : decode cX11_of 153 = .ok (.iaload, 1) := by decide +kernel
theorem dX11_of_154 : decode cX11_of 154 = .ok (.ireturn, 1) := by decide +kernel
theorem dX11_of_155 : decode cX11_of 155 = .ok (.aload_n 3, 1) := by decide +kernel
theorem dX11_of_156 : decode cX11_of 156 = .ok (.getfield 259, 3) := by decide +kernel
theorem dX11_of_159 : decode cX11_of 159 = .ok (.ifCond .eq 7, 3) := by decide +kernel
theorem dX11_of_162 : decode cX11_of 162 = .ok (.iconst 1, 1) := by decide +kernel
theorem dX11_of_163 : decode cX11_of 163 = .ok (.goto 4, 3) := by decide +kernel
theorem dX11_of_166 : decode cX11_of 166 = .ok (.iconst 0, 1) := by decide +kernel
theorem dX11_of_167 : decode cX11_of 167 = .ok (.ireturn, 1) := by decide +kernel
theorem dX11_of_168 : decode cX11_of 168 = .ok (.iload 4, 2) := by decide +kernel
theorem dX11_of_170 : decode cX11_of 170 = .ok (.ifCond .eq 19, 3) := by decide +kernel
theorem dX11_of_173 : decode cX11_of 173 = .ok (.aload_n 0, 1) := by decide +kernel
theorem dX11_of_174 : decode cX11_of 174 = .ok (.getfield 66, 3) := by decide +kernel
theorem dX11_of_177 : decode cX11_of 177 = .ok (.getfield 302, 3) := by decide +kernel
theorem dX11_of_180 : decode cX11_of 180 = .ok (.iload_n 1, 1) := by decide +kernel
theorem dX11_of_181 : decode cX11_of 181 = .ok (.baload, 1) := by decide +kernel
theorem dX11_of_182 : decode cX11_of 182 = .ok (.ifCond .eq 7, 3) := by decide +kernel
theorem dX11_of_185 : decode cX11_of 185 = .ok (.iconst 1, 1) := by decide +kernel
theorem dX11_of_186 : decode cX11_of 186 = .ok (.goto 4, 3) := by decide +kernel
theorem dX11_of_189 : decode cX11_of 189 = .ok (.iconst 0, 1) := by decide +kernel
theorem dX11_of_190 : decode cX11_of 190 = .ok (.ireturn, 1) := by decide +kernel
theorem dX11_of_191 : decode cX11_of 191 = .ok (.iload 4, 2) := by decide +kernel
theorem dX11_of_193 : decode cX11_of 193 = .ok (.ifCond .eq 15, 3) := by decide +kernel
theorem dX11_of_196 : decode cX11_of 196 = .ok (.aload_n 0, 1) := by decide +kernel
theorem dX11_of_197 : decode cX11_of 197 = .ok (.getfield 66, 3) := by decide +kernel
theorem dX11_of_200 : decode cX11_of 200 = .ok (.getfield 305, 3) := by decide +kernel
theorem dX11_of_203 : decode cX11_of 203 = .ok (.iload_n 1, 1) := by decide +kernel
theorem dX11_of_204 : decode cX11_of 204 = .ok (.iaload, 1) := by decide +kernel
theorem dX11_of_205 : decode cX11_of 205 = .ok (.goto 4, 3) := by decide +kernel
theorem dX11_of_208 : decode cX11_of 208 = .ok (.iconst (-1), 1) := by decide +kernel
theorem dX11_of_209 : decode cX11_of 209 = .ok (.ireturn, 1) := by decide +kernel
theorem dX11_of_210 : decode cX11_of 210 = .ok (.aload_n 0, 1) := by decide +kernel
theorem dX11_of_211 : decode cX11_of 211 = .ok (.getfield 66, 3) := by decide +kernel
theorem dX11_of_214 : decode cX11_of 214 = .ok (.getfield 308, 3) := by decide +kernel
theorem dX11_of_217 : decode cX11_of 217 = .ok (.iload_n 1, 1) := by decide +kernel
theorem dX11_of_218 : decode cX11_of 218 = .ok (.iaload, 1) := by decide +kernel
theorem dX11_of_219 : decode cX11_of 219 = .ok (.ireturn, 1) := by decide +kernel
theorem dX11_of_220 : decode cX11_of 220 = .ok (.iconst (-1), 1) := by decide +kernel
theorem dX11_of_221 : decode cX11_of 221 = .ok (.ireturn, 1) := by decide +kernel
theorem dX11_charge_0 : decode cX11_charge 0 = .ok (.aload_n 0, 1) := by decide +kernel
theorem dX11_charge_1 : decode cX11_charge 1 = .ok (.iload_n 1, 1) := by decide +kernel
theorem dX11_charge_2 : decode cX11_charge 2 = .ok (.invokevirtual 274, 3) := by decide +kernel
theorem dX11_charge_5 : decode cX11_charge 5 = .ok (.astore_n 3, 1) := by decide +kernel
theorem dX11_charge_6 : decode cX11_charge 6 = .ok (.aload_n 3, 1) := by decide +kernel
theorem dX11_charge_7 : decode cX11_charge 7 = .ok (.ifnonnull 5, 3) := by decide +kernel
theorem dX11_charge_10 : decode cX11_charge 10 = .ok (.iconst (-1), 1) := by decide +kernel
theorem dX11_charge_11 : decode cX11_charge 11 = .ok (.ireturn, 1) := by decide +kernel
theorem dX11_charge_12 : decode cX11_charge 12 = .ok (.iload_n 2, 1) := by decide +kernel
theorem dX11_charge_13 : decode cX11_charge 13 = .ok (.tableswitch 82 0 5 #[39, 44, 49, 54, 59, 69], 39) := by decide +kernel
theorem dX11_charge_52 : decode cX11_charge 52 = .ok (.aload_n 3, 1) := by decide +kernel
theorem dX11_charge_53 : decode cX11_charge 53 = .ok (.getfield 311, 3) := by decide +kernel
theorem dX11_charge_56 : decode cX11_charge 56 = .ok (.ireturn, 1) := by decide +kernel
theorem dX11_charge_57 : decode cX11_charge 57 = .ok (.aload_n 3, 1) := by decide +kernel
theorem dX11_charge_58 : decode cX11_charge 58 = .ok (.getfield 314, 3) := by decide +kernel
theorem dX11_charge_61 : decode cX11_charge 61 = .ok (.ireturn, 1) := by decide +kernel
theorem dX11_charge_62 : decode cX11_charge 62 = .ok (.aload_n 3, 1) := by decide +kernel
theorem dX11_charge_63 : decode cX11_charge 63 = .ok (.getfield 317, 3) := by decide +kernel
theorem dX11_charge_66 : decode cX11_charge 66 = .ok (.ireturn, 1) := by decide +kernel
theorem dX11_charge_67 : decode cX11_charge 67 = .ok (.aload_n 3, 1) := by decide +kernel
theorem dX11_charge_68 : decode cX11_charge 68 = .ok (.invokevirtual 320, 3) := by decide +kernel
theorem dX11_charge_71 : decode cX11_charge 71 = .ok (.ireturn, 1) := by decide +kernel
theorem dX11_charge_72 : decode cX11_charge 72 = .ok (.aload_n 3, 1) := by decide +kernel
theorem dX11_charge_73 : decode cX11_charge 73 = .ok (.getfield 311, 3) := by decide +kernel
theorem dX11_charge_76 : decode cX11_charge 76 = .ok (.aload_n 3, 1) := by decide +kernel
theorem dX11_charge_77 : decode cX11_charge 77 = .ok (.invokevirtual 320, 3) := by decide +kernel
theorem dX11_charge_80 : decode cX11_charge 80 = .ok (.isub, 1) := by decide +kernel
theorem dX11_charge_81 : decode cX11_charge 81 = .ok (.ireturn, 1) := by decide +kernel
theorem dX11_charge_82 : decode cX11_charge 82 = .ok (.aload_n 3, 1) := by decide +kernel
theorem dX11_charge_83 : decode cX11_charge 83 = .ok (.getfield 323, 3) := by decide +kernel
theorem dX11_charge_86 : decode cX11_charge 86 = .ok (.ifCond .eq 7, 3) := by decide +kernel
theorem dX11_charge_89 : decode cX11_charge 89 = .ok (.iconst 1, 1) := by decide +kernel
theorem dX11_charge_90 : decode cX11_charge 90 = .ok (.goto 4, 3) := by decide +kernel
theorem dX11_charge_93 : decode cX11_charge 93 = .ok (.iconst 0, 1) := by decide +kernel
theorem dX11_charge_94 : decode cX11_charge 94 = .ok (.ireturn, 1) := by decide +kernel
theorem dX11_charge_95 : decode cX11_charge 95 = .ok (.iconst (-1), 1) := by decide +kernel
theorem dX11_charge_96 : decode cX11_charge 96 = .ok (.ireturn, 1) := by decide +kernel
theorem dX11_way_0 : decode cX11_way 0 = .ok (.aload_n 0, 1) := by decide +kernel
theorem dX11_way_1 : decode cX11_way 1 = .ok (.getfield 12, 3) := by decide +kernel
theorem dX11_way_4 : decode cX11_way 4 = .ok (.iload_n 1, 1) := by decide +kernel
theorem dX11_way_5 : decode cX11_way 5 = .ok (.invokevirtual 95, 3) := by decide +kernel
theorem dX11_way_8 : decode cX11_way 8 = .ok (.ifCond .eq 34, 3) := by decide +kernel
theorem dX11_way_11 : decode cX11_way 11 = .ok (.aload_n 0, 1) := by decide +kernel
theorem dX11_way_12 : decode cX11_way 12 = .ok (.getfield 12, 3) := by decide +kernel
theorem dX11_way_15 : decode cX11_way 15 = .ok (.iload_n 3, 1) := by decide +kernel
theorem dX11_way_16 : decode cX11_way 16 = .ok (.invokevirtual 95, 3) := by decide +kernel
theorem dX11_way_19 : decode cX11_way 19 = .ok (.ifCond .eq 23, 3) := by decide +kernel
theorem dX11_way_22 : decode cX11_way 22 = .ok (.iload_n 1, 1) := by decide +kernel
theorem dX11_way_23 : decode cX11_way 23 = .ok (.iload_n 3, 1) := by decide +kernel
theorem dX11_way_24 : decode cX11_way 24 = .ok (.if_icmp .eq 18, 3) := by decide +kernel
theorem dX11_way_27 : decode cX11_way 27 = .ok (.iload_n 2, 1) := by decide +kernel
theorem dX11_way_28 : decode cX11_way 28 = .ok (.aload_n 0, 1) := by decide +kernel
theorem dX11_way_29 : decode cX11_way 29 = .ok (.getfield 114, 3) := by decide +kernel
theorem dX11_way_32 : decode cX11_way 32 = .ok (.if_icmp .lt 10, 3) := by decide +kernel
theorem dX11_way_35 : decode cX11_way 35 = .ok (.iload_n 2, 1) := by decide +kernel
theorem dX11_way_36 : decode cX11_way 36 = .ok (.sipush 10079, 3) := by decide +kernel
theorem dX11_way_39 : decode cX11_way 39 = .ok (.if_icmp .le 5, 3) := by decide +kernel
theorem dX11_way_42 : decode cX11_way 42 = .ok (.iconst (-1), 1) := by decide +kernel
theorem dX11_way_43 : decode cX11_way 43 = .ok (.ireturn, 1) := by decide +kernel
theorem dX11_way_44 : decode cX11_way 44 = .ok (.aload_n 0, 1) := by decide +kernel
theorem dX11_way_45 : decode cX11_way 45 = .ok (.getfield 28, 3) := by decide +kernel
theorem dX11_way_48 : decode cX11_way 48 = .ok (.iload_n 1, 1) := by decide +kernel
theorem dX11_way_49 : decode cX11_way 49 = .ok (.iload_n 2, 1) := by decide +kernel
theorem dX11_way_50 : decode cX11_way 50 = .ok (.iload_n 3, 1) := by decide +kernel
theorem dX11_way_51 : decode cX11_way 51 = .ok (.invokevirtual 326, 3) := by decide +kernel
theorem dX11_way_54 : decode cX11_way 54 = .ok (.lstore 5, 2) := by decide +kernel
theorem dX11_way_56 : decode cX11_way 56 = .ok (.lload 5, 2) := by decide +kernel
theorem dX11_way_58 : decode cX11_way 58 = .ok (.ldc2_w 330, 3) := by decide +kernel
theorem dX11_way_61 : decode cX11_way 61 = .ok (.lcmp, 1) := by decide +kernel
theorem dX11_way_62 : decode cX11_way 62 = .ok (.ifCond .ne 5, 3) := by decide +kernel
theorem dX11_way_65 : decode cX11_way 65 = .ok (.iconst (-1), 1) := by decide +kernel
theorem dX11_way_66 : decode cX11_way 66 = .ok (.ireturn, 1) := by decide +kernel
theorem dX11_way_67 : decode cX11_way 67 = .ok (.iload 4, 2) := by decide +kernel
theorem dX11_way_69 : decode cX11_way 69 = .ok (.tableswitch 75 0 5 #[39, 45, 51, 57, 63, 69], 39) := by decide +kernel
theorem dX11_way_108 : decode cX11_way 108 = .ok (.lload 5, 2) := by decide +kernel
theorem dX11_way_110 : decode cX11_way 110 = .ok (.invokestatic 332, 3) := by decide +kernel
theorem dX11_way_113 : decode cX11_way 113 = .ok (.ireturn, 1) := by decide +kernel
theorem dX11_way_114 : decode cX11_way 114 = .ok (.lload 5, 2) := by decide +kernel
theorem dX11_way_116 : decode cX11_way 116 = .ok (.invokestatic 336, 3) := by decide +kernel
theorem dX11_way_119 : decode cX11_way 119 = .ok (.ireturn, 1) := by decide +kernel
theorem dX11_way_120 : decode cX11_way 120 = .ok (.lload 5, 2) := by decide +kernel
theorem dX11_way_122 : decode cX11_way 122 = .ok (.invokestatic 339, 3) := by decide +kernel
theorem dX11_way_125 : decode cX11_way 125 = .ok (.ireturn, 1) := by decide +kernel
theorem dX11_way_126 : decode cX11_way 126 = .ok (.lload 5, 2) := by decide +kernel
theorem dX11_way_128 : decode cX11_way 128 = .ok (.invokestatic 342, 3) := by decide +kernel
theorem dX11_way_131 : decode cX11_way 131 = .ok (.ireturn, 1) := by decide +kernel
theorem dX11_way_132 : decode cX11_way 132 = .ok (.lload 5, 2) := by decide +kernel
theorem dX11_way_134 : decode cX11_way 134 = .ok (.invokestatic 345, 3) := by decide +kernel
theorem dX11_way_137 : decode cX11_way 137 = .ok (.ireturn, 1) := by decide +kernel
theorem dX11_way_138 : decode cX11_way 138 = .ok (.lload 5, 2) := by decide +kernel
theorem dX11_way_140 : decode cX11_way 140 = .ok (.invokestatic 348, 3) := by decide +kernel
theorem dX11_way_143 : decode cX11_way 143 = .ok (.ireturn, 1) := by decide +kernel
theorem dX11_way_144 : decode cX11_way 144 = .ok (.iconst (-1), 1) := by decide +kernel
theorem dX11_way_145 : decode cX11_way 145 = .ok (.ireturn, 1) := by decide +kernel
theorem dX11_lead_0 : decode cX11_lead 0 = .ok (.aload_n 0, 1) := by decide +kernel
theorem dX11_lead_1 : decode cX11_lead 1 = .ok (.iload_n 1, 1) := by decide +kernel
theorem dX11_lead_2 : decode cX11_lead 2 = .ok (.invokevirtual 274, 3) := by decide +kernel
theorem dX11_lead_5 : decode cX11_lead 5 = .ok (.astore 4, 2) := by decide +kernel
theorem dX11_lead_7 : decode cX11_lead 7 = .ok (.aload 4, 2) := by decide +kernel
theorem dX11_lead_9 : decode cX11_lead 9 = .ok (.ifnull 16, 3) := by decide +kernel
theorem dX11_lead_12 : decode cX11_lead 12 = .ok (.iload_n 2, 1) := by decide +kernel
theorem dX11_lead_13 : decode cX11_lead 13 = .ok (.ifCond .lt 12, 3) := by decide +kernel
theorem dX11_lead_16 : decode cX11_lead 16 = .ok (.iload_n 2, 1) := by decide +kernel
theorem dX11_lead_17 : decode cX11_lead 17 = .ok (.aload 4, 2) := by decide +kernel
theorem dX11_lead_19 : decode cX11_lead 19 = .ok (.getfield 351, 3) := by decide +kernel
theorem dX11_lead_22 : decode cX11_lead 22 = .ok (.if_icmp .lt 5, 3) := by decide +kernel
theorem dX11_lead_25 : decode cX11_lead 25 = .ok (.iconst (-1), 1) := by decide +kernel
theorem dX11_lead_26 : decode cX11_lead 26 = .ok (.ireturn, 1) := by decide +kernel
theorem dX11_lead_27 : decode cX11_lead 27 = .ok (.aload_n 0, 1) := by decide +kernel
theorem dX11_lead_28 : decode cX11_lead 28 = .ok (.getfield 57, 3) := by decide +kernel
theorem dX11_lead_31 : decode cX11_lead 31 = .ok (.iload_n 1, 1) := by decide +kernel
theorem dX11_lead_32 : decode cX11_lead 32 = .ok (.iload_n 2, 1) := by decide +kernel
theorem dX11_lead_33 : decode cX11_lead 33 = .ok (.aload_n 0, 1) := by decide +kernel
theorem dX11_lead_34 : decode cX11_lead 34 = .ok (.getfield 114, 3) := by decide +kernel
theorem dX11_lead_37 : decode cX11_lead 37 = .ok (.invokevirtual 354, 3) := by decide +kernel
theorem dX11_lead_40 : decode cX11_lead 40 = .ok (.istore 5, 2) := by decide +kernel
theorem dX11_lead_42 : decode cX11_lead 42 = .ok (.iload_n 3, 1) := by decide +kernel
theorem dX11_lead_43 : decode cX11_lead 43 = .ok (.tableswitch 43 0 2 #[25, 31, 37], 25) := by decide +kernel
theorem dX11_lead_68 : decode cX11_lead 68 = .ok (.iload 5, 2) := by decide +kernel
theorem dX11_lead_70 : decode cX11_lead 70 = .ok (.invokestatic 357, 3) := by decide +kernel
theorem dX11_lead_73 : decode cX11_lead 73 = .ok (.ireturn, 1) := by decide +kernel
theorem dX11_lead_74 : decode cX11_lead 74 = .ok (.iload 5, 2) := by decide +kernel
theorem dX11_lead_76 : decode cX11_lead 76 = .ok (.invokestatic 359, 3) := by decide +kernel
theorem dX11_lead_79 : decode cX11_lead 79 = .ok (.ireturn, 1) := by decide +kernel
theorem dX11_lead_80 : decode cX11_lead 80 = .ok (.iload 5, 2) := by decide +kernel
theorem dX11_lead_82 : decode cX11_lead 82 = .ok (.invokestatic 362, 3) := by decide +kernel
theorem dX11_lead_85 : decode cX11_lead 85 = .ok (.ireturn, 1) := by decide +kernel
theorem dX11_lead_86 : decode cX11_lead 86 = .ok (.iconst (-1), 1) := by decide +kernel
theorem dX11_lead_87 : decode cX11_lead 87 = .ok (.ireturn, 1) := by decide +kernel
theorem dX11_where_0 : decode cX11_where 0 = .ok (.aload_n 0, 1) := by decide +kernel
theorem dX11_where_1 : decode cX11_where 1 = .ok (.iload_n 1, 1) := by decide +kernel
theorem dX11_where_2 : decode cX11_where 2 = .ok (.invokevirtual 274, 3) := by decide +kernel
theorem dX11_where_5 : decode cX11_where 5 = .ok (.astore 4, 2) := by decide +kernel
theorem dX11_where_7 : decode cX11_where 7 = .ok (.aload 4, 2) := by decide +kernel
theorem dX11_where_9 : decode cX11_where 9 = .ok (.ifnull 20, 3) := by decide +kernel
theorem dX11_where_12 : decode cX11_where 12 = .ok (.iload_n 2, 1) := by decide +kernel
theorem dX11_where_13 : decode cX11_where 13 = .ok (.aload 4, 2) := by decide +kernel
theorem dX11_where_15 : decode cX11_where 15 = .ok (.getfield 245, 3) := by decide +kernel
theorem dX11_where_18 : decode cX11_where 18 = .ok (.if_icmp .lt 11, 3) := by decide +kernel
theorem dX11_where_21 : decode cX11_where 21 = .ok (.iload_n 2, 1) := by decide +kernel
theorem dX11_where_22 : decode cX11_where 22 = .ok (.aload_n 0, 1) := by decide +kernel
theorem dX11_where_23 : decode cX11_where 23 = .ok (.getfield 114, 3) := by decide +kernel
theorem dX11_where_26 : decode cX11_where 26 = .ok (.if_icmp .le 5, 3) := by decide +kernel
theorem dX11_where_29 : decode cX11_where 29 = .ok (.iconst (-1), 1) := by decide +kernel
theorem dX11_where_30 : decode cX11_where 30 = .ok (.ireturn, 1) := by decide +kernel
theorem dX11_where_31 : decode cX11_where 31 = .ok (.aload_n 0, 1) := by decide +kernel
theorem dX11_where_32 : decode cX11_where 32 = .ok (.getfield 57, 3) := by decide +kernel
theorem dX11_where_35 : decode cX11_where 35 = .ok (.iload_n 1, 1) := by decide +kernel
theorem dX11_where_36 : decode cX11_where 36 = .ok (.aload 4, 2) := by decide +kernel
theorem dX11_where_38 : decode cX11_where 38 = .ok (.getfield 351, 3) := by decide +kernel
theorem dX11_where_41 : decode cX11_where 41 = .ok (.iconst 1, 1) := by decide +kernel
theorem dX11_where_42 : decode cX11_where 42 = .ok (.isub, 1) := by decide +kernel
theorem dX11_where_43 : decode cX11_where 43 = .ok (.iload_n 2, 1) := by decide +kernel
theorem dX11_where_44 : decode cX11_where 44 = .ok (.invokevirtual 354, 3) := by decide +kernel
theorem dX11_where_47 : decode cX11_where 47 = .ok (.istore 5, 2) := by decide +kernel
theorem dX11_where_49 : decode cX11_where 49 = .ok (.iload_n 3, 1) := by decide +kernel
theorem dX11_where_50 : decode cX11_where 50 = .ok (.lookupswitch 38 #[(0, 26), (1, 32)], 26) := by decide +kernel
theorem dX11_where_76 : decode cX11_where 76 = .ok (.iload 5, 2) := by decide +kernel
theorem dX11_where_78 : decode cX11_where 78 = .ok (.invokestatic 359, 3) := by decide +kernel
theorem dX11_where_81 : decode cX11_where 81 = .ok (.ireturn, 1) := by decide +kernel
theorem dX11_where_82 : decode cX11_where 82 = .ok (.iload 5, 2) := by decide +kernel
theorem dX11_where_84 : decode cX11_where 84 = .ok (.invokestatic 362, 3) := by decide +kernel
theorem dX11_where_87 : decode cX11_where 87 = .ok (.ireturn, 1) := by decide +kernel
theorem dX11_where_88 : decode cX11_where 88 = .ok (.iconst (-1), 1) := by decide +kernel
theorem dX11_where_89 : decode cX11_where 89 = .ok (.ireturn, 1) := by decide +kernel
theorem dX11_sorter_0 : decode cX11_sorter 0 = .ok (.iload_n 1, 1) := by decide +kernel
theorem dX11_sorter_1 : decode cX11_sorter 1 = .ok (.iconst 1, 1) := by decide +kernel
theorem dX11_sorter_2 : decode cX11_sorter 2 = .ok (.if_icmp .lt 20, 3) := by decide +kernel
theorem dX11_sorter_5 : decode cX11_sorter 5 = .ok (.iload_n 1, 1) := by decide +kernel
theorem dX11_sorter_6 : decode cX11_sorter 6 = .ok (.bipush 99, 2) := by decide +kernel
theorem dX11_sorter_8 : decode cX11_sorter 8 = .ok (.if_icmp .gt 14, 3) := by decide +kernel
theorem dX11_sorter_11 : decode cX11_sorter 11 = .ok (.iload_n 2, 1) := by decide +kernel
theorem dX11_sorter_12 : decode cX11_sorter 12 = .ok (.ifCond .lt 10, 3) := by decide +kernel
theorem dX11_sorter_15 : decode cX11_sorter 15 = .ok (.iload_n 2, 1) := by decide +kernel
theorem dX11_sorter_16 : decode cX11_sorter 16 = .ok (.sipush 4096, 3) := by decide +kernel
theorem dX11_sorter_19 : decode cX11_sorter 19 = .ok (.if_icmp .lt 5, 3) := by decide +kernel
theorem dX11_sorter_22 : decode cX11_sorter 22 = .ok (.iconst (-1), 1) := by decide +kernel
theorem dX11_sorter_23 : decode cX11_sorter 23 = .ok (.ireturn, 1) := by decide +kernel
theorem dX11_sorter_24 : decode cX11_sorter 24 = .ok (.aload_n 0, 1) := by decide +kernel
theorem dX11_sorter_25 : decode cX11_sorter 25 = .ok (.iconst 0, 1) := by decide +kernel
theorem dX11_sorter_26 : decode cX11_sorter 26 = .ok (.putfield 110, 3) := by decide +kernel
theorem dX11_sorter_29 : decode cX11_sorter 29 = .ok (.aload_n 0, 1) := by decide +kernel
theorem dX11_sorter_30 : decode cX11_sorter 30 = .ok (.getfield 35, 3) := by decide +kernel
theorem dX11_sorter_33 : decode cX11_sorter 33 = .ok (.iload_n 1, 1) := by decide +kernel
theorem dX11_sorter_34 : decode cX11_sorter 34 = .ok (.iload_n 2, 1) := by decide +kernel
theorem dX11_sorter_35 : decode cX11_sorter 35 = .ok (.invokevirtual 365, 3) := by decide +kernel
theorem dX11_sorter_38 : decode cX11_sorter 38 = .ok (.ireturn, 1) := by decide +kernel
theorem dX11_seat_0 : decode cX11_seat 0 = .ok (.iload_n 1, 1) := by decide +kernel
theorem dX11_seat_1 : decode cX11_seat 1 = .ok (.ifCond .lt 30, 3) := by decide +kernel
theorem dX11_seat_4 : decode cX11_seat 4 = .ok (.iload_n 1, 1) := by decide +kernel
theorem dX11_seat_5 : decode cX11_seat 5 = .ok (.aload_n 0, 1) := by decide +kernel
theorem dX11_seat_6 : decode cX11_seat 6 = .ok (.getfield 35, 3) := by decide +kernel
theorem dX11_seat_9 : decode cX11_seat 9 = .ok (.getfield 174, 3) := by decide +kernel
theorem dX11_seat_12 : decode cX11_seat 12 = .ok (.if_icmp .ge 19, 3) := by decide +kernel
theorem dX11_seat_15 : decode cX11_seat 15 = .ok (.iload_n 2, 1) := by decide +kernel
theorem dX11_seat_16 : decode cX11_seat 16 = .ok (.iconst (-1), 1) := by decide +kernel
theorem dX11_seat_17 : decode cX11_seat 17 = .ok (.if_icmp .eq 16, 3) := by decide +kernel
theorem dX11_seat_20 : decode cX11_seat 20 = .ok (.aload_n 0, 1) := by decide +kernel
theorem dX11_seat_21 : decode cX11_seat 21 = .ok (.getfield 19, 3) := by decide +kernel
theorem dX11_seat_24 : decode cX11_seat 24 = .ok (.iload_n 2, 1) := by decide +kernel
theorem dX11_seat_25 : decode cX11_seat 25 = .ok (.invokevirtual 117, 3) := by decide +kernel
theorem dX11_seat_28 : decode cX11_seat 28 = .ok (.ifCond .ne 5, 3) := by decide +kernel
theorem dX11_seat_31 : decode cX11_seat 31 = .ok (.iconst 0, 1) := by decide +kernel
theorem dX11_seat_32 : decode cX11_seat 32 = .ok (.ireturn, 1) := by decide +kernel
theorem dX11_seat_33 : decode cX11_seat 33 = .ok (.aload_n 0, 1) := by decide +kernel
theorem dX11_seat_34 : decode cX11_seat 34 = .ok (.getfield 35, 3) := by decide +kernel
theorem dX11_seat_37 : decode cX11_seat 37 = .ok (.getfield 367, 3) := by decide +kernel
theorem dX11_seat_40 : decode cX11_seat 40 = .ok (.iload_n 1, 1) := by decide +kernel
theorem dX11_seat_41 : decode cX11_seat 41 = .ok (.iload_n 2, 1) := by decide +kernel
theorem dX11_seat_42 : decode cX11_seat 42 = .ok (.iastore, 1) := by decide +kernel
theorem dX11_seat_43 : decode cX11_seat 43 = .ok (.aload_n 0, 1) := by decide +kernel
theorem dX11_seat_44 : decode cX11_seat 44 = .ok (.iconst 0, 1) := by decide +kernel
theorem dX11_seat_45 : decode cX11_seat 45 = .ok (.putfield 110, 3) := by decide +kernel
theorem dX11_seat_48 : decode cX11_seat 48 = .ok (.iconst 1, 1) := by decide +kernel
theorem dX11_seat_49 : decode cX11_seat 49 = .ok (.ireturn, 1) := by decide +kernel
theorem dX11_run_0 : decode cX11_run 0 = .ok (.aload_n 0, 1) := by decide +kernel
theorem dX11_run_1 : decode cX11_run 1 = .ok (.getfield 19, 3) := by decide +kernel
theorem dX11_run_4 : decode cX11_run 4 = .ok (.iload_n 1, 1) := by decide +kernel
theorem dX11_run_5 : decode cX11_run 5 = .ok (.iload_n 2, 1) := by decide +kernel
theorem dX11_run_6 : decode cX11_run 6 = .ok (.invokevirtual 148, 3) := by decide +kernel
theorem dX11_run_9 : decode cX11_run 9 = .ok (.ifCond .ne 5, 3) := by decide +kernel
theorem dX11_run_12 : decode cX11_run 12 = .ok (.iconst (-1), 1) := by decide +kernel
theorem dX11_run_13 : decode cX11_run 13 = .ok (.ireturn, 1) := by decide +kernel
theorem dX11_run_14 : decode cX11_run 14 = .ok (.bipush 10, 2) := by decide +kernel
theorem dX11_run_16 : decode cX11_run 16 = .ok (.iload_n 2, 1) := by decide +kernel
theorem dX11_run_17 : decode cX11_run 17 = .ok (.imul, 1) := by decide +kernel
theorem dX11_run_18 : decode cX11_run 18 = .ok (.iload_n 1, 1) := by decide +kernel
theorem dX11_run_19 : decode cX11_run 19 = .ok (.iadd, 1) := by decide +kernel
theorem dX11_run_20 : decode cX11_run 20 = .ok (.istore 4, 2) := by decide +kernel
theorem dX11_run_22 : decode cX11_run 22 = .ok (.iload_n 3, 1) := by decide +kernel
theorem dX11_run_23 : decode cX11_run 23 = .ok (.tableswitch 91 0 4 #[33, 44, 55, 69, 80], 33) := by decide +kernel
theorem dX11_run_56 : decode cX11_run 56 = .ok (.aload_n 0, 1) := by decide +kernel
theorem dX11_run_57 : decode cX11_run 57 = .ok (.getfield 66, 3) := by decide +kernel
theorem dX11_run_60 : decode cX11_run 60 = .ok (.iload 4, 2) := by decide +kernel
theorem dX11_run_62 : decode cX11_run 62 = .ok (.iconst 0, 1) := by decide +kernel
theorem dX11_run_63 : decode cX11_run 63 = .ok (.invokevirtual 370, 3) := by decide +kernel
theorem dX11_run_66 : decode cX11_run 66 = .ok (.ireturn, 1) := by decide +kernel
theorem dX11_run_67 : decode cX11_run 67 = .ok (.aload_n 0, 1) := by decide +kernel
theorem dX11_run_68 : decode cX11_run 68 = .ok (.getfield 66, 3) := by decide +kernel
theorem dX11_run_71 : decode cX11_run 71 = .ok (.iload 4, 2) := by decide +kernel
theorem dX11_run_73 : decode cX11_run 73 = .ok (.iconst 1, 1) := by decide +kernel
theorem dX11_run_74 : decode cX11_run 74 = .ok (.invokevirtual 370, 3) := by decide +kernel
theorem dX11_run_77 : decode cX11_run 77 = .ok (.ireturn, 1) := by decide +kernel
theorem dX11_run_78 : decode cX11_run 78 = .ok (.aload_n 0, 1) := by decide +kernel
theorem dX11_run_79 : decode cX11_run 79 = .ok (.getfield 19, 3) := by decide +kernel
theorem dX11_run_82 : decode cX11_run 82 = .ok (.iload_n 1, 1) := by decide +kernel
theorem dX11_run_83 : decode cX11_run 83 = .ok (.iload_n 2, 1) := by decide +kernel
theorem dX11_run_84 : decode cX11_run 84 = .ok (.aload_n 0, 1) := by decide +kernel
theorem dX11_run_85 : decode cX11_run 85 = .ok (.getfield 114, 3) := by decide +kernel
theorem dX11_run_88 : decode cX11_run 88 = .ok (.invokevirtual 374, 3) := by decide +kernel
theorem dX11_run_91 : decode cX11_run 91 = .ok (.ireturn, 1) := by decide +kernel
theorem dX11_run_92 : decode cX11_run 92 = .ok (.aload_n 0, 1) := by decide +kernel
theorem dX11_run_93 : decode cX11_run 93 = .ok (.getfield 66, 3) := by decide +kernel
theorem dX11_run_96 : decode cX11_run 96 = .ok (.getfield 377, 3) := by decide +kernel
theorem dX11_run_99 : decode cX11_run 99 = .ok (.iload 4, 2) := by decide +kernel
theorem dX11_run_101 : decode cX11_run 101 = .ok (.iaload, 1) := by decide +kernel
theorem dX11_run_102 : decode cX11_run 102 = .ok (.ireturn, 1) := by decide +kernel
theorem dX11_run_103 : decode cX11_run 103 = .ok (.aload_n 0, 1) := by decide +kernel
theorem dX11_run_104 : decode cX11_run 104 = .ok (.getfield 19, 3) := by decide +kernel
theorem dX11_run_107 : decode cX11_run 107 = .ok (.getfield 145, 3) := by decide +kernel
theorem dX11_run_110 : decode cX11_run 110 = .ok (.iload 4, 2) := by decide +kernel
theorem dX11_run_112 : decode cX11_run 112 = .ok (.iaload, 1) := by decide +kernel
theorem dX11_run_113 : decode cX11_run 113 = .ok (.ireturn, 1) := by decide +kernel
theorem dX11_run_114 : decode cX11_run 114 = .ok (.iconst (-1), 1) := by decide +kernel
theorem dX11_run_115 : decode cX11_run 115 = .ok (.ireturn, 1) := by decide +kernel
theorem dX11_account_0 : decode cX11_account 0 = .ok (.aload_n 0, 1) := by decide +kernel
theorem dX11_account_1 : decode cX11_account 1 = .ok (.getfield 12, 3) := by decide +kernel
theorem dX11_account_4 : decode cX11_account 4 = .ok (.iload_n 1, 1) := by decide +kernel
theorem dX11_account_5 : decode cX11_account 5 = .ok (.invokevirtual 95, 3) := by decide +kernel
theorem dX11_account_8 : decode cX11_account 8 = .ok (.ifCond .eq 19, 3) := by decide +kernel
theorem dX11_account_11 : decode cX11_account 11 = .ok (.aload_n 0, 1) := by decide +kernel
theorem dX11_account_12 : decode cX11_account 12 = .ok (.getfield 12, 3) := by decide +kernel
theorem dX11_account_15 : decode cX11_account 15 = .ok (.iload_n 2, 1) := by decide +kernel
theorem dX11_account_16 : decode cX11_account 16 = .ok (.invokevirtual 95, 3) := by decide +kernel
theorem dX11_account_19 : decode cX11_account 19 = .ok (.ifCond .eq 8, 3) := by decide +kernel
theorem dX11_account_22 : decode cX11_account 22 = .ok (.iload_n 1, 1) := by decide +kernel
theorem dX11_account_23 : decode cX11_account 23 = .ok (.iload_n 2, 1) := by decide +kernel
theorem dX11_account_24 : decode cX11_account 24 = .ok (.if_icmp .ne 5, 3) := by decide +kernel
theorem dX11_account_27 : decode cX11_account 27 = .ok (.iconst (-1), 1) := by decide +kernel
theorem dX11_account_28 : decode cX11_account 28 = .ok (.ireturn, 1) := by decide +kernel
theorem dX11_account_29 : decode cX11_account 29 = .ok (.iload_n 3, 1) := by decide +kernel
theorem dX11_account_30 : decode cX11_account 30 = .ok (.tableswitch 49 0 2 #[26, 34, 42], 26) := by decide +kernel
theorem dX11_account_56 : decode cX11_account 56 = .ok (.aload_n 0, 1) := by decide +kernel
theorem dX11_account_57 : decode cX11_account 57 = .ok (.iload_n 1, 1) := by decide +kernel
theorem dX11_account_58 : decode cX11_account 58 = .ok (.iload_n 2, 1) := by decide +kernel
theorem dX11_account_59 : decode cX11_account 59 = .ok (.iconst 0, 1) := by decide +kernel
theorem dX11_account_60 : decode cX11_account 60 = .ok (.invokevirtual 380, 3) := by decide +kernel
theorem dX11_account_63 : decode cX11_account 63 = .ok (.ireturn, 1) := by decide +kernel
theorem dX11_account_64 : decode cX11_account 64 = .ok (.aload_n 0, 1) := by decide +kernel
theorem dX11_account_65 : decode cX11_account 65 = .ok (.iload_n 1, 1) := by decide +kernel
theorem dX11_account_66 : decode cX11_account 66 = .ok (.iload_n 2, 1) := by decide +kernel
theorem dX11_account_67 : decode cX11_account 67 = .ok (.iconst 1, 1) := by decide +kernel
theorem dX11_account_68 : decode cX11_account 68 = .ok (.invokevirtual 380, 3) := by decide +kernel
theorem dX11_account_71 : decode cX11_account 71 = .ok (.ireturn, 1) := by decide +kernel
theorem dX11_account_72 : decode cX11_account 72 = .ok (.aload_n 0, 1) := by decide +kernel
theorem dX11_account_73 : decode cX11_account 73 = .ok (.iload_n 1, 1) := by decide +kernel
theorem dX11_account_74 : decode cX11_account 74 = .ok (.iload_n 2, 1) := by decide +kernel
theorem dX11_account_75 : decode cX11_account 75 = .ok (.invokevirtual 384, 3) := by decide +kernel
theorem dX11_account_78 : decode cX11_account 78 = .ok (.ireturn, 1) := by decide +kernel
theorem dX11_account_79 : decode cX11_account 79 = .ok (.iload_n 3, 1) := by decide +kernel
theorem dX11_account_80 : decode cX11_account 80 = .ok (.bipush 10, 2) := by decide +kernel
theorem dX11_account_82 : decode cX11_account 82 = .ok (.if_icmp .ge 7, 3) := by decide +kernel
theorem dX11_account_85 : decode cX11_account 85 = .ok (.iconst (-1), 1) := by decide +kernel
theorem dX11_account_86 : decode cX11_account 86 = .ok (.goto 13, 3) := by decide +kernel
theorem dX11_account_89 : decode cX11_account 89 = .ok (.aload_n 0, 1) := by decide +kernel
theorem dX11_account_90 : decode cX11_account 90 = .ok (.iload_n 1, 1) := by decide +kernel
theorem dX11_account_91 : decode cX11_account 91 = .ok (.iload_n 2, 1) := by decide +kernel
theorem dX11_account_92 : decode cX11_account 92 = .ok (.iload_n 3, 1) := by decide +kernel
theorem dX11_account_93 : decode cX11_account 93 = .ok (.bipush 10, 2) := by decide +kernel
theorem dX11_account_95 : decode cX11_account 95 = .ok (.isub, 1) := by decide +kernel
theorem dX11_account_96 : decode cX11_account 96 = .ok (.invokevirtual 387, 3) := by decide +kernel
theorem dX11_account_99 : decode cX11_account 99 = .ok (.ireturn, 1) := by decide +kernel
theorem dX11_nobody_0 : decode cX11_nobody 0 = .ok (.aload_n 0, 1) := by decide +kernel
theorem dX11_nobody_1 : decode cX11_nobody 1 = .ok (.iload_n 1, 1) := by decide +kernel
theorem dX11_nobody_2 : decode cX11_nobody 2 = .ok (.invokevirtual 274, 3) := by decide +kernel
theorem dX11_nobody_5 : decode cX11_nobody 5 = .ok (.astore_n 2, 1) := by decide +kernel
theorem dX11_nobody_6 : decode cX11_nobody 6 = .ok (.aload_n 2, 1) := by decide +kernel
theorem dX11_nobody_7 : decode cX11_nobody 7 = .ok (.ifnull 23, 3) := by decide +kernel
theorem dX11_nobody_10 : decode cX11_nobody 10 = .ok (.aload_n 2, 1) := by decide +kernel
theorem dX11_nobody_11 : decode cX11_nobody 11 = .ok (.getfield 390, 3) := by decide +kernel
theorem dX11_nobody_14 : decode cX11_nobody 14 = .ok (.ifCond .ne 16, 3) := by decide +kernel
theorem dX11_nobody_17 : decode cX11_nobody 17 = .ok (.aload_n 0, 1) := by decide +kernel
theorem dX11_nobody_18 : decode cX11_nobody 18 = .ok (.getfield 66, 3) := by decide +kernel
theorem dX11_nobody_21 : decode cX11_nobody 21 = .ok (.getfield 278, 3) := by decide +kernel
theorem dX11_nobody_24 : decode cX11_nobody 24 = .ok (.iload_n 1, 1) := by decide +kernel
theorem dX11_nobody_25 : decode cX11_nobody 25 = .ok (.iaload, 1) := by decide +kernel
theorem dX11_nobody_26 : decode cX11_nobody 26 = .ok (.iconst 1, 1) := by decide +kernel
theorem dX11_nobody_27 : decode cX11_nobody 27 = .ok (.if_icmp .le 5, 3) := by decide +kernel
theorem dX11_nobody_30 : decode cX11_nobody 30 = .ok (.iconst 0, 1) := by decide +kernel
theorem dX11_nobody_31 : decode cX11_nobody 31 = .ok (.ireturn, 1) := by decide +kernel
theorem dX11_nobody_32 : decode cX11_nobody 32 = .ok (.aload_n 2, 1) := by decide +kernel
theorem dX11_nobody_33 : decode cX11_nobody 33 = .ok (.iconst 1, 1) := by decide +kernel
theorem dX11_nobody_34 : decode cX11_nobody 34 = .ok (.putfield 390, 3) := by decide +kernel
theorem dX11_nobody_37 : decode cX11_nobody 37 = .ok (.aload_n 0, 1) := by decide +kernel
theorem dX11_nobody_38 : decode cX11_nobody 38 = .ok (.iconst 0, 1) := by decide +kernel
theorem dX11_nobody_39 : decode cX11_nobody 39 = .ok (.putfield 110, 3) := by decide +kernel
theorem dX11_nobody_42 : decode cX11_nobody 42 = .ok (.iconst 1, 1) := by decide +kernel
theorem dX11_nobody_43 : decode cX11_nobody 43 = .ok (.ireturn, 1) := by decide +kernel
theorem dX11_place_0 : decode cX11_place 0 = .ok (.aload_n 0, 1) := by decide +kernel
theorem dX11_place_1 : decode cX11_place 1 = .ok (.iload_n 1, 1) := by decide +kernel
theorem dX11_place_2 : decode cX11_place 2 = .ok (.invokevirtual 274, 3) := by decide +kernel
theorem dX11_place_5 : decode cX11_place 5 = .ok (.astore 4, 2) := by decide +kernel
theorem dX11_place_7 : decode cX11_place 7 = .ok (.aload 4, 2) := by decide +kernel
theorem dX11_place_9 : decode cX11_place 9 = .ok (.ifnull 36, 3) := by decide +kernel
theorem dX11_place_12 : decode cX11_place 12 = .ok (.aload_n 0, 1) := by decide +kernel
theorem dX11_place_13 : decode cX11_place 13 = .ok (.getfield 66, 3) := by decide +kernel
theorem dX11_place_16 : decode cX11_place 16 = .ok (.getfield 278, 3) := by decide +kernel
theorem dX11_place_19 : decode cX11_place 19 = .ok (.iload_n 1, 1) := by decide +kernel
theorem dX11_place_20 : decode cX11_place 20 = .ok (.iaload, 1) := by decide +kernel
theorem dX11_place_21 : decode cX11_place 21 = .ok (.iconst 3, 1) := by decide +kernel
theorem dX11_place_22 : decode cX11_place 22 = .ok (.if_icmp .ne 23, 3) := by decide +kernel
theorem dX11_place_25 : decode cX11_place 25 = .ok (.aload_n 0, 1) := by decide +kernel
theorem dX11_place_26 : decode cX11_place 26 = .ok (.getfield 12, 3) := by decide +kernel
theorem dX11_place_29 : decode cX11_place 29 = .ok (.iload_n 2, 1) := by decide +kernel
theorem dX11_place_30 : decode cX11_place 30 = .ok (.invokevirtual 95, 3) := by decide +kernel
theorem dX11_place_33 : decode cX11_place 33 = .ok (.ifCond .eq 12, 3) := by decide +kernel
theorem dX11_place_36 : decode cX11_place 36 = .ok (.iload_n 2, 1) := by decide +kernel
theorem dX11_place_37 : decode cX11_place 37 = .ok (.aload 4, 2) := by decide +kernel
theorem dX11_place_39 : decode cX11_place 39 = .ok (.getfield 287, 3) := by decide +kernel
theorem dX11_place_42 : decode cX11_place 42 = .ok (.if_icmp .ne 5, 3) := by decide +kernel
theorem dX11_place_45 : decode cX11_place 45 = .ok (.iconst 0, 1) := by decide +kernel
theorem dX11_place_46 : decode cX11_place 46 = .ok (.ireturn, 1) := by decide +kernel
theorem dX11_place_47 : decode cX11_place 47 = .ok (.iload_n 3, 1) := by decide +kernel
theorem dX11_place_48 : decode cX11_place 48 = .ok (.iconst 1, 1) := by decide +kernel
theorem dX11_place_49 : decode cX11_place 49 = .ok (.if_icmp .lt 9, 3) := by decide +kernel
theorem dX11_place_52 : decode cX11_place 52 = .ok (.iload_n 3, 1) := by decide +kernel
theorem dX11_place_53 : decode cX11_place 53 = .ok (.bipush 99, 2) := by decide +kernel
theorem dX11_place_55 : decode cX11_place 55 = .ok (.if_icmp .le 5, 3) := by decide +kernel
theorem dX11_place_58 : decode cX11_place 58 = .ok (.iconst 0, 1) := by decide +kernel
theorem dX11_place_59 : decode cX11_place 59 = .ok (.ireturn, 1) := by decide +kernel
theorem dX11_place_60 : decode cX11_place 60 = .ok (.aload 4, 2) := by decide +kernel
theorem dX11_place_62 : decode cX11_place 62 = .ok (.iload_n 2, 1) := by decide +kernel
theorem dX11_place_63 : decode cX11_place 63 = .ok (.iload_n 3, 1) := by decide +kernel
theorem dX11_place_64 : decode cX11_place 64 = .ok (.invokevirtual 393, 3) := by decide +kernel
theorem dX11_place_67 : decode cX11_place 67 = .ok (.ireturn, 1) := by decide +kernel
theorem dX11_order_0 : decode cX11_order 0 = .ok (.aload_n 0, 1) := by decide +kernel
theorem dX11_order_1 : decode cX11_order 1 = .ok (.iload_n 1, 1) := by decide +kernel
theorem dX11_order_2 : decode cX11_order 2 = .ok (.invokevirtual 274, 3) := by decide +kernel
theorem dX11_order_5 : decode cX11_order 5 = .ok (.astore_n 3, 1) := by decide +kernel
theorem dX11_order_6 : decode cX11_order 6 = .ok (.aload_n 3, 1) := by decide +kernel
theorem dX11_order_7 : decode cX11_order 7 = .ok (.ifnonnull 7, 3) := by decide +kernel
theorem dX11_order_10 : decode cX11_order 10 = .ok (.ldc2_w 396, 3) := by decide +kernel
theorem dX11_order_13 : decode cX11_order 13 = .ok (.lreturn, 1) := by decide +kernel
theorem dX11_order_14 : decode cX11_order 14 = .ok (.iload_n 2, 1) := by decide +kernel
theorem dX11_order_15 : decode cX11_order 15 = .ok (.ifCond .ne 9, 3) := by decide +kernel
theorem dX11_order_18 : decode cX11_order 18 = .ok (.aload_n 3, 1) := by decide +kernel
theorem dX11_order_19 : decode cX11_order 19 = .ok (.getfield 398, 3) := by decide +kernel
theorem dX11_order_22 : decode cX11_order 22 = .ok (.i2l, 1) := by decide +kernel
theorem dX11_order_23 : decode cX11_order 23 = .ok (.lreturn, 1) := by decide +kernel
theorem dX11_order_24 : decode cX11_order 24 = .ok (.iload_n 2, 1) := by decide +kernel
theorem dX11_order_25 : decode cX11_order 25 = .ok (.iconst 1, 1) := by decide +kernel
theorem dX11_order_26 : decode cX11_order 26 = .ok (.if_icmp .eq 8, 3) := by decide +kernel
theorem dX11_order_29 : decode cX11_order 29 = .ok (.iload_n 2, 1) := by decide +kernel
theorem dX11_order_30 : decode cX11_order 30 = .ok (.iconst 2, 1) := by decide +kernel
theorem dX11_order_31 : decode cX11_order 31 = .ok (.if_icmp .ne 31, 3) := by decide +kernel
theorem dX11_order_34 : decode cX11_order 34 = .ok (.aload_n 3, 1) := by decide +kernel
theorem dX11_order_35 : decode cX11_order 35 = .ok (.getfield 398, 3) := by decide +kernel
theorem dX11_order_38 : decode cX11_order 38 = .ok (.ifCond .ne 9, 3) := by decide +kernel
theorem dX11_order_41 : decode cX11_order 41 = .ok (.ldc2_w 396, 3) := by decide +kernel
theorem dX11_order_44 : decode cX11_order 44 = .ok (.goto 17, 3) := by decide +kernel
theorem dX11_order_47 : decode cX11_order 47 = .ok (.aload_n 3, 1) := by decide +kernel
theorem dX11_order_48 : decode cX11_order 48 = .ok (.iload_n 2, 1) := by decide +kernel
theorem dX11_order_49 : decode cX11_order 49 = .ok (.iconst 1, 1) := by decide +kernel
theorem dX11_order_50 : decode cX11_order 50 = .ok (.if_icmp .ne 7, 3) := by decide +kernel
theorem dX11_order_53 : decode cX11_order 53 = .ok (.iconst 1, 1) := by decide +kernel
theorem dX11_order_54 : decode cX11_order 54 = .ok (.goto 4, 3) := by decide +kernel
theorem dX11_order_57 : decode cX11_order 57 = .ok (.iconst 0, 1) := by decide +kernel
theorem dX11_order_58 : decode cX11_order 58 = .ok (.invokevirtual 401, 3) := by decide +kernel
theorem dX11_order_61 : decode cX11_order 61 = .ok (.lreturn, 1) := by decide +kernel
theorem dX11_order_62 : decode cX11_order 62 = .ok (.iload_n 2, 1) := by decide +kernel
theorem dX11_order_63 : decode cX11_order 63 = .ok (.bipush 10, 2) := by decide +kernel
theorem dX11_order_65 : decode cX11_order 65 = .ok (.if_icmp .lt 24, 3) := by decide +kernel
theorem dX11_order_68 : decode cX11_order 68 = .ok (.iload_n 2, 1) := by decide +kernel
theorem dX11_order_69 : decode cX11_order 69 = .ok (.bipush 10, 2) := by decide +kernel
theorem dX11_order_71 : decode cX11_order 71 = .ok (.aload_n 3, 1) := by decide +kernel
theorem dX11_order_72 : decode cX11_order 72 = .ok (.getfield 398, 3) := by decide +kernel
theorem dX11_order_75 : decode cX11_order 75 = .ok (.iadd, 1) := by decide +kernel
theorem dX11_order_76 : decode cX11_order 76 = .ok (.if_icmp .ge 13, 3) := by decide +kernel
theorem dX11_order_79 : decode cX11_order 79 = .ok (.aload_n 3, 1) := by decide +kernel
theorem dX11_order_80 : decode cX11_order 80 = .ok (.iload_n 2, 1) := by decide +kernel
theorem dX11_order_81 : decode cX11_order 81 = .ok (.bipush 10, 2) := by decide +kernel
theorem dX11_order_83 : decode cX11_order 83 = .ok (.isub, 1) := by decide +kernel
theorem dX11_order_84 : decode cX11_order 84 = .ok (.invokevirtual 405, 3) := by decide +kernel
theorem dX11_order_87 : decode cX11_order 87 = .ok (.i2l, 1) := by decide +kernel
theorem dX11_order_88 : decode cX11_order 88 = .ok (.lreturn, 1) := by decide +kernel
theorem dX11_order_89 : decode cX11_order 89 = .ok (.iload_n 2, 1) := by decide +kernel
theorem dX11_order_90 : decode cX11_order 90 = .ok (.bipush 20, 2) := by decide +kernel
theorem dX11_order_92 : decode cX11_order 92 = .ok (.if_icmp .lt 24, 3) := by decide +kernel
theorem dX11_order_95 : decode cX11_order 95 = .ok (.iload_n 2, 1) := by decide +kernel
theorem dX11_order_96 : decode cX11_order 96 = .ok (.bipush 20, 2) := by decide +kernel
theorem dX11_order_98 : decode cX11_order 98 = .ok (.aload_n 3, 1) := by decide +kernel
theorem dX11_order_99 : decode cX11_order 99 = .ok (.getfield 398, 3) := by decide +kernel
theorem dX11_order_102 : decode cX11_order 102 = .ok (.iadd, 1) := by decide +kernel
theorem dX11_order_103 : decode cX11_order 103 = .ok (.if_icmp .ge 13, 3) := by decide +kernel
theorem dX11_order_106 : decode cX11_order 106 = .ok (.aload_n 3, 1) := by decide +kernel
theorem dX11_order_107 : decode cX11_order 107 = .ok (.iload_n 2, 1) := by decide +kernel
theorem dX11_order_108 : decode cX11_order 108 = .ok (.bipush 20, 2) := by decide +kernel
theorem dX11_order_110 : decode cX11_order 110 = .ok (.isub, 1) := by decide +kernel
theorem dX11_order_111 : decode cX11_order 111 = .ok (.invokevirtual 408, 3) := by decide +kernel
theorem dX11_order_114 : decode cX11_order 114 = .ok (.i2l, 1) := by decide +kernel
theorem dX11_order_115 : decode cX11_order 115 = .ok (.lreturn, 1) := by decide +kernel
theorem dX11_order_116 : decode cX11_order 116 = .ok (.ldc2_w 396, 3) := by decide +kernel
theorem dX11_order_119 : decode cX11_order 119 = .ok (.lreturn, 1) := by decide +kernel
theorem dX11_found_0 : decode cX11_found 0 = .ok (.aload_n 0, 1) := by decide +kernel
theorem dX11_found_1 : decode cX11_found 1 = .ok (.iload_n 1, 1) := by decide +kernel
theorem dX11_found_2 : decode cX11_found 2 = .ok (.invokevirtual 274, 3) := by decide +kernel
theorem dX11_found_5 : decode cX11_found 5 = .ok (.astore_n 3, 1) := by decide +kernel
theorem dX11_found_6 : decode cX11_found 6 = .ok (.aload_n 3, 1) := by decide +kernel
theorem dX11_found_7 : decode cX11_found 7 = .ok (.ifnull 25, 3) := by decide +kernel
theorem dX11_found_10 : decode cX11_found 10 = .ok (.aload_n 0, 1) := by decide +kernel
theorem dX11_found_11 : decode cX11_found 11 = .ok (.getfield 66, 3) := by decide +kernel
theorem dX11_found_14 : decode cX11_found 14 = .ok (.getfield 278, 3) := by decide +kernel
theorem dX11_found_17 : decode cX11_found 17 = .ok (.iload_n 1, 1) := by decide +kernel
theorem dX11_found_18 : decode cX11_found 18 = .ok (.iaload, 1) := by decide +kernel
theorem dX11_found_19 : decode cX11_found 19 = .ok (.iconst 3, 1) := by decide +kernel
theorem dX11_found_20 : decode cX11_found 20 = .ok (.if_icmp .ne 12, 3) := by decide +kernel
theorem dX11_found_23 : decode cX11_found 23 = .ok (.aload_n 3, 1) := by decide +kernel
theorem dX11_found_24 : decode cX11_found 24 = .ok (.iload_n 2, 1) := by decide +kernel
theorem dX11_found_25 : decode cX11_found 25 = .ok (.invokevirtual 411, 3) := by decide +kernel
theorem dX11_found_28 : decode cX11_found 28 = .ok (.iconst (-1), 1) := by decide +kernel
theorem dX11_found_29 : decode cX11_found 29 = .ok (.if_icmp .ne 5, 3) := by decide +kernel
theorem dX11_found_32 : decode cX11_found 32 = .ok (.iconst 0, 1) := by decide +kernel
theorem dX11_found_33 : decode cX11_found 33 = .ok (.ireturn, 1) := by decide +kernel
theorem dX11_found_34 : decode cX11_found 34 = .ok (.aload_n 0, 1) := by decide +kernel
theorem dX11_found_35 : decode cX11_found 35 = .ok (.getfield 66, 3) := by decide +kernel
theorem dX11_found_38 : decode cX11_found 38 = .ok (.iload_n 1, 1) := by decide +kernel
theorem dX11_found_39 : decode cX11_found 39 = .ok (.aload_n 0, 1) := by decide +kernel
theorem dX11_found_40 : decode cX11_found 40 = .ok (.getfield 114, 3) := by decide +kernel
theorem dX11_found_43 : decode cX11_found 43 = .ok (.iconst 5, 1) := by decide +kernel
theorem dX11_found_44 : decode cX11_found 44 = .ok (.iload_n 2, 1) := by decide +kernel
theorem dX11_found_45 : decode cX11_found 45 = .ok (.invokevirtual 414, 3) := by decide +kernel
theorem dX11_found_48 : decode cX11_found 48 = .ok (.aload_n 0, 1) := by decide +kernel
theorem dX11_found_49 : decode cX11_found 49 = .ok (.iconst 0, 1) := by decide +kernel
theorem dX11_found_50 : decode cX11_found 50 = .ok (.putfield 110, 3) := by decide +kernel
theorem dX11_found_53 : decode cX11_found 53 = .ok (.iconst 1, 1) := by decide +kernel
theorem dX11_found_54 : decode cX11_found 54 = .ok (.ireturn, 1) := by decide +kernel
theorem dX11_rob_0 : decode cX11_rob 0 = .ok (.aload_n 0, 1) := by decide +kernel
theorem dX11_rob_1 : decode cX11_rob 1 = .ok (.getfield 19, 3) := by decide +kernel
theorem dX11_rob_4 : decode cX11_rob 4 = .ok (.iload_n 1, 1) := by decide +kernel
theorem dX11_rob_5 : decode cX11_rob 5 = .ok (.iload_n 2, 1) := by decide +kernel
theorem dX11_rob_6 : decode cX11_rob 6 = .ok (.invokevirtual 148, 3) := by decide +kernel
theorem dX11_rob_9 : decode cX11_rob 9 = .ok (.ifCond .eq 21, 3) := by decide +kernel
theorem dX11_rob_12 : decode cX11_rob 12 = .ok (.aload_n 0, 1) := by decide +kernel
theorem dX11_rob_13 : decode cX11_rob 13 = .ok (.getfield 418, 3) := by decide +kernel
theorem dX11_rob_16 : decode cX11_rob 16 = .ok (.bipush 20, 2) := by decide +kernel
theorem dX11_rob_18 : decode cX11_rob 18 = .ok (.if_icmp .ge 12, 3) := by decide +kernel
theorem dX11_rob_21 : decode cX11_rob 21 = .ok (.aload_n 0, 1) := by decide +kernel
theorem dX11_rob_22 : decode cX11_rob 22 = .ok (.iload_n 1, 1) := by decide +kernel
theorem dX11_rob_23 : decode cX11_rob 23 = .ok (.iload_n 2, 1) := by decide +kernel
theorem dX11_rob_24 : decode cX11_rob 24 = .ok (.invokevirtual 421, 3) := by decide +kernel
theorem dX11_rob_27 : decode cX11_rob 27 = .ok (.ifCond .ne 5, 3) := by decide +kernel
theorem dX11_rob_30 : decode cX11_rob 30 = .ok (.iconst (-1), 1) := by decide +kernel
theorem dX11_rob_31 : decode cX11_rob 31 = .ok (.ireturn, 1) := by decide +kernel
theorem dX11_rob_32 : decode cX11_rob 32 = .ok (.bipush 10, 2) := by decide +kernel
theorem dX11_rob_34 : decode cX11_rob 34 = .ok (.iload_n 2, 1) := by decide +kernel
theorem dX11_rob_35 : decode cX11_rob 35 = .ok (.imul, 1) := by decide +kernel
theorem dX11_rob_36 : decode cX11_rob 36 = .ok (.iload_n 1, 1) := by decide +kernel
theorem dX11_rob_37 : decode cX11_rob 37 = .ok (.iadd, 1) := by decide +kernel
theorem dX11_rob_38 : decode cX11_rob 38 = .ok (.istore_n 3, 1) := by decide +kernel
theorem dX11_rob_39 : decode cX11_rob 39 = .ok (.aload_n 0, 1) := by decide +kernel
theorem dX11_rob_40 : decode cX11_rob 40 = .ok (.getfield 418, 3) := by decide +kernel
theorem dX11_rob_43 : decode cX11_rob 43 = .ok (.istore 4, 2) := by decide +kernel
theorem dX11_rob_45 : decode cX11_rob 45 = .ok (.aload_n 0, 1) := by decide +kernel
theorem dX11_rob_46 : decode cX11_rob 46 = .ok (.getfield 79, 3) := by decide +kernel
theorem dX11_rob_49 : decode cX11_rob 49 = .ok (.iload 4, 2) := by decide +kernel
theorem dX11_rob_51 : decode cX11_rob 51 = .ok (.iload_n 3, 1) := by decide +kernel
theorem dX11_rob_52 : decode cX11_rob 52 = .ok (.iastore, 1) := by decide +kernel
theorem dX11_rob_53 : decode cX11_rob 53 = .ok (.aload_n 0, 1) := by decide +kernel
theorem dX11_rob_54 : decode cX11_rob 54 = .ok (.getfield 83, 3) := by decide +kernel
theorem dX11_rob_57 : decode cX11_rob 57 = .ok (.iload 4, 2) := by decide +kernel
theorem dX11_rob_59 : decode cX11_rob 59 = .ok (.aload_n 0, 1) := by decide +kernel
theorem dX11_rob_60 : decode cX11_rob 60 = .ok (.getfield 114, 3) := by decide +kernel
theorem dX11_rob_63 : decode cX11_rob 63 = .ok (.iastore, 1) := by decide +kernel
theorem dX11_rob_64 : decode cX11_rob 64 = .ok (.aload_n 0, 1) := by decide +kernel
theorem dX11_rob_65 : decode cX11_rob 65 = .ok (.dup, 1) := by decide +kernel
theorem dX11_rob_66 : decode cX11_rob 66 = .ok (.getfield 418, 3) := by decide +kernel
theorem dX11_rob_69 : decode cX11_rob 69 = .ok (.iconst 1, 1) := by decide +kernel
theorem dX11_rob_70 : decode cX11_rob 70 = .ok (.iadd, 1) := by decide +kernel
theorem dX11_rob_71 : decode cX11_rob 71 = .ok (.putfield 418, 3) := by decide +kernel
theorem dX11_rob_74 : decode cX11_rob 74 = .ok (.iconst 0, 1) := by decide +kernel
theorem dX11_rob_75 : decode cX11_rob 75 = .ok (.istore 5, 2) := by decide +kernel
theorem dX11_rob_77 : decode cX11_rob 77 = .ok (.iload 5, 2) := by decide +kernel
theorem dX11_rob_79 : decode cX11_rob 79 = .ok (.aload_n 0, 1) := by decide +kernel
theorem dX11_rob_80 : decode cX11_rob 80 = .ok (.getfield 66, 3) := by decide +kernel
theorem dX11_rob_83 : decode cX11_rob 83 = .ok (.getfield 173, 3) := by decide +kernel
theorem dX11_rob_86 : decode cX11_rob 86 = .ok (.if_icmp .ge 59, 3) := by decide +kernel
theorem dX11_rob_89 : decode cX11_rob 89 = .ok (.aload_n 0, 1) := by decide +kernel
theorem dX11_rob_90 : decode cX11_rob 90 = .ok (.getfield 66, 3) := by decide +kernel
theorem dX11_rob_93 : decode cX11_rob 93 = .ok (.iload 5, 2) := by decide +kernel
theorem dX11_rob_95 : decode cX11_rob 95 = .ok (.iload_n 3, 1) := by decide +kernel
theorem dX11_rob_96 : decode cX11_rob 96 = .ok (.invokevirtual 424, 3) := by decide +kernel
theorem dX11_rob_99 : decode cX11_rob 99 = .ok (.ifCond .eq 40, 3) := by decide +kernel
theorem dX11_rob_102 : decode cX11_rob 102 = .ok (.aload_n 0, 1) := by decide +kernel
theorem dX11_rob_103 : decode cX11_rob 103 = .ok (.getfield 66, 3) := by decide +kernel
theorem dX11_rob_106 : decode cX11_rob 106 = .ok (.getfield 302, 3) := by decide +kernel
theorem dX11_rob_109 : decode cX11_rob 109 = .ok (.iload 5, 2) := by decide +kernel
theorem dX11_rob_111 : decode cX11_rob 111 = .ok (.baload, 1) := by decide +kernel
theorem dX11_rob_112 : decode cX11_rob 112 = .ok (.ifCond .eq 27, 3) := by decide +kernel
theorem dX11_rob_115 : decode cX11_rob 115 = .ok (.aload_n 0, 1) := by decide +kernel
theorem dX11_rob_116 : decode cX11_rob 116 = .ok (.getfield 86, 3) := by decide +kernel
theorem dX11_rob_119 : decode cX11_rob 119 = .ok (.iload 5, 2) := by decide +kernel
theorem dX11_rob_121 : decode cX11_rob 121 = .ok (.iload 4, 2) := by decide +kernel
theorem dX11_rob_123 : decode cX11_rob 123 = .ok (.iastore, 1) := by decide +kernel
theorem dX11_rob_124 : decode cX11_rob 124 = .ok (.aload_n 0, 1) := by decide +kernel
theorem dX11_rob_125 : decode cX11_rob 125 = .ok (.getfield 66, 3) := by decide +kernel
theorem dX11_rob_128 : decode cX11_rob 128 = .ok (.iload 5, 2) := by decide +kernel
theorem dX11_rob_130 : decode cX11_rob 130 = .ok (.aload_n 0, 1) := by decide +kernel
theorem dX11_rob_131 : decode cX11_rob 131 = .ok (.getfield 114, 3) := by decide +kernel
theorem dX11_rob_134 : decode cX11_rob 134 = .ok (.iconst 4, 1) := by decide +kernel
theorem dX11_rob_135 : decode cX11_rob 135 = .ok (.iload_n 3, 1) := by decide +kernel
theorem dX11_rob_136 : decode cX11_rob 136 = .ok (.invokevirtual 414, 3) := by decide +kernel
theorem dX11_rob_139 : decode cX11_rob 139 = .ok (.iinc 5 1, 3) := by decide +kernel
theorem dX11_rob_142 : decode cX11_rob 142 = .ok (.goto (-65), 3) := by decide +kernel
theorem dX11_rob_145 : decode cX11_rob 145 = .ok (.aload_n 0, 1) := by decide +kernel
theorem dX11_rob_146 : decode cX11_rob 146 = .ok (.iconst 0, 1) := by decide +kernel
theorem dX11_rob_147 : decode cX11_rob 147 = .ok (.putfield 110, 3) := by decide +kernel
theorem dX11_rob_150 : decode cX11_rob 150 = .ok (.iload 4, 2) := by decide +kernel
theorem dX11_rob_152 : decode cX11_rob 152 = .ok (.ireturn, 1) := by decide +kernel
theorem dX11_robbery_0 : decode cX11_robbery 0 = .ok (.iload_n 1, 1) := by decide +kernel
theorem dX11_robbery_1 : decode cX11_robbery 1 = .ok (.ifCond .lt 11, 3) := by decide +kernel
theorem dX11_robbery_4 : decode cX11_robbery 4 = .ok (.iload_n 1, 1) := by decide +kernel
theorem dX11_robbery_5 : decode cX11_robbery 5 = .ok (.aload_n 0, 1) := by decide +kernel
theorem dX11_robbery_6 : decode cX11_robbery 6 = .ok (.getfield 418, 3) := by decide +kernel
theorem dX11_robbery_9 : decode cX11_robbery 9 = .ok (.if_icmp .lt 5, 3) := by decide +kernel
theorem dX11_robbery_12 : decode cX11_robbery 12 = .ok (.iconst (-1), 1) := by decide +kernel
theorem dX11_robbery_13 : decode cX11_robbery 13 = .ok (.ireturn, 1) := by decide +kernel
theorem dX11_robbery_14 : decode cX11_robbery 14 = .ok (.iload_n 2, 1) := by decide +kernel
theorem dX11_robbery_15 : decode cX11_robbery 15 = .ok (.tableswitch 55 0 3 #[29, 36, 43, 49], 29) := by decide +kernel
theorem dX11_robbery_44 : decode cX11_robbery 44 = .ok (.aload_n 0, 1) := by decide +kernel
theorem dX11_robbery_45 : decode cX11_robbery 45 = .ok (.getfield 79, 3) := by decide +kernel
theorem dX11_robbery_48 : decode cX11_robbery 48 = .ok (.iload_n 1, 1) := by decide +kernel
theorem dX11_robbery_49 : decode cX11_robbery 49 = .ok (.iaload, 1) := by decide +kernel
theorem dX11_robbery_50 : decode cX11_robbery 50 = .ok (.ireturn, 1) := by decide +kernel
theorem dX11_robbery_51 : decode cX11_robbery 51 = .ok (.aload_n 0, 1) := by decide +kernel
theorem dX11_robbery_52 : decode cX11_robbery 52 = .ok (.getfield 83, 3) := by decide +kernel
theorem dX11_robbery_55 : decode cX11_robbery 55 = .ok (.iload_n 1, 1) := by decide +kernel
theorem dX11_robbery_56 : decode cX11_robbery 56 = .ok (.iaload, 1) := by decide +kernel
theorem dX11_robbery_57 : decode cX11_robbery 57 = .ok (.ireturn, 1) := by decide +kernel
theorem dX11_robbery_58 : decode cX11_robbery 58 = .ok (.aload_n 0, 1) := by decide +kernel
theorem dX11_robbery_59 : decode cX11_robbery 59 = .ok (.iload_n 1, 1) := by decide +kernel
theorem dX11_robbery_60 : decode cX11_robbery 60 = .ok (.invokevirtual 427, 3) := by decide +kernel
theorem dX11_robbery_63 : decode cX11_robbery 63 = .ok (.ireturn, 1) := by decide +kernel
theorem dX11_robbery_64 : decode cX11_robbery 64 = .ok (.aload_n 0, 1) := by decide +kernel
theorem dX11_robbery_65 : decode cX11_robbery 65 = .ok (.iload_n 1, 1) := by decide +kernel
theorem dX11_robbery_66 : decode cX11_robbery 66 = .ok (.invokevirtual 430, 3) := by decide +kernel
theorem dX11_robbery_69 : decode cX11_robbery 69 = .ok (.ireturn, 1) := by decide +kernel
theorem dX11_robbery_70 : decode cX11_robbery 70 = .ok (.iload_n 2, 1) := by decide +kernel
theorem dX11_robbery_71 : decode cX11_robbery 71 = .ok (.bipush 10, 2) := by decide +kernel
theorem dX11_robbery_73 : decode cX11_robbery 73 = .ok (.if_icmp .ge 7, 3) := by decide +kernel
theorem dX11_robbery_76 : decode cX11_robbery 76 = .ok (.iconst (-1), 1) := by decide +kernel
theorem dX11_robbery_77 : decode cX11_robbery 77 = .ok (.goto 12, 3) := by decide +kernel
theorem dX11_robbery_80 : decode cX11_robbery 80 = .ok (.aload_n 0, 1) := by decide +kernel
theorem dX11_robbery_81 : decode cX11_robbery 81 = .ok (.iload_n 1, 1) := by decide +kernel
theorem dX11_robbery_82 : decode cX11_robbery 82 = .ok (.iload_n 2, 1) := by decide +kernel
theorem dX11_robbery_83 : decode cX11_robbery 83 = .ok (.bipush 10, 2) := by decide +kernel
theorem dX11_robbery_85 : decode cX11_robbery 85 = .ok (.isub, 1) := by decide +kernel
theorem dX11_robbery_86 : decode cX11_robbery 86 = .ok (.invokevirtual 433, 3) := by decide +kernel
theorem dX11_robbery_89 : decode cX11_robbery 89 = .ok (.ireturn, 1) := by decide +kernel
theorem dX11_set_0 : decode cX11_set 0 = .ok (.aload_n 0, 1) := by decide +kernel
theorem dX11_set_1 : decode cX11_set 1 = .ok (.getfield 19, 3) := by decide +kernel
theorem dX11_set_4 : decode cX11_set 4 = .ok (.iload_n 1, 1) := by decide +kernel
theorem dX11_set_5 : decode cX11_set 5 = .ok (.invokevirtual 117, 3) := by decide +kernel
theorem dX11_set_8 : decode cX11_set 8 = .ok (.ifCond .ne 5, 3) := by decide +kernel
theorem dX11_set_11 : decode cX11_set 11 = .ok (.iconst 0, 1) := by decide +kernel
theorem dX11_set_12 : decode cX11_set 12 = .ok (.ireturn, 1) := by decide +kernel
theorem dX11_set_13 : decode cX11_set 13 = .ok (.aload_n 0, 1) := by decide +kernel
theorem dX11_set_14 : decode cX11_set 14 = .ok (.getfield 75, 3) := by decide +kernel
theorem dX11_set_17 : decode cX11_set 17 = .ok (.iload_n 1, 1) := by decide +kernel
theorem dX11_set_18 : decode cX11_set 18 = .ok (.aaload, 1) := by decide +kernel
theorem dX11_set_19 : decode cX11_set 19 = .ok (.aload_n 0, 1) := by decide +kernel
theorem dX11_set_20 : decode cX11_set 20 = .ok (.getfield 114, 3) := by decide +kernel
theorem dX11_set_23 : decode cX11_set 23 = .ok (.putfield 436, 3) := by decide +kernel
theorem dX11_set_26 : decode cX11_set 26 = .ok (.iconst 1, 1) := by decide +kernel
theorem dX11_set_27 : decode cX11_set 27 = .ok (.ireturn, 1) := by decide +kernel
theorem dX11_seen_0 : decode cX11_seen 0 = .ok (.aload_n 0, 1) := by decide +kernel
theorem dX11_seen_1 : decode cX11_seen 1 = .ok (.getfield 19, 3) := by decide +kernel
theorem dX11_seen_4 : decode cX11_seen 4 = .ok (.iload_n 1, 1) := by decide +kernel
theorem dX11_seen_5 : decode cX11_seen 5 = .ok (.invokevirtual 117, 3) := by decide +kernel
theorem dX11_seen_8 : decode cX11_seen 8 = .ok (.ifCond .eq 14, 3) := by decide +kernel
theorem dX11_seen_11 : decode cX11_seen 11 = .ok (.iload_n 2, 1) := by decide +kernel
theorem dX11_seen_12 : decode cX11_seen 12 = .ok (.ifCond .lt 10, 3) := by decide +kernel
theorem dX11_seen_15 : decode cX11_seen 15 = .ok (.iload_n 2, 1) := by decide +kernel
theorem dX11_seen_16 : decode cX11_seen 16 = .ok (.sipush 10079, 3) := by decide +kernel
theorem dX11_seen_19 : decode cX11_seen 19 = .ok (.if_icmp .le 5, 3) := by decide +kernel
theorem dX11_seen_22 : decode cX11_seen 22 = .ok (.iconst 0, 1) := by decide +kernel
theorem dX11_seen_23 : decode cX11_seen 23 = .ok (.ireturn, 1) := by decide +kernel
theorem dX11_seen_24 : decode cX11_seen 24 = .ok (.aload_n 0, 1) := by decide +kernel
theorem dX11_seen_25 : decode cX11_seen 25 = .ok (.getfield 75, 3) := by decide +kernel
theorem dX11_seen_28 : decode cX11_seen 28 = .ok (.iload_n 1, 1) := by decide +kernel
theorem dX11_seen_29 : decode cX11_seen 29 = .ok (.aaload, 1) := by decide +kernel
theorem dX11_seen_30 : decode cX11_seen 30 = .ok (.aload_n 0, 1) := by decide +kernel
theorem dX11_seen_31 : decode cX11_seen 31 = .ok (.getfield 114, 3) := by decide +kernel
theorem dX11_seen_34 : decode cX11_seen 34 = .ok (.iload_n 2, 1) := by decide +kernel
theorem dX11_seen_35 : decode cX11_seen 35 = .ok (.invokevirtual 439, 3) := by decide +kernel
theorem dX11_seen_38 : decode cX11_seen 38 = .ok (.ireturn, 1) := by decide +kernel
theorem dX11_clock_0 : decode cX11_clock 0 = .ok (.aload_n 0, 1) := by decide +kernel
theorem dX11_clock_1 : decode cX11_clock 1 = .ok (.getfield 19, 3) := by decide +kernel
theorem dX11_clock_4 : decode cX11_clock 4 = .ok (.iload_n 1, 1) := by decide +kernel
theorem dX11_clock_5 : decode cX11_clock 5 = .ok (.invokevirtual 117, 3) := by decide +kernel
theorem dX11_clock_8 : decode cX11_clock 8 = .ok (.ifCond .ne 7, 3) := by decide +kernel
theorem dX11_clock_11 : decode cX11_clock 11 = .ok (.sipush (-1000), 3) := by decide +kernel
theorem dX11_clock_14 : decode cX11_clock 14 = .ok (.ireturn, 1) := by decide +kernel
theorem dX11_clock_15 : decode cX11_clock 15 = .ok (.iload_n 2, 1) := by decide +kernel
theorem dX11_clock_16 : decode cX11_clock 16 = .ok (.tableswitch 58 0 2 #[28, 38, 48], 28) := by decide +kernel
theorem dX11_clock_44 : decode cX11_clock 44 = .ok (.aload_n 0, 1) := by decide +kernel
theorem dX11_clock_45 : decode cX11_clock 45 = .ok (.getfield 75, 3) := by decide +kernel
theorem dX11_clock_48 : decode cX11_clock 48 = .ok (.iload_n 1, 1) := by decide +kernel
theorem dX11_clock_49 : decode cX11_clock 49 = .ok (.aaload, 1) := by decide +kernel
theorem dX11_clock_50 : decode cX11_clock 50 = .ok (.getfield 442, 3) := by decide +kernel
theorem dX11_clock_53 : decode cX11_clock 53 = .ok (.ireturn, 1) := by decide +kernel
theorem dX11_clock_54 : decode cX11_clock 54 = .ok (.aload_n 0, 1) := by decide +kernel
theorem dX11_clock_55 : decode cX11_clock 55 = .ok (.getfield 75, 3) := by decide +kernel
theorem dX11_clock_58 : decode cX11_clock 58 = .ok (.iload_n 1, 1) := by decide +kernel
theorem dX11_clock_59 : decode cX11_clock 59 = .ok (.aaload, 1) := by decide +kernel
theorem dX11_clock_60 : decode cX11_clock 60 = .ok (.getfield 445, 3) := by decide +kernel
theorem dX11_clock_63 : decode cX11_clock 63 = .ok (.ireturn, 1) := by decide +kernel
theorem dX11_clock_64 : decode cX11_clock 64 = .ok (.aload_n 0, 1) := by decide +kernel
theorem dX11_clock_65 : decode cX11_clock 65 = .ok (.getfield 75, 3) := by decide +kernel
theorem dX11_clock_68 : decode cX11_clock 68 = .ok (.iload_n 1, 1) := by decide +kernel
theorem dX11_clock_69 : decode cX11_clock 69 = .ok (.aaload, 1) := by decide +kernel
theorem dX11_clock_70 : decode cX11_clock 70 = .ok (.getfield 436, 3) := by decide +kernel
theorem dX11_clock_73 : decode cX11_clock 73 = .ok (.ireturn, 1) := by decide +kernel
theorem dX11_clock_74 : decode cX11_clock 74 = .ok (.sipush (-1000), 3) := by decide +kernel
theorem dX11_clock_77 : decode cX11_clock 77 = .ok (.ireturn, 1) := by decide +kernel
theorem dX11_trueMinute_0 : decode cX11_trueMinute 0 = .ok (.aload_n 0, 1) := by decide +kernel
theorem dX11_trueMinute_1 : decode cX11_trueMinute 1 = .ok (.getfield 19, 3) := by decide +kernel
theorem dX11_trueMinute_4 : decode cX11_trueMinute 4 = .ok (.iload_n 1, 1) := by decide +kernel
theorem dX11_trueMinute_5 : decode cX11_trueMinute 5 = .ok (.invokevirtual 117, 3) := by decide +kernel
theorem dX11_trueMinute_8 : decode cX11_trueMinute 8 = .ok (.ifCond .eq 14, 3) := by decide +kernel
theorem dX11_trueMinute_11 : decode cX11_trueMinute 11 = .ok (.iload_n 2, 1) := by decide +kernel
theorem dX11_trueMinute_12 : decode cX11_trueMinute 12 = .ok (.ifCond .lt 10, 3) := by decide +kernel
theorem dX11_trueMinute_15 : decode cX11_trueMinute 15 = .ok (.iload_n 2, 1) := by decide +kernel
theorem dX11_trueMinute_16 : decode cX11_trueMinute 16 = .ok (.sipush 10079, 3) := by decide +kernel
theorem dX11_trueMinute_19 : decode cX11_trueMinute 19 = .ok (.if_icmp .le 5, 3) := by decide +kernel
theorem dX11_trueMinute_22 : decode cX11_trueMinute 22 = .ok (.iconst (-1), 1) := by decide +kernel
theorem dX11_trueMinute_23 : decode cX11_trueMinute 23 = .ok (.ireturn, 1) := by decide +kernel
theorem dX11_trueMinute_24 : decode cX11_trueMinute 24 = .ok (.iload_n 3, 1) := by decide +kernel
theorem dX11_trueMinute_25 : decode cX11_trueMinute 25 = .ok (.lookupswitch 49 #[(0, 27), (1, 38)], 27) := by decide +kernel
theorem dX11_trueMinute_52 : decode cX11_trueMinute 52 = .ok (.aload_n 0, 1) := by decide +kernel
theorem dX11_trueMinute_53 : decode cX11_trueMinute 53 = .ok (.getfield 75, 3) := by decide +kernel
theorem dX11_trueMinute_56 : decode cX11_trueMinute 56 = .ok (.iload_n 1, 1) := by decide +kernel
theorem dX11_trueMinute_57 : decode cX11_trueMinute 57 = .ok (.aaload, 1) := by decide +kernel
theorem dX11_trueMinute_58 : decode cX11_trueMinute 58 = .ok (.iload_n 2, 1) := by decide +kernel
theorem dX11_trueMinute_59 : decode cX11_trueMinute 59 = .ok (.invokevirtual 448, 3) := by decide +kernel
theorem dX11_trueMinute_62 : decode cX11_trueMinute 62 = .ok (.ireturn, 1) := by decide +kernel
theorem dX11_trueMinute_63 : decode cX11_trueMinute 63 = .ok (.aload_n 0, 1) := by decide +kernel
theorem dX11_trueMinute_64 : decode cX11_trueMinute 64 = .ok (.getfield 75, 3) := by decide +kernel
theorem dX11_trueMinute_67 : decode cX11_trueMinute 67 = .ok (.iload_n 1, 1) := by decide +kernel
theorem dX11_trueMinute_68 : decode cX11_trueMinute 68 = .ok (.aaload, 1) := by decide +kernel
theorem dX11_trueMinute_69 : decode cX11_trueMinute 69 = .ok (.iload_n 2, 1) := by decide +kernel
theorem dX11_trueMinute_70 : decode cX11_trueMinute 70 = .ok (.invokevirtual 451, 3) := by decide +kernel
theorem dX11_trueMinute_73 : decode cX11_trueMinute 73 = .ok (.ireturn, 1) := by decide +kernel
theorem dX11_trueMinute_74 : decode cX11_trueMinute 74 = .ok (.iconst (-1), 1) := by decide +kernel
theorem dX11_trueMinute_75 : decode cX11_trueMinute 75 = .ok (.ireturn, 1) := by decide +kernel
theorem dX11_tried_0 : decode cX11_tried 0 = .ok (.aload_n 0, 1) := by decide +kernel
theorem dX11_tried_1 : decode cX11_tried 1 = .ok (.getfield 42, 3) := by decide +kernel
theorem dX11_tried_4 : decode cX11_tried 4 = .ok (.iload_n 1, 1) := by decide +kernel
theorem dX11_tried_5 : decode cX11_tried 5 = .ok (.invokevirtual 215, 3) := by decide +kernel
theorem dX11_tried_8 : decode cX11_tried 8 = .ok (.astore_n 2, 1) := by decide +kernel
theorem dX11_tried_9 : decode cX11_tried 9 = .ok (.aload_n 2, 1) := by decide +kernel
theorem dX11_tried_10 : decode cX11_tried 10 = .ok (.ifnonnull 7, 3) := by decide +kernel
theorem dX11_tried_13 : decode cX11_tried 13 = .ok (.ldc2_w 396, 3) := by decide +kernel
theorem dX11_tried_16 : decode cX11_tried 16 = .ok (.lreturn, 1) := by decide +kernel
theorem dX11_tried_17 : decode cX11_tried 17 = .ok (.lconst 0, 1) := by decide +kernel
theorem dX11_tried_18 : decode cX11_tried 18 = .ok (.lstore_n 3, 1) := by decide +kernel
theorem dX11_tried_19 : decode cX11_tried 19 = .ok (.iconst 0, 1) := by decide +kernel
theorem dX11_tried_20 : decode cX11_tried 20 = .ok (.istore 5, 2) := by decide +kernel
theorem dX11_tried_22 : decode cX11_tried 22 = .ok (.iload 5, 2) := by decide +kernel
theorem dX11_tried_24 : decode cX11_tried 24 = .ok (.aload_n 0, 1) := by decide +kernel
theorem dX11_tried_25 : decode cX11_tried 25 = .ok (.getfield 66, 3) := by decide +kernel
theorem dX11_tried_28 : decode cX11_tried 28 = .ok (.getfield 173, 3) := by decide +kernel
theorem dX11_tried_31 : decode cX11_tried 31 = .ok (.if_icmp .ge 28, 3) := by decide +kernel
theorem dX11_tried_34 : decode cX11_tried 34 = .ok (.lload_n 3, 1) := by decide +kernel
theorem dX11_tried_35 : decode cX11_tried 35 = .ok (.aload_n 0, 1) := by decide +kernel
theorem dX11_tried_36 : decode cX11_tried 36 = .ok (.getfield 42, 3) := by decide +kernel
theorem dX11_tried_39 : decode cX11_tried 39 = .ok (.aload_n 2, 1) := by decide +kernel
theorem dX11_tried_40 : decode cX11_tried 40 = .ok (.aload_n 0, 1) := by decide +kernel
theorem dX11_tried_41 : decode cX11_tried 41 = .ok (.getfield 48, 3) := by decide +kernel
theorem dX11_tried_44 : decode cX11_tried 44 = .ok (.iload 5, 2) := by decide +kernel
theorem dX11_tried_46 : decode cX11_tried 46 = .ok (.aaload, 1) := by decide +kernel
theorem dX11_tried_47 : decode cX11_tried 47 = .ok (.invokevirtual 454, 3) := by decide +kernel
theorem dX11_tried_50 : decode cX11_tried 50 = .ok (.i2l, 1) := by decide +kernel
theorem dX11_tried_51 : decode cX11_tried 51 = .ok (.ladd, 1) := by decide +kernel
theorem dX11_tried_52 : decode cX11_tried 52 = .ok (.lstore_n 3, 1) := by decide +kernel
theorem dX11_tried_53 : decode cX11_tried 53 = .ok (.iinc 5 1, 3) := by decide +kernel
theorem dX11_tried_56 : decode cX11_tried 56 = .ok (.goto (-34), 3) := by decide +kernel
theorem dX11_tried_59 : decode cX11_tried 59 = .ok (.lload_n 3, 1) := by decide +kernel
theorem dX11_tried_60 : decode cX11_tried 60 = .ok (.lreturn, 1) := by decide +kernel
theorem dX11_whatIf_0 : decode cX11_whatIf 0 = .ok (.iload_n 1, 1) := by decide +kernel
theorem dX11_whatIf_1 : decode cX11_whatIf 1 = .ok (.iconst (-1), 1) := by decide +kernel
theorem dX11_whatIf_2 : decode cX11_whatIf 2 = .ok (.if_icmp .ne 8, 3) := by decide +kernel
theorem dX11_whatIf_5 : decode cX11_whatIf 5 = .ok (.aload_n 0, 1) := by decide +kernel
theorem dX11_whatIf_6 : decode cX11_whatIf 6 = .ok (.invokevirtual 458, 3) := by decide +kernel
theorem dX11_whatIf_9 : decode cX11_whatIf 9 = .ok (.ireturn, 1) := by decide +kernel
theorem dX11_whatIf_10 : decode cX11_whatIf 10 = .ok (.aload_n 0, 1) := by decide +kernel
theorem dX11_whatIf_11 : decode cX11_whatIf 11 = .ok (.iload_n 1, 1) := by decide +kernel
theorem dX11_whatIf_12 : decode cX11_whatIf 12 = .ok (.iload_n 2, 1) := by decide +kernel
theorem dX11_whatIf_13 : decode cX11_whatIf 13 = .ok (.iload_n 3, 1) := by decide +kernel
theorem dX11_whatIf_14 : decode cX11_whatIf 14 = .ok (.invokevirtual 141, 3) := by decide +kernel
theorem dX11_whatIf_17 : decode cX11_whatIf 17 = .ok (.ifCond .ne 5, 3) := by decide +kernel
theorem dX11_whatIf_20 : decode cX11_whatIf 20 = .ok (.iconst (-1), 1) := by decide +kernel
theorem dX11_whatIf_21 : decode cX11_whatIf 21 = .ok (.ireturn, 1) := by decide +kernel
theorem dX11_whatIf_22 : decode cX11_whatIf 22 = .ok (.bipush 10, 2) := by decide +kernel
theorem dX11_whatIf_24 : decode cX11_whatIf 24 = .ok (.iload_n 2, 1) := by decide +kernel
theorem dX11_whatIf_25 : decode cX11_whatIf 25 = .ok (.imul, 1) := by decide +kernel
theorem dX11_whatIf_26 : decode cX11_whatIf 26 = .ok (.iload_n 1, 1) := by decide +kernel
theorem dX11_whatIf_27 : decode cX11_whatIf 27 = .ok (.iadd, 1) := by decide +kernel
theorem dX11_whatIf_28 : decode cX11_whatIf 28 = .ok (.istore 4, 2) := by decide +kernel
theorem dX11_whatIf_30 : decode cX11_whatIf 30 = .ok (.aload_n 0, 1) := by decide +kernel
theorem dX11_whatIf_31 : decode cX11_whatIf 31 = .ok (.getfield 19, 3) := by decide +kernel
theorem dX11_whatIf_34 : decode cX11_whatIf 34 = .ok (.getfield 145, 3) := by decide +kernel
theorem dX11_whatIf_37 : decode cX11_whatIf 37 = .ok (.iload 4, 2) := by decide +kernel
theorem dX11_whatIf_39 : decode cX11_whatIf 39 = .ok (.iaload, 1) := by decide +kernel
theorem dX11_whatIf_40 : decode cX11_whatIf 40 = .ok (.istore 5, 2) := by decide +kernel
theorem dX11_whatIf_42 : decode cX11_whatIf 42 = .ok (.aload_n 0, 1) := by decide +kernel
theorem dX11_whatIf_43 : decode cX11_whatIf 43 = .ok (.getfield 19, 3) := by decide +kernel
theorem dX11_whatIf_46 : decode cX11_whatIf 46 = .ok (.getfield 145, 3) := by decide +kernel
theorem dX11_whatIf_49 : decode cX11_whatIf 49 = .ok (.iload 4, 2) := by decide +kernel
theorem dX11_whatIf_51 : decode cX11_whatIf 51 = .ok (.iload_n 3, 1) := by decide +kernel
theorem dX11_whatIf_52 : decode cX11_whatIf 52 = .ok (.iastore, 1) := by decide +kernel
theorem dX11_whatIf_53 : decode cX11_whatIf 53 = .ok (.aload_n 0, 1) := by decide +kernel
theorem dX11_whatIf_54 : decode cX11_whatIf 54 = .ok (.getfield 28, 3) := by decide +kernel
theorem dX11_whatIf_57 : decode cX11_whatIf 57 = .ok (.iconst 0, 1) := by decide +kernel
theorem dX11_whatIf_58 : decode cX11_whatIf 58 = .ok (.putfield 461, 3) := by decide +kernel
theorem dX11_whatIf_61 : decode cX11_whatIf 61 = .ok (.aload_n 0, 1) := by decide +kernel
theorem dX11_whatIf_62 : decode cX11_whatIf 62 = .ok (.invokevirtual 458, 3) := by decide +kernel
theorem dX11_whatIf_65 : decode cX11_whatIf 65 = .ok (.istore 6, 2) := by decide +kernel
theorem dX11_whatIf_67 : decode cX11_whatIf 67 = .ok (.aload_n 0, 1) := by decide +kernel
theorem dX11_whatIf_68 : decode cX11_whatIf 68 = .ok (.getfield 19, 3) := by decide +kernel
theorem dX11_whatIf_71 : decode cX11_whatIf 71 = .ok (.getfield 145, 3) := by decide +kernel
theorem dX11_whatIf_74 : decode cX11_whatIf 74 = .ok (.iload 4, 2) := by decide +kernel
theorem dX11_whatIf_76 : decode cX11_whatIf 76 = .ok (.iload 5, 2) := by decide +kernel
theorem dX11_whatIf_78 : decode cX11_whatIf 78 = .ok (.iastore, 1) := by decide +kernel
theorem dX11_whatIf_79 : decode cX11_whatIf 79 = .ok (.aload_n 0, 1) := by decide +kernel
theorem dX11_whatIf_80 : decode cX11_whatIf 80 = .ok (.getfield 28, 3) := by decide +kernel
theorem dX11_whatIf_83 : decode cX11_whatIf 83 = .ok (.iconst 0, 1) := by decide +kernel
theorem dX11_whatIf_84 : decode cX11_whatIf 84 = .ok (.putfield 461, 3) := by decide +kernel
theorem dX11_whatIf_87 : decode cX11_whatIf 87 = .ok (.iload 6, 2) := by decide +kernel
theorem dX11_whatIf_89 : decode cX11_whatIf 89 = .ok (.ireturn, 1) := by decide +kernel
theorem dX11_seats_0 : decode cX11_seats 0 = .ok (.aload_n 0, 1) := by decide +kernel
theorem dX11_seats_1 : decode cX11_seats 1 = .ok (.getfield 19, 3) := by decide +kernel
theorem dX11_seats_4 : decode cX11_seats 4 = .ok (.getfield 107, 3) := by decide +kernel
theorem dX11_seats_7 : decode cX11_seats 7 = .ok (.ifCond .eq 13, 3) := by decide +kernel
theorem dX11_seats_10 : decode cX11_seats 10 = .ok (.aload_n 0, 1) := by decide +kernel
theorem dX11_seats_11 : decode cX11_seats 11 = .ok (.getfield 35, 3) := by decide +kernel
theorem dX11_seats_14 : decode cX11_seats 14 = .ok (.getfield 174, 3) := by decide +kernel
theorem dX11_seats_17 : decode cX11_seats 17 = .ok (.ifCond .ne 5, 3) := by decide +kernel
theorem dX11_seats_20 : decode cX11_seats 20 = .ok (.iconst (-1), 1) := by decide +kernel
theorem dX11_seats_21 : decode cX11_seats 21 = .ok (.ireturn, 1) := by decide +kernel
theorem dX11_seats_22 : decode cX11_seats 22 = .ok (.iload_n 1, 1) := by decide +kernel
theorem dX11_seats_23 : decode cX11_seats 23 = .ok (.ifCond .eq 28, 3) := by decide +kernel
theorem dX11_seats_26 : decode cX11_seats 26 = .ok (.iload_n 1, 1) := by decide +kernel
theorem dX11_seats_27 : decode cX11_seats 27 = .ok (.bipush 10, 2) := by decide +kernel
theorem dX11_seats_29 : decode cX11_seats 29 = .ok (.if_icmp .eq 22, 3) := by decide +kernel
theorem dX11_seats_32 : decode cX11_seats 32 = .ok (.iload_n 1, 1) := by decide +kernel
theorem dX11_seats_33 : decode cX11_seats 33 = .ok (.bipush 11, 2) := by decide +kernel
theorem dX11_seats_35 : decode cX11_seats 35 = .ok (.if_icmp .ne 14, 3) := by decide +kernel
theorem dX11_seats_38 : decode cX11_seats 38 = .ok (.aload_n 0, 1) := by decide +kernel
theorem dX11_seats_39 : decode cX11_seats 39 = .ok (.getfield 35, 3) := by decide +kernel
theorem dX11_seats_42 : decode cX11_seats 42 = .ok (.getfield 174, 3) := by decide +kernel
theorem dX11_seats_45 : decode cX11_seats 45 = .ok (.iconst 2, 1) := by decide +kernel
theorem dX11_seats_46 : decode cX11_seats 46 = .ok (.if_icmp .ge 5, 3) := by decide +kernel
theorem dX11_seats_49 : decode cX11_seats 49 = .ok (.iconst (-1), 1) := by decide +kernel
theorem dX11_seats_50 : decode cX11_seats 50 = .ok (.ireturn, 1) := by decide +kernel
theorem dX11_seats_51 : decode cX11_seats 51 = .ok (.aload_n 0, 1) := by decide +kernel
theorem dX11_seats_52 : decode cX11_seats 52 = .ok (.getfield 110, 3) := by decide +kernel
theorem dX11_seats_55 : decode cX11_seats 55 = .ok (.ifCond .ne 7, 3) := by decide +kernel
theorem dX11_seats_58 : decode cX11_seats 58 = .ok (.aload_n 0, 1) := by decide +kernel
theorem dX11_seats_59 : decode cX11_seats 59 = .ok (.invokevirtual 464, 3) := by decide +kernel
theorem dX11_seats_62 : decode cX11_seats 62 = .ok (.iload_n 1, 1) := by decide +kernel
theorem dX11_seats_63 : decode cX11_seats 63 = .ok (.ifCond .ne 8, 3) := by decide +kernel
theorem dX11_seats_66 : decode cX11_seats 66 = .ok (.aload_n 0, 1) := by decide +kernel
theorem dX11_seats_67 : decode cX11_seats 67 = .ok (.getfield 467, 3) := by decide +kernel
theorem dX11_seats_70 : decode cX11_seats 70 = .ok (.ireturn, 1) := by decide +kernel
theorem dX11_seats_71 : decode cX11_seats 71 = .ok (.iload_n 1, 1) := by decide +kernel
theorem dX11_seats_72 : decode cX11_seats 72 = .ok (.bipush 10, 2) := by decide +kernel
theorem dX11_seats_74 : decode cX11_seats 74 = .ok (.if_icmp .ne 10, 3) := by decide +kernel
theorem dX11_seats_77 : decode cX11_seats 77 = .ok (.aload_n 0, 1) := by decide +kernel
theorem dX11_seats_78 : decode cX11_seats 78 = .ok (.getfield 470, 3) := by decide +kernel
theorem dX11_seats_81 : decode cX11_seats 81 = .ok (.goto 7, 3) := by decide +kernel
theorem dX11_seats_84 : decode cX11_seats 84 = .ok (.aload_n 0, 1) := by decide +kernel
theorem dX11_seats_85 : decode cX11_seats 85 = .ok (.getfield 473, 3) := by decide +kernel
theorem dX11_seats_88 : decode cX11_seats 88 = .ok (.ireturn, 1) := by decide +kernel
theorem dX11_tableChanged_0 : decode cX11_tableChanged 0 = .ok (.aload_n 0, 1) := by decide +kernel
theorem dX11_tableChanged_1 : decode cX11_tableChanged 1 = .ok (.getfield 28, 3) := by decide +kernel
theorem dX11_tableChanged_4 : decode cX11_tableChanged 4 = .ok (.iconst 0, 1) := by decide +kernel
theorem dX11_tableChanged_5 : decode cX11_tableChanged 5 = .ok (.putfield 461, 3) := by decide +kernel
theorem dX11_tableChanged_8 : decode cX11_tableChanged 8 = .ok (.aload_n 0, 1) := by decide +kernel
theorem dX11_tableChanged_9 : decode cX11_tableChanged 9 = .ok (.iconst 0, 1) := by decide +kernel
theorem dX11_tableChanged_10 : decode cX11_tableChanged 10 = .ok (.putfield 110, 3) := by decide +kernel
theorem dX11_tableChanged_13 : decode cX11_tableChanged 13 = .ok (.return_, 1) := by decide +kernel
theorem dX11_mayBeTold_0 : decode cX11_mayBeTold 0 = .ok (.aload_n 0, 1) := by decide +kernel
theorem dX11_mayBeTold_1 : decode cX11_mayBeTold 1 = .ok (.getfield 19, 3) := by decide +kernel
theorem dX11_mayBeTold_4 : decode cX11_mayBeTold 4 = .ok (.iload_n 1, 1) := by decide +kernel
theorem dX11_mayBeTold_5 : decode cX11_mayBeTold 5 = .ok (.iload_n 2, 1) := by decide +kernel
theorem dX11_mayBeTold_6 : decode cX11_mayBeTold 6 = .ok (.invokevirtual 148, 3) := by decide +kernel
theorem dX11_mayBeTold_9 : decode cX11_mayBeTold 9 = .ok (.ifCond .eq 55, 3) := by decide +kernel
theorem dX11_mayBeTold_12 : decode cX11_mayBeTold 12 = .ok (.iload_n 3, 1) := by decide +kernel
theorem dX11_mayBeTold_13 : decode cX11_mayBeTold 13 = .ok (.ifCond .lt 51, 3) := by decide +kernel
theorem dX11_mayBeTold_16 : decode cX11_mayBeTold 16 = .ok (.iload_n 3, 1) := by decide +kernel
theorem dX11_mayBeTold_17 : decode cX11_mayBeTold 17 = .ok (.sipush 300, 3) := by decide +kernel
theorem dX11_mayBeTold_20 : decode cX11_mayBeTold 20 = .ok (.if_icmp .gt 44, 3) := by decide +kernel
theorem dX11_mayBeTold_23 : decode cX11_mayBeTold 23 = .ok (.aload_n 0, 1) := by decide +kernel
theorem dX11_mayBeTold_24 : decode cX11_mayBeTold 24 = .ok (.getfield 19, 3) := by decide +kernel
theorem dX11_mayBeTold_27 : decode cX11_mayBeTold 27 = .ok (.getfield 125, 3) := by decide +kernel
theorem dX11_mayBeTold_30 : decode cX11_mayBeTold 30 = .ok (.iload_n 1, 1) := by decide +kernel
theorem dX11_mayBeTold_31 : decode cX11_mayBeTold 31 = .ok (.iaload, 1) := by decide +kernel
theorem dX11_mayBeTold_32 : decode cX11_mayBeTold 32 = .ok (.ifCond .le 32, 3) := by decide +kernel
theorem dX11_mayBeTold_35 : decode cX11_mayBeTold 35 = .ok (.sipush 1440, 3) := by decide +kernel
theorem dX11_mayBeTold_38 : decode cX11_mayBeTold 38 = .ok (.iload_n 2, 1) := by decide +kernel
theorem dX11_mayBeTold_39 : decode cX11_mayBeTold 39 = .ok (.imul, 1) := by decide +kernel
theorem dX11_mayBeTold_40 : decode cX11_mayBeTold 40 = .ok (.aload_n 0, 1) := by decide +kernel
theorem dX11_mayBeTold_41 : decode cX11_mayBeTold 41 = .ok (.getfield 19, 3) := by decide +kernel
theorem dX11_mayBeTold_44 : decode cX11_mayBeTold 44 = .ok (.getfield 134, 3) := by decide +kernel
theorem dX11_mayBeTold_47 : decode cX11_mayBeTold 47 = .ok (.bipush 8, 2) := by decide +kernel
theorem dX11_mayBeTold_49 : decode cX11_mayBeTold 49 = .ok (.iload_n 1, 1) := by decide +kernel
theorem dX11_mayBeTold_50 : decode cX11_mayBeTold 50 = .ok (.imul, 1) := by decide +kernel
theorem dX11_mayBeTold_51 : decode cX11_mayBeTold 51 = .ok (.iaload, 1) := by decide +kernel
theorem dX11_mayBeTold_52 : decode cX11_mayBeTold 52 = .ok (.iadd, 1) := by decide +kernel
theorem dX11_mayBeTold_53 : decode cX11_mayBeTold 53 = .ok (.aload_n 0, 1) := by decide +kernel
theorem dX11_mayBeTold_54 : decode cX11_mayBeTold 54 = .ok (.getfield 114, 3) := by decide +kernel
theorem dX11_mayBeTold_57 : decode cX11_mayBeTold 57 = .ok (.if_icmp .le 7, 3) := by decide +kernel
theorem dX11_mayBeTold_60 : decode cX11_mayBeTold 60 = .ok (.iconst 1, 1) := by decide +kernel
theorem dX11_mayBeTold_61 : decode cX11_mayBeTold 61 = .ok (.goto 4, 3) := by decide +kernel
theorem dX11_mayBeTold_64 : decode cX11_mayBeTold 64 = .ok (.iconst 0, 1) := by decide +kernel
theorem dX11_mayBeTold_65 : decode cX11_mayBeTold 65 = .ok (.ireturn, 1) := by decide +kernel
theorem dX11_letterOf_0 : decode cX11_letterOf 0 = .ok (.iload_n 1, 1) := by decide +kernel
theorem dX11_letterOf_1 : decode cX11_letterOf 1 = .ok (.ifCond .lt 23, 3) := by decide +kernel
theorem dX11_letterOf_4 : decode cX11_letterOf 4 = .ok (.iload_n 1, 1) := by decide +kernel
theorem dX11_letterOf_5 : decode cX11_letterOf 5 = .ok (.aload_n 0, 1) := by decide +kernel
theorem dX11_letterOf_6 : decode cX11_letterOf 6 = .ok (.getfield 66, 3) := by decide +kernel
theorem dX11_letterOf_9 : decode cX11_letterOf 9 = .ok (.getfield 173, 3) := by decide +kernel
theorem dX11_letterOf_12 : decode cX11_letterOf 12 = .ok (.if_icmp .ge 12, 3) := by decide +kernel
theorem dX11_letterOf_15 : decode cX11_letterOf 15 = .ok (.aload_n 0, 1) := by decide +kernel
theorem dX11_letterOf_16 : decode cX11_letterOf 16 = .ok (.getfield 48, 3) := by decide +kernel
theorem dX11_letterOf_19 : decode cX11_letterOf 19 = .ok (.iload_n 1, 1) := by decide +kernel
theorem dX11_letterOf_20 : decode cX11_letterOf 20 = .ok (.aaload, 1) := by decide +kernel
theorem dX11_letterOf_21 : decode cX11_letterOf 21 = .ok (.goto 4, 3) := by decide +kernel
theorem dX11_letterOf_24 : decode cX11_letterOf 24 = .ok (.aconst_null, 1) := by decide +kernel
theorem dX11_letterOf_25 : decode cX11_letterOf 25 = .ok (.areturn, 1) := by decide +kernel
theorem dX11_franksAhead_0 : decode cX11_franksAhead 0 = .ok (.iconst 0, 1) := by decide +kernel
theorem dX11_franksAhead_1 : decode cX11_franksAhead 1 = .ok (.istore_n 2, 1) := by decide +kernel
theorem dX11_franksAhead_2 : decode cX11_franksAhead 2 = .ok (.iconst 0, 1) := by decide +kernel
theorem dX11_franksAhead_3 : decode cX11_franksAhead 3 = .ok (.istore_n 3, 1) := by decide +kernel
theorem dX11_franksAhead_4 : decode cX11_franksAhead 4 = .ok (.iload_n 3, 1) := by decide +kernel
theorem dX11_franksAhead_5 : decode cX11_franksAhead 5 = .ok (.aload_n 0, 1) := by decide +kernel
theorem dX11_franksAhead_6 : decode cX11_franksAhead 6 = .ok (.getfield 66, 3) := by decide +kernel
theorem dX11_franksAhead_9 : decode cX11_franksAhead 9 = .ok (.getfield 173, 3) := by decide +kernel
theorem dX11_franksAhead_12 : decode cX11_franksAhead 12 = .ok (.if_icmp .ge 53, 3) := by decide +kernel
theorem dX11_franksAhead_15 : decode cX11_franksAhead 15 = .ok (.aload_n 0, 1) := by decide +kernel
theorem dX11_franksAhead_16 : decode cX11_franksAhead 16 = .ok (.getfield 48, 3) := by decide +kernel
theorem dX11_franksAhead_19 : decode cX11_franksAhead 19 = .ok (.iload_n 3, 1) := by decide +kernel
theorem dX11_franksAhead_20 : decode cX11_franksAhead 20 = .ok (.aaload, 1) := by decide +kernel
theorem dX11_franksAhead_21 : decode cX11_franksAhead 21 = .ok (.astore 4, 2) := by decide +kernel
theorem dX11_franksAhead_23 : decode cX11_franksAhead 23 = .ok (.aload 4, 2) := by decide +kernel
theorem dX11_franksAhead_25 : decode cX11_franksAhead 25 = .ok (.getfield 281, 3) := by decide +kernel
theorem dX11_franksAhead_28 : decode cX11_franksAhead 28 = .ok (.iconst 2, 1) := by decide +kernel
theorem dX11_franksAhead_29 : decode cX11_franksAhead 29 = .ok (.if_icmp .ne 30, 3) := by decide +kernel
theorem dX11_franksAhead_32 : decode cX11_franksAhead 32 = .ok (.aload 4, 2) := by decide +kernel
theorem dX11_franksAhead_34 : decode cX11_franksAhead 34 = .ok (.getfield 296, 3) := by decide +kernel
theorem dX11_franksAhead_37 : decode cX11_franksAhead 37 = .ok (.aload_n 1, 1) := by decide +kernel
theorem dX11_franksAhead_38 : decode cX11_franksAhead 38 = .ok (.getfield 296, 3) := by decide +kernel
theorem dX11_franksAhead_41 : decode cX11_franksAhead 41 = .ok (.if_icmp .ne 18, 3) := by decide +kernel
theorem dX11_franksAhead_44 : decode cX11_franksAhead 44 = .ok (.aload 4, 2) := by decide +kernel
theorem dX11_franksAhead_46 : decode cX11_franksAhead 46 = .ok (.invokevirtual 476, 3) := by decide +kernel
theorem dX11_franksAhead_49 : decode cX11_franksAhead 49 = .ok (.aload_n 1, 1) := by decide +kernel
theorem dX11_franksAhead_50 : decode cX11_franksAhead 50 = .ok (.invokevirtual 476, 3) := by decide +kernel
theorem dX11_franksAhead_53 : decode cX11_franksAhead 53 = .ok (.if_icmp .ne 6, 3) := by decide +kernel
theorem dX11_franksAhead_56 : decode cX11_franksAhead 56 = .ok (.iinc 2 1, 3) := by decide +kernel
theorem dX11_franksAhead_59 : decode cX11_franksAhead 59 = .ok (.iinc 3 1, 3) := by decide +kernel
theorem dX11_franksAhead_62 : decode cX11_franksAhead 62 = .ok (.goto (-58), 3) := by decide +kernel
theorem dX11_franksAhead_65 : decode cX11_franksAhead 65 = .ok (.iload_n 2, 1) := by decide +kernel
theorem dX11_franksAhead_66 : decode cX11_franksAhead 66 = .ok (.ireturn, 1) := by decide +kernel
theorem dX11_isBetween_0 : decode cX11_isBetween 0 = .ok (.aload_n 0, 1) := by decide +kernel
theorem dX11_isBetween_1 : decode cX11_isBetween 1 = .ok (.getfield 48, 3) := by decide +kernel
theorem dX11_isBetween_4 : decode cX11_isBetween 4 = .ok (.iload_n 1, 1) := by decide +kernel
theorem dX11_isBetween_5 : decode cX11_isBetween 5 = .ok (.aaload, 1) := by decide +kernel
theorem dX11_isBetween_6 : decode cX11_isBetween 6 = .ok (.getfield 284, 3) := by decide +kernel
theorem dX11_isBetween_9 : decode cX11_isBetween 9 = .ok (.iload_n 2, 1) := by decide +kernel
theorem dX11_isBetween_10 : decode cX11_isBetween 10 = .ok (.if_icmp .ne 20, 3) := by decide +kernel
theorem dX11_isBetween_13 : decode cX11_isBetween 13 = .ok (.aload_n 0, 1) := by decide +kernel
theorem dX11_isBetween_14 : decode cX11_isBetween 14 = .ok (.getfield 48, 3) := by decide +kernel
theorem dX11_isBetween_17 : decode cX11_isBetween 17 = .ok (.iload_n 1, 1) := by decide +kernel
theorem dX11_isBetween_18 : decode cX11_isBetween 18 = .ok (.aaload, 1) := by decide +kernel
theorem dX11_isBetween_19 : decode cX11_isBetween 19 = .ok (.getfield 287, 3) := by decide +kernel
theorem dX11_isBetween_22 : decode cX11_isBetween 22 = .ok (.iload_n 3, 1) := by decide +kernel
theorem dX11_isBetween_23 : decode cX11_isBetween 23 = .ok (.if_icmp .ne 7, 3) := by decide +kernel
theorem dX11_isBetween_26 : decode cX11_isBetween 26 = .ok (.iconst 1, 1) := by decide +kernel
theorem dX11_isBetween_27 : decode cX11_isBetween 27 = .ok (.goto 4, 3) := by decide +kernel
theorem dX11_isBetween_30 : decode cX11_isBetween 30 = .ok (.iconst 0, 1) := by decide +kernel
theorem dX11_isBetween_31 : decode cX11_isBetween 31 = .ok (.ireturn, 1) := by decide +kernel
theorem dX11_owedBetween_0 : decode cX11_owedBetween 0 = .ok (.iconst 0, 1) := by decide +kernel
theorem dX11_owedBetween_1 : decode cX11_owedBetween 1 = .ok (.istore 4, 2) := by decide +kernel
theorem dX11_owedBetween_3 : decode cX11_owedBetween 3 = .ok (.iconst 0, 1) := by decide +kernel
theorem dX11_owedBetween_4 : decode cX11_owedBetween 4 = .ok (.istore 5, 2) := by decide +kernel
theorem dX11_owedBetween_6 : decode cX11_owedBetween 6 = .ok (.iload 5, 2) := by decide +kernel
theorem dX11_owedBetween_8 : decode cX11_owedBetween 8 = .ok (.aload_n 0, 1) := by decide +kernel
theorem dX11_owedBetween_9 : decode cX11_owedBetween 9 = .ok (.getfield 66, 3) := by decide +kernel
theorem dX11_owedBetween_12 : decode cX11_owedBetween 12 = .ok (.getfield 173, 3) := by decide +kernel
theorem dX11_owedBetween_15 : decode cX11_owedBetween 15 = .ok (.if_icmp .ge 53, 3) := by decide +kernel
theorem dX11_owedBetween_18 : decode cX11_owedBetween 18 = .ok (.aload_n 0, 1) := by decide +kernel
theorem dX11_owedBetween_19 : decode cX11_owedBetween 19 = .ok (.iload 5, 2) := by decide +kernel
theorem dX11_owedBetween_21 : decode cX11_owedBetween 21 = .ok (.iload_n 1, 1) := by decide +kernel
theorem dX11_owedBetween_22 : decode cX11_owedBetween 22 = .ok (.iload_n 2, 1) := by decide +kernel
theorem dX11_owedBetween_23 : decode cX11_owedBetween 23 = .ok (.invokevirtual 478, 3) := by decide +kernel
theorem dX11_owedBetween_26 : decode cX11_owedBetween 26 = .ok (.ifCond .eq 36, 3) := by decide +kernel
theorem dX11_owedBetween_29 : decode cX11_owedBetween 29 = .ok (.iload_n 3, 1) := by decide +kernel
theorem dX11_owedBetween_30 : decode cX11_owedBetween 30 = .ok (.ifCond .eq 17, 3) := by decide +kernel
theorem dX11_owedBetween_33 : decode cX11_owedBetween 33 = .ok (.aload_n 0, 1) := by decide +kernel
theorem dX11_owedBetween_34 : decode cX11_owedBetween 34 = .ok (.getfield 66, 3) := by decide +kernel
theorem dX11_owedBetween_37 : decode cX11_owedBetween 37 = .ok (.getfield 278, 3) := by decide +kernel
theorem dX11_owedBetween_40 : decode cX11_owedBetween 40 = .ok (.iload 5, 2) := by decide +kernel
theorem dX11_owedBetween_42 : decode cX11_owedBetween 42 = .ok (.iaload, 1) := by decide +kernel
theorem dX11_owedBetween_43 : decode cX11_owedBetween 43 = .ok (.iconst 2, 1) := by decide +kernel
theorem dX11_owedBetween_44 : decode cX11_owedBetween 44 = .ok (.if_icmp .ne 18, 3) := by decide +kernel
theorem dX11_owedBetween_47 : decode cX11_owedBetween 47 = .ok (.iload 4, 2) := by decide +kernel
theorem dX11_owedBetween_49 : decode cX11_owedBetween 49 = .ok (.aload_n 0, 1) := by decide +kernel
theorem dX11_owedBetween_50 : decode cX11_owedBetween 50 = .ok (.getfield 48, 3) := by decide +kernel
theorem dX11_owedBetween_53 : decode cX11_owedBetween 53 = .ok (.iload 5, 2) := by decide +kernel
theorem dX11_owedBetween_55 : decode cX11_owedBetween 55 = .ok (.aaload, 1) := by decide +kernel
theorem dX11_owedBetween_56 : decode cX11_owedBetween 56 = .ok (.invokevirtual 320, 3) := by decide +kernel
theorem dX11_owedBetween_59 : decode cX11_owedBetween 59 = .ok (.iadd, 1) := by decide +kernel
theorem dX11_owedBetween_60 : decode cX11_owedBetween 60 = .ok (.istore 4, 2) := by decide +kernel
theorem dX11_owedBetween_62 : decode cX11_owedBetween 62 = .ok (.iinc 5 1, 3) := by decide +kernel
theorem dX11_owedBetween_65 : decode cX11_owedBetween 65 = .ok (.goto (-59), 3) := by decide +kernel
theorem dX11_owedBetween_68 : decode cX11_owedBetween 68 = .ok (.iload 4, 2) := by decide +kernel
theorem dX11_owedBetween_70 : decode cX11_owedBetween 70 = .ok (.ireturn, 1) := by decide +kernel
theorem dX11_differs_0 : decode cX11_differs 0 = .ok (.aload_n 0, 1) := by decide +kernel
theorem dX11_differs_1 : decode cX11_differs 1 = .ok (.iload_n 1, 1) := by decide +kernel
theorem dX11_differs_2 : decode cX11_differs 2 = .ok (.iload_n 2, 1) := by decide +kernel
theorem dX11_differs_3 : decode cX11_differs 3 = .ok (.iload_n 3, 1) := by decide +kernel
theorem dX11_differs_4 : decode cX11_differs 4 = .ok (.invokevirtual 478, 3) := by decide +kernel
theorem dX11_differs_7 : decode cX11_differs 7 = .ok (.ifCond .eq 32, 3) := by decide +kernel
theorem dX11_differs_10 : decode cX11_differs 10 = .ok (.aload_n 0, 1) := by decide +kernel
theorem dX11_differs_11 : decode cX11_differs 11 = .ok (.getfield 48, 3) := by decide +kernel
theorem dX11_differs_14 : decode cX11_differs 14 = .ok (.iload_n 1, 1) := by decide +kernel
theorem dX11_differs_15 : decode cX11_differs 15 = .ok (.aaload, 1) := by decide +kernel
theorem dX11_differs_16 : decode cX11_differs 16 = .ok (.invokevirtual 320, 3) := by decide +kernel
theorem dX11_differs_19 : decode cX11_differs 19 = .ok (.ifCond .le 20, 3) := by decide +kernel
theorem dX11_differs_22 : decode cX11_differs 22 = .ok (.aload_n 0, 1) := by decide +kernel
theorem dX11_differs_23 : decode cX11_differs 23 = .ok (.getfield 66, 3) := by decide +kernel
theorem dX11_differs_26 : decode cX11_differs 26 = .ok (.getfield 278, 3) := by decide +kernel
theorem dX11_differs_29 : decode cX11_differs 29 = .ok (.iload_n 1, 1) := by decide +kernel
theorem dX11_differs_30 : decode cX11_differs 30 = .ok (.iaload, 1) := by decide +kernel
theorem dX11_differs_31 : decode cX11_differs 31 = .ok (.iconst 2, 1) := by decide +kernel
theorem dX11_differs_32 : decode cX11_differs 32 = .ok (.if_icmp .eq 7, 3) := by decide +kernel
theorem dX11_differs_35 : decode cX11_differs 35 = .ok (.iconst 1, 1) := by decide +kernel
theorem dX11_differs_36 : decode cX11_differs 36 = .ok (.goto 4, 3) := by decide +kernel
theorem dX11_differs_39 : decode cX11_differs 39 = .ok (.iconst 0, 1) := by decide +kernel
theorem dX11_differs_40 : decode cX11_differs 40 = .ok (.ireturn, 1) := by decide +kernel
theorem dX11_differing_0 : decode cX11_differing 0 = .ok (.iconst 0, 1) := by decide +kernel
theorem dX11_differing_1 : decode cX11_differing 1 = .ok (.istore_n 3, 1) := by decide +kernel
theorem dX11_differing_2 : decode cX11_differing 2 = .ok (.iconst 0, 1) := by decide +kernel
theorem dX11_differing_3 : decode cX11_differing 3 = .ok (.istore 4, 2) := by decide +kernel
theorem dX11_differing_5 : decode cX11_differing 5 = .ok (.iload 4, 2) := by decide +kernel
theorem dX11_differing_7 : decode cX11_differing 7 = .ok (.aload_n 0, 1) := by decide +kernel
theorem dX11_differing_8 : decode cX11_differing 8 = .ok (.getfield 66, 3) := by decide +kernel
theorem dX11_differing_11 : decode cX11_differing 11 = .ok (.getfield 173, 3) := by decide +kernel
theorem dX11_differing_14 : decode cX11_differing 14 = .ok (.if_icmp .ge 23, 3) := by decide +kernel
theorem dX11_differing_17 : decode cX11_differing 17 = .ok (.aload_n 0, 1) := by decide +kernel
theorem dX11_differing_18 : decode cX11_differing 18 = .ok (.iload 4, 2) := by decide +kernel
theorem dX11_differing_20 : decode cX11_differing 20 = .ok (.iload_n 1, 1) := by decide +kernel
theorem dX11_differing_21 : decode cX11_differing 21 = .ok (.iload_n 2, 1) := by decide +kernel
theorem dX11_differing_22 : decode cX11_differing 22 = .ok (.invokevirtual 481, 3) := by decide +kernel
theorem dX11_differing_25 : decode cX11_differing 25 = .ok (.ifCond .eq 6, 3) := by decide +kernel
theorem dX11_differing_28 : decode cX11_differing 28 = .ok (.iinc 3 1, 3) := by decide +kernel
theorem dX11_differing_31 : decode cX11_differing 31 = .ok (.iinc 4 1, 3) := by decide +kernel
theorem dX11_differing_34 : decode cX11_differing 34 = .ok (.goto (-29), 3) := by decide +kernel
theorem dX11_differing_37 : decode cX11_differing 37 = .ok (.iload_n 3, 1) := by decide +kernel
theorem dX11_differing_38 : decode cX11_differing 38 = .ok (.ireturn, 1) := by decide +kernel
theorem dX11_differingLetter_0 : decode cX11_differingLetter 0 = .ok (.iconst 0, 1) := by decide +kernel
theorem dX11_differingLetter_1 : decode cX11_differingLetter 1 = .ok (.istore 4, 2) := by decide +kernel
theorem dX11_differingLetter_3 : decode cX11_differingLetter 3 = .ok (.iconst 0, 1) := by decide +kernel
theorem dX11_differingLetter_4 : decode cX11_differingLetter 4 = .ok (.istore 5, 2) := by decide +kernel
theorem dX11_differingLetter_6 : decode cX11_differingLetter 6 = .ok (.iload 5, 2) := by decide +kernel
theorem dX11_differingLetter_8 : decode cX11_differingLetter 8 = .ok (.aload_n 0, 1) := by decide +kernel
theorem dX11_differingLetter_9 : decode cX11_differingLetter 9 = .ok (.getfield 66, 3) := by decide +kernel
theorem dX11_differingLetter_12 : decode cX11_differingLetter 12 = .ok (.getfield 173, 3) := by decide +kernel
theorem dX11_differingLetter_15 : decode cX11_differingLetter 15 = .ok (.if_icmp .ge 32, 3) := by decide +kernel
theorem dX11_differingLetter_18 : decode cX11_differingLetter 18 = .ok (.aload_n 0, 1) := by decide +kernel
theorem dX11_differingLetter_19 : decode cX11_differingLetter 19 = .ok (.iload 5, 2) := by decide +kernel
theorem dX11_differingLetter_21 : decode cX11_differingLetter 21 = .ok (.iload_n 1, 1) := by decide +kernel
theorem dX11_differingLetter_22 : decode cX11_differingLetter 22 = .ok (.iload_n 2, 1) := by decide +kernel
theorem dX11_differingLetter_23 : decode cX11_differingLetter 23 = .ok (.invokevirtual 481, 3) := by decide +kernel
theorem dX11_differingLetter_26 : decode cX11_differingLetter 26 = .ok (.ifCond .eq 15, 3) := by decide +kernel
theorem dX11_differingLetter_29 : decode cX11_differingLetter 29 = .ok (.iload 4, 2) := by decide +kernel
theorem dX11_differingLetter_31 : decode cX11_differingLetter 31 = .ok (.iload_n 3, 1) := by decide +kernel
theorem dX11_differingLetter_32 : decode cX11_differingLetter 32 = .ok (.if_icmp .ne 6, 3) := by decide +kernel
theorem dX11_differingLetter_35 : decode cX11_differingLetter 35 = .ok (.iload 5, 2) := by decide +kernel
theorem dX11_differingLetter_37 : decode cX11_differingLetter 37 = .ok (.ireturn, 1) := by decide +kernel
theorem dX11_differingLetter_38 : decode cX11_differingLetter 38 = .ok (.iinc 4 1, 3) := by decide +kernel
theorem dX11_differingLetter_41 : decode cX11_differingLetter 41 = .ok (.iinc 5 1, 3) := by decide +kernel
theorem dX11_differingLetter_44 : decode cX11_differingLetter 44 = .ok (.goto (-38), 3) := by decide +kernel
theorem dX11_differingLetter_47 : decode cX11_differingLetter 47 = .ok (.iconst (-1), 1) := by decide +kernel
theorem dX11_differingLetter_48 : decode cX11_differingLetter 48 = .ok (.ireturn, 1) := by decide +kernel
theorem dX11_isUnderWay_0 : decode cX11_isUnderWay 0 = .ok (.aload_n 0, 1) := by decide +kernel
theorem dX11_isUnderWay_1 : decode cX11_isUnderWay 1 = .ok (.getfield 19, 3) := by decide +kernel
theorem dX11_isUnderWay_4 : decode cX11_isUnderWay 4 = .ok (.iload_n 1, 1) := by decide +kernel
theorem dX11_isUnderWay_5 : decode cX11_isUnderWay 5 = .ok (.iload_n 2, 1) := by decide +kernel
theorem dX11_isUnderWay_6 : decode cX11_isUnderWay 6 = .ok (.aload_n 0, 1) := by decide +kernel
theorem dX11_isUnderWay_7 : decode cX11_isUnderWay 7 = .ok (.getfield 114, 3) := by decide +kernel
theorem dX11_isUnderWay_10 : decode cX11_isUnderWay 10 = .ok (.invokevirtual 374, 3) := by decide +kernel
theorem dX11_isUnderWay_13 : decode cX11_isUnderWay 13 = .ok (.istore_n 3, 1) := by decide +kernel
theorem dX11_isUnderWay_14 : decode cX11_isUnderWay 14 = .ok (.iload_n 3, 1) := by decide +kernel
theorem dX11_isUnderWay_15 : decode cX11_isUnderWay 15 = .ok (.iconst (-1), 1) := by decide +kernel
theorem dX11_isUnderWay_16 : decode cX11_isUnderWay 16 = .ok (.if_icmp .eq 26, 3) := by decide +kernel
theorem dX11_isUnderWay_19 : decode cX11_isUnderWay 19 = .ok (.aload_n 0, 1) := by decide +kernel
theorem dX11_isUnderWay_20 : decode cX11_isUnderWay 20 = .ok (.getfield 19, 3) := by decide +kernel
theorem dX11_isUnderWay_23 : decode cX11_isUnderWay 23 = .ok (.iload_n 1, 1) := by decide +kernel
theorem dX11_isUnderWay_24 : decode cX11_isUnderWay 24 = .ok (.iload_n 2, 1) := by decide +kernel
theorem dX11_isUnderWay_25 : decode cX11_isUnderWay 25 = .ok (.iload_n 3, 1) := by decide +kernel
theorem dX11_isUnderWay_26 : decode cX11_isUnderWay 26 = .ok (.iconst 1, 1) := by decide +kernel
theorem dX11_isUnderWay_27 : decode cX11_isUnderWay 27 = .ok (.iadd, 1) := by decide +kernel
theorem dX11_isUnderWay_28 : decode cX11_isUnderWay 28 = .ok (.invokevirtual 155, 3) := by decide +kernel
theorem dX11_isUnderWay_31 : decode cX11_isUnderWay 31 = .ok (.aload_n 0, 1) := by decide +kernel
theorem dX11_isUnderWay_32 : decode cX11_isUnderWay 32 = .ok (.getfield 114, 3) := by decide +kernel
theorem dX11_isUnderWay_35 : decode cX11_isUnderWay 35 = .ok (.if_icmp .le 7, 3) := by decide +kernel
theorem dX11_isUnderWay_38 : decode cX11_isUnderWay 38 = .ok (.iconst 1, 1) := by decide +kernel
theorem dX11_isUnderWay_39 : decode cX11_isUnderWay 39 = .ok (.goto 4, 3) := by decide +kernel
theorem dX11_isUnderWay_42 : decode cX11_isUnderWay 42 = .ok (.iconst 0, 1) := by decide +kernel
theorem dX11_isUnderWay_43 : decode cX11_isUnderWay 43 = .ok (.ireturn, 1) := by decide +kernel
theorem dX11_isTaken_0 : decode cX11_isTaken 0 = .ok (.aload_n 0, 1) := by decide +kernel
theorem dX11_isTaken_1 : decode cX11_isTaken 1 = .ok (.getfield 66, 3) := by decide +kernel
theorem dX11_isTaken_4 : decode cX11_isTaken 4 = .ok (.getfield 278, 3) := by decide +kernel
theorem dX11_isTaken_7 : decode cX11_isTaken 7 = .ok (.iload_n 1, 1) := by decide +kernel
theorem dX11_isTaken_8 : decode cX11_isTaken 8 = .ok (.iaload, 1) := by decide +kernel
theorem dX11_isTaken_9 : decode cX11_isTaken 9 = .ok (.iconst 4, 1) := by decide +kernel
theorem dX11_isTaken_10 : decode cX11_isTaken 10 = .ok (.if_icmp .ne 17, 3) := by decide +kernel
theorem dX11_isTaken_13 : decode cX11_isTaken 13 = .ok (.aload_n 0, 1) := by decide +kernel
theorem dX11_isTaken_14 : decode cX11_isTaken 14 = .ok (.getfield 86, 3) := by decide +kernel
theorem dX11_isTaken_17 : decode cX11_isTaken 17 = .ok (.iload_n 1, 1) := by decide +kernel
theorem dX11_isTaken_18 : decode cX11_isTaken 18 = .ok (.iaload, 1) := by decide +kernel
theorem dX11_isTaken_19 : decode cX11_isTaken 19 = .ok (.iload_n 2, 1) := by decide +kernel
theorem dX11_isTaken_20 : decode cX11_isTaken 20 = .ok (.if_icmp .ne 7, 3) := by decide +kernel
theorem dX11_isTaken_23 : decode cX11_isTaken 23 = .ok (.iconst 1, 1) := by decide +kernel
theorem dX11_isTaken_24 : decode cX11_isTaken 24 = .ok (.goto 4, 3) := by decide +kernel
theorem dX11_isTaken_27 : decode cX11_isTaken 27 = .ok (.iconst 0, 1) := by decide +kernel
theorem dX11_isTaken_28 : decode cX11_isTaken 28 = .ok (.ireturn, 1) := by decide +kernel
theorem dX11_taken_0 : decode cX11_taken 0 = .ok (.iconst 0, 1) := by decide +kernel
theorem dX11_taken_1 : decode cX11_taken 1 = .ok (.istore_n 2, 1) := by decide +kernel
theorem dX11_taken_2 : decode cX11_taken 2 = .ok (.iconst 0, 1) := by decide +kernel
theorem dX11_taken_3 : decode cX11_taken 3 = .ok (.istore_n 3, 1) := by decide +kernel
theorem dX11_taken_4 : decode cX11_taken 4 = .ok (.iload_n 3, 1) := by decide +kernel
theorem dX11_taken_5 : decode cX11_taken 5 = .ok (.aload_n 0, 1) := by decide +kernel
theorem dX11_taken_6 : decode cX11_taken 6 = .ok (.getfield 66, 3) := by decide +kernel
theorem dX11_taken_9 : decode cX11_taken 9 = .ok (.getfield 173, 3) := by decide +kernel
theorem dX11_taken_12 : decode cX11_taken 12 = .ok (.if_icmp .ge 21, 3) := by decide +kernel
theorem dX11_taken_15 : decode cX11_taken 15 = .ok (.aload_n 0, 1) := by decide +kernel
theorem dX11_taken_16 : decode cX11_taken 16 = .ok (.iload_n 3, 1) := by decide +kernel
theorem dX11_taken_17 : decode cX11_taken 17 = .ok (.iload_n 1, 1) := by decide +kernel
theorem dX11_taken_18 : decode cX11_taken 18 = .ok (.invokevirtual 484, 3) := by decide +kernel
theorem dX11_taken_21 : decode cX11_taken 21 = .ok (.ifCond .eq 6, 3) := by decide +kernel
theorem dX11_taken_24 : decode cX11_taken 24 = .ok (.iinc 2 1, 3) := by decide +kernel
theorem dX11_taken_27 : decode cX11_taken 27 = .ok (.iinc 3 1, 3) := by decide +kernel
theorem dX11_taken_30 : decode cX11_taken 30 = .ok (.goto (-26), 3) := by decide +kernel
theorem dX11_taken_33 : decode cX11_taken 33 = .ok (.iload_n 2, 1) := by decide +kernel
theorem dX11_taken_34 : decode cX11_taken 34 = .ok (.ireturn, 1) := by decide +kernel
theorem dX11_owedOfTaken_0 : decode cX11_owedOfTaken 0 = .ok (.iconst 0, 1) := by decide +kernel
theorem dX11_owedOfTaken_1 : decode cX11_owedOfTaken 1 = .ok (.istore_n 2, 1) := by decide +kernel
theorem dX11_owedOfTaken_2 : decode cX11_owedOfTaken 2 = .ok (.iconst 0, 1) := by decide +kernel
theorem dX11_owedOfTaken_3 : decode cX11_owedOfTaken 3 = .ok (.istore_n 3, 1) := by decide +kernel
theorem dX11_owedOfTaken_4 : decode cX11_owedOfTaken 4 = .ok (.iload_n 3, 1) := by decide +kernel
theorem dX11_owedOfTaken_5 : decode cX11_owedOfTaken 5 = .ok (.aload_n 0, 1) := by decide +kernel
theorem dX11_owedOfTaken_6 : decode cX11_owedOfTaken 6 = .ok (.getfield 66, 3) := by decide +kernel
theorem dX11_owedOfTaken_9 : decode cX11_owedOfTaken 9 = .ok (.getfield 173, 3) := by decide +kernel
theorem dX11_owedOfTaken_12 : decode cX11_owedOfTaken 12 = .ok (.if_icmp .ge 30, 3) := by decide +kernel
theorem dX11_owedOfTaken_15 : decode cX11_owedOfTaken 15 = .ok (.aload_n 0, 1) := by decide +kernel
theorem dX11_owedOfTaken_16 : decode cX11_owedOfTaken 16 = .ok (.iload_n 3, 1) := by decide +kernel
theorem dX11_owedOfTaken_17 : decode cX11_owedOfTaken 17 = .ok (.iload_n 1, 1) := by decide +kernel
theorem dX11_owedOfTaken_18 : decode cX11_owedOfTaken 18 = .ok (.invokevirtual 484, 3) := by decide +kernel
theorem dX11_owedOfTaken_21 : decode cX11_owedOfTaken 21 = .ok (.ifCond .eq 15, 3) := by decide +kernel
theorem dX11_owedOfTaken_24 : decode cX11_owedOfTaken 24 = .ok (.iload_n 2, 1) := by decide +kernel
theorem dX11_owedOfTaken_25 : decode cX11_owedOfTaken 25 = .ok (.aload_n 0, 1) := by decide +kernel
theorem dX11_owedOfTaken_26 : decode cX11_owedOfTaken 26 = .ok (.getfield 48, 3) := by decide +kernel
theorem dX11_owedOfTaken_29 : decode cX11_owedOfTaken 29 = .ok (.iload_n 3, 1) := by decide +kernel
theorem dX11_owedOfTaken_30 : decode cX11_owedOfTaken 30 = .ok (.aaload, 1) := by decide +kernel
theorem dX11_owedOfTaken_31 : decode cX11_owedOfTaken 31 = .ok (.invokevirtual 320, 3) := by decide +kernel
theorem dX11_owedOfTaken_34 : decode cX11_owedOfTaken 34 = .ok (.iadd, 1) := by decide +kernel
theorem dX11_owedOfTaken_35 : decode cX11_owedOfTaken 35 = .ok (.istore_n 2, 1) := by decide +kernel
theorem dX11_owedOfTaken_36 : decode cX11_owedOfTaken 36 = .ok (.iinc 3 1, 3) := by decide +kernel
theorem dX11_owedOfTaken_39 : decode cX11_owedOfTaken 39 = .ok (.goto (-35), 3) := by decide +kernel
theorem dX11_owedOfTaken_42 : decode cX11_owedOfTaken 42 = .ok (.iload_n 2, 1) := by decide +kernel
theorem dX11_owedOfTaken_43 : decode cX11_owedOfTaken 43 = .ok (.ireturn, 1) := by decide +kernel
theorem dX11_takenLetter_0 : decode cX11_takenLetter 0 = .ok (.iconst 0, 1) := by decide +kernel
theorem dX11_takenLetter_1 : decode cX11_takenLetter 1 = .ok (.istore_n 3, 1) := by decide +kernel
theorem dX11_takenLetter_2 : decode cX11_takenLetter 2 = .ok (.iconst 0, 1) := by decide +kernel
theorem dX11_takenLetter_3 : decode cX11_takenLetter 3 = .ok (.istore 4, 2) := by decide +kernel
theorem dX11_takenLetter_5 : decode cX11_takenLetter 5 = .ok (.iload 4, 2) := by decide +kernel
theorem dX11_takenLetter_7 : decode cX11_takenLetter 7 = .ok (.aload_n 0, 1) := by decide +kernel
theorem dX11_takenLetter_8 : decode cX11_takenLetter 8 = .ok (.getfield 66, 3) := by decide +kernel
theorem dX11_takenLetter_11 : decode cX11_takenLetter 11 = .ok (.getfield 173, 3) := by decide +kernel
theorem dX11_takenLetter_14 : decode cX11_takenLetter 14 = .ok (.if_icmp .ge 30, 3) := by decide +kernel
theorem dX11_takenLetter_17 : decode cX11_takenLetter 17 = .ok (.aload_n 0, 1) := by decide +kernel
theorem dX11_takenLetter_18 : decode cX11_takenLetter 18 = .ok (.iload 4, 2) := by decide +kernel
theorem dX11_takenLetter_20 : decode cX11_takenLetter 20 = .ok (.iload_n 1, 1) := by decide +kernel
theorem dX11_takenLetter_21 : decode cX11_takenLetter 21 = .ok (.invokevirtual 484, 3) := by decide +kernel
theorem dX11_takenLetter_24 : decode cX11_takenLetter 24 = .ok (.ifCond .eq 14, 3) := by decide +kernel
theorem dX11_takenLetter_27 : decode cX11_takenLetter 27 = .ok (.iload_n 3, 1) := by decide +kernel
theorem dX11_takenLetter_28 : decode cX11_takenLetter 28 = .ok (.iload_n 2, 1) := by decide +kernel
theorem dX11_takenLetter_29 : decode cX11_takenLetter 29 = .ok (.if_icmp .ne 6, 3) := by decide +kernel
theorem dX11_takenLetter_32 : decode cX11_takenLetter 32 = .ok (.iload 4, 2) := by decide +kernel
theorem dX11_takenLetter_34 : decode cX11_takenLetter 34 = .ok (.ireturn, 1) := by decide +kernel
theorem dX11_takenLetter_35 : decode cX11_takenLetter 35 = .ok (.iinc 3 1, 3) := by decide +kernel
theorem dX11_takenLetter_38 : decode cX11_takenLetter 38 = .ok (.iinc 4 1, 3) := by decide +kernel
theorem dX11_takenLetter_41 : decode cX11_takenLetter 41 = .ok (.goto (-36), 3) := by decide +kernel
theorem dX11_takenLetter_44 : decode cX11_takenLetter 44 = .ok (.iconst (-1), 1) := by decide +kernel
theorem dX11_takenLetter_45 : decode cX11_takenLetter 45 = .ok (.ireturn, 1) := by decide +kernel
theorem dX11_outcome_0 : decode cX11_outcome 0 = .ok (.aload_n 0, 1) := by decide +kernel
theorem dX11_outcome_1 : decode cX11_outcome 1 = .ok (.getfield 28, 3) := by decide +kernel
theorem dX11_outcome_4 : decode cX11_outcome 4 = .ok (.invokevirtual 162, 3) := by decide +kernel
theorem dX11_outcome_7 : decode cX11_outcome 7 = .ok (.aload_n 0, 1) := by decide +kernel
theorem dX11_outcome_8 : decode cX11_outcome 8 = .ok (.getfield 70, 3) := by decide +kernel
theorem dX11_outcome_11 : decode cX11_outcome 11 = .ok (.aload_n 0, 1) := by decide +kernel
theorem dX11_outcome_12 : decode cX11_outcome 12 = .ok (.getfield 66, 3) := by decide +kernel
theorem dX11_outcome_15 : decode cX11_outcome 15 = .ok (.invokevirtual 487, 3) := by decide +kernel
theorem dX11_outcome_18 : decode cX11_outcome 18 = .ok (.aload_n 0, 1) := by decide +kernel
theorem dX11_outcome_19 : decode cX11_outcome 19 = .ok (.getfield 70, 3) := by decide +kernel
theorem dX11_outcome_22 : decode cX11_outcome 22 = .ok (.aload_n 0, 1) := by decide +kernel
theorem dX11_outcome_23 : decode cX11_outcome 23 = .ok (.getfield 114, 3) := by decide +kernel
theorem dX11_outcome_26 : decode cX11_outcome 26 = .ok (.sipush 10079, 3) := by decide +kernel
theorem dX11_outcome_29 : decode cX11_outcome 29 = .ok (.invokevirtual 165, 3) := by decide +kernel
theorem dX11_outcome_32 : decode cX11_outcome 32 = .ok (.aload_n 0, 1) := by decide +kernel
theorem dX11_outcome_33 : decode cX11_outcome 33 = .ok (.getfield 70, 3) := by decide +kernel
theorem dX11_outcome_36 : decode cX11_outcome 36 = .ok (.invokevirtual 491, 3) := by decide +kernel
theorem dX11_outcome_39 : decode cX11_outcome 39 = .ok (.ireturn, 1) := by decide +kernel
theorem dX11_seekSeats_0 : decode cX11_seekSeats 0 = .ok (.aload_n 0, 1) := by decide +kernel
theorem dX11_seekSeats_1 : decode cX11_seekSeats 1 = .ok (.getfield 35, 3) := by decide +kernel
theorem dX11_seekSeats_4 : decode cX11_seekSeats 4 = .ok (.getfield 367, 3) := by decide +kernel
theorem dX11_seekSeats_7 : decode cX11_seekSeats 7 = .ok (.iconst 0, 1) := by decide +kernel
theorem dX11_seekSeats_8 : decode cX11_seekSeats 8 = .ok (.iaload, 1) := by decide +kernel
theorem dX11_seekSeats_9 : decode cX11_seekSeats 9 = .ok (.istore_n 1, 1) := by decide +kernel
theorem dX11_seekSeats_10 : decode cX11_seekSeats 10 = .ok (.aload_n 0, 1) := by decide +kernel
theorem dX11_seekSeats_11 : decode cX11_seekSeats 11 = .ok (.getfield 35, 3) := by decide +kernel
theorem dX11_seekSeats_14 : decode cX11_seekSeats 14 = .ok (.getfield 367, 3) := by decide +kernel
theorem dX11_seekSeats_17 : decode cX11_seekSeats 17 = .ok (.iconst 1, 1) := by decide +kernel
theorem dX11_seekSeats_18 : decode cX11_seekSeats 18 = .ok (.iaload, 1) := by decide +kernel
theorem dX11_seekSeats_19 : decode cX11_seekSeats 19 = .ok (.istore_n 2, 1) := by decide +kernel
theorem dX11_seekSeats_20 : decode cX11_seekSeats 20 = .ok (.aload_n 0, 1) := by decide +kernel
theorem dX11_seekSeats_21 : decode cX11_seekSeats 21 = .ok (.getfield 35, 3) := by decide +kernel
theorem dX11_seekSeats_24 : decode cX11_seekSeats 24 = .ok (.getfield 174, 3) := by decide +kernel
theorem dX11_seekSeats_27 : decode cX11_seekSeats 27 = .ok (.iconst 1, 1) := by decide +kernel
theorem dX11_seekSeats_28 : decode cX11_seekSeats 28 = .ok (.if_icmp .le 13, 3) := by decide +kernel
theorem dX11_seekSeats_31 : decode cX11_seekSeats 31 = .ok (.aload_n 0, 1) := by decide +kernel
theorem dX11_seekSeats_32 : decode cX11_seekSeats 32 = .ok (.getfield 19, 3) := by decide +kernel
theorem dX11_seekSeats_35 : decode cX11_seekSeats 35 = .ok (.getfield 107, 3) := by decide +kernel
theorem dX11_seekSeats_38 : decode cX11_seekSeats 38 = .ok (.goto 4, 3) := by decide +kernel
theorem dX11_seekSeats_41 : decode cX11_seekSeats 41 = .ok (.iconst 1, 1) := by decide +kernel
theorem dX11_seekSeats_42 : decode cX11_seekSeats 42 = .ok (.istore_n 3, 1) := by decide +kernel
theorem dX11_seekSeats_43 : decode cX11_seekSeats 43 = .ok (.aload_n 0, 1) := by decide +kernel
theorem dX11_seekSeats_44 : decode cX11_seekSeats 44 = .ok (.ldc_w 494, 3) := by decide +kernel
theorem dX11_seekSeats_47 : decode cX11_seekSeats 47 = .ok (.putfield 467, 3) := by decide +kernel
theorem dX11_seekSeats_50 : decode cX11_seekSeats 50 = .ok (.iconst 0, 1) := by decide +kernel
theorem dX11_seekSeats_51 : decode cX11_seekSeats 51 = .ok (.istore 4, 2) := by decide +kernel
theorem dX11_seekSeats_53 : decode cX11_seekSeats 53 = .ok (.iload 4, 2) := by decide +kernel
theorem dX11_seekSeats_55 : decode cX11_seekSeats 55 = .ok (.aload_n 0, 1) := by decide +kernel
theorem dX11_seekSeats_56 : decode cX11_seekSeats 56 = .ok (.getfield 19, 3) := by decide +kernel
theorem dX11_seekSeats_59 : decode cX11_seekSeats 59 = .ok (.getfield 107, 3) := by decide +kernel
theorem dX11_seekSeats_62 : decode cX11_seekSeats 62 = .ok (.if_icmp .ge 79, 3) := by decide +kernel
theorem dX11_seekSeats_65 : decode cX11_seekSeats 65 = .ok (.iconst 0, 1) := by decide +kernel
theorem dX11_seekSeats_66 : decode cX11_seekSeats 66 = .ok (.istore 5, 2) := by decide +kernel
theorem dX11_seekSeats_68 : decode cX11_seekSeats 68 = .ok (.iload 5, 2) := by decide +kernel
theorem dX11_seekSeats_70 : decode cX11_seekSeats 70 = .ok (.iload_n 3, 1) := by decide +kernel
theorem dX11_seekSeats_71 : decode cX11_seekSeats 71 = .ok (.if_icmp .ge 64, 3) := by decide +kernel
theorem dX11_seekSeats_74 : decode cX11_seekSeats 74 = .ok (.aload_n 0, 1) := by decide +kernel
theorem dX11_seekSeats_75 : decode cX11_seekSeats 75 = .ok (.getfield 35, 3) := by decide +kernel
theorem dX11_seekSeats_78 : decode cX11_seekSeats 78 = .ok (.getfield 367, 3) := by decide +kernel
theorem dX11_seekSeats_81 : decode cX11_seekSeats 81 = .ok (.iconst 0, 1) := by decide +kernel
theorem dX11_seekSeats_82 : decode cX11_seekSeats 82 = .ok (.iload 4, 2) := by decide +kernel
theorem dX11_seekSeats_84 : decode cX11_seekSeats 84 = .ok (.iastore, 1) := by decide +kernel
theorem dX11_seekSeats_85 : decode cX11_seekSeats 85 = .ok (.aload_n 0, 1) := by decide +kernel
theorem dX11_seekSeats_86 : decode cX11_seekSeats 86 = .ok (.getfield 35, 3) := by decide +kernel
theorem dX11_seekSeats_89 : decode cX11_seekSeats 89 = .ok (.getfield 367, 3) := by decide +kernel
theorem dX11_seekSeats_92 : decode cX11_seekSeats 92 = .ok (.iconst 1, 1) := by decide +kernel
theorem dX11_seekSeats_93 : decode cX11_seekSeats 93 = .ok (.iload 5, 2) := by decide +kernel
theorem dX11_seekSeats_95 : decode cX11_seekSeats 95 = .ok (.iastore, 1) := by decide +kernel
theorem dX11_seekSeats_96 : decode cX11_seekSeats 96 = .ok (.aload_n 0, 1) := by decide +kernel
theorem dX11_seekSeats_97 : decode cX11_seekSeats 97 = .ok (.invokevirtual 458, 3) := by decide +kernel
theorem dX11_seekSeats_100 : decode cX11_seekSeats 100 = .ok (.istore 6, 2) := by decide +kernel
theorem dX11_seekSeats_102 : decode cX11_seekSeats 102 = .ok (.iload 6, 2) := by decide +kernel
theorem dX11_seekSeats_104 : decode cX11_seekSeats 104 = .ok (.aload_n 0, 1) := by decide +kernel
theorem dX11_seekSeats_105 : decode cX11_seekSeats 105 = .ok (.getfield 467, 3) := by decide +kernel
theorem dX11_seekSeats_108 : decode cX11_seekSeats 108 = .ok (.if_icmp .ge 21, 3) := by decide +kernel
theorem dX11_seekSeats_111 : decode cX11_seekSeats 111 = .ok (.aload_n 0, 1) := by decide +kernel
theorem dX11_seekSeats_112 : decode cX11_seekSeats 112 = .ok (.iload 6, 2) := by decide +kernel
theorem dX11_seekSeats_114 : decode cX11_seekSeats 114 = .ok (.putfield 467, 3) := by decide +kernel
theorem dX11_seekSeats_117 : decode cX11_seekSeats 117 = .ok (.aload_n 0, 1) := by decide +kernel
theorem dX11_seekSeats_118 : decode cX11_seekSeats 118 = .ok (.iload 4, 2) := by decide +kernel
theorem dX11_seekSeats_120 : decode cX11_seekSeats 120 = .ok (.putfield 470, 3) := by decide +kernel
theorem dX11_seekSeats_123 : decode cX11_seekSeats 123 = .ok (.aload_n 0, 1) := by decide +kernel
theorem dX11_seekSeats_124 : decode cX11_seekSeats 124 = .ok (.iload 5, 2) := by decide +kernel
theorem dX11_seekSeats_126 : decode cX11_seekSeats 126 = .ok (.putfield 473, 3) := by decide +kernel
theorem dX11_seekSeats_129 : decode cX11_seekSeats 129 = .ok (.iinc 5 1, 3) := by decide +kernel
theorem dX11_seekSeats_132 : decode cX11_seekSeats 132 = .ok (.goto (-64), 3) := by decide +kernel
theorem dX11_seekSeats_135 : decode cX11_seekSeats 135 = .ok (.iinc 4 1, 3) := by decide +kernel
theorem dX11_seekSeats_138 : decode cX11_seekSeats 138 = .ok (.goto (-85), 3) := by decide +kernel
theorem dX11_seekSeats_141 : decode cX11_seekSeats 141 = .ok (.aload_n 0, 1) := by decide +kernel
theorem dX11_seekSeats_142 : decode cX11_seekSeats 142 = .ok (.getfield 35, 3) := by decide +kernel
theorem dX11_seekSeats_145 : decode cX11_seekSeats 145 = .ok (.getfield 367, 3) := by decide +kernel
theorem dX11_seekSeats_148 : decode cX11_seekSeats 148 = .ok (.iconst 0, 1) := by decide +kernel
theorem dX11_seekSeats_149 : decode cX11_seekSeats 149 = .ok (.iload_n 1, 1) := by decide +kernel
theorem dX11_seekSeats_150 : decode cX11_seekSeats 150 = .ok (.iastore, 1) := by decide +kernel
theorem dX11_seekSeats_151 : decode cX11_seekSeats 151 = .ok (.aload_n 0, 1) := by decide +kernel
theorem dX11_seekSeats_152 : decode cX11_seekSeats 152 = .ok (.getfield 35, 3) := by decide +kernel
theorem dX11_seekSeats_155 : decode cX11_seekSeats 155 = .ok (.getfield 367, 3) := by decide +kernel
theorem dX11_seekSeats_158 : decode cX11_seekSeats 158 = .ok (.iconst 1, 1) := by decide +kernel
theorem dX11_seekSeats_159 : decode cX11_seekSeats 159 = .ok (.iload_n 2, 1) := by decide +kernel
theorem dX11_seekSeats_160 : decode cX11_seekSeats 160 = .ok (.iastore, 1) := by decide +kernel
theorem dX11_seekSeats_161 : decode cX11_seekSeats 161 = .ok (.aload_n 0, 1) := by decide +kernel
theorem dX11_seekSeats_162 : decode cX11_seekSeats 162 = .ok (.iconst 1, 1) := by decide +kernel
theorem dX11_seekSeats_163 : decode cX11_seekSeats 163 = .ok (.putfield 110, 3) := by decide +kernel
theorem dX11_seekSeats_166 : decode cX11_seekSeats 166 = .ok (.return_, 1) := by decide +kernel
theorem dX12_init_0 : decode cX12_init 0 = .ok (.aload_n 0, 1) := by decide +kernel
theorem dX12_init_1 : decode cX12_init 1 = .ok (.invokespecial 1, 3) := by decide +kernel
theorem dX12_init_4 : decode cX12_init 4 = .ok (.aload_n 0, 1) := by decide +kernel
theorem dX12_init_5 : decode cX12_init 5 = .ok (.sipush 144, 3) := by decide +kernel
theorem dX12_init_8 : decode cX12_init 8 = .ok (.newarray .int, 2) := by decide +kernel
theorem dX12_init_10 : decode cX12_init 10 = .ok (.putfield 7, 3) := by decide +kernel
theorem dX12_init_13 : decode cX12_init 13 = .ok (.aload_n 0, 1) := by decide +kernel
theorem dX12_init_14 : decode cX12_init 14 = .ok (.bipush 10, 2) := by decide +kernel
theorem dX12_init_16 : decode cX12_init 16 = .ok (.newarray .int, 2) := by decide +kernel
theorem dX12_init_18 : decode cX12_init 18 = .ok (.putfield 13, 3) := by decide +kernel
theorem dX12_init_21 : decode cX12_init 21 = .ok (.aload_n 0, 1) := by decide +kernel
theorem dX12_init_22 : decode cX12_init 22 = .ok (.bipush 80, 2) := by decide +kernel
theorem dX12_init_24 : decode cX12_init 24 = .ok (.newarray .int, 2) := by decide +kernel
theorem dX12_init_26 : decode cX12_init 26 = .ok (.putfield 16, 3) := by decide +kernel
theorem dX12_init_29 : decode cX12_init 29 = .ok (.aload_n 0, 1) := by decide +kernel
theorem dX12_init_30 : decode cX12_init 30 = .ok (.bipush 80, 2) := by decide +kernel
theorem dX12_init_32 : decode cX12_init 32 = .ok (.newarray .int, 2) := by decide +kernel
theorem dX12_init_34 : decode cX12_init 34 = .ok (.putfield 19, 3) := by decide +kernel
theorem dX12_init_37 : decode cX12_init 37 = .ok (.aload_n 0, 1) := by decide +kernel
theorem dX12_init_38 : decode cX12_init 38 = .ok (.bipush 80, 2) := by decide +kernel
theorem dX12_init_40 : decode cX12_init 40 = .ok (.newarray .int, 2) := by decide +kernel
theorem dX12_init_42 : decode cX12_init 42 = .ok (.putfield 22, 3) := by decide +kernel
theorem dX12_init_45 : decode cX12_init 45 = .ok (.aload_n 0, 1) := by decide +kernel
theorem dX12_init_46 : decode cX12_init 46 = .ok (.bipush 70, 2) := by decide +kernel
theorem dX12_init_48 : decode cX12_init 48 = .ok (.newarray .int, 2) := by decide +kernel
theorem dX12_init_50 : decode cX12_init 50 = .ok (.putfield 25, 3) := by decide +kernel
theorem dX12_init_53 : decode cX12_init 53 = .ok (.aload_n 0, 1) := by decide +kernel
theorem dX12_init_54 : decode cX12_init 54 = .ok (.bipush 80, 2) := by decide +kernel
theorem dX12_init_56 : decode cX12_init 56 = .ok (.newarray .boolean, 2) := by decide +kernel
theorem dX12_init_58 : decode cX12_init 58 = .ok (.putfield 28, 3) := by decide +kernel
theorem dX12_init_61 : decode cX12_init 61 = .ok (.aload_n 0, 1) := by decide +kernel
theorem dX12_init_62 : decode cX12_init 62 = .ok (.sipush 560, 3) := by decide +kernel
theorem dX12_init_65 : decode cX12_init 65 = .ok (.newarray .boolean, 2) := by decide +kernel
theorem dX12_init_67 : decode cX12_init 67 = .ok (.putfield 32, 3) := by decide +kernel
theorem dX12_init_70 : decode cX12_init 70 = .ok (.aload_n 0, 1) := by decide +kernel
theorem dX12_init_71 : decode cX12_init 71 = .ok (.bipush 12, 2) := by decide +kernel
theorem dX12_init_73 : decode cX12_init 73 = .ok (.newarray .int, 2) := by decide +kernel
theorem dX12_init_75 : decode cX12_init 75 = .ok (.putfield 35, 3) := by decide +kernel
theorem dX12_init_78 : decode cX12_init 78 = .ok (.aload_n 0, 1) := by decide +kernel
theorem dX12_init_79 : decode cX12_init 79 = .ok (.sipush 1000, 3) := by decide +kernel
theorem dX12_init_82 : decode cX12_init 82 = .ok (.newarray .int, 2) := by decide +kernel
theorem dX12_init_84 : decode cX12_init 84 = .ok (.putfield 38, 3) := by decide +kernel
theorem dX12_init_87 : decode cX12_init 87 = .ok (.aload_n 0, 1) := by decide +kernel
theorem dX12_init_88 : decode cX12_init 88 = .ok (.sipush 1000, 3) := by decide +kernel
theorem dX12_init_91 : decode cX12_init 91 = .ok (.newarray .int, 2) := by decide +kernel
theorem dX12_init_93 : decode cX12_init 93 = .ok (.putfield 41, 3) := by decide +kernel
theorem dX12_init_96 : decode cX12_init 96 = .ok (.aload_n 0, 1) := by decide +kernel
theorem dX12_init_97 : decode cX12_init 97 = .ok (.sipush 1000, 3) := by decide +kernel
theorem dX12_init_100 : decode cX12_init 100 = .ok (.newarray .int, 2) := by decide +kernel
theorem dX12_init_102 : decode cX12_init 102 = .ok (.putfield 44, 3) := by decide +kernel
theorem dX12_init_105 : decode cX12_init 105 = .ok (.aload_n 0, 1) := by decide +kernel
theorem dX12_init_106 : decode cX12_init 106 = .ok (.sipush 1000, 3) := by decide +kernel
theorem dX12_init_109 : decode cX12_init 109 = .ok (.newarray .int, 2) := by decide +kernel
theorem dX12_init_111 : decode cX12_init 111 = .ok (.putfield 47, 3) := by decide +kernel
theorem dX12_init_114 : decode cX12_init 114 = .ok (.aload_n 0, 1) := by decide +kernel
theorem dX12_init_115 : decode cX12_init 115 = .ok (.bipush 70, 2) := by decide +kernel
theorem dX12_init_117 : decode cX12_init 117 = .ok (.newarray .int, 2) := by decide +kernel
theorem dX12_init_119 : decode cX12_init 119 = .ok (.putfield 50, 3) := by decide +kernel
theorem dX12_init_122 : decode cX12_init 122 = .ok (.aload_n 0, 1) := by decide +kernel
theorem dX12_init_123 : decode cX12_init 123 = .ok (.sipush 12000, 3) := by decide +kernel
theorem dX12_init_126 : decode cX12_init 126 = .ok (.newarray .int, 2) := by decide +kernel
theorem dX12_init_128 : decode cX12_init 128 = .ok (.putfield 53, 3) := by decide +kernel
theorem dX12_init_131 : decode cX12_init 131 = .ok (.aload_n 0, 1) := by decide +kernel
theorem dX12_init_132 : decode cX12_init 132 = .ok (.sipush 12000, 3) := by decide +kernel
theorem dX12_init_135 : decode cX12_init 135 = .ok (.newarray .int, 2) := by decide +kernel
theorem dX12_init_137 : decode cX12_init 137 = .ok (.putfield 56, 3) := by decide +kernel
theorem dX12_init_140 : decode cX12_init 140 = .ok (.aload_n 0, 1) := by decide +kernel
theorem dX12_init_141 : decode cX12_init 141 = .ok (.sipush 12000, 3) := by decide +kernel
theorem dX12_init_144 : decode cX12_init 144 = .ok (.newarray .int, 2) := by decide +kernel
theorem dX12_init_146 : decode cX12_init 146 = .ok (.putfield 59, 3) := by decide +kernel
theorem dX12_init_149 : decode cX12_init 149 = .ok (.aload_n 0, 1) := by decide +kernel
theorem dX12_init_150 : decode cX12_init 150 = .ok (.sipush 12000, 3) := by decide +kernel
theorem dX12_init_153 : decode cX12_init 153 = .ok (.newarray .int, 2) := by decide +kernel
theorem dX12_init_155 : decode cX12_init 155 = .ok (.putfield 62, 3) := by decide +kernel
theorem dX12_init_158 : decode cX12_init 158 = .ok (.aload_n 0, 1) := by decide +kernel
theorem dX12_init_159 : decode cX12_init 159 = .ok (.sipush 1000, 3) := by decide +kernel
theorem dX12_init_162 : decode cX12_init 162 = .ok (.newarray .int, 2) := by decide +kernel
theorem dX12_init_164 : decode cX12_init 164 = .ok (.putfield 65, 3) := by decide +kernel
theorem dX12_init_167 : decode cX12_init 167 = .ok (.aload_n 0, 1) := by decide +kernel
theorem dX12_init_168 : decode cX12_init 168 = .ok (.bipush 12, 2) := by decide +kernel
theorem dX12_init_170 : decode cX12_init 170 = .ok (.newarray .int, 2) := by decide +kernel
theorem dX12_init_172 : decode cX12_init 172 = .ok (.putfield 68, 3) := by decide +kernel
theorem dX12_init_175 : decode cX12_init 175 = .ok (.aload_n 0, 1) := by decide +kernel
theorem dX12_init_176 : decode cX12_init 176 = .ok (.bipush 6, 2) := by decide +kernel
theorem dX12_init_178 : decode cX12_init 178 = .ok (.newarray .int, 2) := by decide +kernel
theorem dX12_init_180 : decode cX12_init 180 = .ok (.putfield 71, 3) := by decide +kernel
theorem dX12_init_183 : decode cX12_init 183 = .ok (.aload_n 0, 1) := by decide +kernel
theorem dX12_init_184 : decode cX12_init 184 = .ok (.bipush 6, 2) := by decide +kernel
theorem dX12_init_186 : decode cX12_init 186 = .ok (.newarray .int, 2) := by decide +kernel
theorem dX12_init_188 : decode cX12_init 188 = .ok (.putfield 74, 3) := by decide +kernel
theorem dX12_init_191 : decode cX12_init 191 = .ok (.aload_n 0, 1) := by decide +kernel
theorem dX12_init_192 : decode cX12_init 192 = .ok (.bipush 6, 2) := by decide +kernel
theorem dX12_init_194 : decode cX12_init 194 = .ok (.newarray .int, 2) := by decide +kernel
theorem dX12_init_196 : decode cX12_init 196 = .ok (.putfield 77, 3) := by decide +kernel
theorem dX12_init_199 : decode cX12_init 199 = .ok (.aload_n 0, 1) := by decide +kernel
theorem dX12_init_200 : decode cX12_init 200 = .ok (.bipush 6, 2) := by decide +kernel
theorem dX12_init_202 : decode cX12_init 202 = .ok (.newarray .int, 2) := by decide +kernel
theorem dX12_init_204 : decode cX12_init 204 = .ok (.putfield 80, 3) := by decide +kernel
theorem dX12_init_207 : decode cX12_init 207 = .ok (.aload_n 0, 1) := by decide +kernel
theorem dX12_init_208 : decode cX12_init 208 = .ok (.bipush 6, 2) := by decide +kernel
theorem dX12_init_210 : decode cX12_init 210 = .ok (.newarray .int, 2) := by decide +kernel
theorem dX12_init_212 : decode cX12_init 212 = .ok (.putfield 83, 3) := by decide +kernel
theorem dX12_init_215 : decode cX12_init 215 = .ok (.aload_n 0, 1) := by decide +kernel
theorem dX12_init_216 : decode cX12_init 216 = .ok (.bipush 6, 2) := by decide +kernel
theorem dX12_init_218 : decode cX12_init 218 = .ok (.newarray .int, 2) := by decide +kernel
theorem dX12_init_220 : decode cX12_init 220 = .ok (.putfield 86, 3) := by decide +kernel
theorem dX12_init_223 : decode cX12_init 223 = .ok (.aload_n 0, 1) := by decide +kernel
theorem dX12_init_224 : decode cX12_init 224 = .ok (.bipush 6, 2) := by decide +kernel
theorem dX12_init_226 : decode cX12_init 226 = .ok (.newarray .int, 2) := by decide +kernel
theorem dX12_init_228 : decode cX12_init 228 = .ok (.putfield 89, 3) := by decide +kernel
theorem dX12_init_231 : decode cX12_init 231 = .ok (.aload_n 0, 1) := by decide +kernel
theorem dX12_init_232 : decode cX12_init 232 = .ok (.bipush 6, 2) := by decide +kernel
theorem dX12_init_234 : decode cX12_init 234 = .ok (.newarray .int, 2) := by decide +kernel
theorem dX12_init_236 : decode cX12_init 236 = .ok (.putfield 92, 3) := by decide +kernel
theorem dX12_init_239 : decode cX12_init 239 = .ok (.aload_n 0, 1) := by decide +kernel
theorem dX12_init_240 : decode cX12_init 240 = .ok (.bipush 6, 2) := by decide +kernel
theorem dX12_init_242 : decode cX12_init 242 = .ok (.newarray .int, 2) := by decide +kernel
theorem dX12_init_244 : decode cX12_init 244 = .ok (.putfield 95, 3) := by decide +kernel
theorem dX12_init_247 : decode cX12_init 247 = .ok (.aload_n 0, 1) := by decide +kernel
theorem dX12_init_248 : decode cX12_init 248 = .ok (.sipush 150, 3) := by decide +kernel
theorem dX12_init_251 : decode cX12_init 251 = .ok (.newarray .int, 2) := by decide +kernel
theorem dX12_init_253 : decode cX12_init 253 = .ok (.putfield 98, 3) := by decide +kernel
theorem dX12_init_256 : decode cX12_init 256 = .ok (.aload_n 0, 1) := by decide +kernel
theorem dX12_init_257 : decode cX12_init 257 = .ok (.sipush 144, 3) := by decide +kernel
theorem dX12_init_260 : decode cX12_init 260 = .ok (.newarray .int, 2) := by decide +kernel
theorem dX12_init_262 : decode cX12_init 262 = .ok (.putfield 101, 3) := by decide +kernel
theorem dX12_init_265 : decode cX12_init 265 = .ok (.aload_n 0, 1) := by decide +kernel
theorem dX12_init_266 : decode cX12_init 266 = .ok (.sipush 7320, 3) := by decide +kernel
theorem dX12_init_269 : decode cX12_init 269 = .ok (.newarray .int, 2) := by decide +kernel
theorem dX12_init_271 : decode cX12_init 271 = .ok (.putfield 104, 3) := by decide +kernel
theorem dX12_init_274 : decode cX12_init 274 = .ok (.aload_n 0, 1) := by decide +kernel
theorem dX12_init_275 : decode cX12_init 275 = .ok (.bipush 25, 2) := by decide +kernel
theorem dX12_init_277 : decode cX12_init 277 = .ok (.newarray .int, 2) := by decide +kernel
theorem dX12_init_279 : decode cX12_init 279 = .ok (.putfield 107, 3) := by decide +kernel
theorem dX12_init_282 : decode cX12_init 282 = .ok (.aload_n 0, 1) := by decide +kernel
theorem dX12_init_283 : decode cX12_init 283 = .ok (.bipush 24, 2) := by decide +kernel
theorem dX12_init_285 : decode cX12_init 285 = .ok (.newarray .int, 2) := by decide +kernel
theorem dX12_init_287 : decode cX12_init 287 = .ok (.putfield 110, 3) := by decide +kernel
theorem dX12_init_290 : decode cX12_init 290 = .ok (.aload_n 0, 1) := by decide +kernel
theorem dX12_init_291 : decode cX12_init 291 = .ok (.sipush 1220, 3) := by decide +kernel
theorem dX12_init_294 : decode cX12_init 294 = .ok (.newarray .int, 2) := by decide +kernel
theorem dX12_init_296 : decode cX12_init 296 = .ok (.putfield 113, 3) := by decide +kernel
theorem dX12_init_299 : decode cX12_init 299 = .ok (.aload_n 0, 1) := by decide +kernel
theorem dX12_init_300 : decode cX12_init 300 = .ok (.sipush 600, 3) := by decide +kernel
theorem dX12_init_303 : decode cX12_init 303 = .ok (.newarray .int, 2) := by decide +kernel
theorem dX12_init_305 : decode cX12_init 305 = .ok (.putfield 116, 3) := by decide +kernel
theorem dX12_init_308 : decode cX12_init 308 = .ok (.aload_n 0, 1) := by decide +kernel
theorem dX12_init_309 : decode cX12_init 309 = .ok (.sipush 620, 3) := by decide +kernel
theorem dX12_init_312 : decode cX12_init 312 = .ok (.newarray .int, 2) := by decide +kernel
theorem dX12_init_314 : decode cX12_init 314 = .ok (.putfield 119, 3) := by decide +kernel
theorem dX12_init_317 : decode cX12_init 317 = .ok (.aload_n 0, 1) := by decide +kernel
theorem dX12_init_318 : decode cX12_init 318 = .ok (.iconst (-1), 1) := by decide +kernel
theorem dX12_init_319 : decode cX12_init 319 = .ok (.putfield 122, 3) := by decide +kernel
theorem dX12_init_322 : decode cX12_init 322 = .ok (.aload_n 0, 1) := by decide +kernel
theorem dX12_init_323 : decode cX12_init 323 = .ok (.bipush 120, 2) := by decide +kernel
theorem dX12_init_325 : decode cX12_init 325 = .ok (.newarray .int, 2) := by decide +kernel
theorem dX12_init_327 : decode cX12_init 327 = .ok (.putfield 126, 3) := by decide +kernel
theorem dX12_init_330 : decode cX12_init 330 = .ok (.aload_n 0, 1) := by decide +kernel
theorem dX12_init_331 : decode cX12_init 331 = .ok (.bipush 120, 2) := by decide +kernel
theorem dX12_init_333 : decode cX12_init 333 = .ok (.newarray .int, 2) := by decide +kernel
theorem dX12_init_335 : decode cX12_init 335 = .ok (.putfield 129, 3) := by decide +kernel
theorem dX12_init_338 : decode cX12_init 338 = .ok (.aload_n 0, 1) := by decide +kernel
theorem dX12_init_339 : decode cX12_init 339 = .ok (.bipush 120, 2) := by decide +kernel
theorem dX12_init_341 : decode cX12_init 341 = .ok (.newarray .int, 2) := by decide +kernel
theorem dX12_init_343 : decode cX12_init 343 = .ok (.putfield 132, 3) := by decide +kernel
theorem dX12_init_346 : decode cX12_init 346 = .ok (.aload_n 0, 1) := by decide +kernel
theorem dX12_init_347 : decode cX12_init 347 = .ok (.bipush 120, 2) := by decide +kernel
theorem dX12_init_349 : decode cX12_init 349 = .ok (.newarray .int, 2) := by decide +kernel
theorem dX12_init_351 : decode cX12_init 351 = .ok (.putfield 135, 3) := by decide +kernel
theorem dX12_init_354 : decode cX12_init 354 = .ok (.aload_n 0, 1) := by decide +kernel
theorem dX12_init_355 : decode cX12_init 355 = .ok (.bipush 120, 2) := by decide +kernel
theorem dX12_init_357 : decode cX12_init 357 = .ok (.newarray .int, 2) := by decide +kernel
theorem dX12_init_359 : decode cX12_init 359 = .ok (.putfield 138, 3) := by decide +kernel
theorem dX12_init_362 : decode cX12_init 362 = .ok (.aload_n 0, 1) := by decide +kernel
theorem dX12_init_363 : decode cX12_init 363 = .ok (.bipush 120, 2) := by decide +kernel
theorem dX12_init_365 : decode cX12_init 365 = .ok (.newarray .int, 2) := by decide +kernel
theorem dX12_init_367 : decode cX12_init 367 = .ok (.putfield 141, 3) := by decide +kernel
theorem dX12_init_370 : decode cX12_init 370 = .ok (.aload_n 0, 1) := by decide +kernel
theorem dX12_init_371 : decode cX12_init 371 = .ok (.bipush 120, 2) := by decide +kernel
theorem dX12_init_373 : decode cX12_init 373 = .ok (.newarray .int, 2) := by decide +kernel
theorem dX12_init_375 : decode cX12_init 375 = .ok (.putfield 144, 3) := by decide +kernel
theorem dX12_init_378 : decode cX12_init 378 = .ok (.aload_n 0, 1) := by decide +kernel
theorem dX12_init_379 : decode cX12_init 379 = .ok (.bipush 120, 2) := by decide +kernel
theorem dX12_init_381 : decode cX12_init 381 = .ok (.newarray .int, 2) := by decide +kernel
theorem dX12_init_383 : decode cX12_init 383 = .ok (.putfield 147, 3) := by decide +kernel
theorem dX12_init_386 : decode cX12_init 386 = .ok (.aload_n 0, 1) := by decide +kernel
theorem dX12_init_387 : decode cX12_init 387 = .ok (.bipush 120, 2) := by decide +kernel
theorem dX12_init_389 : decode cX12_init 389 = .ok (.newarray .int, 2) := by decide +kernel
theorem dX12_init_391 : decode cX12_init 391 = .ok (.putfield 150, 3) := by decide +kernel
theorem dX12_init_394 : decode cX12_init 394 = .ok (.aload_n 0, 1) := by decide +kernel
theorem dX12_init_395 : decode cX12_init 395 = .ok (.bipush 120, 2) := by decide +kernel
theorem dX12_init_397 : decode cX12_init 397 = .ok (.newarray .int, 2) := by decide +kernel
theorem dX12_init_399 : decode cX12_init 399 = .ok (.putfield 153, 3) := by decide +kernel
theorem dX12_init_402 : decode cX12_init 402 = .ok (.aload_n 0, 1) := by decide +kernel
theorem dX12_init_403 : decode cX12_init 403 = .ok (.bipush 120, 2) := by decide +kernel
theorem dX12_init_405 : decode cX12_init 405 = .ok (.newarray .int, 2) := by decide +kernel
theorem dX12_init_407 : decode cX12_init 407 = .ok (.putfield 156, 3) := by decide +kernel
theorem dX12_init_410 : decode cX12_init 410 = .ok (.aload_n 0, 1) := by decide +kernel
theorem dX12_init_411 : decode cX12_init 411 = .ok (.bipush 120, 2) := by decide +kernel
theorem dX12_init_413 : decode cX12_init 413 = .ok (.newarray .int, 2) := by decide +kernel
theorem dX12_init_415 : decode cX12_init 415 = .ok (.putfield 159, 3) := by decide +kernel
theorem dX12_init_418 : decode cX12_init 418 = .ok (.aload_n 0, 1) := by decide +kernel
theorem dX12_init_419 : decode cX12_init 419 = .ok (.bipush 120, 2) := by decide +kernel
theorem dX12_init_421 : decode cX12_init 421 = .ok (.newarray .int, 2) := by decide +kernel
theorem dX12_init_423 : decode cX12_init 423 = .ok (.putfield 162, 3) := by decide +kernel
theorem dX12_init_426 : decode cX12_init 426 = .ok (.aload_n 0, 1) := by decide +kernel
theorem dX12_init_427 : decode cX12_init 427 = .ok (.bipush 120, 2) := by decide +kernel
theorem dX12_init_429 : decode cX12_init 429 = .ok (.newarray .int, 2) := by decide +kernel
theorem dX12_init_431 : decode cX12_init 431 = .ok (.putfield 165, 3) := by decide +kernel
theorem dX12_init_434 : decode cX12_init 434 = .ok (.aload_n 0, 1) := by decide +kernel
theorem dX12_init_435 : decode cX12_init 435 = .ok (.bipush 120, 2) := by decide +kernel
theorem dX12_init_437 : decode cX12_init 437 = .ok (.newarray .boolean, 2) := by decide +kernel
theorem dX12_init_439 : decode cX12_init 439 = .ok (.putfield 168, 3) := by decide +kernel
theorem dX12_init_442 : decode cX12_init 442 = .ok (.aload_n 0, 1) := by decide +kernel
theorem dX12_init_443 : decode cX12_init 443 = .ok (.bipush 120, 2) := by decide +kernel
theorem dX12_init_445 : decode cX12_init 445 = .ok (.newarray .boolean, 2) := by decide +kernel
theorem dX12_init_447 : decode cX12_init 447 = .ok (.putfield 171, 3) := by decide +kernel
theorem dX12_init_450 : decode cX12_init 450 = .ok (.aload_n 0, 1) := by decide +kernel
theorem dX12_init_451 : decode cX12_init 451 = .ok (.bipush 120, 2) := by decide +kernel
theorem dX12_init_453 : decode cX12_init 453 = .ok (.newarray .boolean, 2) := by decide +kernel
theorem dX12_init_455 : decode cX12_init 455 = .ok (.putfield 174, 3) := by decide +kernel
theorem dX12_init_458 : decode cX12_init 458 = .ok (.aload_n 0, 1) := by decide +kernel
theorem dX12_init_459 : decode cX12_init 459 = .ok (.bipush 120, 2) := by decide +kernel
theorem dX12_init_461 : decode cX12_init 461 = .ok (.newarray .int, 2) := by decide +kernel
theorem dX12_init_463 : decode cX12_init 463 = .ok (.putfield 177, 3) := by decide +kernel
theorem dX12_init_466 : decode cX12_init 466 = .ok (.aload_n 0, 1) := by decide +kernel
theorem dX12_init_467 : decode cX12_init 467 = .ok (.bipush 120, 2) := by decide +kernel
theorem dX12_init_469 : decode cX12_init 469 = .ok (.newarray .int, 2) := by decide +kernel
theorem dX12_init_471 : decode cX12_init 471 = .ok (.putfield 180, 3) := by decide +kernel
theorem dX12_init_474 : decode cX12_init 474 = .ok (.aload_n 0, 1) := by decide +kernel
theorem dX12_init_475 : decode cX12_init 475 = .ok (.bipush 120, 2) := by decide +kernel
theorem dX12_init_477 : decode cX12_init 477 = .ok (.newarray .int, 2) := by decide +kernel
theorem dX12_init_479 : decode cX12_init 479 = .ok (.putfield 183, 3) := by decide +kernel
theorem dX12_init_482 : decode cX12_init 482 = .ok (.aload_n 0, 1) := by decide +kernel
theorem dX12_init_483 : decode cX12_init 483 = .ok (.bipush 120, 2) := by decide +kernel
theorem dX12_init_485 : decode cX12_init 485 = .ok (.newarray .int, 2) := by decide +kernel
theorem dX12_init_487 : decode cX12_init 487 = .ok (.putfield 186, 3) := by decide +kernel
theorem dX12_init_490 : decode cX12_init 490 = .ok (.aload_n 0, 1) := by decide +kernel
theorem dX12_init_491 : decode cX12_init 491 = .ok (.bipush 120, 2) := by decide +kernel
theorem dX12_init_493 : decode cX12_init 493 = .ok (.newarray .int, 2) := by decide +kernel
theorem dX12_init_495 : decode cX12_init 495 = .ok (.putfield 189, 3) := by decide +kernel
theorem dX12_init_498 : decode cX12_init 498 = .ok (.aload_n 0, 1) := by decide +kernel
theorem dX12_init_499 : decode cX12_init 499 = .ok (.bipush 70, 2) := by decide +kernel
theorem dX12_init_501 : decode cX12_init 501 = .ok (.newarray .int, 2) := by decide +kernel
theorem dX12_init_503 : decode cX12_init 503 = .ok (.putfield 192, 3) := by decide +kernel
theorem dX12_init_506 : decode cX12_init 506 = .ok (.aload_n 0, 1) := by decide +kernel
theorem dX12_init_507 : decode cX12_init 507 = .ok (.bipush 120, 2) := by decide +kernel
theorem dX12_init_509 : decode cX12_init 509 = .ok (.newarray .boolean, 2) := by decide +kernel
theorem dX12_init_511 : decode cX12_init 511 = .ok (.putfield 195, 3) := by decide +kernel
theorem dX12_init_514 : decode cX12_init 514 = .ok (.aload_n 0, 1) := by decide +kernel
theorem dX12_init_515 : decode cX12_init 515 = .ok (.ldc 198, 2) := by decide +kernel
theorem dX12_init_517 : decode cX12_init 517 = .ok (.newarray .int, 2) := by decide +kernel
theorem dX12_init_519 : decode cX12_init 519 = .ok (.putfield 199, 3) := by decide +kernel
theorem dX12_init_522 : decode cX12_init 522 = .ok (.aload_n 0, 1) := by decide +kernel
theorem dX12_init_523 : decode cX12_init 523 = .ok (.ldc 198, 2) := by decide +kernel
theorem dX12_init_525 : decode cX12_init 525 = .ok (.newarray .int, 2) := by decide +kernel
theorem dX12_init_527 : decode cX12_init 527 = .ok (.putfield 202, 3) := by decide +kernel
theorem dX12_init_530 : decode cX12_init 530 = .ok (.aload_n 0, 1) := by decide +kernel
theorem dX12_init_531 : decode cX12_init 531 = .ok (.ldc 198, 2) := by decide +kernel
theorem dX12_init_533 : decode cX12_init 533 = .ok (.newarray .int, 2) := by decide +kernel
theorem dX12_init_535 : decode cX12_init 535 = .ok (.putfield 205, 3) := by decide +kernel
theorem dX12_init_538 : decode cX12_init 538 = .ok (.aload_n 0, 1) := by decide +kernel
theorem dX12_init_539 : decode cX12_init 539 = .ok (.bipush 8, 2) := by decide +kernel
theorem dX12_init_541 : decode cX12_init 541 = .ok (.newarray .int, 2) := by decide +kernel
theorem dX12_init_543 : decode cX12_init 543 = .ok (.putfield 208, 3) := by decide +kernel
theorem dX12_init_546 : decode cX12_init 546 = .ok (.aload_n 0, 1) := by decide +kernel
theorem dX12_init_547 : decode cX12_init 547 = .ok (.bipush 8, 2) := by decide +kernel
theorem dX12_init_549 : decode cX12_init 549 = .ok (.newarray .int, 2) := by decide +kernel
theorem dX12_init_551 : decode cX12_init 551 = .ok (.putfield 211, 3) := by decide +kernel
theorem dX12_init_554 : decode cX12_init 554 = .ok (.aload_n 0, 1) := by decide +kernel
theorem dX12_init_555 : decode cX12_init 555 = .ok (.bipush 8, 2) := by decide +kernel
theorem dX12_init_557 : decode cX12_init 557 = .ok (.newarray .int, 2) := by decide +kernel
theorem dX12_init_559 : decode cX12_init 559 = .ok (.putfield 214, 3) := by decide +kernel
theorem dX12_init_562 : decode cX12_init 562 = .ok (.aload_n 0, 1) := by decide +kernel
theorem dX12_init_563 : decode cX12_init 563 = .ok (.bipush 8, 2) := by decide +kernel
theorem dX12_init_565 : decode cX12_init 565 = .ok (.newarray .int, 2) := by decide +kernel
theorem dX12_init_567 : decode cX12_init 567 = .ok (.putfield 217, 3) := by decide +kernel
theorem dX12_init_570 : decode cX12_init 570 = .ok (.aload_n 0, 1) := by decide +kernel
theorem dX12_init_571 : decode cX12_init 571 = .ok (.bipush 8, 2) := by decide +kernel
theorem dX12_init_573 : decode cX12_init 573 = .ok (.newarray .int, 2) := by decide +kernel
theorem dX12_init_575 : decode cX12_init 575 = .ok (.putfield 220, 3) := by decide +kernel
theorem dX12_init_578 : decode cX12_init 578 = .ok (.aload_n 0, 1) := by decide +kernel
theorem dX12_init_579 : decode cX12_init 579 = .ok (.bipush 120, 2) := by decide +kernel
theorem dX12_init_581 : decode cX12_init 581 = .ok (.newarray .int, 2) := by decide +kernel
theorem dX12_init_583 : decode cX12_init 583 = .ok (.putfield 223, 3) := by decide +kernel
theorem dX12_init_586 : decode cX12_init 586 = .ok (.aload_n 0, 1) := by decide +kernel
theorem dX12_init_587 : decode cX12_init 587 = .ok (.sipush 480, 3) := by decide +kernel
theorem dX12_init_590 : decode cX12_init 590 = .ok (.newarray .int, 2) := by decide +kernel
theorem dX12_init_592 : decode cX12_init 592 = .ok (.putfield 226, 3) := by decide +kernel
theorem dX12_init_595 : decode cX12_init 595 = .ok (.aload_n 0, 1) := by decide +kernel
theorem dX12_init_596 : decode cX12_init 596 = .ok (.sipush 480, 3) := by decide +kernel
theorem dX12_init_599 : decode cX12_init 599 = .ok (.newarray .int, 2) := by decide +kernel
theorem dX12_init_601 : decode cX12_init 601 = .ok (.putfield 229, 3) := by decide +kernel
theorem dX12_init_604 : decode cX12_init 604 = .ok (.aload_n 0, 1) := by decide +kernel
theorem dX12_init_605 : decode cX12_init 605 = .ok (.bipush 20, 2) := by decide +kernel
theorem dX12_init_607 : decode cX12_init 607 = .ok (.newarray .int, 2) := by decide +kernel
theorem dX12_init_609 : decode cX12_init 609 = .ok (.putfield 232, 3) := by decide +kernel
theorem dX12_init_612 : decode cX12_init 612 = .ok (.aload_n 0, 1) := by decide +kernel
theorem dX12_init_613 : decode cX12_init 613 = .ok (.bipush 20, 2) := by decide +kernel
theorem dX12_init_615 : decode cX12_init 615 = .ok (.newarray .int, 2) := by decide +kernel
theorem dX12_init_617 : decode cX12_init 617 = .ok (.putfield 235, 3) := by decide +kernel
theorem dX12_init_620 : decode cX12_init 620 = .ok (.aload_n 0, 1) := by decide +kernel
theorem dX12_init_621 : decode cX12_init 621 = .ok (.bipush 20, 2) := by decide +kernel
theorem dX12_init_623 : decode cX12_init 623 = .ok (.newarray .int, 2) := by decide +kernel
theorem dX12_init_625 : decode cX12_init 625 = .ok (.putfield 238, 3) := by decide +kernel
theorem dX12_init_628 : decode cX12_init 628 = .ok (.aload_n 0, 1) := by decide +kernel
theorem dX12_init_629 : decode cX12_init 629 = .ok (.bipush 20, 2) := by decide +kernel
theorem dX12_init_631 : decode cX12_init 631 = .ok (.newarray .int, 2) := by decide +kernel
theorem dX12_init_633 : decode cX12_init 633 = .ok (.putfield 241, 3) := by decide +kernel
theorem dX12_init_636 : decode cX12_init 636 = .ok (.aload_n 0, 1) := by decide +kernel
theorem dX12_init_637 : decode cX12_init 637 = .ok (.sipush 2400, 3) := by decide +kernel
theorem dX12_init_640 : decode cX12_init 640 = .ok (.newarray .int, 2) := by decide +kernel
theorem dX12_init_642 : decode cX12_init 642 = .ok (.putfield 244, 3) := by decide +kernel
theorem dX12_init_645 : decode cX12_init 645 = .ok (.aload_n 0, 1) := by decide +kernel
theorem dX12_init_646 : decode cX12_init 646 = .ok (.bipush 10, 2) := by decide +kernel
theorem dX12_init_648 : decode cX12_init 648 = .ok (.newarray .int, 2) := by decide +kernel
theorem dX12_init_650 : decode cX12_init 650 = .ok (.putfield 247, 3) := by decide +kernel
theorem dX12_init_653 : decode cX12_init 653 = .ok (.aload_n 0, 1) := by decide +kernel
theorem dX12_init_654 : decode cX12_init 654 = .ok (.bipush 10, 2) := by decide +kernel
theorem dX12_init_656 : decode cX12_init 656 = .ok (.newarray .int, 2) := by decide +kernel
theorem dX12_init_658 : decode cX12_init 658 = .ok (.putfield 250, 3) := by decide +kernel
theorem dX12_init_661 : decode cX12_init 661 = .ok (.aload_n 0, 1) := by decide +kernel
theorem dX12_init_662 : decode cX12_init 662 = .ok (.bipush 10, 2) := by decide +kernel
theorem dX12_init_664 : decode cX12_init 664 = .ok (.newarray .int, 2) := by decide +kernel
theorem dX12_init_666 : decode cX12_init 666 = .ok (.putfield 253, 3) := by decide +kernel
theorem dX12_init_669 : decode cX12_init 669 = .ok (.aload_n 0, 1) := by decide +kernel
theorem dX12_init_670 : decode cX12_init 670 = .ok (.bipush 120, 2) := by decide +kernel
theorem dX12_init_672 : decode cX12_init 672 = .ok (.newarray .int, 2) := by decide +kernel
theorem dX12_init_674 : decode cX12_init 674 = .ok (.putfield 256, 3) := by decide +kernel
theorem dX12_init_677 : decode cX12_init 677 = .ok (.aload_n 0, 1) := by decide +kernel
theorem dX12_init_678 : decode cX12_init 678 = .ok (.bipush 120, 2) := by decide +kernel
theorem dX12_init_680 : decode cX12_init 680 = .ok (.newarray .int, 2) := by decide +kernel
theorem dX12_init_682 : decode cX12_init 682 = .ok (.putfield 259, 3) := by decide +kernel
theorem dX12_init_685 : decode cX12_init 685 = .ok (.aload_n 0, 1) := by decide +kernel
theorem dX12_init_686 : decode cX12_init 686 = .ok (.bipush 120, 2) := by decide +kernel
theorem dX12_init_688 : decode cX12_init 688 = .ok (.newarray .int, 2) := by decide +kernel
theorem dX12_init_690 : decode cX12_init 690 = .ok (.putfield 262, 3) := by decide +kernel
theorem dX12_init_693 : decode cX12_init 693 = .ok (.aload_n 0, 1) := by decide +kernel
theorem dX12_init_694 : decode cX12_init 694 = .ok (.bipush 120, 2) := by decide +kernel
theorem dX12_init_696 : decode cX12_init 696 = .ok (.newarray .int, 2) := by decide +kernel
theorem dX12_init_698 : decode cX12_init 698 = .ok (.putfield 265, 3) := by decide +kernel
theorem dX12_init_701 : decode cX12_init 701 = .ok (.aload_n 0, 1) := by decide +kernel
theorem dX12_init_702 : decode cX12_init 702 = .ok (.bipush 120, 2) := by decide +kernel
theorem dX12_init_704 : decode cX12_init 704 = .ok (.newarray .int, 2) := by decide +kernel
theorem dX12_init_706 : decode cX12_init 706 = .ok (.putfield 268, 3) := by decide +kernel
theorem dX12_init_709 : decode cX12_init 709 = .ok (.aload_n 0, 1) := by decide +kernel
theorem dX12_init_710 : decode cX12_init 710 = .ok (.bipush 120, 2) := by decide +kernel
theorem dX12_init_712 : decode cX12_init 712 = .ok (.newarray .int, 2) := by decide +kernel
theorem dX12_init_714 : decode cX12_init 714 = .ok (.putfield 271, 3) := by decide +kernel
theorem dX12_init_717 : decode cX12_init 717 = .ok (.aload_n 0, 1) := by decide +kernel
theorem dX12_init_718 : decode cX12_init 718 = .ok (.bipush 120, 2) := by decide +kernel
theorem dX12_init_720 : decode cX12_init 720 = .ok (.newarray .int, 2) := by decide +kernel
theorem dX12_init_722 : decode cX12_init 722 = .ok (.putfield 274, 3) := by decide +kernel
theorem dX12_init_725 : decode cX12_init 725 = .ok (.aload_n 0, 1) := by decide +kernel
theorem dX12_init_726 : decode cX12_init 726 = .ok (.bipush 70, 2) := by decide +kernel
theorem dX12_init_728 : decode cX12_init 728 = .ok (.newarray .int, 2) := by decide +kernel
theorem dX12_init_730 : decode cX12_init 730 = .ok (.putfield 277, 3) := by decide +kernel
theorem dX12_init_733 : decode cX12_init 733 = .ok (.aload_n 0, 1) := by decide +kernel
theorem dX12_init_734 : decode cX12_init 734 = .ok (.bipush 120, 2) := by decide +kernel
theorem dX12_init_736 : decode cX12_init 736 = .ok (.newarray .boolean, 2) := by decide +kernel
theorem dX12_init_738 : decode cX12_init 738 = .ok (.putfield 280, 3) := by decide +kernel
theorem dX12_init_741 : decode cX12_init 741 = .ok (.iconst 0, 1) := by decide +kernel
theorem dX12_init_742 : decode cX12_init 742 = .ok (.istore_n 1, 1) := by decide +kernel
theorem dX12_init_743 : decode cX12_init 743 = .ok (.iload_n 1, 1) := by decide +kernel
theorem dX12_init_744 : decode cX12_init 744 = .ok (.bipush 10, 2) := by decide +kernel
theorem dX12_init_746 : decode cX12_init 746 = .ok (.if_icmp .ge 25, 3) := by decide +kernel
theorem dX12_init_749 : decode cX12_init 749 = .ok (.aload_n 0, 1) := by decide +kernel
theorem dX12_init_750 : decode cX12_init 750 = .ok (.getfield 247, 3) := by decide +kernel
theorem dX12_init_753 : decode cX12_init 753 = .ok (.iload_n 1, 1) := by decide +kernel
theorem dX12_init_754 : decode cX12_init 754 = .ok (.bipush (-60), 2) := by decide +kernel
theorem dX12_init_756 : decode cX12_init 756 = .ok (.iastore, 1) := by decide +kernel
theorem dX12_init_757 : decode cX12_init 757 = .ok (.aload_n 0, 1) := by decide +kernel
theorem dX12_init_758 : decode cX12_init 758 = .ok (.getfield 250, 3) := by decide +kernel
theorem dX12_init_761 : decode cX12_init 761 = .ok (.iload_n 1, 1) := by decide +kernel
theorem dX12_init_762 : decode cX12_init 762 = .ok (.bipush 60, 2) := by decide +kernel
theorem dX12_init_764 : decode cX12_init 764 = .ok (.iastore, 1) := by decide +kernel
theorem dX12_init_765 : decode cX12_init 765 = .ok (.iinc 1 1, 3) := by decide +kernel
theorem dX12_init_768 : decode cX12_init 768 = .ok (.goto (-25), 3) := by decide +kernel
theorem dX12_init_771 : decode cX12_init 771 = .ok (.iconst 0, 1) := by decide +kernel
theorem dX12_init_772 : decode cX12_init 772 = .ok (.istore_n 1, 1) := by decide +kernel
theorem dX12_init_773 : decode cX12_init 773 = .ok (.iload_n 1, 1) := by decide +kernel
theorem dX12_init_774 : decode cX12_init 774 = .ok (.bipush 8, 2) := by decide +kernel
theorem dX12_init_776 : decode cX12_init 776 = .ok (.if_icmp .ge 16, 3) := by decide +kernel
theorem dX12_init_779 : decode cX12_init 779 = .ok (.aload_n 0, 1) := by decide +kernel
theorem dX12_init_780 : decode cX12_init 780 = .ok (.getfield 217, 3) := by decide +kernel
theorem dX12_init_783 : decode cX12_init 783 = .ok (.iload_n 1, 1) := by decide +kernel
theorem dX12_init_784 : decode cX12_init 784 = .ok (.iconst (-1), 1) := by decide +kernel
theorem dX12_init_785 : decode cX12_init 785 = .ok (.iastore, 1) := by decide +kernel
theorem dX12_init_786 : decode cX12_init 786 = .ok (.iinc 1 1, 3) := by decide +kernel
theorem dX12_init_789 : decode cX12_init 789 = .ok (.goto (-16), 3) := by decide +kernel
theorem dX12_init_792 : decode cX12_init 792 = .ok (.return_, 1) := by decide +kernel
theorem dX12_isIn_0 : decode cX12_isIn 0 = .ok (.iload_n 0, 1) := by decide +kernel
theorem dX12_isIn_1 : decode cX12_isIn 1 = .ok (.iload_n 1, 1) := by decide +kernel
theorem dX12_isIn_2 : decode cX12_isIn 2 = .ok (.if_icmp .lt 12, 3) := by decide +kernel
theorem dX12_isIn_5 : decode cX12_isIn 5 = .ok (.iload_n 0, 1) := by decide +kernel
theorem dX12_isIn_6 : decode cX12_isIn 6 = .ok (.iload_n 2, 1) := by decide +kernel
theorem dX12_isIn_7 : decode cX12_isIn 7 = .ok (.if_icmp .gt 7, 3) := by decide +kernel
theorem dX12_isIn_10 : decode cX12_isIn 10 = .ok (.iconst 1, 1) := by decide +kernel
theorem dX12_isIn_11 : decode cX12_isIn 11 = .ok (.goto 4, 3) := by decide +kernel
theorem dX12_isIn_14 : decode cX12_isIn 14 = .ok (.iconst 0, 1) := by decide +kernel
theorem dX12_isIn_15 : decode cX12_isIn 15 = .ok (.ireturn, 1) := by decide +kernel
theorem dX12_isTown_0 : decode cX12_isTown 0 = .ok (.iload_n 1, 1) := by decide +kernel
theorem dX12_isTown_1 : decode cX12_isTown 1 = .ok (.iconst 0, 1) := by decide +kernel
theorem dX12_isTown_2 : decode cX12_isTown 2 = .ok (.aload_n 0, 1) := by decide +kernel
theorem dX12_isTown_3 : decode cX12_isTown 3 = .ok (.getfield 283, 3) := by decide +kernel
theorem dX12_isTown_6 : decode cX12_isTown 6 = .ok (.iconst 1, 1) := by decide +kernel
theorem dX12_isTown_7 : decode cX12_isTown 7 = .ok (.isub, 1) := by decide +kernel
theorem dX12_isTown_8 : decode cX12_isTown 8 = .ok (.invokestatic 286, 3) := by decide +kernel
theorem dX12_isTown_11 : decode cX12_isTown 11 = .ok (.ireturn, 1) := by decide +kernel
theorem dX12_isTrain_0 : decode cX12_isTrain 0 = .ok (.iload_n 1, 1) := by decide +kernel
theorem dX12_isTrain_1 : decode cX12_isTrain 1 = .ok (.iconst 0, 1) := by decide +kernel
theorem dX12_isTrain_2 : decode cX12_isTrain 2 = .ok (.aload_n 0, 1) := by decide +kernel
theorem dX12_isTrain_3 : decode cX12_isTrain 3 = .ok (.getfield 290, 3) := by decide +kernel
theorem dX12_isTrain_6 : decode cX12_isTrain 6 = .ok (.iconst 1, 1) := by decide +kernel
theorem dX12_isTrain_7 : decode cX12_isTrain 7 = .ok (.isub, 1) := by decide +kernel
theorem dX12_isTrain_8 : decode cX12_isTrain 8 = .ok (.invokestatic 286, 3) := by decide +kernel
theorem dX12_isTrain_11 : decode cX12_isTrain 11 = .ok (.ireturn, 1) := by decide +kernel
theorem dX12_isDay_0 : decode cX12_isDay 0 = .ok (.iload_n 0, 1) := by decide +kernel
theorem dX12_isDay_1 : decode cX12_isDay 1 = .ok (.iconst 0, 1) := by decide +kernel
theorem dX12_isDay_2 : decode cX12_isDay 2 = .ok (.bipush 6, 2) := by decide +kernel
theorem dX12_isDay_4 : decode cX12_isDay 4 = .ok (.invokestatic 286, 3) := by decide +kernel
theorem dX12_isDay_7 : decode cX12_isDay 7 = .ok (.ireturn, 1) := by decide +kernel
theorem dX12_isMinute_0 : decode cX12_isMinute 0 = .ok (.iload_n 0, 1) := by decide +kernel
theorem dX12_isMinute_1 : decode cX12_isMinute 1 = .ok (.iconst 0, 1) := by decide +kernel
theorem dX12_isMinute_2 : decode cX12_isMinute 2 = .ok (.sipush 10079, 3) := by decide +kernel
theorem dX12_isMinute_5 : decode cX12_isMinute 5 = .ok (.invokestatic 286, 3) := by decide +kernel
theorem dX12_isMinute_8 : decode cX12_isMinute 8 = .ok (.ireturn, 1) := by decide +kernel
theorem dX12_town_0 : decode cX12_town 0 = .ok (.aload_n 0, 1) := by decide +kernel
theorem dX12_town_1 : decode cX12_town 1 = .ok (.getfield 283, 3) := by decide +kernel
theorem dX12_town_4 : decode cX12_town 4 = .ok (.bipush 12, 2) := by decide +kernel
theorem dX12_town_6 : decode cX12_town 6 = .ok (.if_icmp .ne 5, 3) := by decide +kernel
theorem dX12_town_9 : decode cX12_town 9 = .ok (.iconst (-1), 1) := by decide +kernel
theorem dX12_town_10 : decode cX12_town 10 = .ok (.ireturn, 1) := by decide +kernel
theorem dX12_town_11 : decode cX12_town 11 = .ok (.aload_n 0, 1) := by decide +kernel
theorem dX12_town_12 : decode cX12_town 12 = .ok (.dup, 1) := by decide +kernel
theorem dX12_town_13 : decode cX12_town 13 = .ok (.getfield 283, 3) := by decide +kernel
theorem dX12_town_16 : decode cX12_town 16 = .ok (.iconst 1, 1) := by decide +kernel
theorem dX12_town_17 : decode cX12_town 17 = .ok (.iadd, 1) := by decide +kernel
theorem dX12_town_18 : decode cX12_town 18 = .ok (.putfield 283, 3) := by decide +kernel
theorem dX12_town_21 : decode cX12_town 21 = .ok (.aload_n 0, 1) := by decide +kernel
theorem dX12_town_22 : decode cX12_town 22 = .ok (.iconst 0, 1) := by decide +kernel
theorem dX12_town_23 : decode cX12_town 23 = .ok (.putfield 293, 3) := by decide +kernel
theorem dX12_town_26 : decode cX12_town 26 = .ok (.aload_n 0, 1) := by decide +kernel
theorem dX12_town_27 : decode cX12_town 27 = .ok (.getfield 283, 3) := by decide +kernel
theorem dX12_town_30 : decode cX12_town 30 = .ok (.iconst 1, 1) := by decide +kernel
theorem dX12_town_31 : decode cX12_town 31 = .ok (.isub, 1) := by decide +kernel
theorem dX12_town_32 : decode cX12_town 32 = .ok (.ireturn, 1) := by decide +kernel
theorem dX12_road_0 : decode cX12_road 0 = .ok (.aload_n 0, 1) := by decide +kernel
theorem dX12_road_1 : decode cX12_road 1 = .ok (.iload_n 1, 1) := by decide +kernel
theorem dX12_road_2 : decode cX12_road 2 = .ok (.invokevirtual 297, 3) := by decide +kernel
theorem dX12_road_5 : decode cX12_road 5 = .ok (.ifCond .eq 27, 3) := by decide +kernel
theorem dX12_road_8 : decode cX12_road 8 = .ok (.aload_n 0, 1) := by decide +kernel
theorem dX12_road_9 : decode cX12_road 9 = .ok (.iload_n 2, 1) := by decide +kernel
theorem dX12_road_10 : decode cX12_road 10 = .ok (.invokevirtual 297, 3) := by decide +kernel
theorem dX12_road_13 : decode cX12_road 13 = .ok (.ifCond .eq 19, 3) := by decide +kernel
theorem dX12_road_16 : decode cX12_road 16 = .ok (.iload_n 1, 1) := by decide +kernel
theorem dX12_road_17 : decode cX12_road 17 = .ok (.iload_n 2, 1) := by decide +kernel
theorem dX12_road_18 : decode cX12_road 18 = .ok (.if_icmp .eq 14, 3) := by decide +kernel
theorem dX12_road_21 : decode cX12_road 21 = .ok (.iload_n 3, 1) := by decide +kernel
theorem dX12_road_22 : decode cX12_road 22 = .ok (.iconst 1, 1) := by decide +kernel
theorem dX12_road_23 : decode cX12_road 23 = .ok (.sipush 999, 3) := by decide +kernel
theorem dX12_road_26 : decode cX12_road 26 = .ok (.invokestatic 286, 3) := by decide +kernel
theorem dX12_road_29 : decode cX12_road 29 = .ok (.ifCond .ne 5, 3) := by decide +kernel
theorem dX12_road_32 : decode cX12_road 32 = .ok (.iconst 0, 1) := by decide +kernel
theorem dX12_road_33 : decode cX12_road 33 = .ok (.ireturn, 1) := by decide +kernel
theorem dX12_road_34 : decode cX12_road 34 = .ok (.aload_n 0, 1) := by decide +kernel
theorem dX12_road_35 : decode cX12_road 35 = .ok (.getfield 7, 3) := by decide +kernel
theorem dX12_road_38 : decode cX12_road 38 = .ok (.bipush 12, 2) := by decide +kernel
theorem dX12_road_40 : decode cX12_road 40 = .ok (.iload_n 1, 1) := by decide +kernel
theorem dX12_road_41 : decode cX12_road 41 = .ok (.imul, 1) := by decide +kernel
theorem dX12_road_42 : decode cX12_road 42 = .ok (.iload_n 2, 1) := by decide +kernel
theorem dX12_road_43 : decode cX12_road 43 = .ok (.iadd, 1) := by decide +kernel
theorem dX12_road_44 : decode cX12_road 44 = .ok (.iload_n 3, 1) := by decide +kernel
theorem dX12_road_45 : decode cX12_road 45 = .ok (.iastore, 1) := by decide +kernel
theorem dX12_road_46 : decode cX12_road 46 = .ok (.aload_n 0, 1) := by decide +kernel
theorem dX12_road_47 : decode cX12_road 47 = .ok (.getfield 7, 3) := by decide +kernel
theorem dX12_road_50 : decode cX12_road 50 = .ok (.bipush 12, 2) := by decide +kernel
theorem dX12_road_52 : decode cX12_road 52 = .ok (.iload_n 2, 1) := by decide +kernel
theorem dX12_road_53 : decode cX12_road 53 = .ok (.imul, 1) := by decide +kernel
theorem dX12_road_54 : decode cX12_road 54 = .ok (.iload_n 1, 1) := by decide +kernel
theorem dX12_road_55 : decode cX12_road 55 = .ok (.iadd, 1) := by decide +kernel
theorem dX12_road_56 : decode cX12_road 56 = .ok (.iload_n 3, 1) := by decide +kernel
theorem dX12_road_57 : decode cX12_road 57 = .ok (.iastore, 1) := by decide +kernel
theorem dX12_road_58 : decode cX12_road 58 = .ok (.iconst 1, 1) := by decide +kernel
theorem dX12_road_59 : decode cX12_road 59 = .ok (.ireturn, 1) := by decide +kernel
theorem dX12_spreads_0 : decode cX12_spreads 0 = .ok (.iconst 0, 1) := by decide +kernel
theorem dX12_spreads_1 : decode cX12_spreads 1 = .ok (.istore_n 3, 1) := by decide +kernel
theorem dX12_spreads_2 : decode cX12_spreads 2 = .ok (.iload_n 3, 1) := by decide +kernel
theorem dX12_spreads_3 : decode cX12_spreads 3 = .ok (.bipush 12, 2) := by decide +kernel
theorem dX12_spreads_5 : decode cX12_spreads 5 = .ok (.if_icmp .ge 27, 3) := by decide +kernel
theorem dX12_spreads_8 : decode cX12_spreads 8 = .ok (.aload_n 0, 1) := by decide +kernel
theorem dX12_spreads_9 : decode cX12_spreads 9 = .ok (.getfield 35, 3) := by decide +kernel
theorem dX12_spreads_12 : decode cX12_spreads 12 = .ok (.iload_n 3, 1) := by decide +kernel
theorem dX12_spreads_13 : decode cX12_spreads 13 = .ok (.iload_n 3, 1) := by decide +kernel
theorem dX12_spreads_14 : decode cX12_spreads 14 = .ok (.iload_n 1, 1) := by decide +kernel
theorem dX12_spreads_15 : decode cX12_spreads 15 = .ok (.if_icmp .ne 7, 3) := by decide +kernel
theorem dX12_spreads_18 : decode cX12_spreads 18 = .ok (.iconst 0, 1) := by decide +kernel
theorem dX12_spreads_19 : decode cX12_spreads 19 = .ok (.goto 6, 3) := by decide +kernel
theorem dX12_spreads_22 : decode cX12_spreads 22 = .ok (.ldc_w 301, 3) := by decide +kernel
theorem dX12_spreads_25 : decode cX12_spreads 25 = .ok (.iastore, 1) := by decide +kernel
theorem dX12_spreads_26 : decode cX12_spreads 26 = .ok (.iinc 3 1, 3) := by decide +kernel
theorem dX12_spreads_29 : decode cX12_spreads 29 = .ok (.goto (-27), 3) := by decide +kernel
theorem dX12_spreads_32 : decode cX12_spreads 32 = .ok (.iconst 1, 1) := by decide +kernel
theorem dX12_spreads_33 : decode cX12_spreads 33 = .ok (.istore_n 3, 1) := by decide +kernel
theorem dX12_spreads_34 : decode cX12_spreads 34 = .ok (.iload_n 3, 1) := by decide +kernel
theorem dX12_spreads_35 : decode cX12_spreads 35 = .ok (.ifCond .eq 119, 3) := by decide +kernel
theorem dX12_spreads_38 : decode cX12_spreads 38 = .ok (.iconst 0, 1) := by decide +kernel
theorem dX12_spreads_39 : decode cX12_spreads 39 = .ok (.istore_n 3, 1) := by decide +kernel
theorem dX12_spreads_40 : decode cX12_spreads 40 = .ok (.iload_n 2, 1) := by decide +kernel
theorem dX12_spreads_41 : decode cX12_spreads 41 = .ok (.istore 4, 2) := by decide +kernel
theorem dX12_spreads_43 : decode cX12_spreads 43 = .ok (.iload 4, 2) := by decide +kernel
theorem dX12_spreads_45 : decode cX12_spreads 45 = .ok (.aload_n 0, 1) := by decide +kernel
theorem dX12_spreads_46 : decode cX12_spreads 46 = .ok (.getfield 283, 3) := by decide +kernel
theorem dX12_spreads_49 : decode cX12_spreads 49 = .ok (.if_icmp .ge 102, 3) := by decide +kernel
theorem dX12_spreads_52 : decode cX12_spreads 52 = .ok (.iload_n 2, 1) := by decide +kernel
theorem dX12_spreads_53 : decode cX12_spreads 53 = .ok (.istore 5, 2) := by decide +kernel
theorem dX12_spreads_55 : decode cX12_spreads 55 = .ok (.iload 5, 2) := by decide +kernel
theorem dX12_spreads_57 : decode cX12_spreads 57 = .ok (.aload_n 0, 1) := by decide +kernel
theorem dX12_spreads_58 : decode cX12_spreads 58 = .ok (.getfield 283, 3) := by decide +kernel
theorem dX12_spreads_61 : decode cX12_spreads 61 = .ok (.if_icmp .ge 84, 3) := by decide +kernel
theorem dX12_spreads_64 : decode cX12_spreads 64 = .ok (.aload_n 0, 1) := by decide +kernel
theorem dX12_spreads_65 : decode cX12_spreads 65 = .ok (.getfield 7, 3) := by decide +kernel
theorem dX12_spreads_68 : decode cX12_spreads 68 = .ok (.bipush 12, 2) := by decide +kernel
theorem dX12_spreads_70 : decode cX12_spreads 70 = .ok (.iload 4, 2) := by decide +kernel
theorem dX12_spreads_72 : decode cX12_spreads 72 = .ok (.imul, 1) := by decide +kernel
theorem dX12_spreads_73 : decode cX12_spreads 73 = .ok (.iload 5, 2) := by decide +kernel
theorem dX12_spreads_75 : decode cX12_spreads 75 = .ok (.iadd, 1) := by decide +kernel
theorem dX12_spreads_76 : decode cX12_spreads 76 = .ok (.iaload, 1) := by decide +kernel
theorem dX12_spreads_77 : decode cX12_spreads 77 = .ok (.istore 6, 2) := by decide +kernel
theorem dX12_spreads_79 : decode cX12_spreads 79 = .ok (.iload 6, 2) := by decide +kernel
theorem dX12_spreads_81 : decode cX12_spreads 81 = .ok (.ifCond .eq 58, 3) := by decide +kernel
theorem dX12_spreads_84 : decode cX12_spreads 84 = .ok (.aload_n 0, 1) := by decide +kernel
theorem dX12_spreads_85 : decode cX12_spreads 85 = .ok (.getfield 35, 3) := by decide +kernel
theorem dX12_spreads_88 : decode cX12_spreads 88 = .ok (.iload 4, 2) := by decide +kernel
theorem dX12_spreads_90 : decode cX12_spreads 90 = .ok (.iaload, 1) := by decide +kernel
theorem dX12_spreads_91 : decode cX12_spreads 91 = .ok (.ldc_w 301, 3) := by decide +kernel
theorem dX12_spreads_94 : decode cX12_spreads 94 = .ok (.if_icmp .eq 45, 3) := by decide +kernel
theorem dX12_spreads_97 : decode cX12_spreads 97 = .ok (.aload_n 0, 1) := by decide +kernel
theorem dX12_spreads_98 : decode cX12_spreads 98 = .ok (.getfield 35, 3) := by decide +kernel
theorem dX12_spreads_101 : decode cX12_spreads 101 = .ok (.iload 4, 2) := by decide +kernel
theorem dX12_spreads_103 : decode cX12_spreads 103 = .ok (.iaload, 1) := by decide +kernel
theorem dX12_spreads_104 : decode cX12_spreads 104 = .ok (.iload 6, 2) := by decide +kernel
theorem dX12_spreads_106 : decode cX12_spreads 106 = .ok (.iadd, 1) := by decide +kernel
theorem dX12_spreads_107 : decode cX12_spreads 107 = .ok (.aload_n 0, 1) := by decide +kernel
theorem dX12_spreads_108 : decode cX12_spreads 108 = .ok (.getfield 35, 3) := by decide +kernel
theorem dX12_spreads_111 : decode cX12_spreads 111 = .ok (.iload 5, 2) := by decide +kernel
theorem dX12_spreads_113 : decode cX12_spreads 113 = .ok (.iaload, 1) := by decide +kernel
theorem dX12_spreads_114 : decode cX12_spreads 114 = .ok (.if_icmp .lt 6, 3) := by decide +kernel
theorem dX12_spreads_117 : decode cX12_spreads 117 = .ok (.goto 22, 3) := by decide +kernel
theorem dX12_spreads_120 : decode cX12_spreads 120 = .ok (.aload_n 0, 1) := by decide +kernel
theorem dX12_spreads_121 : decode cX12_spreads 121 = .ok (.getfield 35, 3) := by decide +kernel
theorem dX12_spreads_124 : decode cX12_spreads 124 = .ok (.iload 5, 2) := by decide +kernel
theorem dX12_spreads_126 : decode cX12_spreads 126 = .ok (.aload_n 0, 1) := by decide +kernel
theorem dX12_spreads_127 : decode cX12_spreads 127 = .ok (.getfield 35, 3) := by decide +kernel
theorem dX12_spreads_130 : decode cX12_spreads 130 = .ok (.iload 4, 2) := by decide +kernel
theorem dX12_spreads_132 : decode cX12_spreads 132 = .ok (.iaload, 1) := by decide +kernel
theorem dX12_spreads_133 : decode cX12_spreads 133 = .ok (.iload 6, 2) := by decide +kernel
theorem dX12_spreads_135 : decode cX12_spreads 135 = .ok (.iadd, 1) := by decide +kernel
theorem dX12_spreads_136 : decode cX12_spreads 136 = .ok (.iastore, 1) := by decide +kernel
theorem dX12_spreads_137 : decode cX12_spreads 137 = .ok (.iconst 1, 1) := by decide +kernel
theorem dX12_spreads_138 : decode cX12_spreads 138 = .ok (.istore_n 3, 1) := by decide +kernel
theorem dX12_spreads_139 : decode cX12_spreads 139 = .ok (.iinc 5 1, 3) := by decide +kernel
theorem dX12_spreads_142 : decode cX12_spreads 142 = .ok (.goto (-87), 3) := by decide +kernel
theorem dX12_spreads_145 : decode cX12_spreads 145 = .ok (.iinc 4 1, 3) := by decide +kernel
theorem dX12_spreads_148 : decode cX12_spreads 148 = .ok (.goto (-105), 3) := by decide +kernel
theorem dX12_spreads_151 : decode cX12_spreads 151 = .ok (.goto (-117), 3) := by decide +kernel
theorem dX12_spreads_154 : decode cX12_spreads 154 = .ok (.return_, 1) := by decide +kernel
theorem dX12_milesOf_0 : decode cX12_milesOf 0 = .ok (.aload_n 0, 1) := by decide +kernel
theorem dX12_milesOf_1 : decode cX12_milesOf 1 = .ok (.iload_n 1, 1) := by decide +kernel
theorem dX12_milesOf_2 : decode cX12_milesOf 2 = .ok (.iload_n 3, 1) := by decide +kernel
theorem dX12_milesOf_3 : decode cX12_milesOf 3 = .ok (.invokevirtual 302, 3) := by decide +kernel
theorem dX12_milesOf_6 : decode cX12_milesOf 6 = .ok (.aload_n 0, 1) := by decide +kernel
theorem dX12_milesOf_7 : decode cX12_milesOf 7 = .ok (.getfield 35, 3) := by decide +kernel
theorem dX12_milesOf_10 : decode cX12_milesOf 10 = .ok (.iload_n 2, 1) := by decide +kernel
theorem dX12_milesOf_11 : decode cX12_milesOf 11 = .ok (.iaload, 1) := by decide +kernel
theorem dX12_milesOf_12 : decode cX12_milesOf 12 = .ok (.ireturn, 1) := by decide +kernel
theorem dX12_miles_0 : decode cX12_miles 0 = .ok (.aload_n 0, 1) := by decide +kernel
theorem dX12_miles_1 : decode cX12_miles 1 = .ok (.iload_n 1, 1) := by decide +kernel
theorem dX12_miles_2 : decode cX12_miles 2 = .ok (.invokevirtual 297, 3) := by decide +kernel
theorem dX12_miles_5 : decode cX12_miles 5 = .ok (.ifCond .eq 11, 3) := by decide +kernel
theorem dX12_miles_8 : decode cX12_miles 8 = .ok (.aload_n 0, 1) := by decide +kernel
theorem dX12_miles_9 : decode cX12_miles 9 = .ok (.iload_n 2, 1) := by decide +kernel
theorem dX12_miles_10 : decode cX12_miles 10 = .ok (.invokevirtual 297, 3) := by decide +kernel
theorem dX12_miles_13 : decode cX12_miles 13 = .ok (.ifCond .ne 5, 3) := by decide +kernel
theorem dX12_miles_16 : decode cX12_miles 16 = .ok (.iconst (-1), 1) := by decide +kernel
theorem dX12_miles_17 : decode cX12_miles 17 = .ok (.ireturn, 1) := by decide +kernel
theorem dX12_miles_18 : decode cX12_miles 18 = .ok (.aload_n 0, 1) := by decide +kernel
theorem dX12_miles_19 : decode cX12_miles 19 = .ok (.iload_n 1, 1) := by decide +kernel
theorem dX12_miles_20 : decode cX12_miles 20 = .ok (.iload_n 2, 1) := by decide +kernel
theorem dX12_miles_21 : decode cX12_miles 21 = .ok (.iconst 0, 1) := by decide +kernel
theorem dX12_miles_22 : decode cX12_miles 22 = .ok (.invokevirtual 306, 3) := by decide +kernel
theorem dX12_miles_25 : decode cX12_miles 25 = .ok (.istore_n 3, 1) := by decide +kernel
theorem dX12_miles_26 : decode cX12_miles 26 = .ok (.iload_n 3, 1) := by decide +kernel
theorem dX12_miles_27 : decode cX12_miles 27 = .ok (.ldc_w 301, 3) := by decide +kernel
theorem dX12_miles_30 : decode cX12_miles 30 = .ok (.if_icmp .ne 7, 3) := by decide +kernel
theorem dX12_miles_33 : decode cX12_miles 33 = .ok (.iconst (-1), 1) := by decide +kernel
theorem dX12_miles_34 : decode cX12_miles 34 = .ok (.goto 4, 3) := by decide +kernel
theorem dX12_miles_37 : decode cX12_miles 37 = .ok (.iload_n 3, 1) := by decide +kernel
theorem dX12_miles_38 : decode cX12_miles 38 = .ok (.ireturn, 1) := by decide +kernel
theorem dX12_train_0 : decode cX12_train 0 = .ok (.aload_n 0, 1) := by decide +kernel
theorem dX12_train_1 : decode cX12_train 1 = .ok (.getfield 290, 3) := by decide +kernel
theorem dX12_train_4 : decode cX12_train 4 = .ok (.bipush 10, 2) := by decide +kernel
theorem dX12_train_6 : decode cX12_train 6 = .ok (.if_icmp .ne 5, 3) := by decide +kernel
theorem dX12_train_9 : decode cX12_train 9 = .ok (.iconst (-1), 1) := by decide +kernel
theorem dX12_train_10 : decode cX12_train 10 = .ok (.ireturn, 1) := by decide +kernel
theorem dX12_train_11 : decode cX12_train 11 = .ok (.aload_n 0, 1) := by decide +kernel
theorem dX12_train_12 : decode cX12_train 12 = .ok (.dup, 1) := by decide +kernel
theorem dX12_train_13 : decode cX12_train 13 = .ok (.getfield 290, 3) := by decide +kernel
theorem dX12_train_16 : decode cX12_train 16 = .ok (.iconst 1, 1) := by decide +kernel
theorem dX12_train_17 : decode cX12_train 17 = .ok (.iadd, 1) := by decide +kernel
theorem dX12_train_18 : decode cX12_train 18 = .ok (.putfield 290, 3) := by decide +kernel
theorem dX12_train_21 : decode cX12_train 21 = .ok (.aload_n 0, 1) := by decide +kernel
theorem dX12_train_22 : decode cX12_train 22 = .ok (.iconst 0, 1) := by decide +kernel
theorem dX12_train_23 : decode cX12_train 23 = .ok (.putfield 293, 3) := by decide +kernel
theorem dX12_train_26 : decode cX12_train 26 = .ok (.aload_n 0, 1) := by decide +kernel
theorem dX12_train_27 : decode cX12_train 27 = .ok (.getfield 290, 3) := by decide +kernel
theorem dX12_train_30 : decode cX12_train 30 = .ok (.iconst 1, 1) := by decide +kernel
theorem dX12_train_31 : decode cX12_train 31 = .ok (.isub, 1) := by decide +kernel
theorem dX12_train_32 : decode cX12_train 32 = .ok (.ireturn, 1) := by decide +kernel
theorem dX12_stop_0 : decode cX12_stop 0 = .ok (.aload_n 0, 1) := by decide +kernel
theorem dX12_stop_1 : decode cX12_stop 1 = .ok (.iload_n 1, 1) := by decide +kernel
theorem dX12_stop_2 : decode cX12_stop 2 = .ok (.invokevirtual 310, 3) := by decide +kernel
theorem dX12_stop_5 : decode cX12_stop 5 = .ok (.ifCond .eq 63, 3) := by decide +kernel
theorem dX12_stop_8 : decode cX12_stop 8 = .ok (.aload_n 0, 1) := by decide +kernel
theorem dX12_stop_9 : decode cX12_stop 9 = .ok (.getfield 313, 3) := by decide +kernel
theorem dX12_stop_12 : decode cX12_stop 12 = .ok (.ifCond .gt 56, 3) := by decide +kernel
theorem dX12_stop_15 : decode cX12_stop 15 = .ok (.aload_n 0, 1) := by decide +kernel
theorem dX12_stop_16 : decode cX12_stop 16 = .ok (.iload_n 2, 1) := by decide +kernel
theorem dX12_stop_17 : decode cX12_stop 17 = .ok (.invokevirtual 297, 3) := by decide +kernel
theorem dX12_stop_20 : decode cX12_stop 20 = .ok (.ifCond .eq 48, 3) := by decide +kernel
theorem dX12_stop_23 : decode cX12_stop 23 = .ok (.iload_n 3, 1) := by decide +kernel
theorem dX12_stop_24 : decode cX12_stop 24 = .ok (.iconst 0, 1) := by decide +kernel
theorem dX12_stop_25 : decode cX12_stop 25 = .ok (.sipush 2400, 3) := by decide +kernel
theorem dX12_stop_28 : decode cX12_stop 28 = .ok (.invokestatic 286, 3) := by decide +kernel
theorem dX12_stop_31 : decode cX12_stop 31 = .ok (.ifCond .eq 37, 3) := by decide +kernel
theorem dX12_stop_34 : decode cX12_stop 34 = .ok (.iload 4, 2) := by decide +kernel
theorem dX12_stop_36 : decode cX12_stop 36 = .ok (.iload_n 3, 1) := by decide +kernel
theorem dX12_stop_37 : decode cX12_stop 37 = .ok (.sipush 2400, 3) := by decide +kernel
theorem dX12_stop_40 : decode cX12_stop 40 = .ok (.invokestatic 286, 3) := by decide +kernel
theorem dX12_stop_43 : decode cX12_stop 43 = .ok (.ifCond .eq 25, 3) := by decide +kernel
theorem dX12_stop_46 : decode cX12_stop 46 = .ok (.iload 5, 2) := by decide +kernel
theorem dX12_stop_48 : decode cX12_stop 48 = .ok (.ifCond .eq 9, 3) := by decide +kernel
theorem dX12_stop_51 : decode cX12_stop 51 = .ok (.iload_n 3, 1) := by decide +kernel
theorem dX12_stop_52 : decode cX12_stop 52 = .ok (.iload 4, 2) := by decide +kernel
theorem dX12_stop_54 : decode cX12_stop 54 = .ok (.if_icmp .ne 14, 3) := by decide +kernel
theorem dX12_stop_57 : decode cX12_stop 57 = .ok (.aload_n 0, 1) := by decide +kernel
theorem dX12_stop_58 : decode cX12_stop 58 = .ok (.getfield 13, 3) := by decide +kernel
theorem dX12_stop_61 : decode cX12_stop 61 = .ok (.iload_n 1, 1) := by decide +kernel
theorem dX12_stop_62 : decode cX12_stop 62 = .ok (.iaload, 1) := by decide +kernel
theorem dX12_stop_63 : decode cX12_stop 63 = .ok (.bipush 8, 2) := by decide +kernel
theorem dX12_stop_65 : decode cX12_stop 65 = .ok (.if_icmp .ne 5, 3) := by decide +kernel
theorem dX12_stop_68 : decode cX12_stop 68 = .ok (.iconst (-1), 1) := by decide +kernel
theorem dX12_stop_69 : decode cX12_stop 69 = .ok (.ireturn, 1) := by decide +kernel
theorem dX12_stop_70 : decode cX12_stop 70 = .ok (.bipush 8, 2) := by decide +kernel
theorem dX12_stop_72 : decode cX12_stop 72 = .ok (.iload_n 1, 1) := by decide +kernel
theorem dX12_stop_73 : decode cX12_stop 73 = .ok (.imul, 1) := by decide +kernel
theorem dX12_stop_74 : decode cX12_stop 74 = .ok (.aload_n 0, 1) := by decide +kernel
theorem dX12_stop_75 : decode cX12_stop 75 = .ok (.getfield 13, 3) := by decide +kernel
theorem dX12_stop_78 : decode cX12_stop 78 = .ok (.iload_n 1, 1) := by decide +kernel
theorem dX12_stop_79 : decode cX12_stop 79 = .ok (.iaload, 1) := by decide +kernel
theorem dX12_stop_80 : decode cX12_stop 80 = .ok (.iadd, 1) := by decide +kernel
theorem dX12_stop_81 : decode cX12_stop 81 = .ok (.istore 6, 2) := by decide +kernel
theorem dX12_stop_83 : decode cX12_stop 83 = .ok (.aload_n 0, 1) := by decide +kernel
theorem dX12_stop_84 : decode cX12_stop 84 = .ok (.getfield 13, 3) := by decide +kernel
theorem dX12_stop_87 : decode cX12_stop 87 = .ok (.iload_n 1, 1) := by decide +kernel
theorem dX12_stop_88 : decode cX12_stop 88 = .ok (.iaload, 1) := by decide +kernel
theorem dX12_stop_89 : decode cX12_stop 89 = .ok (.ifCond .le 31, 3) := by decide +kernel
theorem dX12_stop_92 : decode cX12_stop 92 = .ok (.aload_n 0, 1) := by decide +kernel
theorem dX12_stop_93 : decode cX12_stop 93 = .ok (.getfield 16, 3) := by decide +kernel
theorem dX12_stop_96 : decode cX12_stop 96 = .ok (.iload 6, 2) := by decide +kernel
theorem dX12_stop_98 : decode cX12_stop 98 = .ok (.iconst 1, 1) := by decide +kernel
theorem dX12_stop_99 : decode cX12_stop 99 = .ok (.isub, 1) := by decide +kernel
theorem dX12_stop_100 : decode cX12_stop 100 = .ok (.iaload, 1) := by decide +kernel
theorem dX12_stop_101 : decode cX12_stop 101 = .ok (.iload_n 2, 1) := by decide +kernel
theorem dX12_stop_102 : decode cX12_stop 102 = .ok (.if_icmp .eq 16, 3) := by decide +kernel
theorem dX12_stop_105 : decode cX12_stop 105 = .ok (.iload_n 3, 1) := by decide +kernel
theorem dX12_stop_106 : decode cX12_stop 106 = .ok (.aload_n 0, 1) := by decide +kernel
theorem dX12_stop_107 : decode cX12_stop 107 = .ok (.getfield 22, 3) := by decide +kernel
theorem dX12_stop_110 : decode cX12_stop 110 = .ok (.iload 6, 2) := by decide +kernel
theorem dX12_stop_112 : decode cX12_stop 112 = .ok (.iconst 1, 1) := by decide +kernel
theorem dX12_stop_113 : decode cX12_stop 113 = .ok (.isub, 1) := by decide +kernel
theorem dX12_stop_114 : decode cX12_stop 114 = .ok (.iaload, 1) := by decide +kernel
theorem dX12_stop_115 : decode cX12_stop 115 = .ok (.if_icmp .gt 5, 3) := by decide +kernel
theorem dX12_stop_118 : decode cX12_stop 118 = .ok (.iconst (-1), 1) := by decide +kernel
theorem dX12_stop_119 : decode cX12_stop 119 = .ok (.ireturn, 1) := by decide +kernel
theorem dX12_stop_120 : decode cX12_stop 120 = .ok (.aload_n 0, 1) := by decide +kernel
theorem dX12_stop_121 : decode cX12_stop 121 = .ok (.getfield 16, 3) := by decide +kernel
theorem dX12_stop_124 : decode cX12_stop 124 = .ok (.iload 6, 2) := by decide +kernel
theorem dX12_stop_126 : decode cX12_stop 126 = .ok (.iload_n 2, 1) := by decide +kernel
theorem dX12_stop_127 : decode cX12_stop 127 = .ok (.iastore, 1) := by decide +kernel
theorem dX12_stop_128 : decode cX12_stop 128 = .ok (.aload_n 0, 1) := by decide +kernel
theorem dX12_stop_129 : decode cX12_stop 129 = .ok (.getfield 19, 3) := by decide +kernel
theorem dX12_stop_132 : decode cX12_stop 132 = .ok (.iload 6, 2) := by decide +kernel
theorem dX12_stop_134 : decode cX12_stop 134 = .ok (.iload_n 3, 1) := by decide +kernel
theorem dX12_stop_135 : decode cX12_stop 135 = .ok (.iastore, 1) := by decide +kernel
theorem dX12_stop_136 : decode cX12_stop 136 = .ok (.aload_n 0, 1) := by decide +kernel
theorem dX12_stop_137 : decode cX12_stop 137 = .ok (.getfield 22, 3) := by decide +kernel
theorem dX12_stop_140 : decode cX12_stop 140 = .ok (.iload 6, 2) := by decide +kernel
theorem dX12_stop_142 : decode cX12_stop 142 = .ok (.iload 4, 2) := by decide +kernel
theorem dX12_stop_144 : decode cX12_stop 144 = .ok (.iastore, 1) := by decide +kernel
theorem dX12_stop_145 : decode cX12_stop 145 = .ok (.aload_n 0, 1) := by decide +kernel
theorem dX12_stop_146 : decode cX12_stop 146 = .ok (.getfield 28, 3) := by decide +kernel
theorem dX12_stop_149 : decode cX12_stop 149 = .ok (.iload 6, 2) := by decide +kernel
theorem dX12_stop_151 : decode cX12_stop 151 = .ok (.iload 5, 2) := by decide +kernel
theorem dX12_stop_153 : decode cX12_stop 153 = .ok (.bastore, 1) := by decide +kernel
theorem dX12_stop_154 : decode cX12_stop 154 = .ok (.aload_n 0, 1) := by decide +kernel
theorem dX12_stop_155 : decode cX12_stop 155 = .ok (.getfield 13, 3) := by decide +kernel
theorem dX12_stop_158 : decode cX12_stop 158 = .ok (.iload_n 1, 1) := by decide +kernel
theorem dX12_stop_159 : decode cX12_stop 159 = .ok (.dup2, 1) := by decide +kernel
theorem dX12_stop_160 : decode cX12_stop 160 = .ok (.iaload, 1) := by decide +kernel
theorem dX12_stop_161 : decode cX12_stop 161 = .ok (.iconst 1, 1) := by decide +kernel
theorem dX12_stop_162 : decode cX12_stop 162 = .ok (.iadd, 1) := by decide +kernel
theorem dX12_stop_163 : decode cX12_stop 163 = .ok (.iastore, 1) := by decide +kernel
theorem dX12_stop_164 : decode cX12_stop 164 = .ok (.aload_n 0, 1) := by decide +kernel
theorem dX12_stop_165 : decode cX12_stop 165 = .ok (.iconst 0, 1) := by decide +kernel
theorem dX12_stop_166 : decode cX12_stop 166 = .ok (.putfield 293, 3) := by decide +kernel
theorem dX12_stop_169 : decode cX12_stop 169 = .ok (.aload_n 0, 1) := by decide +kernel
theorem dX12_stop_170 : decode cX12_stop 170 = .ok (.getfield 13, 3) := by decide +kernel
theorem dX12_stop_173 : decode cX12_stop 173 = .ok (.iload_n 1, 1) := by decide +kernel
theorem dX12_stop_174 : decode cX12_stop 174 = .ok (.iaload, 1) := by decide +kernel
theorem dX12_stop_175 : decode cX12_stop 175 = .ok (.iconst 1, 1) := by decide +kernel
theorem dX12_stop_176 : decode cX12_stop 176 = .ok (.isub, 1) := by decide +kernel
theorem dX12_stop_177 : decode cX12_stop 177 = .ok (.ireturn, 1) := by decide +kernel
theorem dX12_stopOf_0 : decode cX12_stopOf 0 = .ok (.aload_n 0, 1) := by decide +kernel
theorem dX12_stopOf_1 : decode cX12_stopOf 1 = .ok (.iload_n 1, 1) := by decide +kernel
theorem dX12_stopOf_2 : decode cX12_stopOf 2 = .ok (.invokevirtual 310, 3) := by decide +kernel
theorem dX12_stopOf_5 : decode cX12_stopOf 5 = .ok (.ifCond .ne 5, 3) := by decide +kernel
theorem dX12_stopOf_8 : decode cX12_stopOf 8 = .ok (.iconst (-1), 1) := by decide +kernel
theorem dX12_stopOf_9 : decode cX12_stopOf 9 = .ok (.ireturn, 1) := by decide +kernel
theorem dX12_stopOf_10 : decode cX12_stopOf 10 = .ok (.iload_n 2, 1) := by decide +kernel
theorem dX12_stopOf_11 : decode cX12_stopOf 11 = .ok (.iconst (-1), 1) := by decide +kernel
theorem dX12_stopOf_12 : decode cX12_stopOf 12 = .ok (.if_icmp .ne 18, 3) := by decide +kernel
theorem dX12_stopOf_15 : decode cX12_stopOf 15 = .ok (.iload_n 3, 1) := by decide +kernel
theorem dX12_stopOf_16 : decode cX12_stopOf 16 = .ok (.ifCond .ne 12, 3) := by decide +kernel
theorem dX12_stopOf_19 : decode cX12_stopOf 19 = .ok (.aload_n 0, 1) := by decide +kernel
theorem dX12_stopOf_20 : decode cX12_stopOf 20 = .ok (.getfield 13, 3) := by decide +kernel
theorem dX12_stopOf_23 : decode cX12_stopOf 23 = .ok (.iload_n 1, 1) := by decide +kernel
theorem dX12_stopOf_24 : decode cX12_stopOf 24 = .ok (.iaload, 1) := by decide +kernel
theorem dX12_stopOf_25 : decode cX12_stopOf 25 = .ok (.goto 4, 3) := by decide +kernel
theorem dX12_stopOf_28 : decode cX12_stopOf 28 = .ok (.iconst (-1), 1) := by decide +kernel
theorem dX12_stopOf_29 : decode cX12_stopOf 29 = .ok (.ireturn, 1) := by decide +kernel
theorem dX12_stopOf_30 : decode cX12_stopOf 30 = .ok (.iload_n 2, 1) := by decide +kernel
theorem dX12_stopOf_31 : decode cX12_stopOf 31 = .ok (.iconst 0, 1) := by decide +kernel
theorem dX12_stopOf_32 : decode cX12_stopOf 32 = .ok (.aload_n 0, 1) := by decide +kernel
theorem dX12_stopOf_33 : decode cX12_stopOf 33 = .ok (.getfield 13, 3) := by decide +kernel
theorem dX12_stopOf_36 : decode cX12_stopOf 36 = .ok (.iload_n 1, 1) := by decide +kernel
theorem dX12_stopOf_37 : decode cX12_stopOf 37 = .ok (.iaload, 1) := by decide +kernel
theorem dX12_stopOf_38 : decode cX12_stopOf 38 = .ok (.iconst 1, 1) := by decide +kernel
theorem dX12_stopOf_39 : decode cX12_stopOf 39 = .ok (.isub, 1) := by decide +kernel
theorem dX12_stopOf_40 : decode cX12_stopOf 40 = .ok (.invokestatic 286, 3) := by decide +kernel
theorem dX12_stopOf_43 : decode cX12_stopOf 43 = .ok (.ifCond .ne 5, 3) := by decide +kernel
theorem dX12_stopOf_46 : decode cX12_stopOf 46 = .ok (.iconst (-1), 1) := by decide +kernel
theorem dX12_stopOf_47 : decode cX12_stopOf 47 = .ok (.ireturn, 1) := by decide +kernel
theorem dX12_stopOf_48 : decode cX12_stopOf 48 = .ok (.bipush 8, 2) := by decide +kernel
theorem dX12_stopOf_50 : decode cX12_stopOf 50 = .ok (.iload_n 1, 1) := by decide +kernel
theorem dX12_stopOf_51 : decode cX12_stopOf 51 = .ok (.imul, 1) := by decide +kernel
theorem dX12_stopOf_52 : decode cX12_stopOf 52 = .ok (.iload_n 2, 1) := by decide +kernel
theorem dX12_stopOf_53 : decode cX12_stopOf 53 = .ok (.iadd, 1) := by decide +kernel
theorem dX12_stopOf_54 : decode cX12_stopOf 54 = .ok (.istore 4, 2) := by decide +kernel
theorem dX12_stopOf_56 : decode cX12_stopOf 56 = .ok (.iload_n 3, 1) := by decide +kernel
theorem dX12_stopOf_57 : decode cX12_stopOf 57 = .ok (.ifCond .ne 13, 3) := by decide +kernel
theorem dX12_stopOf_60 : decode cX12_stopOf 60 = .ok (.aload_n 0, 1) := by decide +kernel
theorem dX12_stopOf_61 : decode cX12_stopOf 61 = .ok (.getfield 16, 3) := by decide +kernel
theorem dX12_stopOf_64 : decode cX12_stopOf 64 = .ok (.iload 4, 2) := by decide +kernel
theorem dX12_stopOf_66 : decode cX12_stopOf 66 = .ok (.iaload, 1) := by decide +kernel
theorem dX12_stopOf_67 : decode cX12_stopOf 67 = .ok (.goto 57, 3) := by decide +kernel
theorem dX12_stopOf_70 : decode cX12_stopOf 70 = .ok (.iload_n 3, 1) := by decide +kernel
theorem dX12_stopOf_71 : decode cX12_stopOf 71 = .ok (.iconst 1, 1) := by decide +kernel
theorem dX12_stopOf_72 : decode cX12_stopOf 72 = .ok (.if_icmp .ne 13, 3) := by decide +kernel
theorem dX12_stopOf_75 : decode cX12_stopOf 75 = .ok (.aload_n 0, 1) := by decide +kernel
theorem dX12_stopOf_76 : decode cX12_stopOf 76 = .ok (.getfield 19, 3) := by decide +kernel
theorem dX12_stopOf_79 : decode cX12_stopOf 79 = .ok (.iload 4, 2) := by decide +kernel
theorem dX12_stopOf_81 : decode cX12_stopOf 81 = .ok (.iaload, 1) := by decide +kernel
theorem dX12_stopOf_82 : decode cX12_stopOf 82 = .ok (.goto 42, 3) := by decide +kernel
theorem dX12_stopOf_85 : decode cX12_stopOf 85 = .ok (.iload_n 3, 1) := by decide +kernel
theorem dX12_stopOf_86 : decode cX12_stopOf 86 = .ok (.iconst 2, 1) := by decide +kernel
theorem dX12_stopOf_87 : decode cX12_stopOf 87 = .ok (.if_icmp .ne 13, 3) := by decide +kernel
theorem dX12_stopOf_90 : decode cX12_stopOf 90 = .ok (.aload_n 0, 1) := by decide +kernel
theorem dX12_stopOf_91 : decode cX12_stopOf 91 = .ok (.getfield 22, 3) := by decide +kernel
theorem dX12_stopOf_94 : decode cX12_stopOf 94 = .ok (.iload 4, 2) := by decide +kernel
theorem dX12_stopOf_96 : decode cX12_stopOf 96 = .ok (.iaload, 1) := by decide +kernel
theorem dX12_stopOf_97 : decode cX12_stopOf 97 = .ok (.goto 27, 3) := by decide +kernel
theorem dX12_stopOf_100 : decode cX12_stopOf 100 = .ok (.iload_n 3, 1) := by decide +kernel
theorem dX12_stopOf_101 : decode cX12_stopOf 101 = .ok (.iconst 3, 1) := by decide +kernel
theorem dX12_stopOf_102 : decode cX12_stopOf 102 = .ok (.if_icmp .ne 21, 3) := by decide +kernel
theorem dX12_stopOf_105 : decode cX12_stopOf 105 = .ok (.aload_n 0, 1) := by decide +kernel
theorem dX12_stopOf_106 : decode cX12_stopOf 106 = .ok (.getfield 28, 3) := by decide +kernel
theorem dX12_stopOf_109 : decode cX12_stopOf 109 = .ok (.iload 4, 2) := by decide +kernel
theorem dX12_stopOf_111 : decode cX12_stopOf 111 = .ok (.baload, 1) := by decide +kernel
theorem dX12_stopOf_112 : decode cX12_stopOf 112 = .ok (.ifCond .eq 7, 3) := by decide +kernel
theorem dX12_stopOf_115 : decode cX12_stopOf 115 = .ok (.iconst 1, 1) := by decide +kernel
theorem dX12_stopOf_116 : decode cX12_stopOf 116 = .ok (.goto 8, 3) := by decide +kernel
theorem dX12_stopOf_119 : decode cX12_stopOf 119 = .ok (.iconst 0, 1) := by decide +kernel
theorem dX12_stopOf_120 : decode cX12_stopOf 120 = .ok (.goto 4, 3) := by decide +kernel
theorem dX12_stopOf_123 : decode cX12_stopOf 123 = .ok (.iconst (-1), 1) := by decide +kernel
theorem dX12_stopOf_124 : decode cX12_stopOf 124 = .ok (.ireturn, 1) := by decide +kernel
theorem dX12_run_0 : decode cX12_run 0 = .ok (.bipush 7, 2) := by decide +kernel
theorem dX12_run_2 : decode cX12_run 2 = .ok (.iload_n 0, 1) := by decide +kernel
theorem dX12_run_3 : decode cX12_run 3 = .ok (.imul, 1) := by decide +kernel
theorem dX12_run_4 : decode cX12_run 4 = .ok (.iload_n 1, 1) := by decide +kernel
theorem dX12_run_5 : decode cX12_run 5 = .ok (.iadd, 1) := by decide +kernel
theorem dX12_run_6 : decode cX12_run 6 = .ok (.ireturn, 1) := by decide +kernel
theorem dX12_comesAt_0 : decode cX12_comesAt 0 = .ok (.sipush 1440, 3) := by decide +kernel
theorem dX12_comesAt_3 : decode cX12_comesAt 3 = .ok (.iload_n 1, 1) := by decide +kernel
theorem dX12_comesAt_4 : decode cX12_comesAt 4 = .ok (.bipush 7, 2) := by decide +kernel
theorem dX12_comesAt_6 : decode cX12_comesAt 6 = .ok (.irem, 1) := by decide +kernel
theorem dX12_comesAt_7 : decode cX12_comesAt 7 = .ok (.imul, 1) := by decide +kernel
theorem dX12_comesAt_8 : decode cX12_comesAt 8 = .ok (.aload_n 0, 1) := by decide +kernel
theorem dX12_comesAt_9 : decode cX12_comesAt 9 = .ok (.getfield 19, 3) := by decide +kernel
theorem dX12_comesAt_12 : decode cX12_comesAt 12 = .ok (.bipush 8, 2) := by decide +kernel
theorem dX12_comesAt_14 : decode cX12_comesAt 14 = .ok (.iload_n 1, 1) := by decide +kernel
theorem dX12_comesAt_15 : decode cX12_comesAt 15 = .ok (.bipush 7, 2) := by decide +kernel
theorem dX12_comesAt_17 : decode cX12_comesAt 17 = .ok (.idiv, 1) := by decide +kernel
theorem dX12_comesAt_18 : decode cX12_comesAt 18 = .ok (.imul, 1) := by decide +kernel
theorem dX12_comesAt_19 : decode cX12_comesAt 19 = .ok (.iload_n 2, 1) := by decide +kernel
theorem dX12_comesAt_20 : decode cX12_comesAt 20 = .ok (.iadd, 1) := by decide +kernel
theorem dX12_comesAt_21 : decode cX12_comesAt 21 = .ok (.iaload, 1) := by decide +kernel
theorem dX12_comesAt_22 : decode cX12_comesAt 22 = .ok (.iadd, 1) := by decide +kernel
theorem dX12_comesAt_23 : decode cX12_comesAt 23 = .ok (.aload_n 0, 1) := by decide +kernel
theorem dX12_comesAt_24 : decode cX12_comesAt 24 = .ok (.getfield 25, 3) := by decide +kernel
theorem dX12_comesAt_27 : decode cX12_comesAt 27 = .ok (.iload_n 1, 1) := by decide +kernel
theorem dX12_comesAt_28 : decode cX12_comesAt 28 = .ok (.iaload, 1) := by decide +kernel
theorem dX12_comesAt_29 : decode cX12_comesAt 29 = .ok (.iadd, 1) := by decide +kernel
theorem dX12_comesAt_30 : decode cX12_comesAt 30 = .ok (.ireturn, 1) := by decide +kernel
theorem dX12_goesAt_0 : decode cX12_goesAt 0 = .ok (.sipush 1440, 3) := by decide +kernel
theorem dX12_goesAt_3 : decode cX12_goesAt 3 = .ok (.iload_n 1, 1) := by decide +kernel
theorem dX12_goesAt_4 : decode cX12_goesAt 4 = .ok (.bipush 7, 2) := by decide +kernel
theorem dX12_goesAt_6 : decode cX12_goesAt 6 = .ok (.irem, 1) := by decide +kernel
theorem dX12_goesAt_7 : decode cX12_goesAt 7 = .ok (.imul, 1) := by decide +kernel
theorem dX12_goesAt_8 : decode cX12_goesAt 8 = .ok (.aload_n 0, 1) := by decide +kernel
theorem dX12_goesAt_9 : decode cX12_goesAt 9 = .ok (.getfield 22, 3) := by decide +kernel
theorem dX12_goesAt_12 : decode cX12_goesAt 12 = .ok (.bipush 8, 2) := by decide +kernel
theorem dX12_goesAt_14 : decode cX12_goesAt 14 = .ok (.iload_n 1, 1) := by decide +kernel
theorem dX12_goesAt_15 : decode cX12_goesAt 15 = .ok (.bipush 7, 2) := by decide +kernel
theorem dX12_goesAt_17 : decode cX12_goesAt 17 = .ok (.idiv, 1) := by decide +kernel

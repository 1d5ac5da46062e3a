/-! how the instructions read, 3 -/
theorem dX12_begins_34 : decode cX12_begins 34 = .ok (.getfield 165, 3) := by decide +kernel
theorem dX12_begins_37 : decode cX12_begins 37 = .ok (.iload_n 2, 1) := by decide +kernel
theorem dX12_begins_38 : decode cX12_begins 38 = .ok (.iaload, 1) := by decide +kernel
theorem dX12_begins_39 : decode cX12_begins 39 = .ok (.aload_n 0, 1) := by decide +kernel
theorem dX12_begins_40 : decode cX12_begins 40 = .ok (.getfield 153, 3) := by decide +kernel
theorem dX12_begins_43 : decode cX12_begins 43 = .ok (.iload_n 2, 1) := by decide +kernel
theorem dX12_begins_44 : decode cX12_begins 44 = .ok (.iaload, 1) := by decide +kernel
theorem dX12_begins_45 : decode cX12_begins 45 = .ok (.iconst (-1), 1) := by decide +kernel
theorem dX12_begins_46 : decode cX12_begins 46 = .ok (.if_icmp .ne 7, 3) := by decide +kernel
theorem dX12_begins_49 : decode cX12_begins 49 = .ok (.iconst 3, 1) := by decide +kernel
theorem dX12_begins_50 : decode cX12_begins 50 = .ok (.goto 14, 3) := by decide +kernel
theorem dX12_begins_53 : decode cX12_begins 53 = .ok (.aload_n 0, 1) := by decide +kernel
theorem dX12_begins_54 : decode cX12_begins 54 = .ok (.getfield 92, 3) := by decide +kernel
theorem dX12_begins_57 : decode cX12_begins 57 = .ok (.aload_n 0, 1) := by decide +kernel
theorem dX12_begins_58 : decode cX12_begins 58 = .ok (.getfield 153, 3) := by decide +kernel
theorem dX12_begins_61 : decode cX12_begins 61 = .ok (.iload_n 2, 1) := by decide +kernel
theorem dX12_begins_62 : decode cX12_begins 62 = .ok (.iaload, 1) := by decide +kernel
theorem dX12_begins_63 : decode cX12_begins 63 = .ok (.iaload, 1) := by decide +kernel
theorem dX12_begins_64 : decode cX12_begins 64 = .ok (.if_icmp .lt 17, 3) := by decide +kernel
theorem dX12_begins_67 : decode cX12_begins 67 = .ok (.aload_n 0, 1) := by decide +kernel
theorem dX12_begins_68 : decode cX12_begins 68 = .ok (.iload_n 2, 1) := by decide +kernel
theorem dX12_begins_69 : decode cX12_begins 69 = .ok (.iload_n 1, 1) := by decide +kernel
theorem dX12_begins_70 : decode cX12_begins 70 = .ok (.bipush 6, 2) := by decide +kernel
theorem dX12_begins_72 : decode cX12_begins 72 = .ok (.aload_n 0, 1) := by decide +kernel
theorem dX12_begins_73 : decode cX12_begins 73 = .ok (.getfield 180, 3) := by decide +kernel
theorem dX12_begins_76 : decode cX12_begins 76 = .ok (.iload_n 2, 1) := by decide +kernel
theorem dX12_begins_77 : decode cX12_begins 77 = .ok (.iaload, 1) := by decide +kernel
theorem dX12_begins_78 : decode cX12_begins 78 = .ok (.invokevirtual 556, 3) := by decide +kernel
theorem dX12_begins_81 : decode cX12_begins 81 = .ok (.iinc 2 1, 3) := by decide +kernel
theorem dX12_begins_84 : decode cX12_begins 84 = .ok (.goto (-82), 3) := by decide +kernel
theorem dX12_begins_87 : decode cX12_begins 87 = .ok (.return_, 1) := by decide +kernel
theorem dX12_leadsOn_0 : decode cX12_leadsOn 0 = .ok (.aload_n 0, 1) := by decide +kernel
theorem dX12_leadsOn_1 : decode cX12_leadsOn 1 = .ok (.invokevirtual 358, 3) := by decide +kernel
theorem dX12_leadsOn_4 : decode cX12_leadsOn 4 = .ok (.iload_n 1, 1) := by decide +kernel
theorem dX12_leadsOn_5 : decode cX12_leadsOn 5 = .ok (.sipush 1440, 3) := by decide +kernel
theorem dX12_leadsOn_8 : decode cX12_leadsOn 8 = .ok (.idiv, 1) := by decide +kernel
theorem dX12_leadsOn_9 : decode cX12_leadsOn 9 = .ok (.iconst 1, 1) := by decide +kernel
theorem dX12_leadsOn_10 : decode cX12_leadsOn 10 = .ok (.iadd, 1) := by decide +kernel
theorem dX12_leadsOn_11 : decode cX12_leadsOn 11 = .ok (.istore_n 3, 1) := by decide +kernel
theorem dX12_leadsOn_12 : decode cX12_leadsOn 12 = .ok (.iconst 0, 1) := by decide +kernel
theorem dX12_leadsOn_13 : decode cX12_leadsOn 13 = .ok (.istore 4, 2) := by decide +kernel
theorem dX12_leadsOn_15 : decode cX12_leadsOn 15 = .ok (.iload 4, 2) := by decide +kernel
theorem dX12_leadsOn_17 : decode cX12_leadsOn 17 = .ok (.aload_n 0, 1) := by decide +kernel
theorem dX12_leadsOn_18 : decode cX12_leadsOn 18 = .ok (.getfield 335, 3) := by decide +kernel
theorem dX12_leadsOn_21 : decode cX12_leadsOn 21 = .ok (.if_icmp .ge 89, 3) := by decide +kernel
theorem dX12_leadsOn_24 : decode cX12_leadsOn 24 = .ok (.aload_n 0, 1) := by decide +kernel
theorem dX12_leadsOn_25 : decode cX12_leadsOn 25 = .ok (.getfield 38, 3) := by decide +kernel
theorem dX12_leadsOn_28 : decode cX12_leadsOn 28 = .ok (.iload 4, 2) := by decide +kernel
theorem dX12_leadsOn_30 : decode cX12_leadsOn 30 = .ok (.iaload, 1) := by decide +kernel
theorem dX12_leadsOn_31 : decode cX12_leadsOn 31 = .ok (.iload_n 2, 1) := by decide +kernel
theorem dX12_leadsOn_32 : decode cX12_leadsOn 32 = .ok (.if_icmp .gt 78, 3) := by decide +kernel
theorem dX12_leadsOn_35 : decode cX12_leadsOn 35 = .ok (.aload_n 0, 1) := by decide +kernel
theorem dX12_leadsOn_36 : decode cX12_leadsOn 36 = .ok (.getfield 38, 3) := by decide +kernel
theorem dX12_leadsOn_39 : decode cX12_leadsOn 39 = .ok (.iload 4, 2) := by decide +kernel
theorem dX12_leadsOn_41 : decode cX12_leadsOn 41 = .ok (.iaload, 1) := by decide +kernel
theorem dX12_leadsOn_42 : decode cX12_leadsOn 42 = .ok (.iload_n 1, 1) := by decide +kernel
theorem dX12_leadsOn_43 : decode cX12_leadsOn 43 = .ok (.if_icmp .gt 6, 3) := by decide +kernel
theorem dX12_leadsOn_46 : decode cX12_leadsOn 46 = .ok (.goto 58, 3) := by decide +kernel
theorem dX12_leadsOn_49 : decode cX12_leadsOn 49 = .ok (.sipush 1440, 3) := by decide +kernel
theorem dX12_leadsOn_52 : decode cX12_leadsOn 52 = .ok (.iload_n 3, 1) := by decide +kernel
theorem dX12_leadsOn_53 : decode cX12_leadsOn 53 = .ok (.imul, 1) := by decide +kernel
theorem dX12_leadsOn_54 : decode cX12_leadsOn 54 = .ok (.aload_n 0, 1) := by decide +kernel
theorem dX12_leadsOn_55 : decode cX12_leadsOn 55 = .ok (.getfield 38, 3) := by decide +kernel
theorem dX12_leadsOn_58 : decode cX12_leadsOn 58 = .ok (.iload 4, 2) := by decide +kernel
theorem dX12_leadsOn_60 : decode cX12_leadsOn 60 = .ok (.iaload, 1) := by decide +kernel
theorem dX12_leadsOn_61 : decode cX12_leadsOn 61 = .ok (.if_icmp .gt 18, 3) := by decide +kernel
theorem dX12_leadsOn_64 : decode cX12_leadsOn 64 = .ok (.aload_n 0, 1) := by decide +kernel
theorem dX12_leadsOn_65 : decode cX12_leadsOn 65 = .ok (.sipush 1440, 3) := by decide +kernel
theorem dX12_leadsOn_68 : decode cX12_leadsOn 68 = .ok (.iload_n 3, 1) := by decide +kernel
theorem dX12_leadsOn_69 : decode cX12_leadsOn 69 = .ok (.imul, 1) := by decide +kernel
theorem dX12_leadsOn_70 : decode cX12_leadsOn 70 = .ok (.invokevirtual 585, 3) := by decide +kernel
theorem dX12_leadsOn_73 : decode cX12_leadsOn 73 = .ok (.iinc 3 1, 3) := by decide +kernel
theorem dX12_leadsOn_76 : decode cX12_leadsOn 76 = .ok (.goto (-27), 3) := by decide +kernel
theorem dX12_leadsOn_79 : decode cX12_leadsOn 79 = .ok (.aload_n 0, 1) := by decide +kernel
theorem dX12_leadsOn_80 : decode cX12_leadsOn 80 = .ok (.getfield 41, 3) := by decide +kernel
theorem dX12_leadsOn_83 : decode cX12_leadsOn 83 = .ok (.iload 4, 2) := by decide +kernel
theorem dX12_leadsOn_85 : decode cX12_leadsOn 85 = .ok (.iaload, 1) := by decide +kernel
theorem dX12_leadsOn_86 : decode cX12_leadsOn 86 = .ok (.ifCond .ne 12, 3) := by decide +kernel
theorem dX12_leadsOn_89 : decode cX12_leadsOn 89 = .ok (.aload_n 0, 1) := by decide +kernel
theorem dX12_leadsOn_90 : decode cX12_leadsOn 90 = .ok (.iload 4, 2) := by decide +kernel
theorem dX12_leadsOn_92 : decode cX12_leadsOn 92 = .ok (.invokevirtual 588, 3) := by decide +kernel
theorem dX12_leadsOn_95 : decode cX12_leadsOn 95 = .ok (.goto 9, 3) := by decide +kernel
theorem dX12_leadsOn_98 : decode cX12_leadsOn 98 = .ok (.aload_n 0, 1) := by decide +kernel
theorem dX12_leadsOn_99 : decode cX12_leadsOn 99 = .ok (.iload 4, 2) := by decide +kernel
theorem dX12_leadsOn_101 : decode cX12_leadsOn 101 = .ok (.invokevirtual 591, 3) := by decide +kernel
theorem dX12_leadsOn_104 : decode cX12_leadsOn 104 = .ok (.iinc 4 1, 3) := by decide +kernel
theorem dX12_leadsOn_107 : decode cX12_leadsOn 107 = .ok (.goto (-92), 3) := by decide +kernel
theorem dX12_leadsOn_110 : decode cX12_leadsOn 110 = .ok (.sipush 1440, 3) := by decide +kernel
theorem dX12_leadsOn_113 : decode cX12_leadsOn 113 = .ok (.iload_n 3, 1) := by decide +kernel
theorem dX12_leadsOn_114 : decode cX12_leadsOn 114 = .ok (.imul, 1) := by decide +kernel
theorem dX12_leadsOn_115 : decode cX12_leadsOn 115 = .ok (.iload_n 2, 1) := by decide +kernel
theorem dX12_leadsOn_116 : decode cX12_leadsOn 116 = .ok (.if_icmp .gt 18, 3) := by decide +kernel
theorem dX12_leadsOn_119 : decode cX12_leadsOn 119 = .ok (.aload_n 0, 1) := by decide +kernel
theorem dX12_leadsOn_120 : decode cX12_leadsOn 120 = .ok (.sipush 1440, 3) := by decide +kernel
theorem dX12_leadsOn_123 : decode cX12_leadsOn 123 = .ok (.iload_n 3, 1) := by decide +kernel
theorem dX12_leadsOn_124 : decode cX12_leadsOn 124 = .ok (.imul, 1) := by decide +kernel
theorem dX12_leadsOn_125 : decode cX12_leadsOn 125 = .ok (.invokevirtual 585, 3) := by decide +kernel
theorem dX12_leadsOn_128 : decode cX12_leadsOn 128 = .ok (.iinc 3 1, 3) := by decide +kernel
theorem dX12_leadsOn_131 : decode cX12_leadsOn 131 = .ok (.goto (-21), 3) := by decide +kernel
theorem dX12_leadsOn_134 : decode cX12_leadsOn 134 = .ok (.return_, 1) := by decide +kernel
theorem dX12_minutes_0 : decode cX12_minutes 0 = .ok (.iload_n 1, 1) := by decide +kernel
theorem dX12_minutes_1 : decode cX12_minutes 1 = .ok (.iconst 1, 1) := by decide +kernel
theorem dX12_minutes_2 : decode cX12_minutes 2 = .ok (.sipush 3000, 3) := by decide +kernel
theorem dX12_minutes_5 : decode cX12_minutes 5 = .ok (.invokestatic 286, 3) := by decide +kernel
theorem dX12_minutes_8 : decode cX12_minutes 8 = .ok (.ifCond .eq 15, 3) := by decide +kernel
theorem dX12_minutes_11 : decode cX12_minutes 11 = .ok (.aload_n 0, 1) := by decide +kernel
theorem dX12_minutes_12 : decode cX12_minutes 12 = .ok (.getfield 313, 3) := by decide +kernel
theorem dX12_minutes_15 : decode cX12_minutes 15 = .ok (.sipush 10079, 3) := by decide +kernel
theorem dX12_minutes_18 : decode cX12_minutes 18 = .ok (.iload_n 1, 1) := by decide +kernel
theorem dX12_minutes_19 : decode cX12_minutes 19 = .ok (.isub, 1) := by decide +kernel
theorem dX12_minutes_20 : decode cX12_minutes 20 = .ok (.if_icmp .le 5, 3) := by decide +kernel
theorem dX12_minutes_23 : decode cX12_minutes 23 = .ok (.iconst (-1), 1) := by decide +kernel
theorem dX12_minutes_24 : decode cX12_minutes 24 = .ok (.ireturn, 1) := by decide +kernel
theorem dX12_minutes_25 : decode cX12_minutes 25 = .ok (.aload_n 0, 1) := by decide +kernel
theorem dX12_minutes_26 : decode cX12_minutes 26 = .ok (.aload_n 0, 1) := by decide +kernel
theorem dX12_minutes_27 : decode cX12_minutes 27 = .ok (.getfield 313, 3) := by decide +kernel
theorem dX12_minutes_30 : decode cX12_minutes 30 = .ok (.aload_n 0, 1) := by decide +kernel
theorem dX12_minutes_31 : decode cX12_minutes 31 = .ok (.getfield 313, 3) := by decide +kernel
theorem dX12_minutes_34 : decode cX12_minutes 34 = .ok (.iload_n 1, 1) := by decide +kernel
theorem dX12_minutes_35 : decode cX12_minutes 35 = .ok (.iadd, 1) := by decide +kernel
theorem dX12_minutes_36 : decode cX12_minutes 36 = .ok (.invokevirtual 594, 3) := by decide +kernel
theorem dX12_minutes_39 : decode cX12_minutes 39 = .ok (.aload_n 0, 1) := by decide +kernel
theorem dX12_minutes_40 : decode cX12_minutes 40 = .ok (.dup, 1) := by decide +kernel
theorem dX12_minutes_41 : decode cX12_minutes 41 = .ok (.getfield 313, 3) := by decide +kernel
theorem dX12_minutes_44 : decode cX12_minutes 44 = .ok (.iload_n 1, 1) := by decide +kernel
theorem dX12_minutes_45 : decode cX12_minutes 45 = .ok (.iadd, 1) := by decide +kernel
theorem dX12_minutes_46 : decode cX12_minutes 46 = .ok (.putfield 313, 3) := by decide +kernel
theorem dX12_minutes_49 : decode cX12_minutes 49 = .ok (.aload_n 0, 1) := by decide +kernel
theorem dX12_minutes_50 : decode cX12_minutes 50 = .ok (.getfield 313, 3) := by decide +kernel
theorem dX12_minutes_53 : decode cX12_minutes 53 = .ok (.ireturn, 1) := by decide +kernel
theorem dX12_look_0 : decode cX12_look 0 = .ok (.iconst 0, 1) := by decide +kernel
theorem dX12_look_1 : decode cX12_look 1 = .ok (.istore_n 2, 1) := by decide +kernel
theorem dX12_look_2 : decode cX12_look 2 = .ok (.iload_n 1, 1) := by decide +kernel
theorem dX12_look_3 : decode cX12_look 3 = .ok (.tableswitch 67 0 5 #[37, 42, 47, 52, 57, 62], 37) := by decide +kernel
theorem dX12_look_40 : decode cX12_look 40 = .ok (.aload_n 0, 1) := by decide +kernel
theorem dX12_look_41 : decode cX12_look 41 = .ok (.getfield 313, 3) := by decide +kernel
theorem dX12_look_44 : decode cX12_look 44 = .ok (.ireturn, 1) := by decide +kernel
theorem dX12_look_45 : decode cX12_look 45 = .ok (.aload_n 0, 1) := by decide +kernel
theorem dX12_look_46 : decode cX12_look 46 = .ok (.getfield 283, 3) := by decide +kernel
theorem dX12_look_49 : decode cX12_look 49 = .ok (.ireturn, 1) := by decide +kernel
theorem dX12_look_50 : decode cX12_look 50 = .ok (.aload_n 0, 1) := by decide +kernel
theorem dX12_look_51 : decode cX12_look 51 = .ok (.getfield 290, 3) := by decide +kernel
theorem dX12_look_54 : decode cX12_look 54 = .ok (.ireturn, 1) := by decide +kernel
theorem dX12_look_55 : decode cX12_look 55 = .ok (.aload_n 0, 1) := by decide +kernel
theorem dX12_look_56 : decode cX12_look 56 = .ok (.getfield 531, 3) := by decide +kernel
theorem dX12_look_59 : decode cX12_look 59 = .ok (.ireturn, 1) := by decide +kernel
theorem dX12_look_60 : decode cX12_look 60 = .ok (.aload_n 0, 1) := by decide +kernel
theorem dX12_look_61 : decode cX12_look 61 = .ok (.getfield 569, 3) := by decide +kernel
theorem dX12_look_64 : decode cX12_look 64 = .ok (.ireturn, 1) := by decide +kernel
theorem dX12_look_65 : decode cX12_look 65 = .ok (.aload_n 0, 1) := by decide +kernel
theorem dX12_look_66 : decode cX12_look 66 = .ok (.getfield 522, 3) := by decide +kernel
theorem dX12_look_69 : decode cX12_look 69 = .ok (.ireturn, 1) := by decide +kernel
theorem dX12_look_70 : decode cX12_look 70 = .ok (.iload_n 1, 1) := by decide +kernel
theorem dX12_look_71 : decode cX12_look 71 = .ok (.bipush 10, 2) := by decide +kernel
theorem dX12_look_73 : decode cX12_look 73 = .ok (.bipush 16, 2) := by decide +kernel
theorem dX12_look_75 : decode cX12_look 75 = .ok (.invokestatic 286, 3) := by decide +kernel
theorem dX12_look_78 : decode cX12_look 78 = .ok (.ifCond .ne 5, 3) := by decide +kernel
theorem dX12_look_81 : decode cX12_look 81 = .ok (.iconst (-1), 1) := by decide +kernel
theorem dX12_look_82 : decode cX12_look 82 = .ok (.ireturn, 1) := by decide +kernel
theorem dX12_look_83 : decode cX12_look 83 = .ok (.iconst 0, 1) := by decide +kernel
theorem dX12_look_84 : decode cX12_look 84 = .ok (.istore_n 3, 1) := by decide +kernel
theorem dX12_look_85 : decode cX12_look 85 = .ok (.iload_n 3, 1) := by decide +kernel
theorem dX12_look_86 : decode cX12_look 86 = .ok (.aload_n 0, 1) := by decide +kernel
theorem dX12_look_87 : decode cX12_look 87 = .ok (.getfield 531, 3) := by decide +kernel
theorem dX12_look_90 : decode cX12_look 90 = .ok (.if_icmp .ge 30, 3) := by decide +kernel
theorem dX12_look_93 : decode cX12_look 93 = .ok (.iload_n 2, 1) := by decide +kernel
theorem dX12_look_94 : decode cX12_look 94 = .ok (.aload_n 0, 1) := by decide +kernel
theorem dX12_look_95 : decode cX12_look 95 = .ok (.getfield 177, 3) := by decide +kernel
theorem dX12_look_98 : decode cX12_look 98 = .ok (.iload_n 3, 1) := by decide +kernel
theorem dX12_look_99 : decode cX12_look 99 = .ok (.iaload, 1) := by decide +kernel
theorem dX12_look_100 : decode cX12_look 100 = .ok (.iload_n 1, 1) := by decide +kernel
theorem dX12_look_101 : decode cX12_look 101 = .ok (.bipush 10, 2) := by decide +kernel
theorem dX12_look_103 : decode cX12_look 103 = .ok (.isub, 1) := by decide +kernel
theorem dX12_look_104 : decode cX12_look 104 = .ok (.if_icmp .ne 7, 3) := by decide +kernel
theorem dX12_look_107 : decode cX12_look 107 = .ok (.iconst 1, 1) := by decide +kernel
theorem dX12_look_108 : decode cX12_look 108 = .ok (.goto 4, 3) := by decide +kernel
theorem dX12_look_111 : decode cX12_look 111 = .ok (.iconst 0, 1) := by decide +kernel
theorem dX12_look_112 : decode cX12_look 112 = .ok (.iadd, 1) := by decide +kernel
theorem dX12_look_113 : decode cX12_look 113 = .ok (.istore_n 2, 1) := by decide +kernel
theorem dX12_look_114 : decode cX12_look 114 = .ok (.iinc 3 1, 3) := by decide +kernel
theorem dX12_look_117 : decode cX12_look 117 = .ok (.goto (-32), 3) := by decide +kernel
theorem dX12_look_120 : decode cX12_look 120 = .ok (.iload_n 2, 1) := by decide +kernel
theorem dX12_look_121 : decode cX12_look 121 = .ok (.ireturn, 1) := by decide +kernel
theorem dX12_run__0 : decode cX12_run_ 0 = .ok (.aload_n 0, 1) := by decide +kernel
theorem dX12_run__1 : decode cX12_run_ 1 = .ok (.iload_n 1, 1) := by decide +kernel
theorem dX12_run__2 : decode cX12_run_ 2 = .ok (.invokevirtual 310, 3) := by decide +kernel
theorem dX12_run__5 : decode cX12_run_ 5 = .ok (.ifCond .eq 10, 3) := by decide +kernel
theorem dX12_run__8 : decode cX12_run_ 8 = .ok (.iload_n 2, 1) := by decide +kernel
theorem dX12_run__9 : decode cX12_run_ 9 = .ok (.invokestatic 316, 3) := by decide +kernel
theorem dX12_run__12 : decode cX12_run_ 12 = .ok (.ifCond .ne 5, 3) := by decide +kernel
theorem dX12_run__15 : decode cX12_run_ 15 = .ok (.iconst (-1), 1) := by decide +kernel
theorem dX12_run__16 : decode cX12_run_ 16 = .ok (.ireturn, 1) := by decide +kernel
theorem dX12_run__17 : decode cX12_run_ 17 = .ok (.iload_n 1, 1) := by decide +kernel
theorem dX12_run__18 : decode cX12_run_ 18 = .ok (.iload_n 2, 1) := by decide +kernel
theorem dX12_run__19 : decode cX12_run_ 19 = .ok (.invokestatic 322, 3) := by decide +kernel
theorem dX12_run__22 : decode cX12_run_ 22 = .ok (.istore 4, 2) := by decide +kernel
theorem dX12_run__24 : decode cX12_run_ 24 = .ok (.iconst 0, 1) := by decide +kernel
theorem dX12_run__25 : decode cX12_run_ 25 = .ok (.istore 5, 2) := by decide +kernel
theorem dX12_run__27 : decode cX12_run_ 27 = .ok (.iload_n 3, 1) := by decide +kernel
theorem dX12_run__28 : decode cX12_run_ 28 = .ok (.tableswitch 121 0 4 #[36, 36, 98, 105, 113], 36) := by decide +kernel
theorem dX12_run__64 : decode cX12_run_ 64 = .ok (.iconst 0, 1) := by decide +kernel
theorem dX12_run__65 : decode cX12_run_ 65 = .ok (.istore 6, 2) := by decide +kernel
theorem dX12_run__67 : decode cX12_run_ 67 = .ok (.iload 6, 2) := by decide +kernel
theorem dX12_run__69 : decode cX12_run_ 69 = .ok (.aload_n 0, 1) := by decide +kernel
theorem dX12_run__70 : decode cX12_run_ 70 = .ok (.getfield 531, 3) := by decide +kernel
theorem dX12_run__73 : decode cX12_run_ 73 = .ok (.if_icmp .ge 50, 3) := by decide +kernel
theorem dX12_run__76 : decode cX12_run_ 76 = .ok (.iload 5, 2) := by decide +kernel
theorem dX12_run__78 : decode cX12_run_ 78 = .ok (.aload_n 0, 1) := by decide +kernel
theorem dX12_run__79 : decode cX12_run_ 79 = .ok (.iload 6, 2) := by decide +kernel
theorem dX12_run__81 : decode cX12_run_ 81 = .ok (.iload 4, 2) := by decide +kernel
theorem dX12_run__83 : decode cX12_run_ 83 = .ok (.invokevirtual 575, 3) := by decide +kernel
theorem dX12_run__86 : decode cX12_run_ 86 = .ok (.ifCond .eq 27, 3) := by decide +kernel
theorem dX12_run__89 : decode cX12_run_ 89 = .ok (.aload_n 0, 1) := by decide +kernel
theorem dX12_run__90 : decode cX12_run_ 90 = .ok (.getfield 195, 3) := by decide +kernel
theorem dX12_run__93 : decode cX12_run_ 93 = .ok (.iload 6, 2) := by decide +kernel
theorem dX12_run__95 : decode cX12_run_ 95 = .ok (.baload, 1) := by decide +kernel
theorem dX12_run__96 : decode cX12_run_ 96 = .ok (.iload_n 3, 1) := by decide +kernel
theorem dX12_run__97 : decode cX12_run_ 97 = .ok (.iconst 1, 1) := by decide +kernel
theorem dX12_run__98 : decode cX12_run_ 98 = .ok (.if_icmp .ne 7, 3) := by decide +kernel
theorem dX12_run__101 : decode cX12_run_ 101 = .ok (.iconst 1, 1) := by decide +kernel
theorem dX12_run__102 : decode cX12_run_ 102 = .ok (.goto 4, 3) := by decide +kernel
theorem dX12_run__105 : decode cX12_run_ 105 = .ok (.iconst 0, 1) := by decide +kernel
theorem dX12_run__106 : decode cX12_run_ 106 = .ok (.if_icmp .ne 7, 3) := by decide +kernel
theorem dX12_run__109 : decode cX12_run_ 109 = .ok (.iconst 1, 1) := by decide +kernel
theorem dX12_run__110 : decode cX12_run_ 110 = .ok (.goto 4, 3) := by decide +kernel
theorem dX12_run__113 : decode cX12_run_ 113 = .ok (.iconst 0, 1) := by decide +kernel
theorem dX12_run__114 : decode cX12_run_ 114 = .ok (.iadd, 1) := by decide +kernel
theorem dX12_run__115 : decode cX12_run_ 115 = .ok (.istore 5, 2) := by decide +kernel
theorem dX12_run__117 : decode cX12_run_ 117 = .ok (.iinc 6 1, 3) := by decide +kernel
theorem dX12_run__120 : decode cX12_run_ 120 = .ok (.goto (-53), 3) := by decide +kernel
theorem dX12_run__123 : decode cX12_run_ 123 = .ok (.iload 5, 2) := by decide +kernel
theorem dX12_run__125 : decode cX12_run_ 125 = .ok (.ireturn, 1) := by decide +kernel
theorem dX12_run__126 : decode cX12_run_ 126 = .ok (.aload_n 0, 1) := by decide +kernel
theorem dX12_run__127 : decode cX12_run_ 127 = .ok (.iload 4, 2) := by decide +kernel
theorem dX12_run__129 : decode cX12_run_ 129 = .ok (.invokevirtual 597, 3) := by decide +kernel
theorem dX12_run__132 : decode cX12_run_ 132 = .ok (.ireturn, 1) := by decide +kernel
theorem dX12_run__133 : decode cX12_run_ 133 = .ok (.aload_n 0, 1) := by decide +kernel
theorem dX12_run__134 : decode cX12_run_ 134 = .ok (.getfield 192, 3) := by decide +kernel
theorem dX12_run__137 : decode cX12_run_ 137 = .ok (.iload 4, 2) := by decide +kernel
theorem dX12_run__139 : decode cX12_run_ 139 = .ok (.iaload, 1) := by decide +kernel
theorem dX12_run__140 : decode cX12_run_ 140 = .ok (.ireturn, 1) := by decide +kernel
theorem dX12_run__141 : decode cX12_run_ 141 = .ok (.aload_n 0, 1) := by decide +kernel
theorem dX12_run__142 : decode cX12_run_ 142 = .ok (.getfield 25, 3) := by decide +kernel
theorem dX12_run__145 : decode cX12_run_ 145 = .ok (.iload 4, 2) := by decide +kernel
theorem dX12_run__147 : decode cX12_run_ 147 = .ok (.iaload, 1) := by decide +kernel
theorem dX12_run__148 : decode cX12_run_ 148 = .ok (.ireturn, 1) := by decide +kernel
theorem dX12_run__149 : decode cX12_run_ 149 = .ok (.iconst (-1), 1) := by decide +kernel
theorem dX12_run__150 : decode cX12_run_ 150 = .ok (.ireturn, 1) := by decide +kernel
theorem dX12_gone_0 : decode cX12_gone 0 = .ok (.iconst (-1), 1) := by decide +kernel
theorem dX12_gone_1 : decode cX12_gone 1 = .ok (.istore_n 2, 1) := by decide +kernel
theorem dX12_gone_2 : decode cX12_gone 2 = .ok (.iload_n 2, 1) := by decide +kernel
theorem dX12_gone_3 : decode cX12_gone 3 = .ok (.iconst 2, 1) := by decide +kernel
theorem dX12_gone_4 : decode cX12_gone 4 = .ok (.iadd, 1) := by decide +kernel
theorem dX12_gone_5 : decode cX12_gone 5 = .ok (.aload_n 0, 1) := by decide +kernel
theorem dX12_gone_6 : decode cX12_gone 6 = .ok (.getfield 13, 3) := by decide +kernel
theorem dX12_gone_9 : decode cX12_gone 9 = .ok (.iload_n 1, 1) := by decide +kernel
theorem dX12_gone_10 : decode cX12_gone 10 = .ok (.bipush 7, 2) := by decide +kernel
theorem dX12_gone_12 : decode cX12_gone 12 = .ok (.idiv, 1) := by decide +kernel
theorem dX12_gone_13 : decode cX12_gone 13 = .ok (.iaload, 1) := by decide +kernel
theorem dX12_gone_14 : decode cX12_gone 14 = .ok (.if_icmp .ge 24, 3) := by decide +kernel
theorem dX12_gone_17 : decode cX12_gone 17 = .ok (.aload_n 0, 1) := by decide +kernel
theorem dX12_gone_18 : decode cX12_gone 18 = .ok (.iload_n 1, 1) := by decide +kernel
theorem dX12_gone_19 : decode cX12_gone 19 = .ok (.iload_n 2, 1) := by decide +kernel
theorem dX12_gone_20 : decode cX12_gone 20 = .ok (.iconst 1, 1) := by decide +kernel
theorem dX12_gone_21 : decode cX12_gone 21 = .ok (.iadd, 1) := by decide +kernel
theorem dX12_gone_22 : decode cX12_gone 22 = .ok (.invokevirtual 329, 3) := by decide +kernel
theorem dX12_gone_25 : decode cX12_gone 25 = .ok (.aload_n 0, 1) := by decide +kernel
theorem dX12_gone_26 : decode cX12_gone 26 = .ok (.getfield 313, 3) := by decide +kernel
theorem dX12_gone_29 : decode cX12_gone 29 = .ok (.if_icmp .gt 9, 3) := by decide +kernel
theorem dX12_gone_32 : decode cX12_gone 32 = .ok (.iinc 2 1, 3) := by decide +kernel
theorem dX12_gone_35 : decode cX12_gone 35 = .ok (.goto (-33), 3) := by decide +kernel
theorem dX12_gone_38 : decode cX12_gone 38 = .ok (.iload_n 2, 1) := by decide +kernel
theorem dX12_gone_39 : decode cX12_gone 39 = .ok (.ireturn, 1) := by decide +kernel
theorem dX12_isOf_0 : decode cX12_isOf 0 = .ok (.aload_n 0, 1) := by decide +kernel
theorem dX12_isOf_1 : decode cX12_isOf 1 = .ok (.getfield 129, 3) := by decide +kernel
theorem dX12_isOf_4 : decode cX12_isOf 4 = .ok (.iload_n 1, 1) := by decide +kernel
theorem dX12_isOf_5 : decode cX12_isOf 5 = .ok (.iaload, 1) := by decide +kernel
theorem dX12_isOf_6 : decode cX12_isOf 6 = .ok (.iload_n 2, 1) := by decide +kernel
theorem dX12_isOf_7 : decode cX12_isOf 7 = .ok (.if_icmp .ne 17, 3) := by decide +kernel
theorem dX12_isOf_10 : decode cX12_isOf 10 = .ok (.aload_n 0, 1) := by decide +kernel
theorem dX12_isOf_11 : decode cX12_isOf 11 = .ok (.getfield 132, 3) := by decide +kernel
theorem dX12_isOf_14 : decode cX12_isOf 14 = .ok (.iload_n 1, 1) := by decide +kernel
theorem dX12_isOf_15 : decode cX12_isOf 15 = .ok (.iaload, 1) := by decide +kernel
theorem dX12_isOf_16 : decode cX12_isOf 16 = .ok (.iload_n 3, 1) := by decide +kernel
theorem dX12_isOf_17 : decode cX12_isOf 17 = .ok (.if_icmp .ne 7, 3) := by decide +kernel
theorem dX12_isOf_20 : decode cX12_isOf 20 = .ok (.iconst 1, 1) := by decide +kernel
theorem dX12_isOf_21 : decode cX12_isOf 21 = .ok (.goto 4, 3) := by decide +kernel
theorem dX12_isOf_24 : decode cX12_isOf 24 = .ok (.iconst 0, 1) := by decide +kernel
theorem dX12_isOf_25 : decode cX12_isOf 25 = .ok (.ireturn, 1) := by decide +kernel
theorem dX12_account_0 : decode cX12_account 0 = .ok (.aload_n 0, 1) := by decide +kernel
theorem dX12_account_1 : decode cX12_account 1 = .ok (.iload_n 1, 1) := by decide +kernel
theorem dX12_account_2 : decode cX12_account 2 = .ok (.invokevirtual 297, 3) := by decide +kernel
theorem dX12_account_5 : decode cX12_account 5 = .ok (.ifCond .eq 16, 3) := by decide +kernel
theorem dX12_account_8 : decode cX12_account 8 = .ok (.aload_n 0, 1) := by decide +kernel
theorem dX12_account_9 : decode cX12_account 9 = .ok (.iload_n 2, 1) := by decide +kernel
theorem dX12_account_10 : decode cX12_account 10 = .ok (.invokevirtual 297, 3) := by decide +kernel
theorem dX12_account_13 : decode cX12_account 13 = .ok (.ifCond .eq 8, 3) := by decide +kernel
theorem dX12_account_16 : decode cX12_account 16 = .ok (.iload_n 1, 1) := by decide +kernel
theorem dX12_account_17 : decode cX12_account 17 = .ok (.iload_n 2, 1) := by decide +kernel
theorem dX12_account_18 : decode cX12_account 18 = .ok (.if_icmp .ne 5, 3) := by decide +kernel
theorem dX12_account_21 : decode cX12_account 21 = .ok (.iconst (-1), 1) := by decide +kernel
theorem dX12_account_22 : decode cX12_account 22 = .ok (.ireturn, 1) := by decide +kernel
theorem dX12_account_23 : decode cX12_account 23 = .ok (.iconst 0, 1) := by decide +kernel
theorem dX12_account_24 : decode cX12_account 24 = .ok (.istore 4, 2) := by decide +kernel
theorem dX12_account_26 : decode cX12_account 26 = .ok (.iconst 0, 1) := by decide +kernel
theorem dX12_account_27 : decode cX12_account 27 = .ok (.istore 5, 2) := by decide +kernel
theorem dX12_account_29 : decode cX12_account 29 = .ok (.iconst 0, 1) := by decide +kernel
theorem dX12_account_30 : decode cX12_account 30 = .ok (.istore 6, 2) := by decide +kernel
theorem dX12_account_32 : decode cX12_account 32 = .ok (.iconst (-1), 1) := by decide +kernel
theorem dX12_account_33 : decode cX12_account 33 = .ok (.istore 7, 2) := by decide +kernel
theorem dX12_account_35 : decode cX12_account 35 = .ok (.iconst 0, 1) := by decide +kernel
theorem dX12_account_36 : decode cX12_account 36 = .ok (.istore 8, 2) := by decide +kernel
theorem dX12_account_38 : decode cX12_account 38 = .ok (.iload 8, 2) := by decide +kernel
theorem dX12_account_40 : decode cX12_account 40 = .ok (.aload_n 0, 1) := by decide +kernel
theorem dX12_account_41 : decode cX12_account 41 = .ok (.getfield 531, 3) := by decide +kernel
theorem dX12_account_44 : decode cX12_account 44 = .ok (.if_icmp .ge 84, 3) := by decide +kernel
theorem dX12_account_47 : decode cX12_account 47 = .ok (.aload_n 0, 1) := by decide +kernel
theorem dX12_account_48 : decode cX12_account 48 = .ok (.iload 8, 2) := by decide +kernel
theorem dX12_account_50 : decode cX12_account 50 = .ok (.iload_n 1, 1) := by decide +kernel
theorem dX12_account_51 : decode cX12_account 51 = .ok (.iload_n 2, 1) := by decide +kernel
theorem dX12_account_52 : decode cX12_account 52 = .ok (.invokevirtual 600, 3) := by decide +kernel
theorem dX12_account_55 : decode cX12_account 55 = .ok (.ifCond .ne 6, 3) := by decide +kernel
theorem dX12_account_58 : decode cX12_account 58 = .ok (.goto 64, 3) := by decide +kernel
theorem dX12_account_61 : decode cX12_account 61 = .ok (.iload 4, 2) := by decide +kernel
theorem dX12_account_63 : decode cX12_account 63 = .ok (.aload_n 0, 1) := by decide +kernel
theorem dX12_account_64 : decode cX12_account 64 = .ok (.iload 8, 2) := by decide +kernel
theorem dX12_account_66 : decode cX12_account 66 = .ok (.invokevirtual 566, 3) := by decide +kernel
theorem dX12_account_69 : decode cX12_account 69 = .ok (.iadd, 1) := by decide +kernel
theorem dX12_account_70 : decode cX12_account 70 = .ok (.istore 4, 2) := by decide +kernel
theorem dX12_account_72 : decode cX12_account 72 = .ok (.aload_n 0, 1) := by decide +kernel
theorem dX12_account_73 : decode cX12_account 73 = .ok (.getfield 177, 3) := by decide +kernel
theorem dX12_account_76 : decode cX12_account 76 = .ok (.iload 8, 2) := by decide +kernel
theorem dX12_account_78 : decode cX12_account 78 = .ok (.iaload, 1) := by decide +kernel
theorem dX12_account_79 : decode cX12_account 79 = .ok (.iconst 2, 1) := by decide +kernel
theorem dX12_account_80 : decode cX12_account 80 = .ok (.if_icmp .ne 17, 3) := by decide +kernel
theorem dX12_account_83 : decode cX12_account 83 = .ok (.iload 5, 2) := by decide +kernel
theorem dX12_account_85 : decode cX12_account 85 = .ok (.aload_n 0, 1) := by decide +kernel
theorem dX12_account_86 : decode cX12_account 86 = .ok (.iload 8, 2) := by decide +kernel
theorem dX12_account_88 : decode cX12_account 88 = .ok (.invokevirtual 566, 3) := by decide +kernel
theorem dX12_account_91 : decode cX12_account 91 = .ok (.iadd, 1) := by decide +kernel
theorem dX12_account_92 : decode cX12_account 92 = .ok (.istore 5, 2) := by decide +kernel
theorem dX12_account_94 : decode cX12_account 94 = .ok (.goto 28, 3) := by decide +kernel
theorem dX12_account_97 : decode cX12_account 97 = .ok (.aload_n 0, 1) := by decide +kernel
theorem dX12_account_98 : decode cX12_account 98 = .ok (.iload 8, 2) := by decide +kernel
theorem dX12_account_100 : decode cX12_account 100 = .ok (.invokevirtual 566, 3) := by decide +kernel
theorem dX12_account_103 : decode cX12_account 103 = .ok (.ifCond .le 19, 3) := by decide +kernel
theorem dX12_account_106 : decode cX12_account 106 = .ok (.iload 6, 2) := by decide +kernel
theorem dX12_account_108 : decode cX12_account 108 = .ok (.iload_n 3, 1) := by decide +kernel
theorem dX12_account_109 : decode cX12_account 109 = .ok (.bipush 10, 2) := by decide +kernel
theorem dX12_account_111 : decode cX12_account 111 = .ok (.isub, 1) := by decide +kernel
theorem dX12_account_112 : decode cX12_account 112 = .ok (.if_icmp .ne 7, 3) := by decide +kernel
theorem dX12_account_115 : decode cX12_account 115 = .ok (.iload 8, 2) := by decide +kernel
theorem dX12_account_117 : decode cX12_account 117 = .ok (.istore 7, 2) := by decide +kernel
theorem dX12_account_119 : decode cX12_account 119 = .ok (.iinc 6 1, 3) := by decide +kernel
theorem dX12_account_122 : decode cX12_account 122 = .ok (.iinc 8 1, 3) := by decide +kernel
theorem dX12_account_125 : decode cX12_account 125 = .ok (.goto (-87), 3) := by decide +kernel
theorem dX12_account_128 : decode cX12_account 128 = .ok (.iload_n 3, 1) := by decide +kernel
theorem dX12_account_129 : decode cX12_account 129 = .ok (.ifCond .ne 8, 3) := by decide +kernel
theorem dX12_account_132 : decode cX12_account 132 = .ok (.iload 4, 2) := by decide +kernel
theorem dX12_account_134 : decode cX12_account 134 = .ok (.goto 25, 3) := by decide +kernel
theorem dX12_account_137 : decode cX12_account 137 = .ok (.iload_n 3, 1) := by decide +kernel
theorem dX12_account_138 : decode cX12_account 138 = .ok (.iconst 1, 1) := by decide +kernel
theorem dX12_account_139 : decode cX12_account 139 = .ok (.if_icmp .ne 8, 3) := by decide +kernel
theorem dX12_account_142 : decode cX12_account 142 = .ok (.iload 5, 2) := by decide +kernel
theorem dX12_account_144 : decode cX12_account 144 = .ok (.goto 15, 3) := by decide +kernel
theorem dX12_account_147 : decode cX12_account 147 = .ok (.iload_n 3, 1) := by decide +kernel
theorem dX12_account_148 : decode cX12_account 148 = .ok (.iconst 2, 1) := by decide +kernel
theorem dX12_account_149 : decode cX12_account 149 = .ok (.if_icmp .ne 8, 3) := by decide +kernel
theorem dX12_account_152 : decode cX12_account 152 = .ok (.iload 6, 2) := by decide +kernel
theorem dX12_account_154 : decode cX12_account 154 = .ok (.goto 5, 3) := by decide +kernel
theorem dX12_account_157 : decode cX12_account 157 = .ok (.iload 7, 2) := by decide +kernel
theorem dX12_account_159 : decode cX12_account 159 = .ok (.ireturn, 1) := by decide +kernel
theorem dX12_nobody_0 : decode cX12_nobody 0 = .ok (.aload_n 0, 1) := by decide +kernel
theorem dX12_nobody_1 : decode cX12_nobody 1 = .ok (.iload_n 1, 1) := by decide +kernel
theorem dX12_nobody_2 : decode cX12_nobody 2 = .ok (.invokevirtual 563, 3) := by decide +kernel
theorem dX12_nobody_5 : decode cX12_nobody 5 = .ok (.ifCond .eq 22, 3) := by decide +kernel
theorem dX12_nobody_8 : decode cX12_nobody 8 = .ok (.aload_n 0, 1) := by decide +kernel
theorem dX12_nobody_9 : decode cX12_nobody 9 = .ok (.getfield 174, 3) := by decide +kernel
theorem dX12_nobody_12 : decode cX12_nobody 12 = .ok (.iload_n 1, 1) := by decide +kernel
theorem dX12_nobody_13 : decode cX12_nobody 13 = .ok (.baload, 1) := by decide +kernel
theorem dX12_nobody_14 : decode cX12_nobody 14 = .ok (.ifCond .ne 13, 3) := by decide +kernel
theorem dX12_nobody_17 : decode cX12_nobody 17 = .ok (.aload_n 0, 1) := by decide +kernel
theorem dX12_nobody_18 : decode cX12_nobody 18 = .ok (.getfield 177, 3) := by decide +kernel
theorem dX12_nobody_21 : decode cX12_nobody 21 = .ok (.iload_n 1, 1) := by decide +kernel
theorem dX12_nobody_22 : decode cX12_nobody 22 = .ok (.iaload, 1) := by decide +kernel
theorem dX12_nobody_23 : decode cX12_nobody 23 = .ok (.iconst 1, 1) := by decide +kernel
theorem dX12_nobody_24 : decode cX12_nobody 24 = .ok (.if_icmp .le 5, 3) := by decide +kernel
theorem dX12_nobody_27 : decode cX12_nobody 27 = .ok (.iconst 0, 1) := by decide +kernel
theorem dX12_nobody_28 : decode cX12_nobody 28 = .ok (.ireturn, 1) := by decide +kernel
theorem dX12_nobody_29 : decode cX12_nobody 29 = .ok (.aload_n 0, 1) := by decide +kernel
theorem dX12_nobody_30 : decode cX12_nobody 30 = .ok (.getfield 174, 3) := by decide +kernel
theorem dX12_nobody_33 : decode cX12_nobody 33 = .ok (.iload_n 1, 1) := by decide +kernel
theorem dX12_nobody_34 : decode cX12_nobody 34 = .ok (.iconst 1, 1) := by decide +kernel
theorem dX12_nobody_35 : decode cX12_nobody 35 = .ok (.bastore, 1) := by decide +kernel
theorem dX12_nobody_36 : decode cX12_nobody 36 = .ok (.iconst 1, 1) := by decide +kernel
theorem dX12_nobody_37 : decode cX12_nobody 37 = .ok (.ireturn, 1) := by decide +kernel
theorem dX12_place_0 : decode cX12_place 0 = .ok (.aload_n 0, 1) := by decide +kernel
theorem dX12_place_1 : decode cX12_place 1 = .ok (.iload_n 1, 1) := by decide +kernel
theorem dX12_place_2 : decode cX12_place 2 = .ok (.invokevirtual 563, 3) := by decide +kernel
theorem dX12_place_5 : decode cX12_place 5 = .ok (.ifCond .eq 41, 3) := by decide +kernel
theorem dX12_place_8 : decode cX12_place 8 = .ok (.aload_n 0, 1) := by decide +kernel
theorem dX12_place_9 : decode cX12_place 9 = .ok (.getfield 177, 3) := by decide +kernel
theorem dX12_place_12 : decode cX12_place 12 = .ok (.iload_n 1, 1) := by decide +kernel
theorem dX12_place_13 : decode cX12_place 13 = .ok (.iaload, 1) := by decide +kernel
theorem dX12_place_14 : decode cX12_place 14 = .ok (.iconst 3, 1) := by decide +kernel
theorem dX12_place_15 : decode cX12_place 15 = .ok (.if_icmp .ne 31, 3) := by decide +kernel
theorem dX12_place_18 : decode cX12_place 18 = .ok (.aload_n 0, 1) := by decide +kernel
theorem dX12_place_19 : decode cX12_place 19 = .ok (.iload_n 2, 1) := by decide +kernel
theorem dX12_place_20 : decode cX12_place 20 = .ok (.invokevirtual 297, 3) := by decide +kernel
theorem dX12_place_23 : decode cX12_place 23 = .ok (.ifCond .eq 23, 3) := by decide +kernel
theorem dX12_place_26 : decode cX12_place 26 = .ok (.iload_n 2, 1) := by decide +kernel
theorem dX12_place_27 : decode cX12_place 27 = .ok (.aload_n 0, 1) := by decide +kernel
theorem dX12_place_28 : decode cX12_place 28 = .ok (.getfield 132, 3) := by decide +kernel
theorem dX12_place_31 : decode cX12_place 31 = .ok (.iload_n 1, 1) := by decide +kernel
theorem dX12_place_32 : decode cX12_place 32 = .ok (.iaload, 1) := by decide +kernel
theorem dX12_place_33 : decode cX12_place 33 = .ok (.if_icmp .eq 13, 3) := by decide +kernel
theorem dX12_place_36 : decode cX12_place 36 = .ok (.iload_n 3, 1) := by decide +kernel
theorem dX12_place_37 : decode cX12_place 37 = .ok (.iconst 1, 1) := by decide +kernel
theorem dX12_place_38 : decode cX12_place 38 = .ok (.bipush 99, 2) := by decide +kernel
theorem dX12_place_40 : decode cX12_place 40 = .ok (.invokestatic 286, 3) := by decide +kernel
theorem dX12_place_43 : decode cX12_place 43 = .ok (.ifCond .ne 5, 3) := by decide +kernel
theorem dX12_place_46 : decode cX12_place 46 = .ok (.iconst 0, 1) := by decide +kernel
theorem dX12_place_47 : decode cX12_place 47 = .ok (.ireturn, 1) := by decide +kernel
theorem dX12_place_48 : decode cX12_place 48 = .ok (.iconst 0, 1) := by decide +kernel
theorem dX12_place_49 : decode cX12_place 49 = .ok (.istore 4, 2) := by decide +kernel
theorem dX12_place_51 : decode cX12_place 51 = .ok (.iload 4, 2) := by decide +kernel
theorem dX12_place_53 : decode cX12_place 53 = .ok (.aload_n 0, 1) := by decide +kernel
theorem dX12_place_54 : decode cX12_place 54 = .ok (.getfield 223, 3) := by decide +kernel
theorem dX12_place_57 : decode cX12_place 57 = .ok (.iload_n 1, 1) := by decide +kernel
theorem dX12_place_58 : decode cX12_place 58 = .ok (.iaload, 1) := by decide +kernel
theorem dX12_place_59 : decode cX12_place 59 = .ok (.if_icmp .ge 24, 3) := by decide +kernel
theorem dX12_place_62 : decode cX12_place 62 = .ok (.aload_n 0, 1) := by decide +kernel
theorem dX12_place_63 : decode cX12_place 63 = .ok (.getfield 226, 3) := by decide +kernel
theorem dX12_place_66 : decode cX12_place 66 = .ok (.iconst 4, 1) := by decide +kernel
theorem dX12_place_67 : decode cX12_place 67 = .ok (.iload_n 1, 1) := by decide +kernel
theorem dX12_place_68 : decode cX12_place 68 = .ok (.imul, 1) := by decide +kernel
theorem dX12_place_69 : decode cX12_place 69 = .ok (.iload 4, 2) := by decide +kernel
theorem dX12_place_71 : decode cX12_place 71 = .ok (.iadd, 1) := by decide +kernel
theorem dX12_place_72 : decode cX12_place 72 = .ok (.iaload, 1) := by decide +kernel
theorem dX12_place_73 : decode cX12_place 73 = .ok (.iload_n 2, 1) := by decide +kernel
theorem dX12_place_74 : decode cX12_place 74 = .ok (.if_icmp .eq 9, 3) := by decide +kernel
theorem dX12_place_77 : decode cX12_place 77 = .ok (.iinc 4 1, 3) := by decide +kernel
theorem dX12_place_80 : decode cX12_place 80 = .ok (.goto (-29), 3) := by decide +kernel
theorem dX12_place_83 : decode cX12_place 83 = .ok (.iload 4, 2) := by decide +kernel
theorem dX12_place_85 : decode cX12_place 85 = .ok (.iconst 4, 1) := by decide +kernel
theorem dX12_place_86 : decode cX12_place 86 = .ok (.if_icmp .ne 5, 3) := by decide +kernel
theorem dX12_place_89 : decode cX12_place 89 = .ok (.iconst 0, 1) := by decide +kernel
theorem dX12_place_90 : decode cX12_place 90 = .ok (.ireturn, 1) := by decide +kernel
theorem dX12_place_91 : decode cX12_place 91 = .ok (.aload_n 0, 1) := by decide +kernel
theorem dX12_place_92 : decode cX12_place 92 = .ok (.getfield 226, 3) := by decide +kernel
theorem dX12_place_95 : decode cX12_place 95 = .ok (.iconst 4, 1) := by decide +kernel
theorem dX12_place_96 : decode cX12_place 96 = .ok (.iload_n 1, 1) := by decide +kernel
theorem dX12_place_97 : decode cX12_place 97 = .ok (.imul, 1) := by decide +kernel
theorem dX12_place_98 : decode cX12_place 98 = .ok (.iload 4, 2) := by decide +kernel
theorem dX12_place_100 : decode cX12_place 100 = .ok (.iadd, 1) := by decide +kernel
theorem dX12_place_101 : decode cX12_place 101 = .ok (.iload_n 2, 1) := by decide +kernel
theorem dX12_place_102 : decode cX12_place 102 = .ok (.iastore, 1) := by decide +kernel
theorem dX12_place_103 : decode cX12_place 103 = .ok (.aload_n 0, 1) := by decide +kernel
theorem dX12_place_104 : decode cX12_place 104 = .ok (.getfield 229, 3) := by decide +kernel
theorem dX12_place_107 : decode cX12_place 107 = .ok (.iconst 4, 1) := by decide +kernel
theorem dX12_place_108 : decode cX12_place 108 = .ok (.iload_n 1, 1) := by decide +kernel
theorem dX12_place_109 : decode cX12_place 109 = .ok (.imul, 1) := by decide +kernel
theorem dX12_place_110 : decode cX12_place 110 = .ok (.iload 4, 2) := by decide +kernel
theorem dX12_place_112 : decode cX12_place 112 = .ok (.iadd, 1) := by decide +kernel
theorem dX12_place_113 : decode cX12_place 113 = .ok (.iload_n 3, 1) := by decide +kernel
theorem dX12_place_114 : decode cX12_place 114 = .ok (.iastore, 1) := by decide +kernel
theorem dX12_place_115 : decode cX12_place 115 = .ok (.iload 4, 2) := by decide +kernel
theorem dX12_place_117 : decode cX12_place 117 = .ok (.aload_n 0, 1) := by decide +kernel
theorem dX12_place_118 : decode cX12_place 118 = .ok (.getfield 223, 3) := by decide +kernel
theorem dX12_place_121 : decode cX12_place 121 = .ok (.iload_n 1, 1) := by decide +kernel
theorem dX12_place_122 : decode cX12_place 122 = .ok (.iaload, 1) := by decide +kernel
theorem dX12_place_123 : decode cX12_place 123 = .ok (.if_icmp .ne 13, 3) := by decide +kernel
theorem dX12_place_126 : decode cX12_place 126 = .ok (.aload_n 0, 1) := by decide +kernel
theorem dX12_place_127 : decode cX12_place 127 = .ok (.getfield 223, 3) := by decide +kernel
theorem dX12_place_130 : decode cX12_place 130 = .ok (.iload_n 1, 1) := by decide +kernel
theorem dX12_place_131 : decode cX12_place 131 = .ok (.dup2, 1) := by decide +kernel
theorem dX12_place_132 : decode cX12_place 132 = .ok (.iaload, 1) := by decide +kernel
theorem dX12_place_133 : decode cX12_place 133 = .ok (.iconst 1, 1) := by decide +kernel
theorem dX12_place_134 : decode cX12_place 134 = .ok (.iadd, 1) := by decide +kernel
theorem dX12_place_135 : decode cX12_place 135 = .ok (.iastore, 1) := by decide +kernel
theorem dX12_place_136 : decode cX12_place 136 = .ok (.iconst 1, 1) := by decide +kernel
theorem dX12_place_137 : decode cX12_place 137 = .ok (.ireturn, 1) := by decide +kernel
theorem dX12_ordered_0 : decode cX12_ordered 0 = .ok (.iconst 0, 1) := by decide +kernel
theorem dX12_ordered_1 : decode cX12_ordered 1 = .ok (.istore_n 3, 1) := by decide +kernel
theorem dX12_ordered_2 : decode cX12_ordered 2 = .ok (.iload_n 3, 1) := by decide +kernel
theorem dX12_ordered_3 : decode cX12_ordered 3 = .ok (.aload_n 0, 1) := by decide +kernel
theorem dX12_ordered_4 : decode cX12_ordered 4 = .ok (.getfield 223, 3) := by decide +kernel
theorem dX12_ordered_7 : decode cX12_ordered 7 = .ok (.iload_n 1, 1) := by decide +kernel
theorem dX12_ordered_8 : decode cX12_ordered 8 = .ok (.iaload, 1) := by decide +kernel
theorem dX12_ordered_9 : decode cX12_ordered 9 = .ok (.if_icmp .ge 117, 3) := by decide +kernel
theorem dX12_ordered_12 : decode cX12_ordered 12 = .ok (.iconst 0, 1) := by decide +kernel
theorem dX12_ordered_13 : decode cX12_ordered 13 = .ok (.istore 4, 2) := by decide +kernel
theorem dX12_ordered_15 : decode cX12_ordered 15 = .ok (.iconst 0, 1) := by decide +kernel
theorem dX12_ordered_16 : decode cX12_ordered 16 = .ok (.istore 5, 2) := by decide +kernel
theorem dX12_ordered_18 : decode cX12_ordered 18 = .ok (.iload 5, 2) := by decide +kernel
theorem dX12_ordered_20 : decode cX12_ordered 20 = .ok (.aload_n 0, 1) := by decide +kernel
theorem dX12_ordered_21 : decode cX12_ordered 21 = .ok (.getfield 223, 3) := by decide +kernel
theorem dX12_ordered_24 : decode cX12_ordered 24 = .ok (.iload_n 1, 1) := by decide +kernel
theorem dX12_ordered_25 : decode cX12_ordered 25 = .ok (.iaload, 1) := by decide +kernel
theorem dX12_ordered_26 : decode cX12_ordered 26 = .ok (.if_icmp .ge 82, 3) := by decide +kernel
theorem dX12_ordered_29 : decode cX12_ordered 29 = .ok (.aload_n 0, 1) := by decide +kernel
theorem dX12_ordered_30 : decode cX12_ordered 30 = .ok (.getfield 229, 3) := by decide +kernel
theorem dX12_ordered_33 : decode cX12_ordered 33 = .ok (.iconst 4, 1) := by decide +kernel
theorem dX12_ordered_34 : decode cX12_ordered 34 = .ok (.iload_n 1, 1) := by decide +kernel
theorem dX12_ordered_35 : decode cX12_ordered 35 = .ok (.imul, 1) := by decide +kernel
theorem dX12_ordered_36 : decode cX12_ordered 36 = .ok (.iload 5, 2) := by decide +kernel
theorem dX12_ordered_38 : decode cX12_ordered 38 = .ok (.iadd, 1) := by decide +kernel
theorem dX12_ordered_39 : decode cX12_ordered 39 = .ok (.iaload, 1) := by decide +kernel
theorem dX12_ordered_40 : decode cX12_ordered 40 = .ok (.istore 6, 2) := by decide +kernel
theorem dX12_ordered_42 : decode cX12_ordered 42 = .ok (.aload_n 0, 1) := by decide +kernel
theorem dX12_ordered_43 : decode cX12_ordered 43 = .ok (.getfield 229, 3) := by decide +kernel
theorem dX12_ordered_46 : decode cX12_ordered 46 = .ok (.iconst 4, 1) := by decide +kernel
theorem dX12_ordered_47 : decode cX12_ordered 47 = .ok (.iload_n 1, 1) := by decide +kernel
theorem dX12_ordered_48 : decode cX12_ordered 48 = .ok (.imul, 1) := by decide +kernel
theorem dX12_ordered_49 : decode cX12_ordered 49 = .ok (.iload_n 3, 1) := by decide +kernel
theorem dX12_ordered_50 : decode cX12_ordered 50 = .ok (.iadd, 1) := by decide +kernel
theorem dX12_ordered_51 : decode cX12_ordered 51 = .ok (.iaload, 1) := by decide +kernel
theorem dX12_ordered_52 : decode cX12_ordered 52 = .ok (.istore 7, 2) := by decide +kernel
theorem dX12_ordered_54 : decode cX12_ordered 54 = .ok (.iload 4, 2) := by decide +kernel
theorem dX12_ordered_56 : decode cX12_ordered 56 = .ok (.iload 6, 2) := by decide +kernel
theorem dX12_ordered_58 : decode cX12_ordered 58 = .ok (.iload 7, 2) := by decide +kernel
theorem dX12_ordered_60 : decode cX12_ordered 60 = .ok (.if_icmp .gt 34, 3) := by decide +kernel
theorem dX12_ordered_63 : decode cX12_ordered 63 = .ok (.iload 6, 2) := by decide +kernel
theorem dX12_ordered_65 : decode cX12_ordered 65 = .ok (.iload 7, 2) := by decide +kernel
theorem dX12_ordered_67 : decode cX12_ordered 67 = .ok (.if_icmp .ne 31, 3) := by decide +kernel
theorem dX12_ordered_70 : decode cX12_ordered 70 = .ok (.aload_n 0, 1) := by decide +kernel
theorem dX12_ordered_71 : decode cX12_ordered 71 = .ok (.getfield 226, 3) := by decide +kernel
theorem dX12_ordered_74 : decode cX12_ordered 74 = .ok (.iconst 4, 1) := by decide +kernel
theorem dX12_ordered_75 : decode cX12_ordered 75 = .ok (.iload_n 1, 1) := by decide +kernel
theorem dX12_ordered_76 : decode cX12_ordered 76 = .ok (.imul, 1) := by decide +kernel
theorem dX12_ordered_77 : decode cX12_ordered 77 = .ok (.iload 5, 2) := by decide +kernel
theorem dX12_ordered_79 : decode cX12_ordered 79 = .ok (.iadd, 1) := by decide +kernel
theorem dX12_ordered_80 : decode cX12_ordered 80 = .ok (.iaload, 1) := by decide +kernel
theorem dX12_ordered_81 : decode cX12_ordered 81 = .ok (.aload_n 0, 1) := by decide +kernel
theorem dX12_ordered_82 : decode cX12_ordered 82 = .ok (.getfield 226, 3) := by decide +kernel
theorem dX12_ordered_85 : decode cX12_ordered 85 = .ok (.iconst 4, 1) := by decide +kernel
theorem dX12_ordered_86 : decode cX12_ordered 86 = .ok (.iload_n 1, 1) := by decide +kernel
theorem dX12_ordered_87 : decode cX12_ordered 87 = .ok (.imul, 1) := by decide +kernel
theorem dX12_ordered_88 : decode cX12_ordered 88 = .ok (.iload_n 3, 1) := by decide +kernel
theorem dX12_ordered_89 : decode cX12_ordered 89 = .ok (.iadd, 1) := by decide +kernel
theorem dX12_ordered_90 : decode cX12_ordered 90 = .ok (.iaload, 1) := by decide +kernel
theorem dX12_ordered_91 : decode cX12_ordered 91 = .ok (.if_icmp .ge 7, 3) := by decide +kernel
theorem dX12_ordered_94 : decode cX12_ordered 94 = .ok (.iconst 1, 1) := by decide +kernel
theorem dX12_ordered_95 : decode cX12_ordered 95 = .ok (.goto 4, 3) := by decide +kernel
theorem dX12_ordered_98 : decode cX12_ordered 98 = .ok (.iconst 0, 1) := by decide +kernel
theorem dX12_ordered_99 : decode cX12_ordered 99 = .ok (.iadd, 1) := by decide +kernel
theorem dX12_ordered_100 : decode cX12_ordered 100 = .ok (.istore 4, 2) := by decide +kernel
theorem dX12_ordered_102 : decode cX12_ordered 102 = .ok (.iinc 5 1, 3) := by decide +kernel
theorem dX12_ordered_105 : decode cX12_ordered 105 = .ok (.goto (-87), 3) := by decide +kernel
theorem dX12_ordered_108 : decode cX12_ordered 108 = .ok (.iload 4, 2) := by decide +kernel
theorem dX12_ordered_110 : decode cX12_ordered 110 = .ok (.iload_n 2, 1) := by decide +kernel
theorem dX12_ordered_111 : decode cX12_ordered 111 = .ok (.if_icmp .ne 9, 3) := by decide +kernel
theorem dX12_ordered_114 : decode cX12_ordered 114 = .ok (.iconst 4, 1) := by decide +kernel
theorem dX12_ordered_115 : decode cX12_ordered 115 = .ok (.iload_n 1, 1) := by decide +kernel
theorem dX12_ordered_116 : decode cX12_ordered 116 = .ok (.imul, 1) := by decide +kernel
theorem dX12_ordered_117 : decode cX12_ordered 117 = .ok (.iload_n 3, 1) := by decide +kernel
theorem dX12_ordered_118 : decode cX12_ordered 118 = .ok (.iadd, 1) := by decide +kernel
theorem dX12_ordered_119 : decode cX12_ordered 119 = .ok (.ireturn, 1) := by decide +kernel
theorem dX12_ordered_120 : decode cX12_ordered 120 = .ok (.iinc 3 1, 3) := by decide +kernel
theorem dX12_ordered_123 : decode cX12_ordered 123 = .ok (.goto (-121), 3) := by decide +kernel
theorem dX12_ordered_126 : decode cX12_ordered 126 = .ok (.iconst (-1), 1) := by decide +kernel
theorem dX12_ordered_127 : decode cX12_ordered 127 = .ok (.ireturn, 1) := by decide +kernel
theorem dX12_common_0 : decode cX12_common 0 = .ok (.lload_n 0, 1) := by decide +kernel
theorem dX12_common_1 : decode cX12_common 1 = .ok (.lstore 4, 2) := by decide +kernel
theorem dX12_common_3 : decode cX12_common 3 = .ok (.lload_n 2, 1) := by decide +kernel
theorem dX12_common_4 : decode cX12_common 4 = .ok (.lstore 6, 2) := by decide +kernel
theorem dX12_common_6 : decode cX12_common 6 = .ok (.lload 6, 2) := by decide +kernel
theorem dX12_common_8 : decode cX12_common 8 = .ok (.lconst 0, 1) := by decide +kernel
theorem dX12_common_9 : decode cX12_common 9 = .ok (.lcmp, 1) := by decide +kernel
theorem dX12_common_10 : decode cX12_common 10 = .ok (.ifCond .eq 21, 3) := by decide +kernel
theorem dX12_common_13 : decode cX12_common 13 = .ok (.lload 4, 2) := by decide +kernel
theorem dX12_common_15 : decode cX12_common 15 = .ok (.lload 6, 2) := by decide +kernel
theorem dX12_common_17 : decode cX12_common 17 = .ok (.lrem, 1) := by decide +kernel
theorem dX12_common_18 : decode cX12_common 18 = .ok (.lstore 8, 2) := by decide +kernel
theorem dX12_common_20 : decode cX12_common 20 = .ok (.lload 6, 2) := by decide +kernel
theorem dX12_common_22 : decode cX12_common 22 = .ok (.lstore 4, 2) := by decide +kernel
theorem dX12_common_24 : decode cX12_common 24 = .ok (.lload 8, 2) := by decide +kernel
theorem dX12_common_26 : decode cX12_common 26 = .ok (.lstore 6, 2) := by decide +kernel
theorem dX12_common_28 : decode cX12_common 28 = .ok (.goto (-22), 3) := by decide +kernel
theorem dX12_common_31 : decode cX12_common 31 = .ok (.lload 4, 2) := by decide +kernel
theorem dX12_common_33 : decode cX12_common 33 = .ok (.lreturn, 1) := by decide +kernel
theorem dX12_order_0 : decode cX12_order 0 = .ok (.aload_n 0, 1) := by decide +kernel
theorem dX12_order_1 : decode cX12_order 1 = .ok (.iload_n 1, 1) := by decide +kernel
theorem dX12_order_2 : decode cX12_order 2 = .ok (.invokevirtual 563, 3) := by decide +kernel
theorem dX12_order_5 : decode cX12_order 5 = .ok (.ifCond .ne 7, 3) := by decide +kernel
theorem dX12_order_8 : decode cX12_order 8 = .ok (.ldc2_w 603, 3) := by decide +kernel
theorem dX12_order_11 : decode cX12_order 11 = .ok (.lreturn, 1) := by decide +kernel
theorem dX12_order_12 : decode cX12_order 12 = .ok (.iload_n 2, 1) := by decide +kernel
theorem dX12_order_13 : decode cX12_order 13 = .ok (.ifCond .ne 11, 3) := by decide +kernel
theorem dX12_order_16 : decode cX12_order 16 = .ok (.aload_n 0, 1) := by decide +kernel
theorem dX12_order_17 : decode cX12_order 17 = .ok (.getfield 223, 3) := by decide +kernel
theorem dX12_order_20 : decode cX12_order 20 = .ok (.iload_n 1, 1) := by decide +kernel
theorem dX12_order_21 : decode cX12_order 21 = .ok (.iaload, 1) := by decide +kernel
theorem dX12_order_22 : decode cX12_order 22 = .ok (.i2l, 1) := by decide +kernel
theorem dX12_order_23 : decode cX12_order 23 = .ok (.lreturn, 1) := by decide +kernel
theorem dX12_order_24 : decode cX12_order 24 = .ok (.iload_n 2, 1) := by decide +kernel
theorem dX12_order_25 : decode cX12_order 25 = .ok (.iconst 1, 1) := by decide +kernel
theorem dX12_order_26 : decode cX12_order 26 = .ok (.if_icmp .eq 8, 3) := by decide +kernel
theorem dX12_order_29 : decode cX12_order 29 = .ok (.iload_n 2, 1) := by decide +kernel
theorem dX12_order_30 : decode cX12_order 30 = .ok (.iconst 2, 1) := by decide +kernel
theorem dX12_order_31 : decode cX12_order 31 = .ok (.if_icmp .ne 97, 3) := by decide +kernel
theorem dX12_order_34 : decode cX12_order 34 = .ok (.aload_n 0, 1) := by decide +kernel
theorem dX12_order_35 : decode cX12_order 35 = .ok (.getfield 223, 3) := by decide +kernel
theorem dX12_order_38 : decode cX12_order 38 = .ok (.iload_n 1, 1) := by decide +kernel
theorem dX12_order_39 : decode cX12_order 39 = .ok (.iaload, 1) := by decide +kernel
theorem dX12_order_40 : decode cX12_order 40 = .ok (.ifCond .ne 7, 3) := by decide +kernel
theorem dX12_order_43 : decode cX12_order 43 = .ok (.ldc2_w 603, 3) := by decide +kernel
theorem dX12_order_46 : decode cX12_order 46 = .ok (.lreturn, 1) := by decide +kernel
theorem dX12_order_47 : decode cX12_order 47 = .ok (.lconst 1, 1) := by decide +kernel
theorem dX12_order_48 : decode cX12_order 48 = .ok (.lstore_n 3, 1) := by decide +kernel
theorem dX12_order_49 : decode cX12_order 49 = .ok (.lconst 1, 1) := by decide +kernel
theorem dX12_order_50 : decode cX12_order 50 = .ok (.lstore 5, 2) := by decide +kernel
theorem dX12_order_52 : decode cX12_order 52 = .ok (.iconst 0, 1) := by decide +kernel
theorem dX12_order_53 : decode cX12_order 53 = .ok (.istore 7, 2) := by decide +kernel
theorem dX12_order_55 : decode cX12_order 55 = .ok (.iload 7, 2) := by decide +kernel
theorem dX12_order_57 : decode cX12_order 57 = .ok (.aload_n 0, 1) := by decide +kernel
theorem dX12_order_58 : decode cX12_order 58 = .ok (.getfield 223, 3) := by decide +kernel
theorem dX12_order_61 : decode cX12_order 61 = .ok (.iload_n 1, 1) := by decide +kernel
theorem dX12_order_62 : decode cX12_order 62 = .ok (.iaload, 1) := by decide +kernel
theorem dX12_order_63 : decode cX12_order 63 = .ok (.if_icmp .ge 35, 3) := by decide +kernel
theorem dX12_order_66 : decode cX12_order 66 = .ok (.lload_n 3, 1) := by decide +kernel
theorem dX12_order_67 : decode cX12_order 67 = .ok (.ldc2_w 605, 3) := by decide +kernel
theorem dX12_order_70 : decode cX12_order 70 = .ok (.lmul, 1) := by decide +kernel
theorem dX12_order_71 : decode cX12_order 71 = .ok (.lstore_n 3, 1) := by decide +kernel
theorem dX12_order_72 : decode cX12_order 72 = .ok (.lload 5, 2) := by decide +kernel
theorem dX12_order_74 : decode cX12_order 74 = .ok (.bipush 100, 2) := by decide +kernel
theorem dX12_order_76 : decode cX12_order 76 = .ok (.aload_n 0, 1) := by decide +kernel
theorem dX12_order_77 : decode cX12_order 77 = .ok (.getfield 229, 3) := by decide +kernel
theorem dX12_order_80 : decode cX12_order 80 = .ok (.iconst 4, 1) := by decide +kernel
theorem dX12_order_81 : decode cX12_order 81 = .ok (.iload_n 1, 1) := by decide +kernel
theorem dX12_order_82 : decode cX12_order 82 = .ok (.imul, 1) := by decide +kernel
theorem dX12_order_83 : decode cX12_order 83 = .ok (.iload 7, 2) := by decide +kernel
theorem dX12_order_85 : decode cX12_order 85 = .ok (.iadd, 1) := by decide +kernel
theorem dX12_order_86 : decode cX12_order 86 = .ok (.iaload, 1) := by decide +kernel
theorem dX12_order_87 : decode cX12_order 87 = .ok (.isub, 1) := by decide +kernel
theorem dX12_order_88 : decode cX12_order 88 = .ok (.i2l, 1) := by decide +kernel
theorem dX12_order_89 : decode cX12_order 89 = .ok (.lmul, 1) := by decide +kernel
theorem dX12_order_90 : decode cX12_order 90 = .ok (.lstore 5, 2) := by decide +kernel
theorem dX12_order_92 : decode cX12_order 92 = .ok (.iinc 7 1, 3) := by decide +kernel
theorem dX12_order_95 : decode cX12_order 95 = .ok (.goto (-40), 3) := by decide +kernel
theorem dX12_order_98 : decode cX12_order 98 = .ok (.lload_n 3, 1) := by decide +kernel
theorem dX12_order_99 : decode cX12_order 99 = .ok (.lload 5, 2) := by decide +kernel
theorem dX12_order_101 : decode cX12_order 101 = .ok (.lsub, 1) := by decide +kernel
theorem dX12_order_102 : decode cX12_order 102 = .ok (.lload_n 3, 1) := by decide +kernel
theorem dX12_order_103 : decode cX12_order 103 = .ok (.invokestatic 607, 3) := by decide +kernel
theorem dX12_order_106 : decode cX12_order 106 = .ok (.lstore 7, 2) := by decide +kernel
theorem dX12_order_108 : decode cX12_order 108 = .ok (.iload_n 2, 1) := by decide +kernel
theorem dX12_order_109 : decode cX12_order 109 = .ok (.iconst 1, 1) := by decide +kernel
theorem dX12_order_110 : decode cX12_order 110 = .ok (.if_icmp .ne 13, 3) := by decide +kernel
theorem dX12_order_113 : decode cX12_order 113 = .ok (.lload_n 3, 1) := by decide +kernel
theorem dX12_order_114 : decode cX12_order 114 = .ok (.lload 5, 2) := by decide +kernel
theorem dX12_order_116 : decode cX12_order 116 = .ok (.lsub, 1) := by decide +kernel
theorem dX12_order_117 : decode cX12_order 117 = .ok (.lload 7, 2) := by decide +kernel
theorem dX12_order_119 : decode cX12_order 119 = .ok (.ldiv, 1) := by decide +kernel
theorem dX12_order_120 : decode cX12_order 120 = .ok (.goto 7, 3) := by decide +kernel
theorem dX12_order_123 : decode cX12_order 123 = .ok (.lload_n 3, 1) := by decide +kernel
theorem dX12_order_124 : decode cX12_order 124 = .ok (.lload 7, 2) := by decide +kernel
theorem dX12_order_126 : decode cX12_order 126 = .ok (.ldiv, 1) := by decide +kernel
theorem dX12_order_127 : decode cX12_order 127 = .ok (.lreturn, 1) := by decide +kernel
theorem dX12_order_128 : decode cX12_order 128 = .ok (.iload_n 2, 1) := by decide +kernel
theorem dX12_order_129 : decode cX12_order 129 = .ok (.bipush 10, 2) := by decide +kernel
theorem dX12_order_131 : decode cX12_order 131 = .ok (.bipush 9, 2) := by decide +kernel
theorem dX12_order_133 : decode cX12_order 133 = .ok (.aload_n 0, 1) := by decide +kernel
theorem dX12_order_134 : decode cX12_order 134 = .ok (.getfield 223, 3) := by decide +kernel
theorem dX12_order_137 : decode cX12_order 137 = .ok (.iload_n 1, 1) := by decide +kernel
theorem dX12_order_138 : decode cX12_order 138 = .ok (.iaload, 1) := by decide +kernel
theorem dX12_order_139 : decode cX12_order 139 = .ok (.iadd, 1) := by decide +kernel
theorem dX12_order_140 : decode cX12_order 140 = .ok (.invokestatic 286, 3) := by decide +kernel
theorem dX12_order_143 : decode cX12_order 143 = .ok (.ifCond .eq 19, 3) := by decide +kernel
theorem dX12_order_146 : decode cX12_order 146 = .ok (.aload_n 0, 1) := by decide +kernel
theorem dX12_order_147 : decode cX12_order 147 = .ok (.getfield 226, 3) := by decide +kernel
theorem dX12_order_150 : decode cX12_order 150 = .ok (.aload_n 0, 1) := by decide +kernel
theorem dX12_order_151 : decode cX12_order 151 = .ok (.iload_n 1, 1) := by decide +kernel
theorem dX12_order_152 : decode cX12_order 152 = .ok (.iload_n 2, 1) := by decide +kernel
theorem dX12_order_153 : decode cX12_order 153 = .ok (.bipush 10, 2) := by decide +kernel
theorem dX12_order_155 : decode cX12_order 155 = .ok (.isub, 1) := by decide +kernel
theorem dX12_order_156 : decode cX12_order 156 = .ok (.invokevirtual 611, 3) := by decide +kernel
theorem dX12_order_159 : decode cX12_order 159 = .ok (.iaload, 1) := by decide +kernel
theorem dX12_order_160 : decode cX12_order 160 = .ok (.i2l, 1) := by decide +kernel
theorem dX12_order_161 : decode cX12_order 161 = .ok (.lreturn, 1) := by decide +kernel
theorem dX12_order_162 : decode cX12_order 162 = .ok (.iload_n 2, 1) := by decide +kernel
theorem dX12_order_163 : decode cX12_order 163 = .ok (.bipush 20, 2) := by decide +kernel
theorem dX12_order_165 : decode cX12_order 165 = .ok (.bipush 19, 2) := by decide +kernel
theorem dX12_order_167 : decode cX12_order 167 = .ok (.aload_n 0, 1) := by decide +kernel
theorem dX12_order_168 : decode cX12_order 168 = .ok (.getfield 223, 3) := by decide +kernel
theorem dX12_order_171 : decode cX12_order 171 = .ok (.iload_n 1, 1) := by decide +kernel
theorem dX12_order_172 : decode cX12_order 172 = .ok (.iaload, 1) := by decide +kernel
theorem dX12_order_173 : decode cX12_order 173 = .ok (.iadd, 1) := by decide +kernel
theorem dX12_order_174 : decode cX12_order 174 = .ok (.invokestatic 286, 3) := by decide +kernel
theorem dX12_order_177 : decode cX12_order 177 = .ok (.ifCond .eq 21, 3) := by decide +kernel
theorem dX12_order_180 : decode cX12_order 180 = .ok (.aload_n 0, 1) := by decide +kernel
theorem dX12_order_181 : decode cX12_order 181 = .ok (.getfield 229, 3) := by decide +kernel
theorem dX12_order_184 : decode cX12_order 184 = .ok (.aload_n 0, 1) := by decide +kernel
theorem dX12_order_185 : decode cX12_order 185 = .ok (.iload_n 1, 1) := by decide +kernel
theorem dX12_order_186 : decode cX12_order 186 = .ok (.iload_n 2, 1) := by decide +kernel
theorem dX12_order_187 : decode cX12_order 187 = .ok (.bipush 20, 2) := by decide +kernel
theorem dX12_order_189 : decode cX12_order 189 = .ok (.isub, 1) := by decide +kernel
theorem dX12_order_190 : decode cX12_order 190 = .ok (.invokevirtual 611, 3) := by decide +kernel
theorem dX12_order_193 : decode cX12_order 193 = .ok (.iaload, 1) := by decide +kernel
theorem dX12_order_194 : decode cX12_order 194 = .ok (.i2l, 1) := by decide +kernel
theorem dX12_order_195 : decode cX12_order 195 = .ok (.goto 6, 3) := by decide +kernel
theorem dX12_order_198 : decode cX12_order 198 = .ok (.ldc2_w 603, 3) := by decide +kernel
theorem dX12_order_201 : decode cX12_order 201 = .ok (.lreturn, 1) := by decide +kernel
theorem dX12_found_0 : decode cX12_found 0 = .ok (.aload_n 0, 1) := by decide +kernel
theorem dX12_found_1 : decode cX12_found 1 = .ok (.iload_n 1, 1) := by decide +kernel
theorem dX12_found_2 : decode cX12_found 2 = .ok (.invokevirtual 563, 3) := by decide +kernel
theorem dX12_found_5 : decode cX12_found 5 = .ok (.ifCond .eq 13, 3) := by decide +kernel
theorem dX12_found_8 : decode cX12_found 8 = .ok (.aload_n 0, 1) := by decide +kernel
theorem dX12_found_9 : decode cX12_found 9 = .ok (.getfield 177, 3) := by decide +kernel
theorem dX12_found_12 : decode cX12_found 12 = .ok (.iload_n 1, 1) := by decide +kernel
theorem dX12_found_13 : decode cX12_found 13 = .ok (.iaload, 1) := by decide +kernel
theorem dX12_found_14 : decode cX12_found 14 = .ok (.iconst 3, 1) := by decide +kernel
theorem dX12_found_15 : decode cX12_found 15 = .ok (.if_icmp .eq 5, 3) := by decide +kernel
theorem dX12_found_18 : decode cX12_found 18 = .ok (.iconst 0, 1) := by decide +kernel
theorem dX12_found_19 : decode cX12_found 19 = .ok (.ireturn, 1) := by decide +kernel
theorem dX12_found_20 : decode cX12_found 20 = .ok (.iconst 0, 1) := by decide +kernel
theorem dX12_found_21 : decode cX12_found 21 = .ok (.istore_n 3, 1) := by decide +kernel
theorem dX12_found_22 : decode cX12_found 22 = .ok (.iload_n 3, 1) := by decide +kernel
theorem dX12_found_23 : decode cX12_found 23 = .ok (.aload_n 0, 1) := by decide +kernel
theorem dX12_found_24 : decode cX12_found 24 = .ok (.getfield 223, 3) := by decide +kernel
theorem dX12_found_27 : decode cX12_found 27 = .ok (.iload_n 1, 1) := by decide +kernel
theorem dX12_found_28 : decode cX12_found 28 = .ok (.iaload, 1) := by decide +kernel
theorem dX12_found_29 : decode cX12_found 29 = .ok (.if_icmp .ge 39, 3) := by decide +kernel
theorem dX12_found_32 : decode cX12_found 32 = .ok (.aload_n 0, 1) := by decide +kernel
theorem dX12_found_33 : decode cX12_found 33 = .ok (.getfield 226, 3) := by decide +kernel
theorem dX12_found_36 : decode cX12_found 36 = .ok (.iconst 4, 1) := by decide +kernel
theorem dX12_found_37 : decode cX12_found 37 = .ok (.iload_n 1, 1) := by decide +kernel
theorem dX12_found_38 : decode cX12_found 38 = .ok (.imul, 1) := by decide +kernel
theorem dX12_found_39 : decode cX12_found 39 = .ok (.iload_n 3, 1) := by decide +kernel
theorem dX12_found_40 : decode cX12_found 40 = .ok (.iadd, 1) := by decide +kernel
theorem dX12_found_41 : decode cX12_found 41 = .ok (.iaload, 1) := by decide +kernel
theorem dX12_found_42 : decode cX12_found 42 = .ok (.iload_n 2, 1) := by decide +kernel
theorem dX12_found_43 : decode cX12_found 43 = .ok (.if_icmp .eq 6, 3) := by decide +kernel
theorem dX12_found_46 : decode cX12_found 46 = .ok (.goto 16, 3) := by decide +kernel
theorem dX12_found_49 : decode cX12_found 49 = .ok (.aload_n 0, 1) := by decide +kernel
theorem dX12_found_50 : decode cX12_found 50 = .ok (.iload_n 1, 1) := by decide +kernel
theorem dX12_found_51 : decode cX12_found 51 = .ok (.aload_n 0, 1) := by decide +kernel
theorem dX12_found_52 : decode cX12_found 52 = .ok (.getfield 313, 3) := by decide +kernel
theorem dX12_found_55 : decode cX12_found 55 = .ok (.iconst 5, 1) := by decide +kernel
theorem dX12_found_56 : decode cX12_found 56 = .ok (.iload_n 2, 1) := by decide +kernel
theorem dX12_found_57 : decode cX12_found 57 = .ok (.invokevirtual 556, 3) := by decide +kernel
theorem dX12_found_60 : decode cX12_found 60 = .ok (.iconst 1, 1) := by decide +kernel
theorem dX12_found_61 : decode cX12_found 61 = .ok (.ireturn, 1) := by decide +kernel
theorem dX12_found_62 : decode cX12_found 62 = .ok (.iinc 3 1, 3) := by decide +kernel
theorem dX12_found_65 : decode cX12_found 65 = .ok (.goto (-43), 3) := by decide +kernel
theorem dX12_found_68 : decode cX12_found 68 = .ok (.iconst 0, 1) := by decide +kernel
theorem dX12_found_69 : decode cX12_found 69 = .ok (.ireturn, 1) := by decide +kernel
theorem dX12_rob_0 : decode cX12_rob 0 = .ok (.aload_n 0, 1) := by decide +kernel
theorem dX12_rob_1 : decode cX12_rob 1 = .ok (.iload_n 1, 1) := by decide +kernel
theorem dX12_rob_2 : decode cX12_rob 2 = .ok (.invokevirtual 310, 3) := by decide +kernel
theorem dX12_rob_5 : decode cX12_rob 5 = .ok (.ifCond .eq 19, 3) := by decide +kernel
theorem dX12_rob_8 : decode cX12_rob 8 = .ok (.iload_n 2, 1) := by decide +kernel
theorem dX12_rob_9 : decode cX12_rob 9 = .ok (.invokestatic 316, 3) := by decide +kernel
theorem dX12_rob_12 : decode cX12_rob 12 = .ok (.ifCond .eq 12, 3) := by decide +kernel
theorem dX12_rob_15 : decode cX12_rob 15 = .ok (.aload_n 0, 1) := by decide +kernel
theorem dX12_rob_16 : decode cX12_rob 16 = .ok (.getfield 614, 3) := by decide +kernel
theorem dX12_rob_19 : decode cX12_rob 19 = .ok (.bipush 20, 2) := by decide +kernel
theorem dX12_rob_21 : decode cX12_rob 21 = .ok (.if_icmp .ne 5, 3) := by decide +kernel
theorem dX12_rob_24 : decode cX12_rob 24 = .ok (.iconst (-1), 1) := by decide +kernel
theorem dX12_rob_25 : decode cX12_rob 25 = .ok (.ireturn, 1) := by decide +kernel
theorem dX12_rob_26 : decode cX12_rob 26 = .ok (.iload_n 1, 1) := by decide +kernel
theorem dX12_rob_27 : decode cX12_rob 27 = .ok (.iload_n 2, 1) := by decide +kernel
theorem dX12_rob_28 : decode cX12_rob 28 = .ok (.invokestatic 322, 3) := by decide +kernel
theorem dX12_rob_31 : decode cX12_rob 31 = .ok (.istore_n 3, 1) := by decide +kernel
theorem dX12_rob_32 : decode cX12_rob 32 = .ok (.aload_n 0, 1) := by decide +kernel
theorem dX12_rob_33 : decode cX12_rob 33 = .ok (.iload_n 3, 1) := by decide +kernel
theorem dX12_rob_34 : decode cX12_rob 34 = .ok (.invokevirtual 597, 3) := by decide +kernel
theorem dX12_rob_37 : decode cX12_rob 37 = .ok (.istore 4, 2) := by decide +kernel
theorem dX12_rob_39 : decode cX12_rob 39 = .ok (.iload 4, 2) := by decide +kernel
theorem dX12_rob_41 : decode cX12_rob 41 = .ok (.iconst (-1), 1) := by decide +kernel
theorem dX12_rob_42 : decode cX12_rob 42 = .ok (.if_icmp .eq 19, 3) := by decide +kernel
theorem dX12_rob_45 : decode cX12_rob 45 = .ok (.aload_n 0, 1) := by decide +kernel
theorem dX12_rob_46 : decode cX12_rob 46 = .ok (.iload_n 3, 1) := by decide +kernel
theorem dX12_rob_47 : decode cX12_rob 47 = .ok (.iload 4, 2) := by decide +kernel
theorem dX12_rob_49 : decode cX12_rob 49 = .ok (.iconst 1, 1) := by decide +kernel
theorem dX12_rob_50 : decode cX12_rob 50 = .ok (.iadd, 1) := by decide +kernel
theorem dX12_rob_51 : decode cX12_rob 51 = .ok (.invokevirtual 326, 3) := by decide +kernel
theorem dX12_rob_54 : decode cX12_rob 54 = .ok (.aload_n 0, 1) := by decide +kernel
theorem dX12_rob_55 : decode cX12_rob 55 = .ok (.getfield 313, 3) := by decide +kernel
theorem dX12_rob_58 : decode cX12_rob 58 = .ok (.if_icmp .gt 5, 3) := by decide +kernel
theorem dX12_rob_61 : decode cX12_rob 61 = .ok (.iconst (-1), 1) := by decide +kernel
theorem dX12_rob_62 : decode cX12_rob 62 = .ok (.ireturn, 1) := by decide +kernel
theorem dX12_rob_63 : decode cX12_rob 63 = .ok (.aload_n 0, 1) := by decide +kernel
theorem dX12_rob_64 : decode cX12_rob 64 = .ok (.getfield 614, 3) := by decide +kernel
theorem dX12_rob_67 : decode cX12_rob 67 = .ok (.istore 5, 2) := by decide +kernel
theorem dX12_rob_69 : decode cX12_rob 69 = .ok (.aload_n 0, 1) := by decide +kernel
theorem dX12_rob_70 : decode cX12_rob 70 = .ok (.dup, 1) := by decide +kernel
theorem dX12_rob_71 : decode cX12_rob 71 = .ok (.getfield 614, 3) := by decide +kernel
theorem dX12_rob_74 : decode cX12_rob 74 = .ok (.iconst 1, 1) := by decide +kernel
theorem dX12_rob_75 : decode cX12_rob 75 = .ok (.iadd, 1) := by decide +kernel
theorem dX12_rob_76 : decode cX12_rob 76 = .ok (.putfield 614, 3) := by decide +kernel
theorem dX12_rob_79 : decode cX12_rob 79 = .ok (.aload_n 0, 1) := by decide +kernel
theorem dX12_rob_80 : decode cX12_rob 80 = .ok (.getfield 232, 3) := by decide +kernel
theorem dX12_rob_83 : decode cX12_rob 83 = .ok (.iload 5, 2) := by decide +kernel
theorem dX12_rob_85 : decode cX12_rob 85 = .ok (.iload_n 3, 1) := by decide +kernel
theorem dX12_rob_86 : decode cX12_rob 86 = .ok (.invokestatic 572, 3) := by decide +kernel
theorem dX12_rob_89 : decode cX12_rob 89 = .ok (.iastore, 1) := by decide +kernel
theorem dX12_rob_90 : decode cX12_rob 90 = .ok (.aload_n 0, 1) := by decide +kernel
theorem dX12_rob_91 : decode cX12_rob 91 = .ok (.getfield 235, 3) := by decide +kernel
theorem dX12_rob_94 : decode cX12_rob 94 = .ok (.iload 5, 2) := by decide +kernel
theorem dX12_rob_96 : decode cX12_rob 96 = .ok (.aload_n 0, 1) := by decide +kernel
theorem dX12_rob_97 : decode cX12_rob 97 = .ok (.getfield 313, 3) := by decide +kernel
theorem dX12_rob_100 : decode cX12_rob 100 = .ok (.iastore, 1) := by decide +kernel
theorem dX12_rob_101 : decode cX12_rob 101 = .ok (.iconst 0, 1) := by decide +kernel
theorem dX12_rob_102 : decode cX12_rob 102 = .ok (.istore 6, 2) := by decide +kernel
theorem dX12_rob_104 : decode cX12_rob 104 = .ok (.iload 6, 2) := by decide +kernel
theorem dX12_rob_106 : decode cX12_rob 106 = .ok (.aload_n 0, 1) := by decide +kernel
theorem dX12_rob_107 : decode cX12_rob 107 = .ok (.getfield 531, 3) := by decide +kernel
theorem dX12_rob_110 : decode cX12_rob 110 = .ok (.if_icmp .ge 94, 3) := by decide +kernel
theorem dX12_rob_113 : decode cX12_rob 113 = .ok (.aload_n 0, 1) := by decide +kernel
theorem dX12_rob_114 : decode cX12_rob 114 = .ok (.iload 6, 2) := by decide +kernel
theorem dX12_rob_116 : decode cX12_rob 116 = .ok (.iload_n 3, 1) := by decide +kernel
theorem dX12_rob_117 : decode cX12_rob 117 = .ok (.invokevirtual 575, 3) := by decide +kernel
theorem dX12_rob_120 : decode cX12_rob 120 = .ok (.ifCond .eq 78, 3) := by decide +kernel
theorem dX12_rob_123 : decode cX12_rob 123 = .ok (.aload_n 0, 1) := by decide +kernel
theorem dX12_rob_124 : decode cX12_rob 124 = .ok (.getfield 195, 3) := by decide +kernel
theorem dX12_rob_127 : decode cX12_rob 127 = .ok (.iload 6, 2) := by decide +kernel
theorem dX12_rob_129 : decode cX12_rob 129 = .ok (.baload, 1) := by decide +kernel
theorem dX12_rob_130 : decode cX12_rob 130 = .ok (.ifCond .ne 6, 3) := by decide +kernel
theorem dX12_rob_133 : decode cX12_rob 133 = .ok (.goto 65, 3) := by decide +kernel
theorem dX12_rob_136 : decode cX12_rob 136 = .ok (.aload_n 0, 1) := by decide +kernel
theorem dX12_rob_137 : decode cX12_rob 137 = .ok (.getfield 244, 3) := by decide +kernel
theorem dX12_rob_140 : decode cX12_rob 140 = .ok (.bipush 120, 2) := by decide +kernel
theorem dX12_rob_142 : decode cX12_rob 142 = .ok (.iload 5, 2) := by decide +kernel
theorem dX12_rob_144 : decode cX12_rob 144 = .ok (.imul, 1) := by decide +kernel
theorem dX12_rob_145 : decode cX12_rob 145 = .ok (.aload_n 0, 1) := by decide +kernel
theorem dX12_rob_146 : decode cX12_rob 146 = .ok (.getfield 238, 3) := by decide +kernel
theorem dX12_rob_149 : decode cX12_rob 149 = .ok (.iload 5, 2) := by decide +kernel
theorem dX12_rob_151 : decode cX12_rob 151 = .ok (.iaload, 1) := by decide +kernel
theorem dX12_rob_152 : decode cX12_rob 152 = .ok (.iadd, 1) := by decide +kernel
theorem dX12_rob_153 : decode cX12_rob 153 = .ok (.iload 6, 2) := by decide +kernel
theorem dX12_rob_155 : decode cX12_rob 155 = .ok (.iastore, 1) := by decide +kernel
theorem dX12_rob_156 : decode cX12_rob 156 = .ok (.aload_n 0, 1) := by decide +kernel
theorem dX12_rob_157 : decode cX12_rob 157 = .ok (.getfield 238, 3) := by decide +kernel
theorem dX12_rob_160 : decode cX12_rob 160 = .ok (.iload 5, 2) := by decide +kernel
theorem dX12_rob_162 : decode cX12_rob 162 = .ok (.dup2, 1) := by decide +kernel
theorem dX12_rob_163 : decode cX12_rob 163 = .ok (.iaload, 1) := by decide +kernel
theorem dX12_rob_164 : decode cX12_rob 164 = .ok (.iconst 1, 1) := by decide +kernel
theorem dX12_rob_165 : decode cX12_rob 165 = .ok (.iadd, 1) := by decide +kernel
theorem dX12_rob_166 : decode cX12_rob 166 = .ok (.iastore, 1) := by decide +kernel
theorem dX12_rob_167 : decode cX12_rob 167 = .ok (.aload_n 0, 1) := by decide +kernel
theorem dX12_rob_168 : decode cX12_rob 168 = .ok (.getfield 241, 3) := by decide +kernel
theorem dX12_rob_171 : decode cX12_rob 171 = .ok (.iload 5, 2) := by decide +kernel
theorem dX12_rob_173 : decode cX12_rob 173 = .ok (.dup2, 1) := by decide +kernel
theorem dX12_rob_174 : decode cX12_rob 174 = .ok (.iaload, 1) := by decide +kernel
theorem dX12_rob_175 : decode cX12_rob 175 = .ok (.aload_n 0, 1) := by decide +kernel
theorem dX12_rob_176 : decode cX12_rob 176 = .ok (.iload 6, 2) := by decide +kernel
theorem dX12_rob_178 : decode cX12_rob 178 = .ok (.invokevirtual 566, 3) := by decide +kernel
theorem dX12_rob_181 : decode cX12_rob 181 = .ok (.iadd, 1) := by decide +kernel
theorem dX12_rob_182 : decode cX12_rob 182 = .ok (.iastore, 1) := by decide +kernel
theorem dX12_rob_183 : decode cX12_rob 183 = .ok (.aload_n 0, 1) := by decide +kernel
theorem dX12_rob_184 : decode cX12_rob 184 = .ok (.iload 6, 2) := by decide +kernel
theorem dX12_rob_186 : decode cX12_rob 186 = .ok (.aload_n 0, 1) := by decide +kernel
theorem dX12_rob_187 : decode cX12_rob 187 = .ok (.getfield 313, 3) := by decide +kernel
theorem dX12_rob_190 : decode cX12_rob 190 = .ok (.iconst 4, 1) := by decide +kernel
theorem dX12_rob_191 : decode cX12_rob 191 = .ok (.iload_n 3, 1) := by decide +kernel
theorem dX12_rob_192 : decode cX12_rob 192 = .ok (.invokestatic 572, 3) := by decide +kernel
theorem dX12_rob_195 : decode cX12_rob 195 = .ok (.invokevirtual 556, 3) := by decide +kernel
theorem dX12_rob_198 : decode cX12_rob 198 = .ok (.iinc 6 1, 3) := by decide +kernel
theorem dX12_rob_201 : decode cX12_rob 201 = .ok (.goto (-97), 3) := by decide +kernel
theorem dX12_rob_204 : decode cX12_rob 204 = .ok (.iload 5, 2) := by decide +kernel
theorem dX12_rob_206 : decode cX12_rob 206 = .ok (.ireturn, 1) := by decide +kernel
theorem dX12_robbery_0 : decode cX12_robbery 0 = .ok (.iload_n 1, 1) := by decide +kernel
theorem dX12_robbery_1 : decode cX12_robbery 1 = .ok (.iconst 0, 1) := by decide +kernel
theorem dX12_robbery_2 : decode cX12_robbery 2 = .ok (.aload_n 0, 1) := by decide +kernel
theorem dX12_robbery_3 : decode cX12_robbery 3 = .ok (.getfield 614, 3) := by decide +kernel
theorem dX12_robbery_6 : decode cX12_robbery 6 = .ok (.iconst 1, 1) := by decide +kernel
theorem dX12_robbery_7 : decode cX12_robbery 7 = .ok (.isub, 1) := by decide +kernel
theorem dX12_robbery_8 : decode cX12_robbery 8 = .ok (.invokestatic 286, 3) := by decide +kernel
theorem dX12_robbery_11 : decode cX12_robbery 11 = .ok (.ifCond .ne 5, 3) := by decide +kernel
theorem dX12_robbery_14 : decode cX12_robbery 14 = .ok (.iconst (-1), 1) := by decide +kernel
theorem dX12_robbery_15 : decode cX12_robbery 15 = .ok (.ireturn, 1) := by decide +kernel
theorem dX12_robbery_16 : decode cX12_robbery 16 = .ok (.iload_n 2, 1) := by decide +kernel
theorem dX12_robbery_17 : decode cX12_robbery 17 = .ok (.tableswitch 59 0 3 #[31, 38, 45, 52], 31) := by decide +kernel
theorem dX12_robbery_48 : decode cX12_robbery 48 = .ok (.aload_n 0, 1) := by decide +kernel
theorem dX12_robbery_49 : decode cX12_robbery 49 = .ok (.getfield 232, 3) := by decide +kernel
theorem dX12_robbery_52 : decode cX12_robbery 52 = .ok (.iload_n 1, 1) := by decide +kernel
theorem dX12_robbery_53 : decode cX12_robbery 53 = .ok (.iaload, 1) := by decide +kernel
theorem dX12_robbery_54 : decode cX12_robbery 54 = .ok (.ireturn, 1) := by decide +kernel
theorem dX12_robbery_55 : decode cX12_robbery 55 = .ok (.aload_n 0, 1) := by decide +kernel
theorem dX12_robbery_56 : decode cX12_robbery 56 = .ok (.getfield 235, 3) := by decide +kernel
theorem dX12_robbery_59 : decode cX12_robbery 59 = .ok (.iload_n 1, 1) := by decide +kernel
theorem dX12_robbery_60 : decode cX12_robbery 60 = .ok (.iaload, 1) := by decide +kernel
theorem dX12_robbery_61 : decode cX12_robbery 61 = .ok (.ireturn, 1) := by decide +kernel
theorem dX12_robbery_62 : decode cX12_robbery 62 = .ok (.aload_n 0, 1) := by decide +kernel
theorem dX12_robbery_63 : decode cX12_robbery 63 = .ok (.getfield 238, 3) := by decide +kernel
theorem dX12_robbery_66 : decode cX12_robbery 66 = .ok (.iload_n 1, 1) := by decide +kernel
theorem dX12_robbery_67 : decode cX12_robbery 67 = .ok (.iaload, 1) := by decide +kernel
theorem dX12_robbery_68 : decode cX12_robbery 68 = .ok (.ireturn, 1) := by decide +kernel
theorem dX12_robbery_69 : decode cX12_robbery 69 = .ok (.aload_n 0, 1) := by decide +kernel
theorem dX12_robbery_70 : decode cX12_robbery 70 = .ok (.getfield 241, 3) := by decide +kernel
theorem dX12_robbery_73 : decode cX12_robbery 73 = .ok (.iload_n 1, 1) := by decide +kernel
theorem dX12_robbery_74 : decode cX12_robbery 74 = .ok (.iaload, 1) := by decide +kernel
theorem dX12_robbery_75 : decode cX12_robbery 75 = .ok (.ireturn, 1) := by decide +kernel
theorem dX12_robbery_76 : decode cX12_robbery 76 = .ok (.iload_n 2, 1) := by decide +kernel
theorem dX12_robbery_77 : decode cX12_robbery 77 = .ok (.bipush 10, 2) := by decide +kernel
theorem dX12_robbery_79 : decode cX12_robbery 79 = .ok (.bipush 9, 2) := by decide +kernel
theorem dX12_robbery_81 : decode cX12_robbery 81 = .ok (.aload_n 0, 1) := by decide +kernel
theorem dX12_robbery_82 : decode cX12_robbery 82 = .ok (.getfield 238, 3) := by decide +kernel
theorem dX12_robbery_85 : decode cX12_robbery 85 = .ok (.iload_n 1, 1) := by decide +kernel
theorem dX12_robbery_86 : decode cX12_robbery 86 = .ok (.iaload, 1) := by decide +kernel
theorem dX12_robbery_87 : decode cX12_robbery 87 = .ok (.iadd, 1) := by decide +kernel
theorem dX12_robbery_88 : decode cX12_robbery 88 = .ok (.invokestatic 286, 3) := by decide +kernel
theorem dX12_robbery_91 : decode cX12_robbery 91 = .ok (.ifCond .eq 20, 3) := by decide +kernel
theorem dX12_robbery_94 : decode cX12_robbery 94 = .ok (.aload_n 0, 1) := by decide +kernel
theorem dX12_robbery_95 : decode cX12_robbery 95 = .ok (.getfield 244, 3) := by decide +kernel
theorem dX12_robbery_98 : decode cX12_robbery 98 = .ok (.bipush 120, 2) := by decide +kernel
theorem dX12_robbery_100 : decode cX12_robbery 100 = .ok (.iload_n 1, 1) := by decide +kernel
theorem dX12_robbery_101 : decode cX12_robbery 101 = .ok (.imul, 1) := by decide +kernel
theorem dX12_robbery_102 : decode cX12_robbery 102 = .ok (.iload_n 2, 1) := by decide +kernel
theorem dX12_robbery_103 : decode cX12_robbery 103 = .ok (.iadd, 1) := by decide +kernel
theorem dX12_robbery_104 : decode cX12_robbery 104 = .ok (.bipush 10, 2) := by decide +kernel
theorem dX12_robbery_106 : decode cX12_robbery 106 = .ok (.isub, 1) := by decide +kernel
theorem dX12_robbery_107 : decode cX12_robbery 107 = .ok (.iaload, 1) := by decide +kernel
theorem dX12_robbery_108 : decode cX12_robbery 108 = .ok (.goto 4, 3) := by decide +kernel
theorem dX12_robbery_111 : decode cX12_robbery 111 = .ok (.iconst (-1), 1) := by decide +kernel
theorem dX12_robbery_112 : decode cX12_robbery 112 = .ok (.ireturn, 1) := by decide +kernel
theorem dX12_set_0 : decode cX12_set 0 = .ok (.aload_n 0, 1) := by decide +kernel
theorem dX12_set_1 : decode cX12_set 1 = .ok (.iload_n 1, 1) := by decide +kernel
theorem dX12_set_2 : decode cX12_set 2 = .ok (.invokevirtual 310, 3) := by decide +kernel
theorem dX12_set_5 : decode cX12_set 5 = .ok (.ifCond .ne 5, 3) := by decide +kernel
theorem dX12_set_8 : decode cX12_set 8 = .ok (.iconst 0, 1) := by decide +kernel
theorem dX12_set_9 : decode cX12_set 9 = .ok (.ireturn, 1) := by decide +kernel
theorem dX12_set_10 : decode cX12_set 10 = .ok (.aload_n 0, 1) := by decide +kernel
theorem dX12_set_11 : decode cX12_set 11 = .ok (.getfield 253, 3) := by decide +kernel
theorem dX12_set_14 : decode cX12_set 14 = .ok (.iload_n 1, 1) := by decide +kernel
theorem dX12_set_15 : decode cX12_set 15 = .ok (.aload_n 0, 1) := by decide +kernel
theorem dX12_set_16 : decode cX12_set 16 = .ok (.getfield 313, 3) := by decide +kernel
theorem dX12_set_19 : decode cX12_set 19 = .ok (.iastore, 1) := by decide +kernel
theorem dX12_set_20 : decode cX12_set 20 = .ok (.iconst 1, 1) := by decide +kernel
theorem dX12_set_21 : decode cX12_set 21 = .ok (.ireturn, 1) := by decide +kernel
theorem dX12_shows_0 : decode cX12_shows 0 = .ok (.aload_n 0, 1) := by decide +kernel
theorem dX12_shows_1 : decode cX12_shows 1 = .ok (.getfield 253, 3) := by decide +kernel
theorem dX12_shows_4 : decode cX12_shows 4 = .ok (.iload_n 1, 1) := by decide +kernel
theorem dX12_shows_5 : decode cX12_shows 5 = .ok (.iaload, 1) := by decide +kernel
theorem dX12_shows_6 : decode cX12_shows 6 = .ok (.iload_n 3, 1) := by decide +kernel
theorem dX12_shows_7 : decode cX12_shows 7 = .ok (.aload_n 0, 1) := by decide +kernel
theorem dX12_shows_8 : decode cX12_shows 8 = .ok (.getfield 253, 3) := by decide +kernel
theorem dX12_shows_11 : decode cX12_shows 11 = .ok (.iload_n 1, 1) := by decide +kernel
theorem dX12_shows_12 : decode cX12_shows 12 = .ok (.iaload, 1) := by decide +kernel
theorem dX12_shows_13 : decode cX12_shows 13 = .ok (.isub, 1) := by decide +kernel
theorem dX12_shows_14 : decode cX12_shows 14 = .ok (.i2l, 1) := by decide +kernel
theorem dX12_shows_15 : decode cX12_shows 15 = .ok (.ldc2_w 617, 3) := by decide +kernel
theorem dX12_shows_18 : decode cX12_shows 18 = .ok (.iload_n 2, 1) := by decide +kernel
theorem dX12_shows_19 : decode cX12_shows 19 = .ok (.i2l, 1) := by decide +kernel
theorem dX12_shows_20 : decode cX12_shows 20 = .ok (.ladd, 1) := by decide +kernel
theorem dX12_shows_21 : decode cX12_shows 21 = .ok (.lmul, 1) := by decide +kernel
theorem dX12_shows_22 : decode cX12_shows 22 = .ok (.ldc2_w 617, 3) := by decide +kernel
theorem dX12_shows_25 : decode cX12_shows 25 = .ok (.ldiv, 1) := by decide +kernel
theorem dX12_shows_26 : decode cX12_shows 26 = .ok (.l2i, 1) := by decide +kernel
theorem dX12_shows_27 : decode cX12_shows 27 = .ok (.iadd, 1) := by decide +kernel
theorem dX12_shows_28 : decode cX12_shows 28 = .ok (.ireturn, 1) := by decide +kernel
theorem dX12_seen_0 : decode cX12_seen 0 = .ok (.aload_n 0, 1) := by decide +kernel
theorem dX12_seen_1 : decode cX12_seen 1 = .ok (.iload_n 1, 1) := by decide +kernel
theorem dX12_seen_2 : decode cX12_seen 2 = .ok (.invokevirtual 310, 3) := by decide +kernel
theorem dX12_seen_5 : decode cX12_seen 5 = .ok (.ifCond .eq 10, 3) := by decide +kernel
theorem dX12_seen_8 : decode cX12_seen 8 = .ok (.iload_n 2, 1) := by decide +kernel
theorem dX12_seen_9 : decode cX12_seen 9 = .ok (.invokestatic 619, 3) := by decide +kernel
theorem dX12_seen_12 : decode cX12_seen 12 = .ok (.ifCond .ne 5, 3) := by decide +kernel
theorem dX12_seen_15 : decode cX12_seen 15 = .ok (.iconst 0, 1) := by decide +kernel
theorem dX12_seen_16 : decode cX12_seen 16 = .ok (.ireturn, 1) := by decide +kernel
theorem dX12_seen_17 : decode cX12_seen 17 = .ok (.aload_n 0, 1) := by decide +kernel
theorem dX12_seen_18 : decode cX12_seen 18 = .ok (.getfield 250, 3) := by decide +kernel
theorem dX12_seen_21 : decode cX12_seen 21 = .ok (.iload_n 1, 1) := by decide +kernel
theorem dX12_seen_22 : decode cX12_seen 22 = .ok (.iaload, 1) := by decide +kernel
theorem dX12_seen_23 : decode cX12_seen 23 = .ok (.iconst 1, 1) := by decide +kernel
theorem dX12_seen_24 : decode cX12_seen 24 = .ok (.iadd, 1) := by decide +kernel
theorem dX12_seen_25 : decode cX12_seen 25 = .ok (.istore_n 3, 1) := by decide +kernel
theorem dX12_seen_26 : decode cX12_seen 26 = .ok (.aload_n 0, 1) := by decide +kernel
theorem dX12_seen_27 : decode cX12_seen 27 = .ok (.getfield 247, 3) := by decide +kernel
theorem dX12_seen_30 : decode cX12_seen 30 = .ok (.iload_n 1, 1) := by decide +kernel
theorem dX12_seen_31 : decode cX12_seen 31 = .ok (.iaload, 1) := by decide +kernel
theorem dX12_seen_32 : decode cX12_seen 32 = .ok (.iconst 1, 1) := by decide +kernel
theorem dX12_seen_33 : decode cX12_seen 33 = .ok (.isub, 1) := by decide +kernel
theorem dX12_seen_34 : decode cX12_seen 34 = .ok (.istore 4, 2) := by decide +kernel
theorem dX12_seen_36 : decode cX12_seen 36 = .ok (.aload_n 0, 1) := by decide +kernel
theorem dX12_seen_37 : decode cX12_seen 37 = .ok (.getfield 247, 3) := by decide +kernel
theorem dX12_seen_40 : decode cX12_seen 40 = .ok (.iload_n 1, 1) := by decide +kernel
theorem dX12_seen_41 : decode cX12_seen 41 = .ok (.iaload, 1) := by decide +kernel
theorem dX12_seen_42 : decode cX12_seen 42 = .ok (.istore 5, 2) := by decide +kernel
theorem dX12_seen_44 : decode cX12_seen 44 = .ok (.iload 5, 2) := by decide +kernel
theorem dX12_seen_46 : decode cX12_seen 46 = .ok (.aload_n 0, 1) := by decide +kernel
theorem dX12_seen_47 : decode cX12_seen 47 = .ok (.getfield 250, 3) := by decide +kernel
theorem dX12_seen_50 : decode cX12_seen 50 = .ok (.iload_n 1, 1) := by decide +kernel
theorem dX12_seen_51 : decode cX12_seen 51 = .ok (.iaload, 1) := by decide +kernel
theorem dX12_seen_52 : decode cX12_seen 52 = .ok (.if_icmp .gt 56, 3) := by decide +kernel
theorem dX12_seen_55 : decode cX12_seen 55 = .ok (.aload_n 0, 1) := by decide +kernel
theorem dX12_seen_56 : decode cX12_seen 56 = .ok (.iload_n 1, 1) := by decide +kernel
theorem dX12_seen_57 : decode cX12_seen 57 = .ok (.iload 5, 2) := by decide +kernel
theorem dX12_seen_59 : decode cX12_seen 59 = .ok (.aload_n 0, 1) := by decide +kernel
theorem dX12_seen_60 : decode cX12_seen 60 = .ok (.getfield 313, 3) := by decide +kernel
theorem dX12_seen_63 : decode cX12_seen 63 = .ok (.invokevirtual 622, 3) := by decide +kernel
theorem dX12_seen_66 : decode cX12_seen 66 = .ok (.iload_n 2, 1) := by decide +kernel
theorem dX12_seen_67 : decode cX12_seen 67 = .ok (.if_icmp .eq 6, 3) := by decide +kernel
theorem dX12_seen_70 : decode cX12_seen 70 = .ok (.goto 32, 3) := by decide +kernel
theorem dX12_seen_73 : decode cX12_seen 73 = .ok (.iload 5, 2) := by decide +kernel
theorem dX12_seen_75 : decode cX12_seen 75 = .ok (.iload_n 3, 1) := by decide +kernel
theorem dX12_seen_76 : decode cX12_seen 76 = .ok (.if_icmp .ge 8, 3) := by decide +kernel
theorem dX12_seen_79 : decode cX12_seen 79 = .ok (.iload 5, 2) := by decide +kernel
theorem dX12_seen_81 : decode cX12_seen 81 = .ok (.goto 4, 3) := by decide +kernel
theorem dX12_seen_84 : decode cX12_seen 84 = .ok (.iload_n 3, 1) := by decide +kernel
theorem dX12_seen_85 : decode cX12_seen 85 = .ok (.istore_n 3, 1) := by decide +kernel
theorem dX12_seen_86 : decode cX12_seen 86 = .ok (.iload 5, 2) := by decide +kernel
theorem dX12_seen_88 : decode cX12_seen 88 = .ok (.iload 4, 2) := by decide +kernel
theorem dX12_seen_90 : decode cX12_seen 90 = .ok (.if_icmp .le 8, 3) := by decide +kernel
theorem dX12_seen_93 : decode cX12_seen 93 = .ok (.iload 5, 2) := by decide +kernel
theorem dX12_seen_95 : decode cX12_seen 95 = .ok (.goto 5, 3) := by decide +kernel
theorem dX12_seen_98 : decode cX12_seen 98 = .ok (.iload 4, 2) := by decide +kernel
theorem dX12_seen_100 : decode cX12_seen 100 = .ok (.istore 4, 2) := by decide +kernel
theorem dX12_seen_102 : decode cX12_seen 102 = .ok (.iinc 5 1, 3) := by decide +kernel
theorem dX12_seen_105 : decode cX12_seen 105 = .ok (.goto (-61), 3) := by decide +kernel
theorem dX12_seen_108 : decode cX12_seen 108 = .ok (.iload_n 3, 1) := by decide +kernel
theorem dX12_seen_109 : decode cX12_seen 109 = .ok (.iload 4, 2) := by decide +kernel
theorem dX12_seen_111 : decode cX12_seen 111 = .ok (.if_icmp .le 5, 3) := by decide +kernel
theorem dX12_seen_114 : decode cX12_seen 114 = .ok (.iconst 0, 1) := by decide +kernel
theorem dX12_seen_115 : decode cX12_seen 115 = .ok (.ireturn, 1) := by decide +kernel
theorem dX12_seen_116 : decode cX12_seen 116 = .ok (.aload_n 0, 1) := by decide +kernel
theorem dX12_seen_117 : decode cX12_seen 117 = .ok (.getfield 247, 3) := by decide +kernel
theorem dX12_seen_120 : decode cX12_seen 120 = .ok (.iload_n 1, 1) := by decide +kernel
theorem dX12_seen_121 : decode cX12_seen 121 = .ok (.iload_n 3, 1) := by decide +kernel
theorem dX12_seen_122 : decode cX12_seen 122 = .ok (.iastore, 1) := by decide +kernel
theorem dX12_seen_123 : decode cX12_seen 123 = .ok (.aload_n 0, 1) := by decide +kernel
theorem dX12_seen_124 : decode cX12_seen 124 = .ok (.getfield 250, 3) := by decide +kernel
theorem dX12_seen_127 : decode cX12_seen 127 = .ok (.iload_n 1, 1) := by decide +kernel
theorem dX12_seen_128 : decode cX12_seen 128 = .ok (.iload 4, 2) := by decide +kernel
theorem dX12_seen_130 : decode cX12_seen 130 = .ok (.iastore, 1) := by decide +kernel
theorem dX12_seen_131 : decode cX12_seen 131 = .ok (.iconst 1, 1) := by decide +kernel
theorem dX12_seen_132 : decode cX12_seen 132 = .ok (.ireturn, 1) := by decide +kernel
theorem dX12_clock_0 : decode cX12_clock 0 = .ok (.aload_n 0, 1) := by decide +kernel
theorem dX12_clock_1 : decode cX12_clock 1 = .ok (.iload_n 1, 1) := by decide +kernel
theorem dX12_clock_2 : decode cX12_clock 2 = .ok (.invokevirtual 310, 3) := by decide +kernel
theorem dX12_clock_5 : decode cX12_clock 5 = .ok (.ifCond .ne 9, 3) := by decide +kernel
theorem dX12_clock_8 : decode cX12_clock 8 = .ok (.sipush (-1000), 3) := by decide +kernel
theorem dX12_clock_11 : decode cX12_clock 11 = .ok (.goto 47, 3) := by decide +kernel
theorem dX12_clock_14 : decode cX12_clock 14 = .ok (.iload_n 2, 1) := by decide +kernel
theorem dX12_clock_15 : decode cX12_clock 15 = .ok (.ifCond .ne 12, 3) := by decide +kernel
theorem dX12_clock_18 : decode cX12_clock 18 = .ok (.aload_n 0, 1) := by decide +kernel
theorem dX12_clock_19 : decode cX12_clock 19 = .ok (.getfield 247, 3) := by decide +kernel
theorem dX12_clock_22 : decode cX12_clock 22 = .ok (.iload_n 1, 1) := by decide +kernel
theorem dX12_clock_23 : decode cX12_clock 23 = .ok (.iaload, 1) := by decide +kernel
theorem dX12_clock_24 : decode cX12_clock 24 = .ok (.goto 34, 3) := by decide +kernel
theorem dX12_clock_27 : decode cX12_clock 27 = .ok (.iload_n 2, 1) := by decide +kernel
theorem dX12_clock_28 : decode cX12_clock 28 = .ok (.iconst 1, 1) := by decide +kernel
theorem dX12_clock_29 : decode cX12_clock 29 = .ok (.if_icmp .ne 12, 3) := by decide +kernel
theorem dX12_clock_32 : decode cX12_clock 32 = .ok (.aload_n 0, 1) := by decide +kernel
theorem dX12_clock_33 : decode cX12_clock 33 = .ok (.getfield 250, 3) := by decide +kernel
theorem dX12_clock_36 : decode cX12_clock 36 = .ok (.iload_n 1, 1) := by decide +kernel
theorem dX12_clock_37 : decode cX12_clock 37 = .ok (.iaload, 1) := by decide +kernel
theorem dX12_clock_38 : decode cX12_clock 38 = .ok (.goto 20, 3) := by decide +kernel
theorem dX12_clock_41 : decode cX12_clock 41 = .ok (.iload_n 2, 1) := by decide +kernel
theorem dX12_clock_42 : decode cX12_clock 42 = .ok (.iconst 2, 1) := by decide +kernel
theorem dX12_clock_43 : decode cX12_clock 43 = .ok (.if_icmp .ne 12, 3) := by decide +kernel
theorem dX12_clock_46 : decode cX12_clock 46 = .ok (.aload_n 0, 1) := by decide +kernel
theorem dX12_clock_47 : decode cX12_clock 47 = .ok (.getfield 253, 3) := by decide +kernel
theorem dX12_clock_50 : decode cX12_clock 50 = .ok (.iload_n 1, 1) := by decide +kernel
theorem dX12_clock_51 : decode cX12_clock 51 = .ok (.iaload, 1) := by decide +kernel
theorem dX12_clock_52 : decode cX12_clock 52 = .ok (.goto 6, 3) := by decide +kernel
theorem dX12_clock_55 : decode cX12_clock 55 = .ok (.sipush (-1000), 3) := by decide +kernel
theorem dX12_clock_58 : decode cX12_clock 58 = .ok (.ireturn, 1) := by decide +kernel
theorem dX12_mayShow_0 : decode cX12_mayShow 0 = .ok (.iconst 0, 1) := by decide +kernel
theorem dX12_mayShow_1 : decode cX12_mayShow 1 = .ok (.istore 4, 2) := by decide +kernel
theorem dX12_mayShow_3 : decode cX12_mayShow 3 = .ok (.aload_n 0, 1) := by decide +kernel
theorem dX12_mayShow_4 : decode cX12_mayShow 4 = .ok (.getfield 247, 3) := by decide +kernel
theorem dX12_mayShow_7 : decode cX12_mayShow 7 = .ok (.iload_n 1, 1) := by decide +kernel
theorem dX12_mayShow_8 : decode cX12_mayShow 8 = .ok (.iaload, 1) := by decide +kernel
theorem dX12_mayShow_9 : decode cX12_mayShow 9 = .ok (.istore 5, 2) := by decide +kernel
theorem dX12_mayShow_11 : decode cX12_mayShow 11 = .ok (.iload 5, 2) := by decide +kernel
theorem dX12_mayShow_13 : decode cX12_mayShow 13 = .ok (.aload_n 0, 1) := by decide +kernel
theorem dX12_mayShow_14 : decode cX12_mayShow 14 = .ok (.getfield 250, 3) := by decide +kernel
theorem dX12_mayShow_17 : decode cX12_mayShow 17 = .ok (.iload_n 1, 1) := by decide +kernel
theorem dX12_mayShow_18 : decode cX12_mayShow 18 = .ok (.iaload, 1) := by decide +kernel
theorem dX12_mayShow_19 : decode cX12_mayShow 19 = .ok (.if_icmp .gt 33, 3) := by decide +kernel
theorem dX12_mayShow_22 : decode cX12_mayShow 22 = .ok (.iload 4, 2) := by decide +kernel
theorem dX12_mayShow_24 : decode cX12_mayShow 24 = .ok (.ifCond .ne 28, 3) := by decide +kernel
theorem dX12_mayShow_27 : decode cX12_mayShow 27 = .ok (.aload_n 0, 1) := by decide +kernel
theorem dX12_mayShow_28 : decode cX12_mayShow 28 = .ok (.iload_n 1, 1) := by decide +kernel
theorem dX12_mayShow_29 : decode cX12_mayShow 29 = .ok (.iload 5, 2) := by decide +kernel
theorem dX12_mayShow_31 : decode cX12_mayShow 31 = .ok (.iload_n 3, 1) := by decide +kernel
theorem dX12_mayShow_32 : decode cX12_mayShow 32 = .ok (.invokevirtual 622, 3) := by decide +kernel
theorem dX12_mayShow_35 : decode cX12_mayShow 35 = .ok (.iload_n 2, 1) := by decide +kernel
theorem dX12_mayShow_36 : decode cX12_mayShow 36 = .ok (.if_icmp .ne 7, 3) := by decide +kernel
theorem dX12_mayShow_39 : decode cX12_mayShow 39 = .ok (.iconst 1, 1) := by decide +kernel
theorem dX12_mayShow_40 : decode cX12_mayShow 40 = .ok (.goto 4, 3) := by decide +kernel
theorem dX12_mayShow_43 : decode cX12_mayShow 43 = .ok (.iconst 0, 1) := by decide +kernel
theorem dX12_mayShow_44 : decode cX12_mayShow 44 = .ok (.istore 4, 2) := by decide +kernel
theorem dX12_mayShow_46 : decode cX12_mayShow 46 = .ok (.iinc 5 1, 3) := by decide +kernel
theorem dX12_mayShow_49 : decode cX12_mayShow 49 = .ok (.goto (-38), 3) := by decide +kernel
theorem dX12_mayShow_52 : decode cX12_mayShow 52 = .ok (.iload 4, 2) := by decide +kernel
theorem dX12_mayShow_54 : decode cX12_mayShow 54 = .ok (.ireturn, 1) := by decide +kernel
theorem dX12_trueMinute_0 : decode cX12_trueMinute 0 = .ok (.aload_n 0, 1) := by decide +kernel
theorem dX12_trueMinute_1 : decode cX12_trueMinute 1 = .ok (.iload_n 1, 1) := by decide +kernel
theorem dX12_trueMinute_2 : decode cX12_trueMinute 2 = .ok (.invokevirtual 310, 3) := by decide +kernel
theorem dX12_trueMinute_5 : decode cX12_trueMinute 5 = .ok (.ifCond .eq 19, 3) := by decide +kernel
theorem dX12_trueMinute_8 : decode cX12_trueMinute 8 = .ok (.iload_n 2, 1) := by decide +kernel
theorem dX12_trueMinute_9 : decode cX12_trueMinute 9 = .ok (.invokestatic 619, 3) := by decide +kernel
theorem dX12_trueMinute_12 : decode cX12_trueMinute 12 = .ok (.ifCond .eq 12, 3) := by decide +kernel
theorem dX12_trueMinute_15 : decode cX12_trueMinute 15 = .ok (.iload_n 3, 1) := by decide +kernel
theorem dX12_trueMinute_16 : decode cX12_trueMinute 16 = .ok (.iconst 0, 1) := by decide +kernel
theorem dX12_trueMinute_17 : decode cX12_trueMinute 17 = .ok (.iconst 1, 1) := by decide +kernel
theorem dX12_trueMinute_18 : decode cX12_trueMinute 18 = .ok (.invokestatic 286, 3) := by decide +kernel
theorem dX12_trueMinute_21 : decode cX12_trueMinute 21 = .ok (.ifCond .ne 5, 3) := by decide +kernel
theorem dX12_trueMinute_24 : decode cX12_trueMinute 24 = .ok (.iconst (-1), 1) := by decide +kernel
theorem dX12_trueMinute_25 : decode cX12_trueMinute 25 = .ok (.ireturn, 1) := by decide +kernel
theorem dX12_trueMinute_26 : decode cX12_trueMinute 26 = .ok (.iconst (-1), 1) := by decide +kernel
theorem dX12_trueMinute_27 : decode cX12_trueMinute 27 = .ok (.istore 4, 2) := by decide +kernel
theorem dX12_trueMinute_29 : decode cX12_trueMinute 29 = .ok (.aload_n 0, 1) := by decide +kernel
theorem dX12_trueMinute_30 : decode cX12_trueMinute 30 = .ok (.getfield 253, 3) := by decide +kernel
theorem dX12_trueMinute_33 : decode cX12_trueMinute 33 = .ok (.iload_n 1, 1) := by decide +kernel
theorem dX12_trueMinute_34 : decode cX12_trueMinute 34 = .ok (.iaload, 1) := by decide +kernel
theorem dX12_trueMinute_35 : decode cX12_trueMinute 35 = .ok (.istore 5, 2) := by decide +kernel
theorem dX12_trueMinute_37 : decode cX12_trueMinute 37 = .ok (.iload 5, 2) := by decide +kernel
theorem dX12_trueMinute_39 : decode cX12_trueMinute 39 = .ok (.sipush 10079, 3) := by decide +kernel
theorem dX12_trueMinute_42 : decode cX12_trueMinute 42 = .ok (.if_icmp .gt 35, 3) := by decide +kernel
theorem dX12_trueMinute_45 : decode cX12_trueMinute 45 = .ok (.iload_n 3, 1) := by decide +kernel
theorem dX12_trueMinute_46 : decode cX12_trueMinute 46 = .ok (.iconst 1, 1) := by decide +kernel
theorem dX12_trueMinute_47 : decode cX12_trueMinute 47 = .ok (.if_icmp .eq 9, 3) := by decide +kernel
theorem dX12_trueMinute_50 : decode cX12_trueMinute 50 = .ok (.iload 4, 2) := by decide +kernel
theorem dX12_trueMinute_52 : decode cX12_trueMinute 52 = .ok (.iconst (-1), 1) := by decide +kernel
theorem dX12_trueMinute_53 : decode cX12_trueMinute 53 = .ok (.if_icmp .ne 24, 3) := by decide +kernel
theorem dX12_trueMinute_56 : decode cX12_trueMinute 56 = .ok (.aload_n 0, 1) := by decide +kernel
theorem dX12_trueMinute_57 : decode cX12_trueMinute 57 = .ok (.iload_n 1, 1) := by decide +kernel
theorem dX12_trueMinute_58 : decode cX12_trueMinute 58 = .ok (.iload_n 2, 1) := by decide +kernel
theorem dX12_trueMinute_59 : decode cX12_trueMinute 59 = .ok (.iload 5, 2) := by decide +kernel
theorem dX12_trueMinute_61 : decode cX12_trueMinute 61 = .ok (.invokevirtual 625, 3) := by decide +kernel
theorem dX12_trueMinute_64 : decode cX12_trueMinute 64 = .ok (.ifCond .eq 7, 3) := by decide +kernel
theorem dX12_trueMinute_67 : decode cX12_trueMinute 67 = .ok (.iload 5, 2) := by decide +kernel
theorem dX12_trueMinute_69 : decode cX12_trueMinute 69 = .ok (.istore 4, 2) := by decide +kernel
theorem dX12_trueMinute_71 : decode cX12_trueMinute 71 = .ok (.iinc 5 1, 3) := by decide +kernel
theorem dX12_trueMinute_74 : decode cX12_trueMinute 74 = .ok (.goto (-37), 3) := by decide +kernel
theorem dX12_trueMinute_77 : decode cX12_trueMinute 77 = .ok (.iload 4, 2) := by decide +kernel
theorem dX12_trueMinute_79 : decode cX12_trueMinute 79 = .ok (.ireturn, 1) := by decide +kernel
theorem dX12_tried_0 : decode cX12_tried 0 = .ok (.iload_n 1, 1) := by decide +kernel
theorem dX12_tried_1 : decode cX12_tried 1 = .ok (.iconst 0, 1) := by decide +kernel
theorem dX12_tried_2 : decode cX12_tried 2 = .ok (.aload_n 0, 1) := by decide +kernel
theorem dX12_tried_3 : decode cX12_tried 3 = .ok (.getfield 522, 3) := by decide +kernel
theorem dX12_tried_6 : decode cX12_tried 6 = .ok (.iconst 1, 1) := by decide +kernel
theorem dX12_tried_7 : decode cX12_tried 7 = .ok (.isub, 1) := by decide +kernel
theorem dX12_tried_8 : decode cX12_tried 8 = .ok (.invokestatic 286, 3) := by decide +kernel
theorem dX12_tried_11 : decode cX12_tried 11 = .ok (.ifCond .ne 7, 3) := by decide +kernel
theorem dX12_tried_14 : decode cX12_tried 14 = .ok (.ldc2_w 603, 3) := by decide +kernel
theorem dX12_tried_17 : decode cX12_tried 17 = .ok (.lreturn, 1) := by decide +kernel
theorem dX12_tried_18 : decode cX12_tried 18 = .ok (.lconst 0, 1) := by decide +kernel
theorem dX12_tried_19 : decode cX12_tried 19 = .ok (.lstore_n 2, 1) := by decide +kernel
theorem dX12_tried_20 : decode cX12_tried 20 = .ok (.iconst 0, 1) := by decide +kernel
theorem dX12_tried_21 : decode cX12_tried 21 = .ok (.istore 4, 2) := by decide +kernel
theorem dX12_tried_23 : decode cX12_tried 23 = .ok (.iload 4, 2) := by decide +kernel
theorem dX12_tried_25 : decode cX12_tried 25 = .ok (.aload_n 0, 1) := by decide +kernel
theorem dX12_tried_26 : decode cX12_tried 26 = .ok (.getfield 531, 3) := by decide +kernel
theorem dX12_tried_29 : decode cX12_tried 29 = .ok (.if_icmp .ge 20, 3) := by decide +kernel
theorem dX12_tried_32 : decode cX12_tried 32 = .ok (.lload_n 2, 1) := by decide +kernel
theorem dX12_tried_33 : decode cX12_tried 33 = .ok (.aload_n 0, 1) := by decide +kernel
theorem dX12_tried_34 : decode cX12_tried 34 = .ok (.iload 4, 2) := by decide +kernel
theorem dX12_tried_36 : decode cX12_tried 36 = .ok (.iload_n 1, 1) := by decide +kernel
theorem dX12_tried_37 : decode cX12_tried 37 = .ok (.invokevirtual 553, 3) := by decide +kernel
theorem dX12_tried_40 : decode cX12_tried 40 = .ok (.i2l, 1) := by decide +kernel
theorem dX12_tried_41 : decode cX12_tried 41 = .ok (.ladd, 1) := by decide +kernel
theorem dX12_tried_42 : decode cX12_tried 42 = .ok (.lstore_n 2, 1) := by decide +kernel
theorem dX12_tried_43 : decode cX12_tried 43 = .ok (.iinc 4 1, 3) := by decide +kernel
theorem dX12_tried_46 : decode cX12_tried 46 = .ok (.goto (-23), 3) := by decide +kernel
theorem dX12_tried_49 : decode cX12_tried 49 = .ok (.lload_n 2, 1) := by decide +kernel
theorem dX12_tried_50 : decode cX12_tried 50 = .ok (.lreturn, 1) := by decide +kernel
theorem dX12_keeps_0 : decode cX12_keeps 0 = .ok (.iconst 0, 1) := by decide +kernel
theorem dX12_keeps_1 : decode cX12_keeps 1 = .ok (.istore_n 1, 1) := by decide +kernel
theorem dX12_keeps_2 : decode cX12_keeps 2 = .ok (.iload_n 1, 1) := by decide +kernel
theorem dX12_keeps_3 : decode cX12_keeps 3 = .ok (.aload_n 0, 1) := by decide +kernel
theorem dX12_keeps_4 : decode cX12_keeps 4 = .ok (.getfield 531, 3) := by decide +kernel
theorem dX12_keeps_7 : decode cX12_keeps 7 = .ok (.if_icmp .ge 105, 3) := by decide +kernel
theorem dX12_keeps_10 : decode cX12_keeps 10 = .ok (.aload_n 0, 1) := by decide +kernel
theorem dX12_keeps_11 : decode cX12_keeps 11 = .ok (.getfield 256, 3) := by decide +kernel
theorem dX12_keeps_14 : decode cX12_keeps 14 = .ok (.iload_n 1, 1) := by decide +kernel
theorem dX12_keeps_15 : decode cX12_keeps 15 = .ok (.aload_n 0, 1) := by decide +kernel
theorem dX12_keeps_16 : decode cX12_keeps 16 = .ok (.getfield 177, 3) := by decide +kernel
theorem dX12_keeps_19 : decode cX12_keeps 19 = .ok (.iload_n 1, 1) := by decide +kernel
theorem dX12_keeps_20 : decode cX12_keeps 20 = .ok (.iaload, 1) := by decide +kernel
theorem dX12_keeps_21 : decode cX12_keeps 21 = .ok (.iastore, 1) := by decide +kernel
theorem dX12_keeps_22 : decode cX12_keeps 22 = .ok (.aload_n 0, 1) := by decide +kernel
theorem dX12_keeps_23 : decode cX12_keeps 23 = .ok (.getfield 259, 3) := by decide +kernel
theorem dX12_keeps_26 : decode cX12_keeps 26 = .ok (.iload_n 1, 1) := by decide +kernel
theorem dX12_keeps_27 : decode cX12_keeps 27 = .ok (.aload_n 0, 1) := by decide +kernel
theorem dX12_keeps_28 : decode cX12_keeps 28 = .ok (.getfield 180, 3) := by decide +kernel
theorem dX12_keeps_31 : decode cX12_keeps 31 = .ok (.iload_n 1, 1) := by decide +kernel
theorem dX12_keeps_32 : decode cX12_keeps 32 = .ok (.iaload, 1) := by decide +kernel
theorem dX12_keeps_33 : decode cX12_keeps 33 = .ok (.iastore, 1) := by decide +kernel
theorem dX12_keeps_34 : decode cX12_keeps 34 = .ok (.aload_n 0, 1) := by decide +kernel
theorem dX12_keeps_35 : decode cX12_keeps 35 = .ok (.getfield 262, 3) := by decide +kernel
theorem dX12_keeps_38 : decode cX12_keeps 38 = .ok (.iload_n 1, 1) := by decide +kernel
theorem dX12_keeps_39 : decode cX12_keeps 39 = .ok (.aload_n 0, 1) := by decide +kernel
theorem dX12_keeps_40 : decode cX12_keeps 40 = .ok (.getfield 183, 3) := by decide +kernel
theorem dX12_keeps_43 : decode cX12_keeps 43 = .ok (.iload_n 1, 1) := by decide +kernel
theorem dX12_keeps_44 : decode cX12_keeps 44 = .ok (.iaload, 1) := by decide +kernel
theorem dX12_keeps_45 : decode cX12_keeps 45 = .ok (.iastore, 1) := by decide +kernel
theorem dX12_keeps_46 : decode cX12_keeps 46 = .ok (.aload_n 0, 1) := by decide +kernel
theorem dX12_keeps_47 : decode cX12_keeps 47 = .ok (.getfield 265, 3) := by decide +kernel
theorem dX12_keeps_50 : decode cX12_keeps 50 = .ok (.iload_n 1, 1) := by decide +kernel
theorem dX12_keeps_51 : decode cX12_keeps 51 = .ok (.aload_n 0, 1) := by decide +kernel
theorem dX12_keeps_52 : decode cX12_keeps 52 = .ok (.getfield 186, 3) := by decide +kernel
theorem dX12_keeps_55 : decode cX12_keeps 55 = .ok (.iload_n 1, 1) := by decide +kernel
theorem dX12_keeps_56 : decode cX12_keeps 56 = .ok (.iaload, 1) := by decide +kernel
theorem dX12_keeps_57 : decode cX12_keeps 57 = .ok (.iastore, 1) := by decide +kernel
theorem dX12_keeps_58 : decode cX12_keeps 58 = .ok (.aload_n 0, 1) := by decide +kernel
theorem dX12_keeps_59 : decode cX12_keeps 59 = .ok (.getfield 268, 3) := by decide +kernel
theorem dX12_keeps_62 : decode cX12_keeps 62 = .ok (.iload_n 1, 1) := by decide +kernel
theorem dX12_keeps_63 : decode cX12_keeps 63 = .ok (.aload_n 0, 1) := by decide +kernel
theorem dX12_keeps_64 : decode cX12_keeps 64 = .ok (.getfield 189, 3) := by decide +kernel
theorem dX12_keeps_67 : decode cX12_keeps 67 = .ok (.iload_n 1, 1) := by decide +kernel
theorem dX12_keeps_68 : decode cX12_keeps 68 = .ok (.iaload, 1) := by decide +kernel
theorem dX12_keeps_69 : decode cX12_keeps 69 = .ok (.iastore, 1) := by decide +kernel
theorem dX12_keeps_70 : decode cX12_keeps 70 = .ok (.aload_n 0, 1) := by decide +kernel
theorem dX12_keeps_71 : decode cX12_keeps 71 = .ok (.getfield 271, 3) := by decide +kernel
theorem dX12_keeps_74 : decode cX12_keeps 74 = .ok (.iload_n 1, 1) := by decide +kernel
theorem dX12_keeps_75 : decode cX12_keeps 75 = .ok (.aload_n 0, 1) := by decide +kernel
theorem dX12_keeps_76 : decode cX12_keeps 76 = .ok (.getfield 162, 3) := by decide +kernel
theorem dX12_keeps_79 : decode cX12_keeps 79 = .ok (.iload_n 1, 1) := by decide +kernel
theorem dX12_keeps_80 : decode cX12_keeps 80 = .ok (.iaload, 1) := by decide +kernel
theorem dX12_keeps_81 : decode cX12_keeps 81 = .ok (.iastore, 1) := by decide +kernel
theorem dX12_keeps_82 : decode cX12_keeps 82 = .ok (.aload_n 0, 1) := by decide +kernel
theorem dX12_keeps_83 : decode cX12_keeps 83 = .ok (.getfield 274, 3) := by decide +kernel
theorem dX12_keeps_86 : decode cX12_keeps 86 = .ok (.iload_n 1, 1) := by decide +kernel
theorem dX12_keeps_87 : decode cX12_keeps 87 = .ok (.aload_n 0, 1) := by decide +kernel
theorem dX12_keeps_88 : decode cX12_keeps 88 = .ok (.getfield 165, 3) := by decide +kernel
theorem dX12_keeps_91 : decode cX12_keeps 91 = .ok (.iload_n 1, 1) := by decide +kernel
theorem dX12_keeps_92 : decode cX12_keeps 92 = .ok (.iaload, 1) := by decide +kernel
theorem dX12_keeps_93 : decode cX12_keeps 93 = .ok (.iastore, 1) := by decide +kernel
theorem dX12_keeps_94 : decode cX12_keeps 94 = .ok (.aload_n 0, 1) := by decide +kernel
theorem dX12_keeps_95 : decode cX12_keeps 95 = .ok (.getfield 280, 3) := by decide +kernel
theorem dX12_keeps_98 : decode cX12_keeps 98 = .ok (.iload_n 1, 1) := by decide +kernel
theorem dX12_keeps_99 : decode cX12_keeps 99 = .ok (.aload_n 0, 1) := by decide +kernel
theorem dX12_keeps_100 : decode cX12_keeps 100 = .ok (.getfield 195, 3) := by decide +kernel
theorem dX12_keeps_103 : decode cX12_keeps 103 = .ok (.iload_n 1, 1) := by decide +kernel
theorem dX12_keeps_104 : decode cX12_keeps 104 = .ok (.baload, 1) := by decide +kernel
theorem dX12_keeps_105 : decode cX12_keeps 105 = .ok (.bastore, 1) := by decide +kernel
theorem dX12_keeps_106 : decode cX12_keeps 106 = .ok (.iinc 1 1, 3) := by decide +kernel
theorem dX12_keeps_109 : decode cX12_keeps 109 = .ok (.goto (-107), 3) := by decide +kernel
theorem dX12_keeps_112 : decode cX12_keeps 112 = .ok (.iconst 0, 1) := by decide +kernel
theorem dX12_keeps_113 : decode cX12_keeps 113 = .ok (.istore_n 1, 1) := by decide +kernel
theorem dX12_keeps_114 : decode cX12_keeps 114 = .ok (.iload_n 1, 1) := by decide +kernel
theorem dX12_keeps_115 : decode cX12_keeps 115 = .ok (.bipush 70, 2) := by decide +kernel
theorem dX12_keeps_117 : decode cX12_keeps 117 = .ok (.if_icmp .ge 21, 3) := by decide +kernel
theorem dX12_keeps_120 : decode cX12_keeps 120 = .ok (.aload_n 0, 1) := by decide +kernel
theorem dX12_keeps_121 : decode cX12_keeps 121 = .ok (.getfield 277, 3) := by decide +kernel
theorem dX12_keeps_124 : decode cX12_keeps 124 = .ok (.iload_n 1, 1) := by decide +kernel
theorem dX12_keeps_125 : decode cX12_keeps 125 = .ok (.aload_n 0, 1) := by decide +kernel
theorem dX12_keeps_126 : decode cX12_keeps 126 = .ok (.getfield 192, 3) := by decide +kernel
theorem dX12_keeps_129 : decode cX12_keeps 129 = .ok (.iload_n 1, 1) := by decide +kernel
theorem dX12_keeps_130 : decode cX12_keeps 130 = .ok (.iaload, 1) := by decide +kernel
theorem dX12_keeps_131 : decode cX12_keeps 131 = .ok (.iastore, 1) := by decide +kernel
theorem dX12_keeps_132 : decode cX12_keeps 132 = .ok (.iinc 1 1, 3) := by decide +kernel
theorem dX12_keeps_135 : decode cX12_keeps 135 = .ok (.goto (-21), 3) := by decide +kernel
theorem dX12_keeps_138 : decode cX12_keeps 138 = .ok (.return_, 1) := by decide +kernel
theorem dX12_putsBack_0 : decode cX12_putsBack 0 = .ok (.iconst 0, 1) := by decide +kernel
theorem dX12_putsBack_1 : decode cX12_putsBack 1 = .ok (.istore_n 1, 1) := by decide +kernel
theorem dX12_putsBack_2 : decode cX12_putsBack 2 = .ok (.iload_n 1, 1) := by decide +kernel
theorem dX12_putsBack_3 : decode cX12_putsBack 3 = .ok (.aload_n 0, 1) := by decide +kernel
theorem dX12_putsBack_4 : decode cX12_putsBack 4 = .ok (.getfield 531, 3) := by decide +kernel
theorem dX12_putsBack_7 : decode cX12_putsBack 7 = .ok (.if_icmp .ge 105, 3) := by decide +kernel
theorem dX12_putsBack_10 : decode cX12_putsBack 10 = .ok (.aload_n 0, 1) := by decide +kernel
theorem dX12_putsBack_11 : decode cX12_putsBack 11 = .ok (.getfield 177, 3) := by decide +kernel
theorem dX12_putsBack_14 : decode cX12_putsBack 14 = .ok (.iload_n 1, 1) := by decide +kernel
theorem dX12_putsBack_15 : decode cX12_putsBack 15 = .ok (.aload_n 0, 1) := by decide +kernel
theorem dX12_putsBack_16 : decode cX12_putsBack 16 = .ok (.getfield 256, 3) := by decide +kernel
theorem dX12_putsBack_19 : decode cX12_putsBack 19 = .ok (.iload_n 1, 1) := by decide +kernel
theorem dX12_putsBack_20 : decode cX12_putsBack 20 = .ok (.iaload, 1) := by decide +kernel
theorem dX12_putsBack_21 : decode cX12_putsBack 21 = .ok (.iastore, 1) := by decide +kernel
theorem dX12_putsBack_22 : decode cX12_putsBack 22 = .ok (.aload_n 0, 1) := by decide +kernel
theorem dX12_putsBack_23 : decode cX12_putsBack 23 = .ok (.getfield 180, 3) := by decide +kernel
theorem dX12_putsBack_26 : decode cX12_putsBack 26 = .ok (.iload_n 1, 1) := by decide +kernel
theorem dX12_putsBack_27 : decode cX12_putsBack 27 = .ok (.aload_n 0, 1) := by decide +kernel
theorem dX12_putsBack_28 : decode cX12_putsBack 28 = .ok (.getfield 259, 3) := by decide +kernel
theorem dX12_putsBack_31 : decode cX12_putsBack 31 = .ok (.iload_n 1, 1) := by decide +kernel
theorem dX12_putsBack_32 : decode cX12_putsBack 32 = .ok (.iaload, 1) := by decide +kernel
theorem dX12_putsBack_33 : decode cX12_putsBack 33 = .ok (.iastore, 1) := by decide +kernel
theorem dX12_putsBack_34 : decode cX12_putsBack 34 = .ok (.aload_n 0, 1) := by decide +kernel
theorem dX12_putsBack_35 : decode cX12_putsBack 35 = .ok (.getfield 183, 3) := by decide +kernel
theorem dX12_putsBack_38 : decode cX12_putsBack 38 = .ok (.iload_n 1, 1) := by decide +kernel
theorem dX12_putsBack_39 : decode cX12_putsBack 39 = .ok (.aload_n 0, 1) := by decide +kernel
theorem dX12_putsBack_40 : decode cX12_putsBack 40 = .ok (.getfield 262, 3) := by decide +kernel
theorem dX12_putsBack_43 : decode cX12_putsBack 43 = .ok (.iload_n 1, 1) := by decide +kernel
theorem dX12_putsBack_44 : decode cX12_putsBack 44 = .ok (.iaload, 1) := by decide +kernel
theorem dX12_putsBack_45 : decode cX12_putsBack 45 = .ok (.iastore, 1) := by decide +kernel
theorem dX12_putsBack_46 : decode cX12_putsBack 46 = .ok (.aload_n 0, 1) := by decide +kernel
theorem dX12_putsBack_47 : decode cX12_putsBack 47 = .ok (.getfield 186, 3) := by decide +kernel
theorem dX12_putsBack_50 : decode cX12_putsBack 50 = .ok (.iload_n 1, 1) := by decide +kernel
theorem dX12_putsBack_51 : decode cX12_putsBack 51 = .ok (.aload_n 0, 1) := by decide +kernel
theorem dX12_putsBack_52 : decode cX12_putsBack 52 = .ok (.getfield 265, 3) := by decide +kernel
theorem dX12_putsBack_55 : decode cX12_putsBack 55 = .ok (.iload_n 1, 1) := by decide +kernel
theorem dX12_putsBack_56 : decode cX12_putsBack 56 = .ok (.iaload, 1) := by decide +kernel
theorem dX12_putsBack_57 : decode cX12_putsBack 57 = .ok (.iastore, 1) := by decide +kernel
theorem dX12_putsBack_58 : decode cX12_putsBack 58 = .ok (.aload_n 0, 1) := by decide +kernel
theorem dX12_putsBack_59 : decode cX12_putsBack 59 = .ok (.getfield 189, 3) := by decide +kernel
theorem dX12_putsBack_62 : decode cX12_putsBack 62 = .ok (.iload_n 1, 1) := by decide +kernel
theorem dX12_putsBack_63 : decode cX12_putsBack 63 = .ok (.aload_n 0, 1) := by decide +kernel
theorem dX12_putsBack_64 : decode cX12_putsBack 64 = .ok (.getfield 268, 3) := by decide +kernel
theorem dX12_putsBack_67 : decode cX12_putsBack 67 = .ok (.iload_n 1, 1) := by decide +kernel
theorem dX12_putsBack_68 : decode cX12_putsBack 68 = .ok (.iaload, 1) := by decide +kernel
theorem dX12_putsBack_69 : decode cX12_putsBack 69 = .ok (.iastore, 1) := by decide +kernel
theorem dX12_putsBack_70 : decode cX12_putsBack 70 = .ok (.aload_n 0, 1) := by decide +kernel
theorem dX12_putsBack_71 : decode cX12_putsBack 71 = .ok (.getfield 162, 3) := by decide +kernel
theorem dX12_putsBack_74 : decode cX12_putsBack 74 = .ok (.iload_n 1, 1) := by decide +kernel
theorem dX12_putsBack_75 : decode cX12_putsBack 75 = .ok (.aload_n 0, 1) := by decide +kernel
theorem dX12_putsBack_76 : decode cX12_putsBack 76 = .ok (.getfield 271, 3) := by decide +kernel
theorem dX12_putsBack_79 : decode cX12_putsBack 79 = .ok (.iload_n 1, 1) := by decide +kernel
theorem dX12_putsBack_80 : decode cX12_putsBack 80 = .ok (.iaload, 1) := by decide +kernel
theorem dX12_putsBack_81 : decode cX12_putsBack 81 = .ok (.iastore, 1) := by decide +kernel
theorem dX12_putsBack_82 : decode cX12_putsBack 82 = .ok (.aload_n 0, 1) := by decide +kernel
theorem dX12_putsBack_83 : decode cX12_putsBack 83 = .ok (.getfield 165, 3) := by decide +kernel
theorem dX12_putsBack_86 : decode cX12_putsBack 86 = .ok (.iload_n 1, 1) := by decide +kernel
theorem dX12_putsBack_87 : decode cX12_putsBack 87 = .ok (.aload_n 0, 1) := by decide +kernel
theorem dX12_putsBack_88 : decode cX12_putsBack 88 = .ok (.getfield 274, 3) := by decide +kernel
theorem dX12_putsBack_91 : decode cX12_putsBack 91 = .ok (.iload_n 1, 1) := by decide +kernel
theorem dX12_putsBack_92 : decode cX12_putsBack 92 = .ok (.iaload, 1) := by decide +kernel
theorem dX12_putsBack_93 : decode cX12_putsBack 93 = .ok (.iastore, 1) := by decide +kernel
theorem dX12_putsBack_94 : decode cX12_putsBack 94 = .ok (.aload_n 0, 1) := by decide +kernel
theorem dX12_putsBack_95 : decode cX12_putsBack 95 = .ok (.getfield 195, 3) := by decide +kernel
theorem dX12_putsBack_98 : decode cX12_putsBack 98 = .ok (.iload_n 1, 1) := by decide +kernel
theorem dX12_putsBack_99 : decode cX12_putsBack 99 = .ok (.aload_n 0, 1) := by decide +kernel
theorem dX12_putsBack_100 : decode cX12_putsBack 100 = .ok (.getfield 280, 3) := by decide +kernel
theorem dX12_putsBack_103 : decode cX12_putsBack 103 = .ok (.iload_n 1, 1) := by decide +kernel
theorem dX12_putsBack_104 : decode cX12_putsBack 104 = .ok (.baload, 1) := by decide +kernel
theorem dX12_putsBack_105 : decode cX12_putsBack 105 = .ok (.bastore, 1) := by decide +kernel
theorem dX12_putsBack_106 : decode cX12_putsBack 106 = .ok (.iinc 1 1, 3) := by decide +kernel
theorem dX12_putsBack_109 : decode cX12_putsBack 109 = .ok (.goto (-107), 3) := by decide +kernel
theorem dX12_putsBack_112 : decode cX12_putsBack 112 = .ok (.iconst 0, 1) := by decide +kernel
theorem dX12_putsBack_113 : decode cX12_putsBack 113 = .ok (.istore_n 1, 1) := by decide +kernel
theorem dX12_putsBack_114 : decode cX12_putsBack 114 = .ok (.iload_n 1, 1) := by decide +kernel
theorem dX12_putsBack_115 : decode cX12_putsBack 115 = .ok (.bipush 70, 2) := by decide +kernel
theorem dX12_putsBack_117 : decode cX12_putsBack 117 = .ok (.if_icmp .ge 21, 3) := by decide +kernel
theorem dX12_putsBack_120 : decode cX12_putsBack 120 = .ok (.aload_n 0, 1) := by decide +kernel
theorem dX12_putsBack_121 : decode cX12_putsBack 121 = .ok (.getfield 192, 3) := by decide +kernel
theorem dX12_putsBack_124 : decode cX12_putsBack 124 = .ok (.iload_n 1, 1) := by decide +kernel
theorem dX12_putsBack_125 : decode cX12_putsBack 125 = .ok (.aload_n 0, 1) := by decide +kernel
theorem dX12_putsBack_126 : decode cX12_putsBack 126 = .ok (.getfield 277, 3) := by decide +kernel
theorem dX12_putsBack_129 : decode cX12_putsBack 129 = .ok (.iload_n 1, 1) := by decide +kernel
theorem dX12_putsBack_130 : decode cX12_putsBack 130 = .ok (.iaload, 1) := by decide +kernel
theorem dX12_putsBack_131 : decode cX12_putsBack 131 = .ok (.iastore, 1) := by decide +kernel
theorem dX12_putsBack_132 : decode cX12_putsBack 132 = .ok (.iinc 1 1, 3) := by decide +kernel
theorem dX12_putsBack_135 : decode cX12_putsBack 135 = .ok (.goto (-21), 3) := by decide +kernel
theorem dX12_putsBack_138 : decode cX12_putsBack 138 = .ok (.return_, 1) := by decide +kernel
theorem dX12_sums_0 : decode cX12_sums 0 = .ok (.aload_n 0, 1) := by decide +kernel
theorem dX12_sums_1 : decode cX12_sums 1 = .ok (.invokevirtual 628, 3) := by decide +kernel
theorem dX12_sums_4 : decode cX12_sums 4 = .ok (.aload_n 0, 1) := by decide +kernel
theorem dX12_sums_5 : decode cX12_sums 5 = .ok (.aload_n 0, 1) := by decide +kernel
theorem dX12_sums_6 : decode cX12_sums 6 = .ok (.getfield 313, 3) := by decide +kernel
theorem dX12_sums_9 : decode cX12_sums 9 = .ok (.sipush 10079, 3) := by decide +kernel
theorem dX12_sums_12 : decode cX12_sums 12 = .ok (.invokevirtual 594, 3) := by decide +kernel
theorem dX12_sums_15 : decode cX12_sums 15 = .ok (.iconst 0, 1) := by decide +kernel
theorem dX12_sums_16 : decode cX12_sums 16 = .ok (.istore_n 1, 1) := by decide +kernel
theorem dX12_sums_17 : decode cX12_sums 17 = .ok (.iconst 0, 1) := by decide +kernel
theorem dX12_sums_18 : decode cX12_sums 18 = .ok (.istore_n 2, 1) := by decide +kernel
theorem dX12_sums_19 : decode cX12_sums 19 = .ok (.iload_n 2, 1) := by decide +kernel
theorem dX12_sums_20 : decode cX12_sums 20 = .ok (.aload_n 0, 1) := by decide +kernel
theorem dX12_sums_21 : decode cX12_sums 21 = .ok (.getfield 531, 3) := by decide +kernel
theorem dX12_sums_24 : decode cX12_sums 24 = .ok (.if_icmp .ge 48, 3) := by decide +kernel
theorem dX12_sums_27 : decode cX12_sums 27 = .ok (.iload_n 1, 1) := by decide +kernel
theorem dX12_sums_28 : decode cX12_sums 28 = .ok (.aload_n 0, 1) := by decide +kernel
theorem dX12_sums_29 : decode cX12_sums 29 = .ok (.getfield 177, 3) := by decide +kernel
theorem dX12_sums_32 : decode cX12_sums 32 = .ok (.iload_n 2, 1) := by decide +kernel
theorem dX12_sums_33 : decode cX12_sums 33 = .ok (.iaload, 1) := by decide +kernel
theorem dX12_sums_34 : decode cX12_sums 34 = .ok (.iconst 2, 1) := by decide +kernel
theorem dX12_sums_35 : decode cX12_sums 35 = .ok (.if_icmp .ne 12, 3) := by decide +kernel
theorem dX12_sums_38 : decode cX12_sums 38 = .ok (.aload_n 0, 1) := by decide +kernel
theorem dX12_sums_39 : decode cX12_sums 39 = .ok (.getfield 189, 3) := by decide +kernel
theorem dX12_sums_42 : decode cX12_sums 42 = .ok (.iload_n 2, 1) := by decide +kernel
theorem dX12_sums_43 : decode cX12_sums 43 = .ok (.iaload, 1) := by decide +kernel
theorem dX12_sums_44 : decode cX12_sums 44 = .ok (.goto 20, 3) := by decide +kernel
theorem dX12_sums_47 : decode cX12_sums 47 = .ok (.aload_n 0, 1) := by decide +kernel
theorem dX12_sums_48 : decode cX12_sums 48 = .ok (.getfield 177, 3) := by decide +kernel
theorem dX12_sums_51 : decode cX12_sums 51 = .ok (.iload_n 2, 1) := by decide +kernel
theorem dX12_sums_52 : decode cX12_sums 52 = .ok (.iaload, 1) := by decide +kernel
theorem dX12_sums_53 : decode cX12_sums 53 = .ok (.iconst 2, 1) := by decide +kernel
theorem dX12_sums_54 : decode cX12_sums 54 = .ok (.if_icmp .ge 9, 3) := by decide +kernel
theorem dX12_sums_57 : decode cX12_sums 57 = .ok (.sipush 10080, 3) := by decide +kernel
theorem dX12_sums_60 : decode cX12_sums 60 = .ok (.goto 4, 3) := by decide +kernel
theorem dX12_sums_63 : decode cX12_sums 63 = .ok (.iconst 0, 1) := by decide +kernel
theorem dX12_sums_64 : decode cX12_sums 64 = .ok (.iadd, 1) := by decide +kernel
theorem dX12_sums_65 : decode cX12_sums 65 = .ok (.istore_n 1, 1) := by decide +kernel
theorem dX12_sums_66 : decode cX12_sums 66 = .ok (.iinc 2 1, 3) := by decide +kernel
theorem dX12_sums_69 : decode cX12_sums 69 = .ok (.goto (-50), 3) := by decide +kernel
theorem dX12_sums_72 : decode cX12_sums 72 = .ok (.aload_n 0, 1) := by decide +kernel
theorem dX12_sums_73 : decode cX12_sums 73 = .ok (.invokevirtual 631, 3) := by decide +kernel
theorem dX12_sums_76 : decode cX12_sums 76 = .ok (.iload_n 1, 1) := by decide +kernel
theorem dX12_sums_77 : decode cX12_sums 77 = .ok (.ireturn, 1) := by decide +kernel
theorem dX12_whatIf_0 : decode cX12_whatIf 0 = .ok (.iload_n 1, 1) := by decide +kernel
theorem dX12_whatIf_1 : decode cX12_whatIf 1 = .ok (.iconst (-1), 1) := by decide +kernel
theorem dX12_whatIf_2 : decode cX12_whatIf 2 = .ok (.if_icmp .ne 8, 3) := by decide +kernel
theorem dX12_whatIf_5 : decode cX12_whatIf 5 = .ok (.aload_n 0, 1) := by decide +kernel
theorem dX12_whatIf_6 : decode cX12_whatIf 6 = .ok (.invokevirtual 634, 3) := by decide +kernel
theorem dX12_whatIf_9 : decode cX12_whatIf 9 = .ok (.ireturn, 1) := by decide +kernel
theorem dX12_whatIf_10 : decode cX12_whatIf 10 = .ok (.aload_n 0, 1) := by decide +kernel
theorem dX12_whatIf_11 : decode cX12_whatIf 11 = .ok (.iload_n 1, 1) := by decide +kernel
theorem dX12_whatIf_12 : decode cX12_whatIf 12 = .ok (.iload_n 2, 1) := by decide +kernel
theorem dX12_whatIf_13 : decode cX12_whatIf 13 = .ok (.iload_n 3, 1) := by decide +kernel
theorem dX12_whatIf_14 : decode cX12_whatIf 14 = .ok (.invokevirtual 319, 3) := by decide +kernel
theorem dX12_whatIf_17 : decode cX12_whatIf 17 = .ok (.ifCond .ne 5, 3) := by decide +kernel
theorem dX12_whatIf_20 : decode cX12_whatIf 20 = .ok (.iconst (-1), 1) := by decide +kernel
theorem dX12_whatIf_21 : decode cX12_whatIf 21 = .ok (.ireturn, 1) := by decide +kernel
theorem dX12_whatIf_22 : decode cX12_whatIf 22 = .ok (.aload_n 0, 1) := by decide +kernel
theorem dX12_whatIf_23 : decode cX12_whatIf 23 = .ok (.getfield 25, 3) := by decide +kernel
theorem dX12_whatIf_26 : decode cX12_whatIf 26 = .ok (.iload_n 1, 1) := by decide +kernel
theorem dX12_whatIf_27 : decode cX12_whatIf 27 = .ok (.iload_n 2, 1) := by decide +kernel
theorem dX12_whatIf_28 : decode cX12_whatIf 28 = .ok (.invokestatic 322, 3) := by decide +kernel
theorem dX12_whatIf_31 : decode cX12_whatIf 31 = .ok (.iaload, 1) := by decide +kernel
theorem dX12_whatIf_32 : decode cX12_whatIf 32 = .ok (.istore 4, 2) := by decide +kernel
theorem dX12_whatIf_34 : decode cX12_whatIf 34 = .ok (.aload_n 0, 1) := by decide +kernel
theorem dX12_whatIf_35 : decode cX12_whatIf 35 = .ok (.getfield 25, 3) := by decide +kernel
theorem dX12_whatIf_38 : decode cX12_whatIf 38 = .ok (.iload_n 1, 1) := by decide +kernel
theorem dX12_whatIf_39 : decode cX12_whatIf 39 = .ok (.iload_n 2, 1) := by decide +kernel
theorem dX12_whatIf_40 : decode cX12_whatIf 40 = .ok (.invokestatic 322, 3) := by decide +kernel
theorem dX12_whatIf_43 : decode cX12_whatIf 43 = .ok (.iload_n 3, 1) := by decide +kernel
theorem dX12_whatIf_44 : decode cX12_whatIf 44 = .ok (.iastore, 1) := by decide +kernel
theorem dX12_whatIf_45 : decode cX12_whatIf 45 = .ok (.aload_n 0, 1) := by decide +kernel
theorem dX12_whatIf_46 : decode cX12_whatIf 46 = .ok (.iconst 0, 1) := by decide +kernel
theorem dX12_whatIf_47 : decode cX12_whatIf 47 = .ok (.putfield 293, 3) := by decide +kernel
theorem dX12_whatIf_50 : decode cX12_whatIf 50 = .ok (.aload_n 0, 1) := by decide +kernel
theorem dX12_whatIf_51 : decode cX12_whatIf 51 = .ok (.invokevirtual 634, 3) := by decide +kernel
theorem dX12_whatIf_54 : decode cX12_whatIf 54 = .ok (.istore 5, 2) := by decide +kernel
theorem dX12_whatIf_56 : decode cX12_whatIf 56 = .ok (.aload_n 0, 1) := by decide +kernel
theorem dX12_whatIf_57 : decode cX12_whatIf 57 = .ok (.getfield 25, 3) := by decide +kernel
theorem dX12_whatIf_60 : decode cX12_whatIf 60 = .ok (.iload_n 1, 1) := by decide +kernel
theorem dX12_whatIf_61 : decode cX12_whatIf 61 = .ok (.iload_n 2, 1) := by decide +kernel
theorem dX12_whatIf_62 : decode cX12_whatIf 62 = .ok (.invokestatic 322, 3) := by decide +kernel
theorem dX12_whatIf_65 : decode cX12_whatIf 65 = .ok (.iload 4, 2) := by decide +kernel
theorem dX12_whatIf_67 : decode cX12_whatIf 67 = .ok (.iastore, 1) := by decide +kernel
theorem dX12_whatIf_68 : decode cX12_whatIf 68 = .ok (.aload_n 0, 1) := by decide +kernel
theorem dX12_whatIf_69 : decode cX12_whatIf 69 = .ok (.iconst 0, 1) := by decide +kernel
theorem dX12_whatIf_70 : decode cX12_whatIf 70 = .ok (.putfield 293, 3) := by decide +kernel
theorem dX12_whatIf_73 : decode cX12_whatIf 73 = .ok (.iload 5, 2) := by decide +kernel
theorem dX12_whatIf_75 : decode cX12_whatIf 75 = .ok (.ireturn, 1) := by decide +kernel
theorem dX12_seats_0 : decode cX12_seats 0 = .ok (.aload_n 0, 1) := by decide +kernel
theorem dX12_seats_1 : decode cX12_seats 1 = .ok (.getfield 290, 3) := by decide +kernel
theorem dX12_seats_4 : decode cX12_seats 4 = .ok (.ifCond .eq 38, 3) := by decide +kernel
theorem dX12_seats_7 : decode cX12_seats 7 = .ok (.aload_n 0, 1) := by decide +kernel
theorem dX12_seats_8 : decode cX12_seats 8 = .ok (.getfield 569, 3) := by decide +kernel
theorem dX12_seats_11 : decode cX12_seats 11 = .ok (.ifCond .eq 31, 3) := by decide +kernel
theorem dX12_seats_14 : decode cX12_seats 14 = .ok (.iload_n 1, 1) := by decide +kernel
theorem dX12_seats_15 : decode cX12_seats 15 = .ok (.ifCond .eq 29, 3) := by decide +kernel
theorem dX12_seats_18 : decode cX12_seats 18 = .ok (.iload_n 1, 1) := by decide +kernel
theorem dX12_seats_19 : decode cX12_seats 19 = .ok (.bipush 10, 2) := by decide +kernel
theorem dX12_seats_21 : decode cX12_seats 21 = .ok (.aload_n 0, 1) := by decide +kernel
theorem dX12_seats_22 : decode cX12_seats 22 = .ok (.getfield 569, 3) := by decide +kernel
theorem dX12_seats_25 : decode cX12_seats 25 = .ok (.iconst 1, 1) := by decide +kernel
theorem dX12_seats_26 : decode cX12_seats 26 = .ok (.if_icmp .le 8, 3) := by decide +kernel
theorem dX12_seats_29 : decode cX12_seats 29 = .ok (.bipush 11, 2) := by decide +kernel
theorem dX12_seats_31 : decode cX12_seats 31 = .ok (.goto 5, 3) := by decide +kernel
theorem dX12_seats_34 : decode cX12_seats 34 = .ok (.bipush 10, 2) := by decide +kernel
theorem dX12_seats_36 : decode cX12_seats 36 = .ok (.invokestatic 286, 3) := by decide +kernel
theorem dX12_seats_39 : decode cX12_seats 39 = .ok (.ifCond .ne 5, 3) := by decide +kernel
theorem dX12_seats_42 : decode cX12_seats 42 = .ok (.iconst (-1), 1) := by decide +kernel
theorem dX12_seats_43 : decode cX12_seats 43 = .ok (.ireturn, 1) := by decide +kernel
theorem dX12_seats_44 : decode cX12_seats 44 = .ok (.aload_n 0, 1) := by decide +kernel
theorem dX12_seats_45 : decode cX12_seats 45 = .ok (.getfield 217, 3) := by decide +kernel
theorem dX12_seats_48 : decode cX12_seats 48 = .ok (.iconst 0, 1) := by decide +kernel
theorem dX12_seats_49 : decode cX12_seats 49 = .ok (.iaload, 1) := by decide +kernel
theorem dX12_seats_50 : decode cX12_seats 50 = .ok (.istore_n 2, 1) := by decide +kernel
theorem dX12_seats_51 : decode cX12_seats 51 = .ok (.aload_n 0, 1) := by decide +kernel
theorem dX12_seats_52 : decode cX12_seats 52 = .ok (.getfield 217, 3) := by decide +kernel
theorem dX12_seats_55 : decode cX12_seats 55 = .ok (.iconst 1, 1) := by decide +kernel
theorem dX12_seats_56 : decode cX12_seats 56 = .ok (.iaload, 1) := by decide +kernel
theorem dX12_seats_57 : decode cX12_seats 57 = .ok (.istore_n 3, 1) := by decide +kernel
theorem dX12_seats_58 : decode cX12_seats 58 = .ok (.iconst (-1), 1) := by decide +kernel
theorem dX12_seats_59 : decode cX12_seats 59 = .ok (.istore 4, 2) := by decide +kernel
theorem dX12_seats_61 : decode cX12_seats 61 = .ok (.iconst 0, 1) := by decide +kernel
theorem dX12_seats_62 : decode cX12_seats 62 = .ok (.istore 5, 2) := by decide +kernel
theorem dX12_seats_64 : decode cX12_seats 64 = .ok (.iconst 0, 1) := by decide +kernel
theorem dX12_seats_65 : decode cX12_seats 65 = .ok (.istore 6, 2) := by decide +kernel
theorem dX12_seats_67 : decode cX12_seats 67 = .ok (.iconst 0, 1) := by decide +kernel
theorem dX12_seats_68 : decode cX12_seats 68 = .ok (.istore 7, 2) := by decide +kernel
theorem dX12_seats_70 : decode cX12_seats 70 = .ok (.iload 7, 2) := by decide +kernel
theorem dX12_seats_72 : decode cX12_seats 72 = .ok (.aload_n 0, 1) := by decide +kernel
theorem dX12_seats_73 : decode cX12_seats 73 = .ok (.getfield 290, 3) := by decide +kernel
theorem dX12_seats_76 : decode cX12_seats 76 = .ok (.if_icmp .ge 97, 3) := by decide +kernel
theorem dX12_seats_79 : decode cX12_seats 79 = .ok (.iconst 0, 1) := by decide +kernel
theorem dX12_seats_80 : decode cX12_seats 80 = .ok (.istore 8, 2) := by decide +kernel
theorem dX12_seats_82 : decode cX12_seats 82 = .ok (.iload 8, 2) := by decide +kernel
theorem dX12_seats_84 : decode cX12_seats 84 = .ok (.aload_n 0, 1) := by decide +kernel
theorem dX12_seats_85 : decode cX12_seats 85 = .ok (.getfield 569, 3) := by decide +kernel
theorem dX12_seats_88 : decode cX12_seats 88 = .ok (.iconst 1, 1) := by decide +kernel
theorem dX12_seats_89 : decode cX12_seats 89 = .ok (.if_icmp .le 10, 3) := by decide +kernel
theorem dX12_seats_92 : decode cX12_seats 92 = .ok (.aload_n 0, 1) := by decide +kernel
theorem dX12_seats_93 : decode cX12_seats 93 = .ok (.getfield 290, 3) := by decide +kernel
theorem dX12_seats_96 : decode cX12_seats 96 = .ok (.goto 4, 3) := by decide +kernel
theorem dX12_seats_99 : decode cX12_seats 99 = .ok (.iconst 1, 1) := by decide +kernel
theorem dX12_seats_100 : decode cX12_seats 100 = .ok (.if_icmp .ge 67, 3) := by decide +kernel
theorem dX12_seats_103 : decode cX12_seats 103 = .ok (.aload_n 0, 1) := by decide +kernel
theorem dX12_seats_104 : decode cX12_seats 104 = .ok (.getfield 217, 3) := by decide +kernel
theorem dX12_seats_107 : decode cX12_seats 107 = .ok (.iconst 0, 1) := by decide +kernel
theorem dX12_seats_108 : decode cX12_seats 108 = .ok (.iload 7, 2) := by decide +kernel
theorem dX12_seats_110 : decode cX12_seats 110 = .ok (.iastore, 1) := by decide +kernel
theorem dX12_seats_111 : decode cX12_seats 111 = .ok (.aload_n 0, 1) := by decide +kernel
theorem dX12_seats_112 : decode cX12_seats 112 = .ok (.getfield 569, 3) := by decide +kernel
theorem dX12_seats_115 : decode cX12_seats 115 = .ok (.iconst 1, 1) := by decide +kernel
theorem dX12_seats_116 : decode cX12_seats 116 = .ok (.if_icmp .le 11, 3) := by decide +kernel
theorem dX12_seats_119 : decode cX12_seats 119 = .ok (.aload_n 0, 1) := by decide +kernel
theorem dX12_seats_120 : decode cX12_seats 120 = .ok (.getfield 217, 3) := by decide +kernel
theorem dX12_seats_123 : decode cX12_seats 123 = .ok (.iconst 1, 1) := by decide +kernel
theorem dX12_seats_124 : decode cX12_seats 124 = .ok (.iload 8, 2) := by decide +kernel
theorem dX12_seats_126 : decode cX12_seats 126 = .ok (.iastore, 1) := by decide +kernel
theorem dX12_seats_127 : decode cX12_seats 127 = .ok (.aload_n 0, 1) := by decide +kernel
theorem dX12_seats_128 : decode cX12_seats 128 = .ok (.invokevirtual 634, 3) := by decide +kernel
theorem dX12_seats_131 : decode cX12_seats 131 = .ok (.istore 9, 2) := by decide +kernel
theorem dX12_seats_133 : decode cX12_seats 133 = .ok (.iload 4, 2) := by decide +kernel
theorem dX12_seats_135 : decode cX12_seats 135 = .ok (.iconst (-1), 1) := by decide +kernel
theorem dX12_seats_136 : decode cX12_seats 136 = .ok (.if_icmp .eq 13, 3) := by decide +kernel
theorem dX12_seats_139 : decode cX12_seats 139 = .ok (.iload 9, 2) := by decide +kernel
theorem dX12_seats_141 : decode cX12_seats 141 = .ok (.iload 4, 2) := by decide +kernel
theorem dX12_seats_143 : decode cX12_seats 143 = .ok (.if_icmp .lt 6, 3) := by decide +kernel
theorem dX12_seats_146 : decode cX12_seats 146 = .ok (.goto 15, 3) := by decide +kernel
theorem dX12_seats_149 : decode cX12_seats 149 = .ok (.iload 9, 2) := by decide +kernel
theorem dX12_seats_151 : decode cX12_seats 151 = .ok (.istore 4, 2) := by decide +kernel
theorem dX12_seats_153 : decode cX12_seats 153 = .ok (.iload 7, 2) := by decide +kernel
theorem dX12_seats_155 : decode cX12_seats 155 = .ok (.istore 5, 2) := by decide +kernel
theorem dX12_seats_157 : decode cX12_seats 157 = .ok (.iload 8, 2) := by decide +kernel
theorem dX12_seats_159 : decode cX12_seats 159 = .ok (.istore 6, 2) := by decide +kernel
theorem dX12_seats_161 : decode cX12_seats 161 = .ok (.iinc 8 1, 3) := by decide +kernel
theorem dX12_seats_164 : decode cX12_seats 164 = .ok (.goto (-82), 3) := by decide +kernel
theorem dX12_seats_167 : decode cX12_seats 167 = .ok (.iinc 7 1, 3) := by decide +kernel
theorem dX12_seats_170 : decode cX12_seats 170 = .ok (.goto (-100), 3) := by decide +kernel
theorem dX12_seats_173 : decode cX12_seats 173 = .ok (.aload_n 0, 1) := by decide +kernel
theorem dX12_seats_174 : decode cX12_seats 174 = .ok (.getfield 217, 3) := by decide +kernel
theorem dX12_seats_177 : decode cX12_seats 177 = .ok (.iconst 0, 1) := by decide +kernel
theorem dX12_seats_178 : decode cX12_seats 178 = .ok (.iload_n 2, 1) := by decide +kernel
theorem dX12_seats_179 : decode cX12_seats 179 = .ok (.iastore, 1) := by decide +kernel
theorem dX12_seats_180 : decode cX12_seats 180 = .ok (.aload_n 0, 1) := by decide +kernel
theorem dX12_seats_181 : decode cX12_seats 181 = .ok (.getfield 217, 3) := by decide +kernel
theorem dX12_seats_184 : decode cX12_seats 184 = .ok (.iconst 1, 1) := by decide +kernel
theorem dX12_seats_185 : decode cX12_seats 185 = .ok (.iload_n 3, 1) := by decide +kernel
theorem dX12_seats_186 : decode cX12_seats 186 = .ok (.iastore, 1) := by decide +kernel
theorem dX12_seats_187 : decode cX12_seats 187 = .ok (.iload_n 1, 1) := by decide +kernel
theorem dX12_seats_188 : decode cX12_seats 188 = .ok (.ifCond .ne 8, 3) := by decide +kernel
theorem dX12_seats_191 : decode cX12_seats 191 = .ok (.iload 4, 2) := by decide +kernel
theorem dX12_seats_193 : decode cX12_seats 193 = .ok (.goto 16, 3) := by decide +kernel
theorem dX12_seats_196 : decode cX12_seats 196 = .ok (.iload_n 1, 1) := by decide +kernel
theorem dX12_seats_197 : decode cX12_seats 197 = .ok (.bipush 10, 2) := by decide +kernel
theorem dX12_seats_199 : decode cX12_seats 199 = .ok (.if_icmp .ne 8, 3) := by decide +kernel
theorem dX12_seats_202 : decode cX12_seats 202 = .ok (.iload 5, 2) := by decide +kernel
theorem dX12_seats_204 : decode cX12_seats 204 = .ok (.goto 5, 3) := by decide +kernel
theorem dX12_seats_207 : decode cX12_seats 207 = .ok (.iload 6, 2) := by decide +kernel
theorem dX12_seats_209 : decode cX12_seats 209 = .ok (.ireturn, 1) := by decide +kernel
theorem dJ0_length_8abf5_0 : decode cJ0_length_8abf5 0 = .ok (.aload_n 0, 1) := by decide +kernel
theorem dJ0_length_8abf5_1 : decode cJ0_length_8abf5 1 = .ok (.getfield 9, 3) := by decide +kernel
theorem dJ0_length_8abf5_4 : decode cJ0_length_8abf5 4 = .ok (.arraylength, 1) := by decide +kernel
theorem dJ0_length_8abf5_5 : decode cJ0_length_8abf5 5 = .ok (.aload_n 0, 1) := by decide +kernel
theorem dJ0_length_8abf5_6 : decode cJ0_length_8abf5 6 = .ok (.invokevirtual 335, 3) := by decide +kernel
theorem dJ0_length_8abf5_9 : decode cJ0_length_8abf5 9 = .ok (.ishr, 1) := by decide +kernel
theorem dJ0_length_8abf5_10 : decode cJ0_length_8abf5 10 = .ok (.ireturn, 1) := by decide +kernel
theorem dJ0_charAt_5068e_0 : decode cJ0_charAt_5068e 0 = .ok (.aload_n 0, 1) := by decide +kernel
theorem dJ0_charAt_5068e_1 : decode cJ0_charAt_5068e 1 = .ok (.invokevirtual 492, 3) := by decide +kernel
theorem dJ0_charAt_5068e_4 : decode cJ0_charAt_5068e 4 = .ok (.ifCond .eq 12, 3) := by decide +kernel
theorem dJ0_charAt_5068e_7 : decode cJ0_charAt_5068e 7 = .ok (.aload_n 0, 1) := by decide +kernel
theorem dJ0_charAt_5068e_8 : decode cJ0_charAt_5068e 8 = .ok (.getfield 9, 3) := by decide +kernel
theorem dJ0_charAt_5068e_11 : decode cJ0_charAt_5068e 11 = .ok (.iload_n 1, 1) := by decide +kernel
theorem dJ0_charAt_5068e_12 : decode cJ0_charAt_5068e 12 = .ok (.invokestatic 495, 3) := by decide +kernel
theorem dJ0_charAt_5068e_15 : decode cJ0_charAt_5068e 15 = .ok (.ireturn, 1) := by decide +kernel
theorem dJ0_charAt_5068e_16 : decode cJ0_charAt_5068e 16 = .ok (.aload_n 0, 1) := by decide +kernel
theorem dJ0_charAt_5068e_17 : decode cJ0_charAt_5068e 17 = .ok (.getfield 9, 3) := by decide +kernel
theorem dJ0_charAt_5068e_20 : decode cJ0_charAt_5068e 20 = .ok (.iload_n 1, 1) := by decide +kernel
theorem dJ0_charAt_5068e_21 : decode cJ0_charAt_5068e 21 = .ok (.invokestatic 498, 3) := by decide +kernel
theorem dJ0_charAt_5068e_24 : decode cJ0_charAt_5068e 24 = .ok (.ireturn, 1) := by decide +kernel
theorem dJ0_coder_7d493_0 : decode cJ0_coder_7d493 0 = .ok (.getstatic 38, 3) := by decide +kernel
theorem dJ0_coder_7d493_3 : decode cJ0_coder_7d493 3 = .ok (.ifCond .eq 10, 3) := by decide +kernel
theorem dJ0_coder_7d493_6 : decode cJ0_coder_7d493 6 = .ok (.aload_n 0, 1) := by decide +kernel
theorem dJ0_coder_7d493_7 : decode cJ0_coder_7d493 7 = .ok (.getfield 15, 3) := by decide +kernel
theorem dJ0_coder_7d493_10 : decode cJ0_coder_7d493 10 = .ok (.goto 4, 3) := by decide +kernel
theorem dJ0_coder_7d493_13 : decode cJ0_coder_7d493 13 = .ok (.iconst 1, 1) := by decide +kernel
theorem dJ0_coder_7d493_14 : decode cJ0_coder_7d493 14 = .ok (.ireturn, 1) := by decide +kernel
theorem dJ0_isLatin1_aae02_0 : decode cJ0_isLatin1_aae02 0 = .ok (.getstatic 38, 3) := by decide +kernel
theorem dJ0_isLatin1_aae02_3 : decode cJ0_isLatin1_aae02 3 = .ok (.ifCond .eq 14, 3) := by decide +kernel
theorem dJ0_isLatin1_aae02_6 : decode cJ0_isLatin1_aae02 6 = .ok (.aload_n 0, 1) := by decide +kernel
theorem dJ0_isLatin1_aae02_7 : decode cJ0_isLatin1_aae02 7 = .ok (.getfield 15, 3) := by decide +kernel
theorem dJ0_isLatin1_aae02_10 : decode cJ0_isLatin1_aae02 10 = .ok (.ifCond .ne 7, 3) := by decide +kernel
theorem dJ0_isLatin1_aae02_13 : decode cJ0_isLatin1_aae02 13 = .ok (.iconst 1, 1) := by decide +kernel
theorem dJ0_isLatin1_aae02_14 : decode cJ0_isLatin1_aae02 14 = .ok (.goto 4, 3) := by decide +kernel
theorem dJ0_isLatin1_aae02_17 : decode cJ0_isLatin1_aae02 17 = .ok (.iconst 0, 1) := by decide +kernel
theorem dJ0_isLatin1_aae02_18 : decode cJ0_isLatin1_aae02 18 = .ok (.ireturn, 1) := by decide +kernel
theorem dJ0_checkIndex_df160_0 : decode cJ0_checkIndex_df160 0 = .ok (.iload_n 0, 1) := by decide +kernel
theorem dJ0_checkIndex_df160_1 : decode cJ0_checkIndex_df160 1 = .ok (.iload_n 1, 1) := by decide +kernel
theorem dJ0_checkIndex_df160_2 : decode cJ0_checkIndex_df160 2 = .ok (.getstatic 1053, 3) := by decide +kernel
theorem dJ0_checkIndex_df160_5 : decode cJ0_checkIndex_df160 5 = .ok (.invokestatic 1059, 3) := by decide +kernel
theorem dJ0_checkIndex_df160_8 : decode cJ0_checkIndex_df160 8 = .ok (.pop, 1) := by decide +kernel
theorem dJ0_checkIndex_df160_9 : decode cJ0_checkIndex_df160 9 = .ok (.return_, 1) := by decide +kernel
theorem dJ1_charAt_3b067_0 : decode cJ1_charAt_3b067 0 = .ok (.iload_n 1, 1) := by decide +kernel
theorem dJ1_charAt_3b067_1 : decode cJ1_charAt_3b067 1 = .ok (.aload_n 0, 1) := by decide +kernel
theorem dJ1_charAt_3b067_2 : decode cJ1_charAt_3b067 2 = .ok (.arraylength, 1) := by decide +kernel
theorem dJ1_charAt_3b067_3 : decode cJ1_charAt_3b067 3 = .ok (.invokestatic 9, 3) := by decide +kernel
theorem dJ1_charAt_3b067_6 : decode cJ1_charAt_3b067 6 = .ok (.aload_n 0, 1) := by decide +kernel
theorem dJ1_charAt_3b067_7 : decode cJ1_charAt_3b067 7 = .ok (.iload_n 1, 1) := by decide +kernel
theorem dJ1_charAt_3b067_8 : decode cJ1_charAt_3b067 8 = .ok (.baload, 1) := by decide +kernel
theorem dJ1_charAt_3b067_9 : decode cJ1_charAt_3b067 9 = .ok (.sipush 255, 3) := by decide +kernel
theorem dJ1_charAt_3b067_12 : decode cJ1_charAt_3b067 12 = .ok (.iand, 1) := by decide +kernel
theorem dJ1_charAt_3b067_13 : decode cJ1_charAt_3b067 13 = .ok (.i2c, 1) := by decide +kernel
theorem dJ1_charAt_3b067_14 : decode cJ1_charAt_3b067 14 = .ok (.ireturn, 1) := by decide +kernel
theorem dJ7_fill_d0a16_0 : decode cJ7_fill_d0a16 0 = .ok (.iconst 0, 1) := by decide +kernel
theorem dJ7_fill_d0a16_1 : decode cJ7_fill_d0a16 1 = .ok (.istore_n 3, 1) := by decide +kernel
theorem dJ7_fill_d0a16_2 : decode cJ7_fill_d0a16 2 = .ok (.aload_n 0, 1) := by decide +kernel
theorem dJ7_fill_d0a16_3 : decode cJ7_fill_d0a16 3 = .ok (.arraylength, 1) := by decide +kernel
theorem dJ7_fill_d0a16_4 : decode cJ7_fill_d0a16 4 = .ok (.istore 4, 2) := by decide +kernel
theorem dJ7_fill_d0a16_6 : decode cJ7_fill_d0a16 6 = .ok (.iload_n 3, 1) := by decide +kernel
theorem dJ7_fill_d0a16_7 : decode cJ7_fill_d0a16 7 = .ok (.iload 4, 2) := by decide +kernel
theorem dJ7_fill_d0a16_9 : decode cJ7_fill_d0a16 9 = .ok (.if_icmp .ge 13, 3) := by decide +kernel
theorem dJ7_fill_d0a16_12 : decode cJ7_fill_d0a16 12 = .ok (.aload_n 0, 1) := by decide +kernel
theorem dJ7_fill_d0a16_13 : decode cJ7_fill_d0a16 13 = .ok (.iload_n 3, 1) := by decide +kernel
theorem dJ7_fill_d0a16_14 : decode cJ7_fill_d0a16 14 = .ok (.lload_n 1, 1) := by decide +kernel
theorem dJ7_fill_d0a16_15 : decode cJ7_fill_d0a16 15 = .ok (.lastore, 1) := by decide +kernel
theorem dJ7_fill_d0a16_16 : decode cJ7_fill_d0a16 16 = .ok (.iinc 3 1, 3) := by decide +kernel
theorem dJ7_fill_d0a16_19 : decode cJ7_fill_d0a16 19 = .ok (.goto (-13), 3) := by decide +kernel
theorem dJ7_fill_d0a16_22 : decode cJ7_fill_d0a16 22 = .ok (.return_, 1) := by decide +kernel
theorem dJ7_fill_53178_0 : decode cJ7_fill_53178 0 = .ok (.iconst 0, 1) := by decide +kernel
theorem dJ7_fill_53178_1 : decode cJ7_fill_53178 1 = .ok (.istore_n 2, 1) := by decide +kernel
theorem dJ7_fill_53178_2 : decode cJ7_fill_53178 2 = .ok (.aload_n 0, 1) := by decide +kernel
theorem dJ7_fill_53178_3 : decode cJ7_fill_53178 3 = .ok (.arraylength, 1) := by decide +kernel
theorem dJ7_fill_53178_4 : decode cJ7_fill_53178 4 = .ok (.istore_n 3, 1) := by decide +kernel
theorem dJ7_fill_53178_5 : decode cJ7_fill_53178 5 = .ok (.iload_n 2, 1) := by decide +kernel
theorem dJ7_fill_53178_6 : decode cJ7_fill_53178 6 = .ok (.iload_n 3, 1) := by decide +kernel
theorem dJ7_fill_53178_7 : decode cJ7_fill_53178 7 = .ok (.if_icmp .ge 13, 3) := by decide +kernel
theorem dJ7_fill_53178_10 : decode cJ7_fill_53178 10 = .ok (.aload_n 0, 1) := by decide +kernel
theorem dJ7_fill_53178_11 : decode cJ7_fill_53178 11 = .ok (.iload_n 2, 1) := by decide +kernel
theorem dJ7_fill_53178_12 : decode cJ7_fill_53178 12 = .ok (.iload_n 1, 1) := by decide +kernel
theorem dJ7_fill_53178_13 : decode cJ7_fill_53178 13 = .ok (.iastore, 1) := by decide +kernel
theorem dJ7_fill_53178_14 : decode cJ7_fill_53178 14 = .ok (.iinc 2 1, 3) := by decide +kernel
theorem dJ7_fill_53178_17 : decode cJ7_fill_53178 17 = .ok (.goto (-12), 3) := by decide +kernel
theorem dJ7_fill_53178_20 : decode cJ7_fill_53178 20 = .ok (.return_, 1) := by decide +kernel
theorem dJ3_checkIndex_8e157_0 : decode cJ3_checkIndex_8e157 0 = .ok (.iload_n 0, 1) := by decide +kernel
theorem dJ3_checkIndex_8e157_1 : decode cJ3_checkIndex_8e157 1 = .ok (.ifCond .lt 8, 3) := by decide +kernel
theorem dJ3_checkIndex_8e157_4 : decode cJ3_checkIndex_8e157 4 = .ok (.iload_n 0, 1) := by decide +kernel
theorem dJ3_checkIndex_8e157_5 : decode cJ3_checkIndex_8e157 5 = .ok (.iload_n 1, 1) := by decide +kernel
theorem dJ3_checkIndex_8e157_6 : decode cJ3_checkIndex_8e157 6 = .ok (.if_icmp .lt 10, 3) := by decide +kernel
theorem dJ3_checkIndex_8e157_9 : decode cJ3_checkIndex_8e157 9 = .ok (.aload_n 2, 1) := by decide +kernel
theorem dJ3_checkIndex_8e157_10 : decode cJ3_checkIndex_8e157 10 = .ok (.iload_n 0, 1) := by decide +kernel
theorem dJ3_checkIndex_8e157_11 : decode cJ3_checkIndex_8e157 11 = .ok (.iload_n 1, 1) := by decide +kernel
theorem dJ3_checkIndex_8e157_12 : decode cJ3_checkIndex_8e157 12 = .ok (.invokestatic 95, 3) := by decide +kernel
theorem dJ3_checkIndex_8e157_15 : decode cJ3_checkIndex_8e157 15 = .ok (.athrow, 1) := by decide +kernel
theorem dJ3_checkIndex_8e157_16 : decode cJ3_checkIndex_8e157 16 = .ok (.iload_n 0, 1) := by decide +kernel
theorem dJ3_checkIndex_8e157_17 : decode cJ3_checkIndex_8e157 17 = .ok (.ireturn, 1) := by decide +kernel
theorem dL_law_0 : decode cL_law 0 = .ok (.new 7, 3) := by decide +kernel
theorem dL_law_3 : decode cL_law 3 = .ok (.dup, 1) := by decide +kernel
theorem dL_law_4 : decode cL_law 4 = .ok (.invokespecial 9, 3) := by decide +kernel
theorem dL_law_7 : decode cL_law 7 = .ok (.astore_n 1, 1) := by decide +kernel
theorem dL_law_8 : decode cL_law 8 = .ok (.new 10, 3) := by decide +kernel
theorem dL_law_11 : decode cL_law 11 = .ok (.dup, 1) := by decide +kernel
theorem dL_law_12 : decode cL_law 12 = .ok (.invokespecial 12, 3) := by decide +kernel
theorem dL_law_15 : decode cL_law 15 = .ok (.astore_n 2, 1) := by decide +kernel
theorem dL_law_16 : decode cL_law 16 = .ok (.iconst 0, 1) := by decide +kernel
theorem dL_law_17 : decode cL_law 17 = .ok (.istore_n 3, 1) := by decide +kernel
theorem dL_law_18 : decode cL_law 18 = .ok (.iload_n 3, 1) := by decide +kernel
theorem dL_law_19 : decode cL_law 19 = .ok (.aload_n 0, 1) := by decide +kernel
theorem dL_law_20 : decode cL_law 20 = .ok (.arraylength, 1) := by decide +kernel
theorem dL_law_21 : decode cL_law 21 = .ok (.bipush 7, 2) := by decide +kernel
theorem dL_law_23 : decode cL_law 23 = .ok (.isub, 1) := by decide +kernel
theorem dL_law_24 : decode cL_law 24 = .ok (.if_icmp .gt 1556, 3) := by decide +kernel
theorem dL_law_27 : decode cL_law 27 = .ok (.aload_n 0, 1) := by decide +kernel
theorem dL_law_28 : decode cL_law 28 = .ok (.iload_n 3, 1) := by decide +kernel
theorem dL_law_29 : decode cL_law 29 = .ok (.iaload, 1) := by decide +kernel
theorem dL_law_30 : decode cL_law 30 = .ok (.bipush 63, 2) := by decide +kernel
theorem dL_law_32 : decode cL_law 32 = .ok (.iand, 1) := by decide +kernel
theorem dL_law_33 : decode cL_law 33 = .ok (.tableswitch 1541 0 37 #[167, 180, 223, 256, 269, 348, 391, 434, 477, 500, 523, 586, 609, 632, 655, 688, 763, 796, 829, 882, 925, 968, 1001, 1034, 1077, 1120, 1143, 1186, 1220, 1253, 1286, 1319, 1342, 1375, 1408, 1451, 1475, 1518], 167) := by decide +kernel
theorem dL_law_200 : decode cL_law 200 = .ok (.aload_n 1, 1) := by decide +kernel
theorem dL_law_201 : decode cL_law 201 = .ok (.invokevirtual 13, 3) := by decide +kernel
theorem dL_law_204 : decode cL_law 204 = .ok (.aload_n 2, 1) := by decide +kernel
theorem dL_law_205 : decode cL_law 205 = .ok (.invokevirtual 17, 3) := by decide +kernel
theorem dL_law_208 : decode cL_law 208 = .ok (.if_icmp .eq 1366, 3) := by decide +kernel
theorem dL_law_211 : decode cL_law 211 = .ok (.iconst 0, 1) := by decide +kernel
theorem dL_law_212 : decode cL_law 212 = .ok (.ireturn, 1) := by decide +kernel
theorem dL_law_213 : decode cL_law 213 = .ok (.aload_n 1, 1) := by decide +kernel
theorem dL_law_214 : decode cL_law 214 = .ok (.aload_n 0, 1) := by decide +kernel
theorem dL_law_215 : decode cL_law 215 = .ok (.iload_n 3, 1) := by decide +kernel
theorem dL_law_216 : decode cL_law 216 = .ok (.iconst 1, 1) := by decide +kernel
theorem dL_law_217 : decode cL_law 217 = .ok (.iadd, 1) := by decide +kernel
theorem dL_law_218 : decode cL_law 218 = .ok (.iaload, 1) := by decide +kernel
theorem dL_law_219 : decode cL_law 219 = .ok (.aload_n 0, 1) := by decide +kernel
theorem dL_law_220 : decode cL_law 220 = .ok (.iload_n 3, 1) := by decide +kernel
theorem dL_law_221 : decode cL_law 221 = .ok (.iconst 2, 1) := by decide +kernel
theorem dL_law_222 : decode cL_law 222 = .ok (.iadd, 1) := by decide +kernel
theorem dL_law_223 : decode cL_law 223 = .ok (.iaload, 1) := by decide +kernel
theorem dL_law_224 : decode cL_law 224 = .ok (.aload_n 0, 1) := by decide +kernel
theorem dL_law_225 : decode cL_law 225 = .ok (.iload_n 3, 1) := by decide +kernel
theorem dL_law_226 : decode cL_law 226 = .ok (.iconst 3, 1) := by decide +kernel
theorem dL_law_227 : decode cL_law 227 = .ok (.iadd, 1) := by decide +kernel
theorem dL_law_228 : decode cL_law 228 = .ok (.iaload, 1) := by decide +kernel
theorem dL_law_229 : decode cL_law 229 = .ok (.invokevirtual 18, 3) := by decide +kernel
theorem dL_law_232 : decode cL_law 232 = .ok (.aload_n 2, 1) := by decide +kernel
theorem dL_law_233 : decode cL_law 233 = .ok (.aload_n 0, 1) := by decide +kernel
theorem dL_law_234 : decode cL_law 234 = .ok (.iload_n 3, 1) := by decide +kernel
theorem dL_law_235 : decode cL_law 235 = .ok (.iconst 1, 1) := by decide +kernel
theorem dL_law_236 : decode cL_law 236 = .ok (.iadd, 1) := by decide +kernel
theorem dL_law_237 : decode cL_law 237 = .ok (.iaload, 1) := by decide +kernel
theorem dL_law_238 : decode cL_law 238 = .ok (.aload_n 0, 1) := by decide +kernel
theorem dL_law_239 : decode cL_law 239 = .ok (.iload_n 3, 1) := by decide +kernel
theorem dL_law_240 : decode cL_law 240 = .ok (.iconst 2, 1) := by decide +kernel
theorem dL_law_241 : decode cL_law 241 = .ok (.iadd, 1) := by decide +kernel
theorem dL_law_242 : decode cL_law 242 = .ok (.iaload, 1) := by decide +kernel
theorem dL_law_243 : decode cL_law 243 = .ok (.aload_n 0, 1) := by decide +kernel
theorem dL_law_244 : decode cL_law 244 = .ok (.iload_n 3, 1) := by decide +kernel
theorem dL_law_245 : decode cL_law 245 = .ok (.iconst 3, 1) := by decide +kernel
theorem dL_law_246 : decode cL_law 246 = .ok (.iadd, 1) := by decide +kernel
theorem dL_law_247 : decode cL_law 247 = .ok (.iaload, 1) := by decide +kernel
theorem dL_law_248 : decode cL_law 248 = .ok (.invokevirtual 22, 3) := by decide +kernel
theorem dL_law_251 : decode cL_law 251 = .ok (.if_icmp .eq 1323, 3) := by decide +kernel
theorem dL_law_254 : decode cL_law 254 = .ok (.iconst 0, 1) := by decide +kernel
theorem dL_law_255 : decode cL_law 255 = .ok (.ireturn, 1) := by decide +kernel
theorem dL_law_256 : decode cL_law 256 = .ok (.aload_n 1, 1) := by decide +kernel
theorem dL_law_257 : decode cL_law 257 = .ok (.aload_n 0, 1) := by decide +kernel
theorem dL_law_258 : decode cL_law 258 = .ok (.iload_n 3, 1) := by decide +kernel
theorem dL_law_259 : decode cL_law 259 = .ok (.iconst 1, 1) := by decide +kernel
theorem dL_law_260 : decode cL_law 260 = .ok (.iadd, 1) := by decide +kernel
theorem dL_law_261 : decode cL_law 261 = .ok (.iaload, 1) := by decide +kernel
theorem dL_law_262 : decode cL_law 262 = .ok (.aload_n 0, 1) := by decide +kernel
theorem dL_law_263 : decode cL_law 263 = .ok (.iload_n 3, 1) := by decide +kernel
theorem dL_law_264 : decode cL_law 264 = .ok (.iconst 2, 1) := by decide +kernel
theorem dL_law_265 : decode cL_law 265 = .ok (.iadd, 1) := by decide +kernel
theorem dL_law_266 : decode cL_law 266 = .ok (.iaload, 1) := by decide +kernel
theorem dL_law_267 : decode cL_law 267 = .ok (.invokevirtual 23, 3) := by decide +kernel
theorem dL_law_270 : decode cL_law 270 = .ok (.aload_n 2, 1) := by decide +kernel
theorem dL_law_271 : decode cL_law 271 = .ok (.aload_n 0, 1) := by decide +kernel
theorem dL_law_272 : decode cL_law 272 = .ok (.iload_n 3, 1) := by decide +kernel
theorem dL_law_273 : decode cL_law 273 = .ok (.iconst 1, 1) := by decide +kernel
theorem dL_law_274 : decode cL_law 274 = .ok (.iadd, 1) := by decide +kernel
theorem dL_law_275 : decode cL_law 275 = .ok (.iaload, 1) := by decide +kernel
theorem dL_law_276 : decode cL_law 276 = .ok (.aload_n 0, 1) := by decide +kernel
theorem dL_law_277 : decode cL_law 277 = .ok (.iload_n 3, 1) := by decide +kernel
theorem dL_law_278 : decode cL_law 278 = .ok (.iconst 2, 1) := by decide +kernel
theorem dL_law_279 : decode cL_law 279 = .ok (.iadd, 1) := by decide +kernel
theorem dL_law_280 : decode cL_law 280 = .ok (.iaload, 1) := by decide +kernel
theorem dL_law_281 : decode cL_law 281 = .ok (.invokevirtual 27, 3) := by decide +kernel
theorem dL_law_284 : decode cL_law 284 = .ok (.if_icmp .eq 1290, 3) := by decide +kernel
theorem dL_law_287 : decode cL_law 287 = .ok (.iconst 0, 1) := by decide +kernel
theorem dL_law_288 : decode cL_law 288 = .ok (.ireturn, 1) := by decide +kernel
theorem dL_law_289 : decode cL_law 289 = .ok (.aload_n 1, 1) := by decide +kernel
theorem dL_law_290 : decode cL_law 290 = .ok (.invokevirtual 28, 3) := by decide +kernel
theorem dL_law_293 : decode cL_law 293 = .ok (.aload_n 2, 1) := by decide +kernel
theorem dL_law_294 : decode cL_law 294 = .ok (.invokevirtual 31, 3) := by decide +kernel
theorem dL_law_297 : decode cL_law 297 = .ok (.if_icmp .eq 1277, 3) := by decide +kernel
theorem dL_law_300 : decode cL_law 300 = .ok (.iconst 0, 1) := by decide +kernel
theorem dL_law_301 : decode cL_law 301 = .ok (.ireturn, 1) := by decide +kernel
theorem dL_law_302 : decode cL_law 302 = .ok (.aload_n 1, 1) := by decide +kernel
theorem dL_law_303 : decode cL_law 303 = .ok (.aload_n 0, 1) := by decide +kernel
theorem dL_law_304 : decode cL_law 304 = .ok (.iload_n 3, 1) := by decide +kernel
theorem dL_law_305 : decode cL_law 305 = .ok (.iconst 1, 1) := by decide +kernel
theorem dL_law_306 : decode cL_law 306 = .ok (.iadd, 1) := by decide +kernel
theorem dL_law_307 : decode cL_law 307 = .ok (.iaload, 1) := by decide +kernel
theorem dL_law_308 : decode cL_law 308 = .ok (.aload_n 0, 1) := by decide +kernel
theorem dL_law_309 : decode cL_law 309 = .ok (.iload_n 3, 1) := by decide +kernel
theorem dL_law_310 : decode cL_law 310 = .ok (.iconst 2, 1) := by decide +kernel
theorem dL_law_311 : decode cL_law 311 = .ok (.iadd, 1) := by decide +kernel
theorem dL_law_312 : decode cL_law 312 = .ok (.iaload, 1) := by decide +kernel
theorem dL_law_313 : decode cL_law 313 = .ok (.aload_n 0, 1) := by decide +kernel
theorem dL_law_314 : decode cL_law 314 = .ok (.iload_n 3, 1) := by decide +kernel
theorem dL_law_315 : decode cL_law 315 = .ok (.iconst 3, 1) := by decide +kernel
theorem dL_law_316 : decode cL_law 316 = .ok (.iadd, 1) := by decide +kernel
theorem dL_law_317 : decode cL_law 317 = .ok (.iaload, 1) := by decide +kernel
theorem dL_law_318 : decode cL_law 318 = .ok (.aload_n 0, 1) := by decide +kernel
theorem dL_law_319 : decode cL_law 319 = .ok (.iload_n 3, 1) := by decide +kernel
theorem dL_law_320 : decode cL_law 320 = .ok (.iconst 4, 1) := by decide +kernel
theorem dL_law_321 : decode cL_law 321 = .ok (.iadd, 1) := by decide +kernel
theorem dL_law_322 : decode cL_law 322 = .ok (.iaload, 1) := by decide +kernel
theorem dL_law_323 : decode cL_law 323 = .ok (.aload_n 0, 1) := by decide +kernel
theorem dL_law_324 : decode cL_law 324 = .ok (.iload_n 3, 1) := by decide +kernel
theorem dL_law_325 : decode cL_law 325 = .ok (.iconst 5, 1) := by decide +kernel
theorem dL_law_326 : decode cL_law 326 = .ok (.iadd, 1) := by decide +kernel
theorem dL_law_327 : decode cL_law 327 = .ok (.iaload, 1) := by decide +kernel
theorem dL_law_328 : decode cL_law 328 = .ok (.ifCond .eq 7, 3) := by decide +kernel
theorem dL_law_331 : decode cL_law 331 = .ok (.iconst 1, 1) := by decide +kernel
theorem dL_law_332 : decode cL_law 332 = .ok (.goto 4, 3) := by decide +kernel
theorem dL_law_335 : decode cL_law 335 = .ok (.iconst 0, 1) := by decide +kernel
theorem dL_law_336 : decode cL_law 336 = .ok (.invokevirtual 32, 3) := by decide +kernel
theorem dL_law_339 : decode cL_law 339 = .ok (.aload_n 2, 1) := by decide +kernel
theorem dL_law_340 : decode cL_law 340 = .ok (.aload_n 0, 1) := by decide +kernel
theorem dL_law_341 : decode cL_law 341 = .ok (.iload_n 3, 1) := by decide +kernel
theorem dL_law_342 : decode cL_law 342 = .ok (.iconst 1, 1) := by decide +kernel
theorem dL_law_343 : decode cL_law 343 = .ok (.iadd, 1) := by decide +kernel
theorem dL_law_344 : decode cL_law 344 = .ok (.iaload, 1) := by decide +kernel
theorem dL_law_345 : decode cL_law 345 = .ok (.aload_n 0, 1) := by decide +kernel
theorem dL_law_346 : decode cL_law 346 = .ok (.iload_n 3, 1) := by decide +kernel
theorem dL_law_347 : decode cL_law 347 = .ok (.iconst 2, 1) := by decide +kernel
theorem dL_law_348 : decode cL_law 348 = .ok (.iadd, 1) := by decide +kernel
theorem dL_law_349 : decode cL_law 349 = .ok (.iaload, 1) := by decide +kernel
theorem dL_law_350 : decode cL_law 350 = .ok (.aload_n 0, 1) := by decide +kernel
theorem dL_law_351 : decode cL_law 351 = .ok (.iload_n 3, 1) := by decide +kernel
theorem dL_law_352 : decode cL_law 352 = .ok (.iconst 3, 1) := by decide +kernel
theorem dL_law_353 : decode cL_law 353 = .ok (.iadd, 1) := by decide +kernel
theorem dL_law_354 : decode cL_law 354 = .ok (.iaload, 1) := by decide +kernel
theorem dL_law_355 : decode cL_law 355 = .ok (.aload_n 0, 1) := by decide +kernel
theorem dL_law_356 : decode cL_law 356 = .ok (.iload_n 3, 1) := by decide +kernel
theorem dL_law_357 : decode cL_law 357 = .ok (.iconst 4, 1) := by decide +kernel
theorem dL_law_358 : decode cL_law 358 = .ok (.iadd, 1) := by decide +kernel
theorem dL_law_359 : decode cL_law 359 = .ok (.iaload, 1) := by decide +kernel
theorem dL_law_360 : decode cL_law 360 = .ok (.aload_n 0, 1) := by decide +kernel
theorem dL_law_361 : decode cL_law 361 = .ok (.iload_n 3, 1) := by decide +kernel
theorem dL_law_362 : decode cL_law 362 = .ok (.iconst 5, 1) := by decide +kernel
theorem dL_law_363 : decode cL_law 363 = .ok (.iadd, 1) := by decide +kernel
theorem dL_law_364 : decode cL_law 364 = .ok (.iaload, 1) := by decide +kernel
theorem dL_law_365 : decode cL_law 365 = .ok (.ifCond .eq 7, 3) := by decide +kernel
theorem dL_law_368 : decode cL_law 368 = .ok (.iconst 1, 1) := by decide +kernel
theorem dL_law_369 : decode cL_law 369 = .ok (.goto 4, 3) := by decide +kernel
theorem dL_law_372 : decode cL_law 372 = .ok (.iconst 0, 1) := by decide +kernel
theorem dL_law_373 : decode cL_law 373 = .ok (.invokevirtual 36, 3) := by decide +kernel
theorem dL_law_376 : decode cL_law 376 = .ok (.if_icmp .eq 1198, 3) := by decide +kernel
theorem dL_law_379 : decode cL_law 379 = .ok (.iconst 0, 1) := by decide +kernel
theorem dL_law_380 : decode cL_law 380 = .ok (.ireturn, 1) := by decide +kernel
theorem dL_law_381 : decode cL_law 381 = .ok (.aload_n 1, 1) := by decide +kernel
theorem dL_law_382 : decode cL_law 382 = .ok (.aload_n 0, 1) := by decide +kernel
theorem dL_law_383 : decode cL_law 383 = .ok (.iload_n 3, 1) := by decide +kernel
theorem dL_law_384 : decode cL_law 384 = .ok (.iconst 1, 1) := by decide +kernel
theorem dL_law_385 : decode cL_law 385 = .ok (.iadd, 1) := by decide +kernel
theorem dL_law_386 : decode cL_law 386 = .ok (.iaload, 1) := by decide +kernel
theorem dL_law_387 : decode cL_law 387 = .ok (.aload_n 0, 1) := by decide +kernel
theorem dL_law_388 : decode cL_law 388 = .ok (.iload_n 3, 1) := by decide +kernel
theorem dL_law_389 : decode cL_law 389 = .ok (.iconst 2, 1) := by decide +kernel
theorem dL_law_390 : decode cL_law 390 = .ok (.iadd, 1) := by decide +kernel
theorem dL_law_391 : decode cL_law 391 = .ok (.iaload, 1) := by decide +kernel
theorem dL_law_392 : decode cL_law 392 = .ok (.aload_n 0, 1) := by decide +kernel
theorem dL_law_393 : decode cL_law 393 = .ok (.iload_n 3, 1) := by decide +kernel
theorem dL_law_394 : decode cL_law 394 = .ok (.iconst 3, 1) := by decide +kernel
theorem dL_law_395 : decode cL_law 395 = .ok (.iadd, 1) := by decide +kernel
theorem dL_law_396 : decode cL_law 396 = .ok (.iaload, 1) := by decide +kernel
theorem dL_law_397 : decode cL_law 397 = .ok (.invokevirtual 37, 3) := by decide +kernel
theorem dL_law_400 : decode cL_law 400 = .ok (.aload_n 2, 1) := by decide +kernel
theorem dL_law_401 : decode cL_law 401 = .ok (.aload_n 0, 1) := by decide +kernel
theorem dL_law_402 : decode cL_law 402 = .ok (.iload_n 3, 1) := by decide +kernel
theorem dL_law_403 : decode cL_law 403 = .ok (.iconst 1, 1) := by decide +kernel
theorem dL_law_404 : decode cL_law 404 = .ok (.iadd, 1) := by decide +kernel
theorem dL_law_405 : decode cL_law 405 = .ok (.iaload, 1) := by decide +kernel
theorem dL_law_406 : decode cL_law 406 = .ok (.aload_n 0, 1) := by decide +kernel
theorem dL_law_407 : decode cL_law 407 = .ok (.iload_n 3, 1) := by decide +kernel
theorem dL_law_408 : decode cL_law 408 = .ok (.iconst 2, 1) := by decide +kernel
theorem dL_law_409 : decode cL_law 409 = .ok (.iadd, 1) := by decide +kernel
theorem dL_law_410 : decode cL_law 410 = .ok (.iaload, 1) := by decide +kernel
theorem dL_law_411 : decode cL_law 411 = .ok (.aload_n 0, 1) := by decide +kernel
theorem dL_law_412 : decode cL_law 412 = .ok (.iload_n 3, 1) := by decide +kernel
theorem dL_law_413 : decode cL_law 413 = .ok (.iconst 3, 1) := by decide +kernel
theorem dL_law_414 : decode cL_law 414 = .ok (.iadd, 1) := by decide +kernel
theorem dL_law_415 : decode cL_law 415 = .ok (.iaload, 1) := by decide +kernel
theorem dL_law_416 : decode cL_law 416 = .ok (.invokevirtual 41, 3) := by decide +kernel
theorem dL_law_419 : decode cL_law 419 = .ok (.if_icmp .eq 1155, 3) := by decide +kernel
theorem dL_law_422 : decode cL_law 422 = .ok (.iconst 0, 1) := by decide +kernel
theorem dL_law_423 : decode cL_law 423 = .ok (.ireturn, 1) := by decide +kernel
theorem dL_law_424 : decode cL_law 424 = .ok (.aload_n 1, 1) := by decide +kernel
theorem dL_law_425 : decode cL_law 425 = .ok (.aload_n 0, 1) := by decide +kernel
theorem dL_law_426 : decode cL_law 426 = .ok (.iload_n 3, 1) := by decide +kernel
theorem dL_law_427 : decode cL_law 427 = .ok (.iconst 1, 1) := by decide +kernel
theorem dL_law_428 : decode cL_law 428 = .ok (.iadd, 1) := by decide +kernel
theorem dL_law_429 : decode cL_law 429 = .ok (.iaload, 1) := by decide +kernel
theorem dL_law_430 : decode cL_law 430 = .ok (.aload_n 0, 1) := by decide +kernel
theorem dL_law_431 : decode cL_law 431 = .ok (.iload_n 3, 1) := by decide +kernel
theorem dL_law_432 : decode cL_law 432 = .ok (.iconst 2, 1) := by decide +kernel
theorem dL_law_433 : decode cL_law 433 = .ok (.iadd, 1) := by decide +kernel
theorem dL_law_434 : decode cL_law 434 = .ok (.iaload, 1) := by decide +kernel
theorem dL_law_435 : decode cL_law 435 = .ok (.aload_n 0, 1) := by decide +kernel
theorem dL_law_436 : decode cL_law 436 = .ok (.iload_n 3, 1) := by decide +kernel
theorem dL_law_437 : decode cL_law 437 = .ok (.iconst 3, 1) := by decide +kernel
theorem dL_law_438 : decode cL_law 438 = .ok (.iadd, 1) := by decide +kernel
theorem dL_law_439 : decode cL_law 439 = .ok (.iaload, 1) := by decide +kernel
theorem dL_law_440 : decode cL_law 440 = .ok (.invokevirtual 42, 3) := by decide +kernel
theorem dL_law_443 : decode cL_law 443 = .ok (.aload_n 2, 1) := by decide +kernel
theorem dL_law_444 : decode cL_law 444 = .ok (.aload_n 0, 1) := by decide +kernel
theorem dL_law_445 : decode cL_law 445 = .ok (.iload_n 3, 1) := by decide +kernel
theorem dL_law_446 : decode cL_law 446 = .ok (.iconst 1, 1) := by decide +kernel
theorem dL_law_447 : decode cL_law 447 = .ok (.iadd, 1) := by decide +kernel
theorem dL_law_448 : decode cL_law 448 = .ok (.iaload, 1) := by decide +kernel
theorem dL_law_449 : decode cL_law 449 = .ok (.aload_n 0, 1) := by decide +kernel
theorem dL_law_450 : decode cL_law 450 = .ok (.iload_n 3, 1) := by decide +kernel
theorem dL_law_451 : decode cL_law 451 = .ok (.iconst 2, 1) := by decide +kernel
theorem dL_law_452 : decode cL_law 452 = .ok (.iadd, 1) := by decide +kernel
theorem dL_law_453 : decode cL_law 453 = .ok (.iaload, 1) := by decide +kernel
theorem dL_law_454 : decode cL_law 454 = .ok (.aload_n 0, 1) := by decide +kernel
theorem dL_law_455 : decode cL_law 455 = .ok (.iload_n 3, 1) := by decide +kernel
theorem dL_law_456 : decode cL_law 456 = .ok (.iconst 3, 1) := by decide +kernel
theorem dL_law_457 : decode cL_law 457 = .ok (.iadd, 1) := by decide +kernel
theorem dL_law_458 : decode cL_law 458 = .ok (.iaload, 1) := by decide +kernel
theorem dL_law_459 : decode cL_law 459 = .ok (.invokevirtual 45, 3) := by decide +kernel
theorem dL_law_462 : decode cL_law 462 = .ok (.if_icmp .eq 1112, 3) := by decide +kernel
theorem dL_law_465 : decode cL_law 465 = .ok (.iconst 0, 1) := by decide +kernel
theorem dL_law_466 : decode cL_law 466 = .ok (.ireturn, 1) := by decide +kernel
theorem dL_law_467 : decode cL_law 467 = .ok (.aload_n 1, 1) := by decide +kernel
theorem dL_law_468 : decode cL_law 468 = .ok (.aload_n 0, 1) := by decide +kernel
theorem dL_law_469 : decode cL_law 469 = .ok (.iload_n 3, 1) := by decide +kernel
theorem dL_law_470 : decode cL_law 470 = .ok (.iconst 1, 1) := by decide +kernel
theorem dL_law_471 : decode cL_law 471 = .ok (.iadd, 1) := by decide +kernel
theorem dL_law_472 : decode cL_law 472 = .ok (.iaload, 1) := by decide +kernel
theorem dL_law_473 : decode cL_law 473 = .ok (.aload_n 0, 1) := by decide +kernel
theorem dL_law_474 : decode cL_law 474 = .ok (.iload_n 3, 1) := by decide +kernel
theorem dL_law_475 : decode cL_law 475 = .ok (.iconst 2, 1) := by decide +kernel
theorem dL_law_476 : decode cL_law 476 = .ok (.iadd, 1) := by decide +kernel
theorem dL_law_477 : decode cL_law 477 = .ok (.iaload, 1) := by decide +kernel
theorem dL_law_478 : decode cL_law 478 = .ok (.aload_n 0, 1) := by decide +kernel
theorem dL_law_479 : decode cL_law 479 = .ok (.iload_n 3, 1) := by decide +kernel
theorem dL_law_480 : decode cL_law 480 = .ok (.iconst 3, 1) := by decide +kernel
theorem dL_law_481 : decode cL_law 481 = .ok (.iadd, 1) := by decide +kernel
theorem dL_law_482 : decode cL_law 482 = .ok (.iaload, 1) := by decide +kernel
theorem dL_law_483 : decode cL_law 483 = .ok (.invokevirtual 46, 3) := by decide +kernel
theorem dL_law_486 : decode cL_law 486 = .ok (.aload_n 2, 1) := by decide +kernel
theorem dL_law_487 : decode cL_law 487 = .ok (.aload_n 0, 1) := by decide +kernel
theorem dL_law_488 : decode cL_law 488 = .ok (.iload_n 3, 1) := by decide +kernel
theorem dL_law_489 : decode cL_law 489 = .ok (.iconst 1, 1) := by decide +kernel
theorem dL_law_490 : decode cL_law 490 = .ok (.iadd, 1) := by decide +kernel
theorem dL_law_491 : decode cL_law 491 = .ok (.iaload, 1) := by decide +kernel
theorem dL_law_492 : decode cL_law 492 = .ok (.aload_n 0, 1) := by decide +kernel
theorem dL_law_493 : decode cL_law 493 = .ok (.iload_n 3, 1) := by decide +kernel
theorem dL_law_494 : decode cL_law 494 = .ok (.iconst 2, 1) := by decide +kernel
theorem dL_law_495 : decode cL_law 495 = .ok (.iadd, 1) := by decide +kernel
theorem dL_law_496 : decode cL_law 496 = .ok (.iaload, 1) := by decide +kernel
theorem dL_law_497 : decode cL_law 497 = .ok (.aload_n 0, 1) := by decide +kernel
theorem dL_law_498 : decode cL_law 498 = .ok (.iload_n 3, 1) := by decide +kernel
theorem dL_law_499 : decode cL_law 499 = .ok (.iconst 3, 1) := by decide +kernel
theorem dL_law_500 : decode cL_law 500 = .ok (.iadd, 1) := by decide +kernel
theorem dL_law_501 : decode cL_law 501 = .ok (.iaload, 1) := by decide +kernel
theorem dL_law_502 : decode cL_law 502 = .ok (.invokevirtual 49, 3) := by decide +kernel
theorem dL_law_505 : decode cL_law 505 = .ok (.if_icmp .eq 1069, 3) := by decide +kernel
theorem dL_law_508 : decode cL_law 508 = .ok (.iconst 0, 1) := by decide +kernel
theorem dL_law_509 : decode cL_law 509 = .ok (.ireturn, 1) := by decide +kernel
theorem dL_law_510 : decode cL_law 510 = .ok (.aload_n 1, 1) := by decide +kernel
theorem dL_law_511 : decode cL_law 511 = .ok (.aload_n 0, 1) := by decide +kernel
theorem dL_law_512 : decode cL_law 512 = .ok (.iload_n 3, 1) := by decide +kernel
theorem dL_law_513 : decode cL_law 513 = .ok (.iconst 1, 1) := by decide +kernel
theorem dL_law_514 : decode cL_law 514 = .ok (.iadd, 1) := by decide +kernel
theorem dL_law_515 : decode cL_law 515 = .ok (.iaload, 1) := by decide +kernel
theorem dL_law_516 : decode cL_law 516 = .ok (.invokevirtual 50, 3) := by decide +kernel
theorem dL_law_519 : decode cL_law 519 = .ok (.aload_n 2, 1) := by decide +kernel
theorem dL_law_520 : decode cL_law 520 = .ok (.aload_n 0, 1) := by decide +kernel
theorem dL_law_521 : decode cL_law 521 = .ok (.iload_n 3, 1) := by decide +kernel
theorem dL_law_522 : decode cL_law 522 = .ok (.iconst 1, 1) := by decide +kernel
theorem dL_law_523 : decode cL_law 523 = .ok (.iadd, 1) := by decide +kernel
theorem dL_law_524 : decode cL_law 524 = .ok (.iaload, 1) := by decide +kernel
theorem dL_law_525 : decode cL_law 525 = .ok (.invokevirtual 54, 3) := by decide +kernel
theorem dL_law_528 : decode cL_law 528 = .ok (.if_icmp .eq 1046, 3) := by decide +kernel
theorem dL_law_531 : decode cL_law 531 = .ok (.iconst 0, 1) := by decide +kernel
theorem dL_law_532 : decode cL_law 532 = .ok (.ireturn, 1) := by decide +kernel
theorem dL_law_533 : decode cL_law 533 = .ok (.aload_n 1, 1) := by decide +kernel
theorem dL_law_534 : decode cL_law 534 = .ok (.aload_n 0, 1) := by decide +kernel
theorem dL_law_535 : decode cL_law 535 = .ok (.iload_n 3, 1) := by decide +kernel
theorem dL_law_536 : decode cL_law 536 = .ok (.iconst 1, 1) := by decide +kernel
theorem dL_law_537 : decode cL_law 537 = .ok (.iadd, 1) := by decide +kernel
theorem dL_law_538 : decode cL_law 538 = .ok (.iaload, 1) := by decide +kernel
theorem dL_law_539 : decode cL_law 539 = .ok (.invokevirtual 55, 3) := by decide +kernel
theorem dL_law_542 : decode cL_law 542 = .ok (.aload_n 2, 1) := by decide +kernel
theorem dL_law_543 : decode cL_law 543 = .ok (.aload_n 0, 1) := by decide +kernel
theorem dL_law_544 : decode cL_law 544 = .ok (.iload_n 3, 1) := by decide +kernel
theorem dL_law_545 : decode cL_law 545 = .ok (.iconst 1, 1) := by decide +kernel
theorem dL_law_546 : decode cL_law 546 = .ok (.iadd, 1) := by decide +kernel
theorem dL_law_547 : decode cL_law 547 = .ok (.iaload, 1) := by decide +kernel
theorem dL_law_548 : decode cL_law 548 = .ok (.invokevirtual 58, 3) := by decide +kernel
theorem dL_law_551 : decode cL_law 551 = .ok (.if_icmp .eq 1023, 3) := by decide +kernel
theorem dL_law_554 : decode cL_law 554 = .ok (.iconst 0, 1) := by decide +kernel
theorem dL_law_555 : decode cL_law 555 = .ok (.ireturn, 1) := by decide +kernel
theorem dL_law_556 : decode cL_law 556 = .ok (.aload_n 1, 1) := by decide +kernel
theorem dL_law_557 : decode cL_law 557 = .ok (.aload_n 0, 1) := by decide +kernel
theorem dL_law_558 : decode cL_law 558 = .ok (.iload_n 3, 1) := by decide +kernel
theorem dL_law_559 : decode cL_law 559 = .ok (.iconst 1, 1) := by decide +kernel
theorem dL_law_560 : decode cL_law 560 = .ok (.iadd, 1) := by decide +kernel
theorem dL_law_561 : decode cL_law 561 = .ok (.iaload, 1) := by decide +kernel
theorem dL_law_562 : decode cL_law 562 = .ok (.aload_n 0, 1) := by decide +kernel
theorem dL_law_563 : decode cL_law 563 = .ok (.iload_n 3, 1) := by decide +kernel
theorem dL_law_564 : decode cL_law 564 = .ok (.iconst 2, 1) := by decide +kernel
theorem dL_law_565 : decode cL_law 565 = .ok (.iadd, 1) := by decide +kernel
theorem dL_law_566 : decode cL_law 566 = .ok (.iaload, 1) := by decide +kernel
theorem dL_law_567 : decode cL_law 567 = .ok (.aload_n 0, 1) := by decide +kernel
theorem dL_law_568 : decode cL_law 568 = .ok (.iload_n 3, 1) := by decide +kernel
theorem dL_law_569 : decode cL_law 569 = .ok (.iconst 3, 1) := by decide +kernel
theorem dL_law_570 : decode cL_law 570 = .ok (.iadd, 1) := by decide +kernel
theorem dL_law_571 : decode cL_law 571 = .ok (.iaload, 1) := by decide +kernel
theorem dL_law_572 : decode cL_law 572 = .ok (.aload_n 0, 1) := by decide +kernel
theorem dL_law_573 : decode cL_law 573 = .ok (.iload_n 3, 1) := by decide +kernel
theorem dL_law_574 : decode cL_law 574 = .ok (.iconst 4, 1) := by decide +kernel
theorem dL_law_575 : decode cL_law 575 = .ok (.iadd, 1) := by decide +kernel
theorem dL_law_576 : decode cL_law 576 = .ok (.iaload, 1) := by decide +kernel
theorem dL_law_577 : decode cL_law 577 = .ok (.aload_n 0, 1) := by decide +kernel
theorem dL_law_578 : decode cL_law 578 = .ok (.iload_n 3, 1) := by decide +kernel
theorem dL_law_579 : decode cL_law 579 = .ok (.iconst 5, 1) := by decide +kernel
theorem dL_law_580 : decode cL_law 580 = .ok (.iadd, 1) := by decide +kernel
theorem dL_law_581 : decode cL_law 581 = .ok (.iaload, 1) := by decide +kernel
theorem dL_law_582 : decode cL_law 582 = .ok (.invokevirtual 59, 3) := by decide +kernel
theorem dL_law_585 : decode cL_law 585 = .ok (.aload_n 2, 1) := by decide +kernel
theorem dL_law_586 : decode cL_law 586 = .ok (.aload_n 0, 1) := by decide +kernel
theorem dL_law_587 : decode cL_law 587 = .ok (.iload_n 3, 1) := by decide +kernel
theorem dL_law_588 : decode cL_law 588 = .ok (.iconst 1, 1) := by decide +kernel
theorem dL_law_589 : decode cL_law 589 = .ok (.iadd, 1) := by decide +kernel
theorem dL_law_590 : decode cL_law 590 = .ok (.iaload, 1) := by decide +kernel
theorem dL_law_591 : decode cL_law 591 = .ok (.aload_n 0, 1) := by decide +kernel
theorem dL_law_592 : decode cL_law 592 = .ok (.iload_n 3, 1) := by decide +kernel
theorem dL_law_593 : decode cL_law 593 = .ok (.iconst 2, 1) := by decide +kernel
theorem dL_law_594 : decode cL_law 594 = .ok (.iadd, 1) := by decide +kernel
theorem dL_law_595 : decode cL_law 595 = .ok (.iaload, 1) := by decide +kernel
theorem dL_law_596 : decode cL_law 596 = .ok (.aload_n 0, 1) := by decide +kernel
theorem dL_law_597 : decode cL_law 597 = .ok (.iload_n 3, 1) := by decide +kernel
theorem dL_law_598 : decode cL_law 598 = .ok (.iconst 3, 1) := by decide +kernel
theorem dL_law_599 : decode cL_law 599 = .ok (.iadd, 1) := by decide +kernel
theorem dL_law_600 : decode cL_law 600 = .ok (.iaload, 1) := by decide +kernel
theorem dL_law_601 : decode cL_law 601 = .ok (.aload_n 0, 1) := by decide +kernel
theorem dL_law_602 : decode cL_law 602 = .ok (.iload_n 3, 1) := by decide +kernel
theorem dL_law_603 : decode cL_law 603 = .ok (.iconst 4, 1) := by decide +kernel
theorem dL_law_604 : decode cL_law 604 = .ok (.iadd, 1) := by decide +kernel
theorem dL_law_605 : decode cL_law 605 = .ok (.iaload, 1) := by decide +kernel
theorem dL_law_606 : decode cL_law 606 = .ok (.aload_n 0, 1) := by decide +kernel
theorem dL_law_607 : decode cL_law 607 = .ok (.iload_n 3, 1) := by decide +kernel
theorem dL_law_608 : decode cL_law 608 = .ok (.iconst 5, 1) := by decide +kernel
theorem dL_law_609 : decode cL_law 609 = .ok (.iadd, 1) := by decide +kernel
theorem dL_law_610 : decode cL_law 610 = .ok (.iaload, 1) := by decide +kernel
theorem dL_law_611 : decode cL_law 611 = .ok (.invokevirtual 63, 3) := by decide +kernel
theorem dL_law_614 : decode cL_law 614 = .ok (.if_icmp .eq 960, 3) := by decide +kernel
theorem dL_law_617 : decode cL_law 617 = .ok (.iconst 0, 1) := by decide +kernel
theorem dL_law_618 : decode cL_law 618 = .ok (.ireturn, 1) := by decide +kernel
theorem dL_law_619 : decode cL_law 619 = .ok (.aload_n 1, 1) := by decide +kernel
theorem dL_law_620 : decode cL_law 620 = .ok (.aload_n 0, 1) := by decide +kernel
theorem dL_law_621 : decode cL_law 621 = .ok (.iload_n 3, 1) := by decide +kernel
theorem dL_law_622 : decode cL_law 622 = .ok (.iconst 1, 1) := by decide +kernel
theorem dL_law_623 : decode cL_law 623 = .ok (.iadd, 1) := by decide +kernel
theorem dL_law_624 : decode cL_law 624 = .ok (.iaload, 1) := by decide +kernel
theorem dL_law_625 : decode cL_law 625 = .ok (.invokevirtual 64, 3) := by decide +kernel
theorem dL_law_628 : decode cL_law 628 = .ok (.aload_n 2, 1) := by decide +kernel
theorem dL_law_629 : decode cL_law 629 = .ok (.aload_n 0, 1) := by decide +kernel
theorem dL_law_630 : decode cL_law 630 = .ok (.iload_n 3, 1) := by decide +kernel
theorem dL_law_631 : decode cL_law 631 = .ok (.iconst 1, 1) := by decide +kernel
theorem dL_law_632 : decode cL_law 632 = .ok (.iadd, 1) := by decide +kernel
theorem dL_law_633 : decode cL_law 633 = .ok (.iaload, 1) := by decide +kernel
theorem dL_law_634 : decode cL_law 634 = .ok (.invokevirtual 68, 3) := by decide +kernel
theorem dL_law_637 : decode cL_law 637 = .ok (.if_icmp .eq 937, 3) := by decide +kernel
theorem dL_law_640 : decode cL_law 640 = .ok (.iconst 0, 1) := by decide +kernel
theorem dL_law_641 : decode cL_law 641 = .ok (.ireturn, 1) := by decide +kernel
theorem dL_law_642 : decode cL_law 642 = .ok (.aload_n 1, 1) := by decide +kernel
theorem dL_law_643 : decode cL_law 643 = .ok (.aload_n 0, 1) := by decide +kernel
theorem dL_law_644 : decode cL_law 644 = .ok (.iload_n 3, 1) := by decide +kernel
theorem dL_law_645 : decode cL_law 645 = .ok (.iconst 1, 1) := by decide +kernel
theorem dL_law_646 : decode cL_law 646 = .ok (.iadd, 1) := by decide +kernel
theorem dL_law_647 : decode cL_law 647 = .ok (.iaload, 1) := by decide +kernel
theorem dL_law_648 : decode cL_law 648 = .ok (.invokevirtual 69, 3) := by decide +kernel
theorem dL_law_651 : decode cL_law 651 = .ok (.aload_n 2, 1) := by decide +kernel
theorem dL_law_652 : decode cL_law 652 = .ok (.aload_n 0, 1) := by decide +kernel
theorem dL_law_653 : decode cL_law 653 = .ok (.iload_n 3, 1) := by decide +kernel
theorem dL_law_654 : decode cL_law 654 = .ok (.iconst 1, 1) := by decide +kernel
theorem dL_law_655 : decode cL_law 655 = .ok (.iadd, 1) := by decide +kernel
theorem dL_law_656 : decode cL_law 656 = .ok (.iaload, 1) := by decide +kernel
theorem dL_law_657 : decode cL_law 657 = .ok (.invokevirtual 72, 3) := by decide +kernel
theorem dL_law_660 : decode cL_law 660 = .ok (.if_icmp .eq 914, 3) := by decide +kernel
theorem dL_law_663 : decode cL_law 663 = .ok (.iconst 0, 1) := by decide +kernel
theorem dL_law_664 : decode cL_law 664 = .ok (.ireturn, 1) := by decide +kernel
theorem dL_law_665 : decode cL_law 665 = .ok (.aload_n 1, 1) := by decide +kernel
theorem dL_law_666 : decode cL_law 666 = .ok (.aload_n 0, 1) := by decide +kernel
theorem dL_law_667 : decode cL_law 667 = .ok (.iload_n 3, 1) := by decide +kernel
theorem dL_law_668 : decode cL_law 668 = .ok (.iconst 1, 1) := by decide +kernel
theorem dL_law_669 : decode cL_law 669 = .ok (.iadd, 1) := by decide +kernel
theorem dL_law_670 : decode cL_law 670 = .ok (.iaload, 1) := by decide +kernel
theorem dL_law_671 : decode cL_law 671 = .ok (.invokevirtual 73, 3) := by decide +kernel
theorem dL_law_674 : decode cL_law 674 = .ok (.aload_n 2, 1) := by decide +kernel
theorem dL_law_675 : decode cL_law 675 = .ok (.aload_n 0, 1) := by decide +kernel
theorem dL_law_676 : decode cL_law 676 = .ok (.iload_n 3, 1) := by decide +kernel
theorem dL_law_677 : decode cL_law 677 = .ok (.iconst 1, 1) := by decide +kernel
theorem dL_law_678 : decode cL_law 678 = .ok (.iadd, 1) := by decide +kernel
theorem dL_law_679 : decode cL_law 679 = .ok (.iaload, 1) := by decide +kernel
theorem dL_law_680 : decode cL_law 680 = .ok (.invokevirtual 76, 3) := by decide +kernel
theorem dL_law_683 : decode cL_law 683 = .ok (.if_icmp .eq 891, 3) := by decide +kernel
theorem dL_law_686 : decode cL_law 686 = .ok (.iconst 0, 1) := by decide +kernel
theorem dL_law_687 : decode cL_law 687 = .ok (.ireturn, 1) := by decide +kernel
theorem dL_law_688 : decode cL_law 688 = .ok (.aload_n 1, 1) := by decide +kernel
theorem dL_law_689 : decode cL_law 689 = .ok (.aload_n 0, 1) := by decide +kernel
theorem dL_law_690 : decode cL_law 690 = .ok (.iload_n 3, 1) := by decide +kernel
theorem dL_law_691 : decode cL_law 691 = .ok (.iconst 1, 1) := by decide +kernel
theorem dL_law_692 : decode cL_law 692 = .ok (.iadd, 1) := by decide +kernel
theorem dL_law_693 : decode cL_law 693 = .ok (.iaload, 1) := by decide +kernel
theorem dL_law_694 : decode cL_law 694 = .ok (.aload_n 0, 1) := by decide +kernel
theorem dL_law_695 : decode cL_law 695 = .ok (.iload_n 3, 1) := by decide +kernel
theorem dL_law_696 : decode cL_law 696 = .ok (.iconst 2, 1) := by decide +kernel
theorem dL_law_697 : decode cL_law 697 = .ok (.iadd, 1) := by decide +kernel
theorem dL_law_698 : decode cL_law 698 = .ok (.iaload, 1) := by decide +kernel
theorem dL_law_699 : decode cL_law 699 = .ok (.invokevirtual 77, 3) := by decide +kernel
theorem dL_law_702 : decode cL_law 702 = .ok (.aload_n 2, 1) := by decide +kernel
theorem dL_law_703 : decode cL_law 703 = .ok (.aload_n 0, 1) := by decide +kernel
theorem dL_law_704 : decode cL_law 704 = .ok (.iload_n 3, 1) := by decide +kernel
theorem dL_law_705 : decode cL_law 705 = .ok (.iconst 1, 1) := by decide +kernel
theorem dL_law_706 : decode cL_law 706 = .ok (.iadd, 1) := by decide +kernel
theorem dL_law_707 : decode cL_law 707 = .ok (.iaload, 1) := by decide +kernel
theorem dL_law_708 : decode cL_law 708 = .ok (.aload_n 0, 1) := by decide +kernel
theorem dL_law_709 : decode cL_law 709 = .ok (.iload_n 3, 1) := by decide +kernel
theorem dL_law_710 : decode cL_law 710 = .ok (.iconst 2, 1) := by decide +kernel
theorem dL_law_711 : decode cL_law 711 = .ok (.iadd, 1) := by decide +kernel
theorem dL_law_712 : decode cL_law 712 = .ok (.iaload, 1) := by decide +kernel
theorem dL_law_713 : decode cL_law 713 = .ok (.invokevirtual 80, 3) := by decide +kernel
theorem dL_law_716 : decode cL_law 716 = .ok (.if_icmp .eq 858, 3) := by decide +kernel
theorem dL_law_719 : decode cL_law 719 = .ok (.iconst 0, 1) := by decide +kernel
theorem dL_law_720 : decode cL_law 720 = .ok (.ireturn, 1) := by decide +kernel
theorem dL_law_721 : decode cL_law 721 = .ok (.aload_n 1, 1) := by decide +kernel
theorem dL_law_722 : decode cL_law 722 = .ok (.aload_n 0, 1) := by decide +kernel
theorem dL_law_723 : decode cL_law 723 = .ok (.iload_n 3, 1) := by decide +kernel
theorem dL_law_724 : decode cL_law 724 = .ok (.iconst 1, 1) := by decide +kernel
theorem dL_law_725 : decode cL_law 725 = .ok (.iadd, 1) := by decide +kernel
theorem dL_law_726 : decode cL_law 726 = .ok (.iaload, 1) := by decide +kernel
theorem dL_law_727 : decode cL_law 727 = .ok (.aload_n 0, 1) := by decide +kernel
theorem dL_law_728 : decode cL_law 728 = .ok (.iload_n 3, 1) := by decide +kernel
theorem dL_law_729 : decode cL_law 729 = .ok (.iconst 2, 1) := by decide +kernel
theorem dL_law_730 : decode cL_law 730 = .ok (.iadd, 1) := by decide +kernel
theorem dL_law_731 : decode cL_law 731 = .ok (.iaload, 1) := by decide +kernel
theorem dL_law_732 : decode cL_law 732 = .ok (.aload_n 0, 1) := by decide +kernel
theorem dL_law_733 : decode cL_law 733 = .ok (.iload_n 3, 1) := by decide +kernel
theorem dL_law_734 : decode cL_law 734 = .ok (.iconst 3, 1) := by decide +kernel
theorem dL_law_735 : decode cL_law 735 = .ok (.iadd, 1) := by decide +kernel
theorem dL_law_736 : decode cL_law 736 = .ok (.iaload, 1) := by decide +kernel
theorem dL_law_737 : decode cL_law 737 = .ok (.aload_n 0, 1) := by decide +kernel
theorem dL_law_738 : decode cL_law 738 = .ok (.iload_n 3, 1) := by decide +kernel
theorem dL_law_739 : decode cL_law 739 = .ok (.iconst 4, 1) := by decide +kernel
theorem dL_law_740 : decode cL_law 740 = .ok (.iadd, 1) := by decide +kernel
theorem dL_law_741 : decode cL_law 741 = .ok (.iaload, 1) := by decide +kernel
theorem dL_law_742 : decode cL_law 742 = .ok (.aload_n 0, 1) := by decide +kernel
theorem dL_law_743 : decode cL_law 743 = .ok (.iload_n 3, 1) := by decide +kernel
theorem dL_law_744 : decode cL_law 744 = .ok (.iconst 5, 1) := by decide +kernel
theorem dL_law_745 : decode cL_law 745 = .ok (.iadd, 1) := by decide +kernel
theorem dL_law_746 : decode cL_law 746 = .ok (.iaload, 1) := by decide +kernel
theorem dL_law_747 : decode cL_law 747 = .ok (.aload_n 0, 1) := by decide +kernel
theorem dL_law_748 : decode cL_law 748 = .ok (.iload_n 3, 1) := by decide +kernel
theorem dL_law_749 : decode cL_law 749 = .ok (.bipush 6, 2) := by decide +kernel
theorem dL_law_751 : decode cL_law 751 = .ok (.iadd, 1) := by decide +kernel
theorem dL_law_752 : decode cL_law 752 = .ok (.iaload, 1) := by decide +kernel
theorem dL_law_753 : decode cL_law 753 = .ok (.invokevirtual 81, 3) := by decide +kernel
theorem dL_law_756 : decode cL_law 756 = .ok (.aload_n 2, 1) := by decide +kernel
theorem dL_law_757 : decode cL_law 757 = .ok (.aload_n 0, 1) := by decide +kernel
theorem dL_law_758 : decode cL_law 758 = .ok (.iload_n 3, 1) := by decide +kernel
theorem dL_law_759 : decode cL_law 759 = .ok (.iconst 1, 1) := by decide +kernel
theorem dL_law_760 : decode cL_law 760 = .ok (.iadd, 1) := by decide +kernel
theorem dL_law_761 : decode cL_law 761 = .ok (.iaload, 1) := by decide +kernel
theorem dL_law_762 : decode cL_law 762 = .ok (.aload_n 0, 1) := by decide +kernel
theorem dL_law_763 : decode cL_law 763 = .ok (.iload_n 3, 1) := by decide +kernel
theorem dL_law_764 : decode cL_law 764 = .ok (.iconst 2, 1) := by decide +kernel
theorem dL_law_765 : decode cL_law 765 = .ok (.iadd, 1) := by decide +kernel
theorem dL_law_766 : decode cL_law 766 = .ok (.iaload, 1) := by decide +kernel
theorem dL_law_767 : decode cL_law 767 = .ok (.aload_n 0, 1) := by decide +kernel
theorem dL_law_768 : decode cL_law 768 = .ok (.iload_n 3, 1) := by decide +kernel
theorem dL_law_769 : decode cL_law 769 = .ok (.iconst 3, 1) := by decide +kernel
theorem dL_law_770 : decode cL_law 770 = .ok (.iadd, 1) := by decide +kernel
theorem dL_law_771 : decode cL_law 771 = .ok (.iaload, 1) := by decide +kernel
theorem dL_law_772 : decode cL_law 772 = .ok (.aload_n 0, 1) := by decide +kernel
theorem dL_law_773 : decode cL_law 773 = .ok (.iload_n 3, 1) := by decide +kernel
theorem dL_law_774 : decode cL_law 774 = .ok (.iconst 4, 1) := by decide +kernel
theorem dL_law_775 : decode cL_law 775 = .ok (.iadd, 1) := by decide +kernel
theorem dL_law_776 : decode cL_law 776 = .ok (.iaload, 1) := by decide +kernel
theorem dL_law_777 : decode cL_law 777 = .ok (.aload_n 0, 1) := by decide +kernel
theorem dL_law_778 : decode cL_law 778 = .ok (.iload_n 3, 1) := by decide +kernel
theorem dL_law_779 : decode cL_law 779 = .ok (.iconst 5, 1) := by decide +kernel
theorem dL_law_780 : decode cL_law 780 = .ok (.iadd, 1) := by decide +kernel
theorem dL_law_781 : decode cL_law 781 = .ok (.iaload, 1) := by decide +kernel
theorem dL_law_782 : decode cL_law 782 = .ok (.aload_n 0, 1) := by decide +kernel
theorem dL_law_783 : decode cL_law 783 = .ok (.iload_n 3, 1) := by decide +kernel
theorem dL_law_784 : decode cL_law 784 = .ok (.bipush 6, 2) := by decide +kernel
theorem dL_law_786 : decode cL_law 786 = .ok (.iadd, 1) := by decide +kernel
theorem dL_law_787 : decode cL_law 787 = .ok (.iaload, 1) := by decide +kernel
theorem dL_law_788 : decode cL_law 788 = .ok (.invokevirtual 85, 3) := by decide +kernel
theorem dL_law_791 : decode cL_law 791 = .ok (.if_icmp .eq 783, 3) := by decide +kernel
theorem dL_law_794 : decode cL_law 794 = .ok (.iconst 0, 1) := by decide +kernel
theorem dL_law_795 : decode cL_law 795 = .ok (.ireturn, 1) := by decide +kernel
theorem dL_law_796 : decode cL_law 796 = .ok (.aload_n 1, 1) := by decide +kernel
theorem dL_law_797 : decode cL_law 797 = .ok (.aload_n 0, 1) := by decide +kernel
theorem dL_law_798 : decode cL_law 798 = .ok (.iload_n 3, 1) := by decide +kernel
theorem dL_law_799 : decode cL_law 799 = .ok (.iconst 1, 1) := by decide +kernel
theorem dL_law_800 : decode cL_law 800 = .ok (.iadd, 1) := by decide +kernel
theorem dL_law_801 : decode cL_law 801 = .ok (.iaload, 1) := by decide +kernel
theorem dL_law_802 : decode cL_law 802 = .ok (.aload_n 0, 1) := by decide +kernel
theorem dL_law_803 : decode cL_law 803 = .ok (.iload_n 3, 1) := by decide +kernel
theorem dL_law_804 : decode cL_law 804 = .ok (.iconst 2, 1) := by decide +kernel
theorem dL_law_805 : decode cL_law 805 = .ok (.iadd, 1) := by decide +kernel
theorem dL_law_806 : decode cL_law 806 = .ok (.iaload, 1) := by decide +kernel
theorem dL_law_807 : decode cL_law 807 = .ok (.invokevirtual 86, 3) := by decide +kernel
theorem dL_law_810 : decode cL_law 810 = .ok (.aload_n 2, 1) := by decide +kernel
theorem dL_law_811 : decode cL_law 811 = .ok (.aload_n 0, 1) := by decide +kernel
theorem dL_law_812 : decode cL_law 812 = .ok (.iload_n 3, 1) := by decide +kernel
theorem dL_law_813 : decode cL_law 813 = .ok (.iconst 1, 1) := by decide +kernel
theorem dL_law_814 : decode cL_law 814 = .ok (.iadd, 1) := by decide +kernel
theorem dL_law_815 : decode cL_law 815 = .ok (.iaload, 1) := by decide +kernel
theorem dL_law_816 : decode cL_law 816 = .ok (.aload_n 0, 1) := by decide +kernel
theorem dL_law_817 : decode cL_law 817 = .ok (.iload_n 3, 1) := by decide +kernel
theorem dL_law_818 : decode cL_law 818 = .ok (.iconst 2, 1) := by decide +kernel
theorem dL_law_819 : decode cL_law 819 = .ok (.iadd, 1) := by decide +kernel
theorem dL_law_820 : decode cL_law 820 = .ok (.iaload, 1) := by decide +kernel
theorem dL_law_821 : decode cL_law 821 = .ok (.invokevirtual 89, 3) := by decide +kernel
theorem dL_law_824 : decode cL_law 824 = .ok (.if_icmp .eq 750, 3) := by decide +kernel
theorem dL_law_827 : decode cL_law 827 = .ok (.iconst 0, 1) := by decide +kernel
theorem dL_law_828 : decode cL_law 828 = .ok (.ireturn, 1) := by decide +kernel
theorem dL_law_829 : decode cL_law 829 = .ok (.aload_n 1, 1) := by decide +kernel
theorem dL_law_830 : decode cL_law 830 = .ok (.aload_n 0, 1) := by decide +kernel
theorem dL_law_831 : decode cL_law 831 = .ok (.iload_n 3, 1) := by decide +kernel
theorem dL_law_832 : decode cL_law 832 = .ok (.iconst 1, 1) := by decide +kernel
theorem dL_law_833 : decode cL_law 833 = .ok (.iadd, 1) := by decide +kernel
theorem dL_law_834 : decode cL_law 834 = .ok (.iaload, 1) := by decide +kernel
theorem dL_law_835 : decode cL_law 835 = .ok (.aload_n 0, 1) := by decide +kernel
theorem dL_law_836 : decode cL_law 836 = .ok (.iload_n 3, 1) := by decide +kernel
theorem dL_law_837 : decode cL_law 837 = .ok (.iconst 2, 1) := by decide +kernel
theorem dL_law_838 : decode cL_law 838 = .ok (.iadd, 1) := by decide +kernel
theorem dL_law_839 : decode cL_law 839 = .ok (.iaload, 1) := by decide +kernel
theorem dL_law_840 : decode cL_law 840 = .ok (.invokevirtual 90, 3) := by decide +kernel
theorem dL_law_843 : decode cL_law 843 = .ok (.aload_n 2, 1) := by decide +kernel
theorem dL_law_844 : decode cL_law 844 = .ok (.aload_n 0, 1) := by decide +kernel
theorem dL_law_845 : decode cL_law 845 = .ok (.iload_n 3, 1) := by decide +kernel
theorem dL_law_846 : decode cL_law 846 = .ok (.iconst 1, 1) := by decide +kernel
theorem dL_law_847 : decode cL_law 847 = .ok (.iadd, 1) := by decide +kernel
theorem dL_law_848 : decode cL_law 848 = .ok (.iaload, 1) := by decide +kernel
theorem dL_law_849 : decode cL_law 849 = .ok (.aload_n 0, 1) := by decide +kernel
theorem dL_law_850 : decode cL_law 850 = .ok (.iload_n 3, 1) := by decide +kernel
theorem dL_law_851 : decode cL_law 851 = .ok (.iconst 2, 1) := by decide +kernel
theorem dL_law_852 : decode cL_law 852 = .ok (.iadd, 1) := by decide +kernel
theorem dL_law_853 : decode cL_law 853 = .ok (.iaload, 1) := by decide +kernel
theorem dL_law_854 : decode cL_law 854 = .ok (.invokevirtual 93, 3) := by decide +kernel
theorem dL_law_857 : decode cL_law 857 = .ok (.if_icmp .eq 717, 3) := by decide +kernel
theorem dL_law_860 : decode cL_law 860 = .ok (.iconst 0, 1) := by decide +kernel
theorem dL_law_861 : decode cL_law 861 = .ok (.ireturn, 1) := by decide +kernel
theorem dL_law_862 : decode cL_law 862 = .ok (.aload_n 1, 1) := by decide +kernel
theorem dL_law_863 : decode cL_law 863 = .ok (.aload_n 0, 1) := by decide +kernel
theorem dL_law_864 : decode cL_law 864 = .ok (.iload_n 3, 1) := by decide +kernel
theorem dL_law_865 : decode cL_law 865 = .ok (.iconst 1, 1) := by decide +kernel
theorem dL_law_866 : decode cL_law 866 = .ok (.iadd, 1) := by decide +kernel
theorem dL_law_867 : decode cL_law 867 = .ok (.iaload, 1) := by decide +kernel
theorem dL_law_868 : decode cL_law 868 = .ok (.aload_n 0, 1) := by decide +kernel
theorem dL_law_869 : decode cL_law 869 = .ok (.iload_n 3, 1) := by decide +kernel
theorem dL_law_870 : decode cL_law 870 = .ok (.iconst 2, 1) := by decide +kernel
theorem dL_law_871 : decode cL_law 871 = .ok (.iadd, 1) := by decide +kernel
theorem dL_law_872 : decode cL_law 872 = .ok (.iaload, 1) := by decide +kernel
theorem dL_law_873 : decode cL_law 873 = .ok (.aload_n 0, 1) := by decide +kernel
theorem dL_law_874 : decode cL_law 874 = .ok (.iload_n 3, 1) := by decide +kernel
theorem dL_law_875 : decode cL_law 875 = .ok (.iconst 3, 1) := by decide +kernel
theorem dL_law_876 : decode cL_law 876 = .ok (.iadd, 1) := by decide +kernel
theorem dL_law_877 : decode cL_law 877 = .ok (.iaload, 1) := by decide +kernel
theorem dL_law_878 : decode cL_law 878 = .ok (.aload_n 0, 1) := by decide +kernel
theorem dL_law_879 : decode cL_law 879 = .ok (.iload_n 3, 1) := by decide +kernel
theorem dL_law_880 : decode cL_law 880 = .ok (.iconst 4, 1) := by decide +kernel
theorem dL_law_881 : decode cL_law 881 = .ok (.iadd, 1) := by decide +kernel
theorem dL_law_882 : decode cL_law 882 = .ok (.iaload, 1) := by decide +kernel
theorem dL_law_883 : decode cL_law 883 = .ok (.invokevirtual 94, 3) := by decide +kernel
theorem dL_law_886 : decode cL_law 886 = .ok (.aload_n 2, 1) := by decide +kernel
theorem dL_law_887 : decode cL_law 887 = .ok (.aload_n 0, 1) := by decide +kernel
theorem dL_law_888 : decode cL_law 888 = .ok (.iload_n 3, 1) := by decide +kernel
theorem dL_law_889 : decode cL_law 889 = .ok (.iconst 1, 1) := by decide +kernel
theorem dL_law_890 : decode cL_law 890 = .ok (.iadd, 1) := by decide +kernel
theorem dL_law_891 : decode cL_law 891 = .ok (.iaload, 1) := by decide +kernel
theorem dL_law_892 : decode cL_law 892 = .ok (.aload_n 0, 1) := by decide +kernel
theorem dL_law_893 : decode cL_law 893 = .ok (.iload_n 3, 1) := by decide +kernel
theorem dL_law_894 : decode cL_law 894 = .ok (.iconst 2, 1) := by decide +kernel
theorem dL_law_895 : decode cL_law 895 = .ok (.iadd, 1) := by decide +kernel
theorem dL_law_896 : decode cL_law 896 = .ok (.iaload, 1) := by decide +kernel
theorem dL_law_897 : decode cL_law 897 = .ok (.aload_n 0, 1) := by decide +kernel
theorem dL_law_898 : decode cL_law 898 = .ok (.iload_n 3, 1) := by decide +kernel
theorem dL_law_899 : decode cL_law 899 = .ok (.iconst 3, 1) := by decide +kernel
theorem dL_law_900 : decode cL_law 900 = .ok (.iadd, 1) := by decide +kernel
theorem dL_law_901 : decode cL_law 901 = .ok (.iaload, 1) := by decide +kernel
theorem dL_law_902 : decode cL_law 902 = .ok (.aload_n 0, 1) := by decide +kernel
theorem dL_law_903 : decode cL_law 903 = .ok (.iload_n 3, 1) := by decide +kernel
theorem dL_law_904 : decode cL_law 904 = .ok (.iconst 4, 1) := by decide +kernel
theorem dL_law_905 : decode cL_law 905 = .ok (.iadd, 1) := by decide +kernel
theorem dL_law_906 : decode cL_law 906 = .ok (.iaload, 1) := by decide +kernel
theorem dL_law_907 : decode cL_law 907 = .ok (.invokevirtual 98, 3) := by decide +kernel
theorem dL_law_910 : decode cL_law 910 = .ok (.if_icmp .eq 664, 3) := by decide +kernel
theorem dL_law_913 : decode cL_law 913 = .ok (.iconst 0, 1) := by decide +kernel
theorem dL_law_914 : decode cL_law 914 = .ok (.ireturn, 1) := by decide +kernel
theorem dL_law_915 : decode cL_law 915 = .ok (.aload_n 1, 1) := by decide +kernel
theorem dL_law_916 : decode cL_law 916 = .ok (.aload_n 0, 1) := by decide +kernel
theorem dL_law_917 : decode cL_law 917 = .ok (.iload_n 3, 1) := by decide +kernel
theorem dL_law_918 : decode cL_law 918 = .ok (.iconst 1, 1) := by decide +kernel
theorem dL_law_919 : decode cL_law 919 = .ok (.iadd, 1) := by decide +kernel
theorem dL_law_920 : decode cL_law 920 = .ok (.iaload, 1) := by decide +kernel
theorem dL_law_921 : decode cL_law 921 = .ok (.aload_n 0, 1) := by decide +kernel
theorem dL_law_922 : decode cL_law 922 = .ok (.iload_n 3, 1) := by decide +kernel
theorem dL_law_923 : decode cL_law 923 = .ok (.iconst 2, 1) := by decide +kernel
theorem dL_law_924 : decode cL_law 924 = .ok (.iadd, 1) := by decide +kernel
theorem dL_law_925 : decode cL_law 925 = .ok (.iaload, 1) := by decide +kernel
theorem dL_law_926 : decode cL_law 926 = .ok (.aload_n 0, 1) := by decide +kernel
theorem dL_law_927 : decode cL_law 927 = .ok (.iload_n 3, 1) := by decide +kernel
theorem dL_law_928 : decode cL_law 928 = .ok (.iconst 3, 1) := by decide +kernel
theorem dL_law_929 : decode cL_law 929 = .ok (.iadd, 1) := by decide +kernel
theorem dL_law_930 : decode cL_law 930 = .ok (.iaload, 1) := by decide +kernel
theorem dL_law_931 : decode cL_law 931 = .ok (.invokevirtual 99, 3) := by decide +kernel
theorem dL_law_934 : decode cL_law 934 = .ok (.aload_n 2, 1) := by decide +kernel
theorem dL_law_935 : decode cL_law 935 = .ok (.aload_n 0, 1) := by decide +kernel
theorem dL_law_936 : decode cL_law 936 = .ok (.iload_n 3, 1) := by decide +kernel
theorem dL_law_937 : decode cL_law 937 = .ok (.iconst 1, 1) := by decide +kernel
theorem dL_law_938 : decode cL_law 938 = .ok (.iadd, 1) := by decide +kernel
theorem dL_law_939 : decode cL_law 939 = .ok (.iaload, 1) := by decide +kernel
theorem dL_law_940 : decode cL_law 940 = .ok (.aload_n 0, 1) := by decide +kernel
theorem dL_law_941 : decode cL_law 941 = .ok (.iload_n 3, 1) := by decide +kernel
theorem dL_law_942 : decode cL_law 942 = .ok (.iconst 2, 1) := by decide +kernel
theorem dL_law_943 : decode cL_law 943 = .ok (.iadd, 1) := by decide +kernel
theorem dL_law_944 : decode cL_law 944 = .ok (.iaload, 1) := by decide +kernel
theorem dL_law_945 : decode cL_law 945 = .ok (.aload_n 0, 1) := by decide +kernel
theorem dL_law_946 : decode cL_law 946 = .ok (.iload_n 3, 1) := by decide +kernel
theorem dL_law_947 : decode cL_law 947 = .ok (.iconst 3, 1) := by decide +kernel
theorem dL_law_948 : decode cL_law 948 = .ok (.iadd, 1) := by decide +kernel
theorem dL_law_949 : decode cL_law 949 = .ok (.iaload, 1) := by decide +kernel
theorem dL_law_950 : decode cL_law 950 = .ok (.invokevirtual 102, 3) := by decide +kernel
theorem dL_law_953 : decode cL_law 953 = .ok (.if_icmp .eq 621, 3) := by decide +kernel
theorem dL_law_956 : decode cL_law 956 = .ok (.iconst 0, 1) := by decide +kernel
theorem dL_law_957 : decode cL_law 957 = .ok (.ireturn, 1) := by decide +kernel
theorem dL_law_958 : decode cL_law 958 = .ok (.aload_n 1, 1) := by decide +kernel
theorem dL_law_959 : decode cL_law 959 = .ok (.aload_n 0, 1) := by decide +kernel
theorem dL_law_960 : decode cL_law 960 = .ok (.iload_n 3, 1) := by decide +kernel
theorem dL_law_961 : decode cL_law 961 = .ok (.iconst 1, 1) := by decide +kernel
theorem dL_law_962 : decode cL_law 962 = .ok (.iadd, 1) := by decide +kernel
theorem dL_law_963 : decode cL_law 963 = .ok (.iaload, 1) := by decide +kernel
theorem dL_law_964 : decode cL_law 964 = .ok (.aload_n 0, 1) := by decide +kernel
theorem dL_law_965 : decode cL_law 965 = .ok (.iload_n 3, 1) := by decide +kernel
theorem dL_law_966 : decode cL_law 966 = .ok (.iconst 2, 1) := by decide +kernel
theorem dL_law_967 : decode cL_law 967 = .ok (.iadd, 1) := by decide +kernel
theorem dL_law_968 : decode cL_law 968 = .ok (.iaload, 1) := by decide +kernel
theorem dL_law_969 : decode cL_law 969 = .ok (.aload_n 0, 1) := by decide +kernel
theorem dL_law_970 : decode cL_law 970 = .ok (.iload_n 3, 1) := by decide +kernel
theorem dL_law_971 : decode cL_law 971 = .ok (.iconst 3, 1) := by decide +kernel
theorem dL_law_972 : decode cL_law 972 = .ok (.iadd, 1) := by decide +kernel
theorem dL_law_973 : decode cL_law 973 = .ok (.iaload, 1) := by decide +kernel
theorem dL_law_974 : decode cL_law 974 = .ok (.invokevirtual 103, 3) := by decide +kernel
theorem dL_law_977 : decode cL_law 977 = .ok (.aload_n 2, 1) := by decide +kernel
theorem dL_law_978 : decode cL_law 978 = .ok (.aload_n 0, 1) := by decide +kernel
theorem dL_law_979 : decode cL_law 979 = .ok (.iload_n 3, 1) := by decide +kernel
theorem dL_law_980 : decode cL_law 980 = .ok (.iconst 1, 1) := by decide +kernel
theorem dL_law_981 : decode cL_law 981 = .ok (.iadd, 1) := by decide +kernel
theorem dL_law_982 : decode cL_law 982 = .ok (.iaload, 1) := by decide +kernel
theorem dL_law_983 : decode cL_law 983 = .ok (.aload_n 0, 1) := by decide +kernel
theorem dL_law_984 : decode cL_law 984 = .ok (.iload_n 3, 1) := by decide +kernel
theorem dL_law_985 : decode cL_law 985 = .ok (.iconst 2, 1) := by decide +kernel
theorem dL_law_986 : decode cL_law 986 = .ok (.iadd, 1) := by decide +kernel
theorem dL_law_987 : decode cL_law 987 = .ok (.iaload, 1) := by decide +kernel
theorem dL_law_988 : decode cL_law 988 = .ok (.aload_n 0, 1) := by decide +kernel
theorem dL_law_989 : decode cL_law 989 = .ok (.iload_n 3, 1) := by decide +kernel
theorem dL_law_990 : decode cL_law 990 = .ok (.iconst 3, 1) := by decide +kernel
theorem dL_law_991 : decode cL_law 991 = .ok (.iadd, 1) := by decide +kernel
theorem dL_law_992 : decode cL_law 992 = .ok (.iaload, 1) := by decide +kernel
theorem dL_law_993 : decode cL_law 993 = .ok (.invokevirtual 106, 3) := by decide +kernel
theorem dL_law_996 : decode cL_law 996 = .ok (.if_icmp .eq 578, 3) := by decide +kernel
theorem dL_law_999 : decode cL_law 999 = .ok (.iconst 0, 1) := by decide +kernel
theorem dL_law_1000 : decode cL_law 1000 = .ok (.ireturn, 1) := by decide +kernel
theorem dL_law_1001 : decode cL_law 1001 = .ok (.aload_n 1, 1) := by decide +kernel
theorem dL_law_1002 : decode cL_law 1002 = .ok (.aload_n 0, 1) := by decide +kernel
theorem dL_law_1003 : decode cL_law 1003 = .ok (.iload_n 3, 1) := by decide +kernel
theorem dL_law_1004 : decode cL_law 1004 = .ok (.iconst 1, 1) := by decide +kernel
theorem dL_law_1005 : decode cL_law 1005 = .ok (.iadd, 1) := by decide +kernel
theorem dL_law_1006 : decode cL_law 1006 = .ok (.iaload, 1) := by decide +kernel
theorem dL_law_1007 : decode cL_law 1007 = .ok (.aload_n 0, 1) := by decide +kernel
theorem dL_law_1008 : decode cL_law 1008 = .ok (.iload_n 3, 1) := by decide +kernel
theorem dL_law_1009 : decode cL_law 1009 = .ok (.iconst 2, 1) := by decide +kernel
theorem dL_law_1010 : decode cL_law 1010 = .ok (.iadd, 1) := by decide +kernel
theorem dL_law_1011 : decode cL_law 1011 = .ok (.iaload, 1) := by decide +kernel
theorem dL_law_1012 : decode cL_law 1012 = .ok (.invokevirtual 107, 3) := by decide +kernel
theorem dL_law_1015 : decode cL_law 1015 = .ok (.aload_n 2, 1) := by decide +kernel
theorem dL_law_1016 : decode cL_law 1016 = .ok (.aload_n 0, 1) := by decide +kernel
theorem dL_law_1017 : decode cL_law 1017 = .ok (.iload_n 3, 1) := by decide +kernel
theorem dL_law_1018 : decode cL_law 1018 = .ok (.iconst 1, 1) := by decide +kernel
theorem dL_law_1019 : decode cL_law 1019 = .ok (.iadd, 1) := by decide +kernel
theorem dL_law_1020 : decode cL_law 1020 = .ok (.iaload, 1) := by decide +kernel
theorem dL_law_1021 : decode cL_law 1021 = .ok (.aload_n 0, 1) := by decide +kernel
theorem dL_law_1022 : decode cL_law 1022 = .ok (.iload_n 3, 1) := by decide +kernel
theorem dL_law_1023 : decode cL_law 1023 = .ok (.iconst 2, 1) := by decide +kernel
theorem dL_law_1024 : decode cL_law 1024 = .ok (.iadd, 1) := by decide +kernel
theorem dL_law_1025 : decode cL_law 1025 = .ok (.iaload, 1) := by decide +kernel
theorem dL_law_1026 : decode cL_law 1026 = .ok (.invokevirtual 110, 3) := by decide +kernel
theorem dL_law_1029 : decode cL_law 1029 = .ok (.if_icmp .eq 545, 3) := by decide +kernel
theorem dL_law_1032 : decode cL_law 1032 = .ok (.iconst 0, 1) := by decide +kernel
theorem dL_law_1033 : decode cL_law 1033 = .ok (.ireturn, 1) := by decide +kernel
theorem dL_law_1034 : decode cL_law 1034 = .ok (.aload_n 1, 1) := by decide +kernel
theorem dL_law_1035 : decode cL_law 1035 = .ok (.aload_n 0, 1) := by decide +kernel
theorem dL_law_1036 : decode cL_law 1036 = .ok (.iload_n 3, 1) := by decide +kernel
theorem dL_law_1037 : decode cL_law 1037 = .ok (.iconst 1, 1) := by decide +kernel
theorem dL_law_1038 : decode cL_law 1038 = .ok (.iadd, 1) := by decide +kernel
theorem dL_law_1039 : decode cL_law 1039 = .ok (.iaload, 1) := by decide +kernel
theorem dL_law_1040 : decode cL_law 1040 = .ok (.aload_n 0, 1) := by decide +kernel
theorem dL_law_1041 : decode cL_law 1041 = .ok (.iload_n 3, 1) := by decide +kernel
theorem dL_law_1042 : decode cL_law 1042 = .ok (.iconst 2, 1) := by decide +kernel
theorem dL_law_1043 : decode cL_law 1043 = .ok (.iadd, 1) := by decide +kernel
theorem dL_law_1044 : decode cL_law 1044 = .ok (.iaload, 1) := by decide +kernel
theorem dL_law_1045 : decode cL_law 1045 = .ok (.invokevirtual 111, 3) := by decide +kernel
theorem dL_law_1048 : decode cL_law 1048 = .ok (.aload_n 2, 1) := by decide +kernel
theorem dL_law_1049 : decode cL_law 1049 = .ok (.aload_n 0, 1) := by decide +kernel
theorem dL_law_1050 : decode cL_law 1050 = .ok (.iload_n 3, 1) := by decide +kernel
theorem dL_law_1051 : decode cL_law 1051 = .ok (.iconst 1, 1) := by decide +kernel
theorem dL_law_1052 : decode cL_law 1052 = .ok (.iadd, 1) := by decide +kernel
theorem dL_law_1053 : decode cL_law 1053 = .ok (.iaload, 1) := by decide +kernel
theorem dL_law_1054 : decode cL_law 1054 = .ok (.aload_n 0, 1) := by decide +kernel
theorem dL_law_1055 : decode cL_law 1055 = .ok (.iload_n 3, 1) := by decide +kernel
theorem dL_law_1056 : decode cL_law 1056 = .ok (.iconst 2, 1) := by decide +kernel
theorem dL_law_1057 : decode cL_law 1057 = .ok (.iadd, 1) := by decide +kernel
theorem dL_law_1058 : decode cL_law 1058 = .ok (.iaload, 1) := by decide +kernel
theorem dL_law_1059 : decode cL_law 1059 = .ok (.invokevirtual 115, 3) := by decide +kernel
theorem dL_law_1062 : decode cL_law 1062 = .ok (.if_icmp .eq 512, 3) := by decide +kernel
theorem dL_law_1065 : decode cL_law 1065 = .ok (.iconst 0, 1) := by decide +kernel
theorem dL_law_1066 : decode cL_law 1066 = .ok (.ireturn, 1) := by decide +kernel
theorem dL_law_1067 : decode cL_law 1067 = .ok (.aload_n 1, 1) := by decide +kernel
theorem dL_law_1068 : decode cL_law 1068 = .ok (.aload_n 0, 1) := by decide +kernel
theorem dL_law_1069 : decode cL_law 1069 = .ok (.iload_n 3, 1) := by decide +kernel
theorem dL_law_1070 : decode cL_law 1070 = .ok (.iconst 1, 1) := by decide +kernel
theorem dL_law_1071 : decode cL_law 1071 = .ok (.iadd, 1) := by decide +kernel
theorem dL_law_1072 : decode cL_law 1072 = .ok (.iaload, 1) := by decide +kernel
theorem dL_law_1073 : decode cL_law 1073 = .ok (.aload_n 0, 1) := by decide +kernel
theorem dL_law_1074 : decode cL_law 1074 = .ok (.iload_n 3, 1) := by decide +kernel
theorem dL_law_1075 : decode cL_law 1075 = .ok (.iconst 2, 1) := by decide +kernel
theorem dL_law_1076 : decode cL_law 1076 = .ok (.iadd, 1) := by decide +kernel
theorem dL_law_1077 : decode cL_law 1077 = .ok (.iaload, 1) := by decide +kernel
theorem dL_law_1078 : decode cL_law 1078 = .ok (.aload_n 0, 1) := by decide +kernel
theorem dL_law_1079 : decode cL_law 1079 = .ok (.iload_n 3, 1) := by decide +kernel
theorem dL_law_1080 : decode cL_law 1080 = .ok (.iconst 3, 1) := by decide +kernel
theorem dL_law_1081 : decode cL_law 1081 = .ok (.iadd, 1) := by decide +kernel
theorem dL_law_1082 : decode cL_law 1082 = .ok (.iaload, 1) := by decide +kernel
theorem dL_law_1083 : decode cL_law 1083 = .ok (.invokevirtual 116, 3) := by decide +kernel
theorem dL_law_1086 : decode cL_law 1086 = .ok (.aload_n 2, 1) := by decide +kernel
theorem dL_law_1087 : decode cL_law 1087 = .ok (.aload_n 0, 1) := by decide +kernel
theorem dL_law_1088 : decode cL_law 1088 = .ok (.iload_n 3, 1) := by decide +kernel
theorem dL_law_1089 : decode cL_law 1089 = .ok (.iconst 1, 1) := by decide +kernel
theorem dL_law_1090 : decode cL_law 1090 = .ok (.iadd, 1) := by decide +kernel
theorem dL_law_1091 : decode cL_law 1091 = .ok (.iaload, 1) := by decide +kernel
theorem dL_law_1092 : decode cL_law 1092 = .ok (.aload_n 0, 1) := by decide +kernel
theorem dL_law_1093 : decode cL_law 1093 = .ok (.iload_n 3, 1) := by decide +kernel
theorem dL_law_1094 : decode cL_law 1094 = .ok (.iconst 2, 1) := by decide +kernel
theorem dL_law_1095 : decode cL_law 1095 = .ok (.iadd, 1) := by decide +kernel
theorem dL_law_1096 : decode cL_law 1096 = .ok (.iaload, 1) := by decide +kernel
theorem dL_law_1097 : decode cL_law 1097 = .ok (.aload_n 0, 1) := by decide +kernel
theorem dL_law_1098 : decode cL_law 1098 = .ok (.iload_n 3, 1) := by decide +kernel
theorem dL_law_1099 : decode cL_law 1099 = .ok (.iconst 3, 1) := by decide +kernel
theorem dL_law_1100 : decode cL_law 1100 = .ok (.iadd, 1) := by decide +kernel
theorem dL_law_1101 : decode cL_law 1101 = .ok (.iaload, 1) := by decide +kernel
theorem dL_law_1102 : decode cL_law 1102 = .ok (.invokevirtual 119, 3) := by decide +kernel
theorem dL_law_1105 : decode cL_law 1105 = .ok (.if_icmp .eq 469, 3) := by decide +kernel
theorem dL_law_1108 : decode cL_law 1108 = .ok (.iconst 0, 1) := by decide +kernel
theorem dL_law_1109 : decode cL_law 1109 = .ok (.ireturn, 1) := by decide +kernel
theorem dL_law_1110 : decode cL_law 1110 = .ok (.aload_n 1, 1) := by decide +kernel
theorem dL_law_1111 : decode cL_law 1111 = .ok (.aload_n 0, 1) := by decide +kernel
theorem dL_law_1112 : decode cL_law 1112 = .ok (.iload_n 3, 1) := by decide +kernel
theorem dL_law_1113 : decode cL_law 1113 = .ok (.iconst 1, 1) := by decide +kernel
theorem dL_law_1114 : decode cL_law 1114 = .ok (.iadd, 1) := by decide +kernel
theorem dL_law_1115 : decode cL_law 1115 = .ok (.iaload, 1) := by decide +kernel
theorem dL_law_1116 : decode cL_law 1116 = .ok (.aload_n 0, 1) := by decide +kernel
theorem dL_law_1117 : decode cL_law 1117 = .ok (.iload_n 3, 1) := by decide +kernel
theorem dL_law_1118 : decode cL_law 1118 = .ok (.iconst 2, 1) := by decide +kernel
theorem dL_law_1119 : decode cL_law 1119 = .ok (.iadd, 1) := by decide +kernel
theorem dL_law_1120 : decode cL_law 1120 = .ok (.iaload, 1) := by decide +kernel
theorem dL_law_1121 : decode cL_law 1121 = .ok (.aload_n 0, 1) := by decide +kernel
theorem dL_law_1122 : decode cL_law 1122 = .ok (.iload_n 3, 1) := by decide +kernel
theorem dL_law_1123 : decode cL_law 1123 = .ok (.iconst 3, 1) := by decide +kernel
theorem dL_law_1124 : decode cL_law 1124 = .ok (.iadd, 1) := by decide +kernel
theorem dL_law_1125 : decode cL_law 1125 = .ok (.iaload, 1) := by decide +kernel
theorem dL_law_1126 : decode cL_law 1126 = .ok (.invokevirtual 120, 3) := by decide +kernel
theorem dL_law_1129 : decode cL_law 1129 = .ok (.aload_n 2, 1) := by decide +kernel
theorem dL_law_1130 : decode cL_law 1130 = .ok (.aload_n 0, 1) := by decide +kernel
theorem dL_law_1131 : decode cL_law 1131 = .ok (.iload_n 3, 1) := by decide +kernel
theorem dL_law_1132 : decode cL_law 1132 = .ok (.iconst 1, 1) := by decide +kernel
theorem dL_law_1133 : decode cL_law 1133 = .ok (.iadd, 1) := by decide +kernel
theorem dL_law_1134 : decode cL_law 1134 = .ok (.iaload, 1) := by decide +kernel
theorem dL_law_1135 : decode cL_law 1135 = .ok (.aload_n 0, 1) := by decide +kernel
theorem dL_law_1136 : decode cL_law 1136 = .ok (.iload_n 3, 1) := by decide +kernel
theorem dL_law_1137 : decode cL_law 1137 = .ok (.iconst 2, 1) := by decide +kernel
theorem dL_law_1138 : decode cL_law 1138 = .ok (.iadd, 1) := by decide +kernel
theorem dL_law_1139 : decode cL_law 1139 = .ok (.iaload, 1) := by decide +kernel
theorem dL_law_1140 : decode cL_law 1140 = .ok (.aload_n 0, 1) := by decide +kernel
theorem dL_law_1141 : decode cL_law 1141 = .ok (.iload_n 3, 1) := by decide +kernel
theorem dL_law_1142 : decode cL_law 1142 = .ok (.iconst 3, 1) := by decide +kernel
theorem dL_law_1143 : decode cL_law 1143 = .ok (.iadd, 1) := by decide +kernel
theorem dL_law_1144 : decode cL_law 1144 = .ok (.iaload, 1) := by decide +kernel
theorem dL_law_1145 : decode cL_law 1145 = .ok (.invokevirtual 123, 3) := by decide +kernel
theorem dL_law_1148 : decode cL_law 1148 = .ok (.if_icmp .eq 426, 3) := by decide +kernel
theorem dL_law_1151 : decode cL_law 1151 = .ok (.iconst 0, 1) := by decide +kernel
theorem dL_law_1152 : decode cL_law 1152 = .ok (.ireturn, 1) := by decide +kernel
theorem dL_law_1153 : decode cL_law 1153 = .ok (.aload_n 1, 1) := by decide +kernel
theorem dL_law_1154 : decode cL_law 1154 = .ok (.aload_n 0, 1) := by decide +kernel
theorem dL_law_1155 : decode cL_law 1155 = .ok (.iload_n 3, 1) := by decide +kernel
theorem dL_law_1156 : decode cL_law 1156 = .ok (.iconst 1, 1) := by decide +kernel
theorem dL_law_1157 : decode cL_law 1157 = .ok (.iadd, 1) := by decide +kernel
theorem dL_law_1158 : decode cL_law 1158 = .ok (.iaload, 1) := by decide +kernel
theorem dL_law_1159 : decode cL_law 1159 = .ok (.invokevirtual 124, 3) := by decide +kernel
theorem dL_law_1162 : decode cL_law 1162 = .ok (.aload_n 2, 1) := by decide +kernel
theorem dL_law_1163 : decode cL_law 1163 = .ok (.aload_n 0, 1) := by decide +kernel
theorem dL_law_1164 : decode cL_law 1164 = .ok (.iload_n 3, 1) := by decide +kernel
theorem dL_law_1165 : decode cL_law 1165 = .ok (.iconst 1, 1) := by decide +kernel
theorem dL_law_1166 : decode cL_law 1166 = .ok (.iadd, 1) := by decide +kernel
theorem dL_law_1167 : decode cL_law 1167 = .ok (.iaload, 1) := by decide +kernel
theorem dL_law_1168 : decode cL_law 1168 = .ok (.invokevirtual 127, 3) := by decide +kernel
theorem dL_law_1171 : decode cL_law 1171 = .ok (.if_icmp .eq 403, 3) := by decide +kernel
theorem dL_law_1174 : decode cL_law 1174 = .ok (.iconst 0, 1) := by decide +kernel
theorem dL_law_1175 : decode cL_law 1175 = .ok (.ireturn, 1) := by decide +kernel
theorem dL_law_1176 : decode cL_law 1176 = .ok (.aload_n 1, 1) := by decide +kernel
theorem dL_law_1177 : decode cL_law 1177 = .ok (.aload_n 0, 1) := by decide +kernel
theorem dL_law_1178 : decode cL_law 1178 = .ok (.iload_n 3, 1) := by decide +kernel
theorem dL_law_1179 : decode cL_law 1179 = .ok (.iconst 1, 1) := by decide +kernel
theorem dL_law_1180 : decode cL_law 1180 = .ok (.iadd, 1) := by decide +kernel
theorem dL_law_1181 : decode cL_law 1181 = .ok (.iaload, 1) := by decide +kernel
theorem dL_law_1182 : decode cL_law 1182 = .ok (.aload_n 0, 1) := by decide +kernel
theorem dL_law_1183 : decode cL_law 1183 = .ok (.iload_n 3, 1) := by decide +kernel
theorem dL_law_1184 : decode cL_law 1184 = .ok (.iconst 2, 1) := by decide +kernel
theorem dL_law_1185 : decode cL_law 1185 = .ok (.iadd, 1) := by decide +kernel
theorem dL_law_1186 : decode cL_law 1186 = .ok (.iaload, 1) := by decide +kernel
theorem dL_law_1187 : decode cL_law 1187 = .ok (.aload_n 0, 1) := by decide +kernel
theorem dL_law_1188 : decode cL_law 1188 = .ok (.iload_n 3, 1) := by decide +kernel
theorem dL_law_1189 : decode cL_law 1189 = .ok (.iconst 3, 1) := by decide +kernel
theorem dL_law_1190 : decode cL_law 1190 = .ok (.iadd, 1) := by decide +kernel
theorem dL_law_1191 : decode cL_law 1191 = .ok (.iaload, 1) := by decide +kernel
theorem dL_law_1192 : decode cL_law 1192 = .ok (.invokevirtual 128, 3) := by decide +kernel
theorem dL_law_1195 : decode cL_law 1195 = .ok (.aload_n 2, 1) := by decide +kernel
theorem dL_law_1196 : decode cL_law 1196 = .ok (.aload_n 0, 1) := by decide +kernel
theorem dL_law_1197 : decode cL_law 1197 = .ok (.iload_n 3, 1) := by decide +kernel
theorem dL_law_1198 : decode cL_law 1198 = .ok (.iconst 1, 1) := by decide +kernel
theorem dL_law_1199 : decode cL_law 1199 = .ok (.iadd, 1) := by decide +kernel
theorem dL_law_1200 : decode cL_law 1200 = .ok (.iaload, 1) := by decide +kernel
theorem dL_law_1201 : decode cL_law 1201 = .ok (.aload_n 0, 1) := by decide +kernel
theorem dL_law_1202 : decode cL_law 1202 = .ok (.iload_n 3, 1) := by decide +kernel
theorem dL_law_1203 : decode cL_law 1203 = .ok (.iconst 2, 1) := by decide +kernel
theorem dL_law_1204 : decode cL_law 1204 = .ok (.iadd, 1) := by decide +kernel
theorem dL_law_1205 : decode cL_law 1205 = .ok (.iaload, 1) := by decide +kernel
theorem dL_law_1206 : decode cL_law 1206 = .ok (.aload_n 0, 1) := by decide +kernel
theorem dL_law_1207 : decode cL_law 1207 = .ok (.iload_n 3, 1) := by decide +kernel
theorem dL_law_1208 : decode cL_law 1208 = .ok (.iconst 3, 1) := by decide +kernel
theorem dL_law_1209 : decode cL_law 1209 = .ok (.iadd, 1) := by decide +kernel
theorem dL_law_1210 : decode cL_law 1210 = .ok (.iaload, 1) := by decide +kernel
theorem dL_law_1211 : decode cL_law 1211 = .ok (.invokevirtual 131, 3) := by decide +kernel
theorem dL_law_1214 : decode cL_law 1214 = .ok (.if_icmp .eq 360, 3) := by decide +kernel
theorem dL_law_1217 : decode cL_law 1217 = .ok (.iconst 0, 1) := by decide +kernel
theorem dL_law_1218 : decode cL_law 1218 = .ok (.ireturn, 1) := by decide +kernel
theorem dL_law_1219 : decode cL_law 1219 = .ok (.aload_n 1, 1) := by decide +kernel
theorem dL_law_1220 : decode cL_law 1220 = .ok (.aload_n 0, 1) := by decide +kernel
theorem dL_law_1221 : decode cL_law 1221 = .ok (.iload_n 3, 1) := by decide +kernel
theorem dL_law_1222 : decode cL_law 1222 = .ok (.iconst 1, 1) := by decide +kernel
theorem dL_law_1223 : decode cL_law 1223 = .ok (.iadd, 1) := by decide +kernel
theorem dL_law_1224 : decode cL_law 1224 = .ok (.iaload, 1) := by decide +kernel
theorem dL_law_1225 : decode cL_law 1225 = .ok (.aload_n 0, 1) := by decide +kernel
theorem dL_law_1226 : decode cL_law 1226 = .ok (.iload_n 3, 1) := by decide +kernel
theorem dL_law_1227 : decode cL_law 1227 = .ok (.iconst 2, 1) := by decide +kernel
theorem dL_law_1228 : decode cL_law 1228 = .ok (.iadd, 1) := by decide +kernel
theorem dL_law_1229 : decode cL_law 1229 = .ok (.iaload, 1) := by decide +kernel
theorem dL_law_1230 : decode cL_law 1230 = .ok (.invokevirtual 132, 3) := by decide +kernel
theorem dL_law_1233 : decode cL_law 1233 = .ok (.aload_n 2, 1) := by decide +kernel
theorem dL_law_1234 : decode cL_law 1234 = .ok (.aload_n 0, 1) := by decide +kernel
theorem dL_law_1235 : decode cL_law 1235 = .ok (.iload_n 3, 1) := by decide +kernel
theorem dL_law_1236 : decode cL_law 1236 = .ok (.iconst 1, 1) := by decide +kernel
theorem dL_law_1237 : decode cL_law 1237 = .ok (.iadd, 1) := by decide +kernel
theorem dL_law_1238 : decode cL_law 1238 = .ok (.iaload, 1) := by decide +kernel
theorem dL_law_1239 : decode cL_law 1239 = .ok (.aload_n 0, 1) := by decide +kernel
theorem dL_law_1240 : decode cL_law 1240 = .ok (.iload_n 3, 1) := by decide +kernel
theorem dL_law_1241 : decode cL_law 1241 = .ok (.iconst 2, 1) := by decide +kernel
theorem dL_law_1242 : decode cL_law 1242 = .ok (.iadd, 1) := by decide +kernel
theorem dL_law_1243 : decode cL_law 1243 = .ok (.iaload, 1) := by decide +kernel
theorem dL_law_1244 : decode cL_law 1244 = .ok (.invokevirtual 136, 3) := by decide +kernel
theorem dL_law_1247 : decode cL_law 1247 = .ok (.lcmp, 1) := by decide +kernel
theorem dL_law_1248 : decode cL_law 1248 = .ok (.ifCond .eq 326, 3) := by decide +kernel
theorem dL_law_1251 : decode cL_law 1251 = .ok (.iconst 0, 1) := by decide +kernel
theorem dL_law_1252 : decode cL_law 1252 = .ok (.ireturn, 1) := by decide +kernel
theorem dL_law_1253 : decode cL_law 1253 = .ok (.aload_n 1, 1) := by decide +kernel
theorem dL_law_1254 : decode cL_law 1254 = .ok (.aload_n 0, 1) := by decide +kernel
theorem dL_law_1255 : decode cL_law 1255 = .ok (.iload_n 3, 1) := by decide +kernel
theorem dL_law_1256 : decode cL_law 1256 = .ok (.iconst 1, 1) := by decide +kernel
theorem dL_law_1257 : decode cL_law 1257 = .ok (.iadd, 1) := by decide +kernel
theorem dL_law_1258 : decode cL_law 1258 = .ok (.iaload, 1) := by decide +kernel
theorem dL_law_1259 : decode cL_law 1259 = .ok (.aload_n 0, 1) := by decide +kernel
theorem dL_law_1260 : decode cL_law 1260 = .ok (.iload_n 3, 1) := by decide +kernel
theorem dL_law_1261 : decode cL_law 1261 = .ok (.iconst 2, 1) := by decide +kernel
theorem dL_law_1262 : decode cL_law 1262 = .ok (.iadd, 1) := by decide +kernel
theorem dL_law_1263 : decode cL_law 1263 = .ok (.iaload, 1) := by decide +kernel
theorem dL_law_1264 : decode cL_law 1264 = .ok (.invokevirtual 137, 3) := by decide +kernel
theorem dL_law_1267 : decode cL_law 1267 = .ok (.aload_n 2, 1) := by decide +kernel
theorem dL_law_1268 : decode cL_law 1268 = .ok (.aload_n 0, 1) := by decide +kernel
theorem dL_law_1269 : decode cL_law 1269 = .ok (.iload_n 3, 1) := by decide +kernel
theorem dL_law_1270 : decode cL_law 1270 = .ok (.iconst 1, 1) := by decide +kernel
theorem dL_law_1271 : decode cL_law 1271 = .ok (.iadd, 1) := by decide +kernel
theorem dL_law_1272 : decode cL_law 1272 = .ok (.iaload, 1) := by decide +kernel
theorem dL_law_1273 : decode cL_law 1273 = .ok (.aload_n 0, 1) := by decide +kernel
theorem dL_law_1274 : decode cL_law 1274 = .ok (.iload_n 3, 1) := by decide +kernel
theorem dL_law_1275 : decode cL_law 1275 = .ok (.iconst 2, 1) := by decide +kernel
theorem dL_law_1276 : decode cL_law 1276 = .ok (.iadd, 1) := by decide +kernel
theorem dL_law_1277 : decode cL_law 1277 = .ok (.iaload, 1) := by decide +kernel
theorem dL_law_1278 : decode cL_law 1278 = .ok (.invokevirtual 140, 3) := by decide +kernel
theorem dL_law_1281 : decode cL_law 1281 = .ok (.if_icmp .eq 293, 3) := by decide +kernel
theorem dL_law_1284 : decode cL_law 1284 = .ok (.iconst 0, 1) := by decide +kernel
theorem dL_law_1285 : decode cL_law 1285 = .ok (.ireturn, 1) := by decide +kernel
theorem dL_law_1286 : decode cL_law 1286 = .ok (.aload_n 1, 1) := by decide +kernel
theorem dL_law_1287 : decode cL_law 1287 = .ok (.aload_n 0, 1) := by decide +kernel
theorem dL_law_1288 : decode cL_law 1288 = .ok (.iload_n 3, 1) := by decide +kernel
theorem dL_law_1289 : decode cL_law 1289 = .ok (.iconst 1, 1) := by decide +kernel
theorem dL_law_1290 : decode cL_law 1290 = .ok (.iadd, 1) := by decide +kernel
theorem dL_law_1291 : decode cL_law 1291 = .ok (.iaload, 1) := by decide +kernel
theorem dL_law_1292 : decode cL_law 1292 = .ok (.aload_n 0, 1) := by decide +kernel
theorem dL_law_1293 : decode cL_law 1293 = .ok (.iload_n 3, 1) := by decide +kernel
theorem dL_law_1294 : decode cL_law 1294 = .ok (.iconst 2, 1) := by decide +kernel
theorem dL_law_1295 : decode cL_law 1295 = .ok (.iadd, 1) := by decide +kernel
theorem dL_law_1296 : decode cL_law 1296 = .ok (.iaload, 1) := by decide +kernel
theorem dL_law_1297 : decode cL_law 1297 = .ok (.invokevirtual 141, 3) := by decide +kernel
theorem dL_law_1300 : decode cL_law 1300 = .ok (.aload_n 2, 1) := by decide +kernel
theorem dL_law_1301 : decode cL_law 1301 = .ok (.aload_n 0, 1) := by decide +kernel
theorem dL_law_1302 : decode cL_law 1302 = .ok (.iload_n 3, 1) := by decide +kernel
theorem dL_law_1303 : decode cL_law 1303 = .ok (.iconst 1, 1) := by decide +kernel
theorem dL_law_1304 : decode cL_law 1304 = .ok (.iadd, 1) := by decide +kernel
theorem dL_law_1305 : decode cL_law 1305 = .ok (.iaload, 1) := by decide +kernel
theorem dL_law_1306 : decode cL_law 1306 = .ok (.aload_n 0, 1) := by decide +kernel
theorem dL_law_1307 : decode cL_law 1307 = .ok (.iload_n 3, 1) := by decide +kernel
theorem dL_law_1308 : decode cL_law 1308 = .ok (.iconst 2, 1) := by decide +kernel
theorem dL_law_1309 : decode cL_law 1309 = .ok (.iadd, 1) := by decide +kernel
theorem dL_law_1310 : decode cL_law 1310 = .ok (.iaload, 1) := by decide +kernel
theorem dL_law_1311 : decode cL_law 1311 = .ok (.invokevirtual 144, 3) := by decide +kernel
theorem dL_law_1314 : decode cL_law 1314 = .ok (.if_icmp .eq 260, 3) := by decide +kernel
theorem dL_law_1317 : decode cL_law 1317 = .ok (.iconst 0, 1) := by decide +kernel
theorem dL_law_1318 : decode cL_law 1318 = .ok (.ireturn, 1) := by decide +kernel
theorem dL_law_1319 : decode cL_law 1319 = .ok (.aload_n 1, 1) := by decide +kernel
theorem dL_law_1320 : decode cL_law 1320 = .ok (.aload_n 0, 1) := by decide +kernel
theorem dL_law_1321 : decode cL_law 1321 = .ok (.iload_n 3, 1) := by decide +kernel
theorem dL_law_1322 : decode cL_law 1322 = .ok (.iconst 1, 1) := by decide +kernel
theorem dL_law_1323 : decode cL_law 1323 = .ok (.iadd, 1) := by decide +kernel
theorem dL_law_1324 : decode cL_law 1324 = .ok (.iaload, 1) := by decide +kernel
theorem dL_law_1325 : decode cL_law 1325 = .ok (.aload_n 0, 1) := by decide +kernel
theorem dL_law_1326 : decode cL_law 1326 = .ok (.iload_n 3, 1) := by decide +kernel
theorem dL_law_1327 : decode cL_law 1327 = .ok (.iconst 2, 1) := by decide +kernel
theorem dL_law_1328 : decode cL_law 1328 = .ok (.iadd, 1) := by decide +kernel
theorem dL_law_1329 : decode cL_law 1329 = .ok (.iaload, 1) := by decide +kernel
theorem dL_law_1330 : decode cL_law 1330 = .ok (.invokevirtual 145, 3) := by decide +kernel
theorem dL_law_1333 : decode cL_law 1333 = .ok (.aload_n 2, 1) := by decide +kernel
theorem dL_law_1334 : decode cL_law 1334 = .ok (.aload_n 0, 1) := by decide +kernel
theorem dL_law_1335 : decode cL_law 1335 = .ok (.iload_n 3, 1) := by decide +kernel
theorem dL_law_1336 : decode cL_law 1336 = .ok (.iconst 1, 1) := by decide +kernel
theorem dL_law_1337 : decode cL_law 1337 = .ok (.iadd, 1) := by decide +kernel
theorem dL_law_1338 : decode cL_law 1338 = .ok (.iaload, 1) := by decide +kernel
theorem dL_law_1339 : decode cL_law 1339 = .ok (.aload_n 0, 1) := by decide +kernel
theorem dL_law_1340 : decode cL_law 1340 = .ok (.iload_n 3, 1) := by decide +kernel
theorem dL_law_1341 : decode cL_law 1341 = .ok (.iconst 2, 1) := by decide +kernel
theorem dL_law_1342 : decode cL_law 1342 = .ok (.iadd, 1) := by decide +kernel
theorem dL_law_1343 : decode cL_law 1343 = .ok (.iaload, 1) := by decide +kernel
theorem dL_law_1344 : decode cL_law 1344 = .ok (.invokevirtual 148, 3) := by decide +kernel
theorem dL_law_1347 : decode cL_law 1347 = .ok (.if_icmp .eq 227, 3) := by decide +kernel
theorem dL_law_1350 : decode cL_law 1350 = .ok (.iconst 0, 1) := by decide +kernel
theorem dL_law_1351 : decode cL_law 1351 = .ok (.ireturn, 1) := by decide +kernel
theorem dL_law_1352 : decode cL_law 1352 = .ok (.aload_n 1, 1) := by decide +kernel
theorem dL_law_1353 : decode cL_law 1353 = .ok (.aload_n 0, 1) := by decide +kernel
theorem dL_law_1354 : decode cL_law 1354 = .ok (.iload_n 3, 1) := by decide +kernel
theorem dL_law_1355 : decode cL_law 1355 = .ok (.iconst 1, 1) := by decide +kernel
theorem dL_law_1356 : decode cL_law 1356 = .ok (.iadd, 1) := by decide +kernel
theorem dL_law_1357 : decode cL_law 1357 = .ok (.iaload, 1) := by decide +kernel
theorem dL_law_1358 : decode cL_law 1358 = .ok (.invokevirtual 149, 3) := by decide +kernel
theorem dL_law_1361 : decode cL_law 1361 = .ok (.aload_n 2, 1) := by decide +kernel
theorem dL_law_1362 : decode cL_law 1362 = .ok (.aload_n 0, 1) := by decide +kernel
theorem dL_law_1363 : decode cL_law 1363 = .ok (.iload_n 3, 1) := by decide +kernel
theorem dL_law_1364 : decode cL_law 1364 = .ok (.iconst 1, 1) := by decide +kernel
theorem dL_law_1365 : decode cL_law 1365 = .ok (.iadd, 1) := by decide +kernel
theorem dL_law_1366 : decode cL_law 1366 = .ok (.iaload, 1) := by decide +kernel
theorem dL_law_1367 : decode cL_law 1367 = .ok (.invokevirtual 152, 3) := by decide +kernel
theorem dL_law_1370 : decode cL_law 1370 = .ok (.if_icmp .eq 204, 3) := by decide +kernel
theorem dL_law_1373 : decode cL_law 1373 = .ok (.iconst 0, 1) := by decide +kernel
theorem dL_law_1374 : decode cL_law 1374 = .ok (.ireturn, 1) := by decide +kernel
theorem dL_law_1375 : decode cL_law 1375 = .ok (.aload_n 1, 1) := by decide +kernel
theorem dL_law_1376 : decode cL_law 1376 = .ok (.aload_n 0, 1) := by decide +kernel
theorem dL_law_1377 : decode cL_law 1377 = .ok (.iload_n 3, 1) := by decide +kernel
theorem dL_law_1378 : decode cL_law 1378 = .ok (.iconst 1, 1) := by decide +kernel
theorem dL_law_1379 : decode cL_law 1379 = .ok (.iadd, 1) := by decide +kernel
theorem dL_law_1380 : decode cL_law 1380 = .ok (.iaload, 1) := by decide +kernel
theorem dL_law_1381 : decode cL_law 1381 = .ok (.aload_n 0, 1) := by decide +kernel
theorem dL_law_1382 : decode cL_law 1382 = .ok (.iload_n 3, 1) := by decide +kernel
theorem dL_law_1383 : decode cL_law 1383 = .ok (.iconst 2, 1) := by decide +kernel
theorem dL_law_1384 : decode cL_law 1384 = .ok (.iadd, 1) := by decide +kernel
theorem dL_law_1385 : decode cL_law 1385 = .ok (.iaload, 1) := by decide +kernel
theorem dL_law_1386 : decode cL_law 1386 = .ok (.invokevirtual 153, 3) := by decide +kernel
theorem dL_law_1389 : decode cL_law 1389 = .ok (.aload_n 2, 1) := by decide +kernel
theorem dL_law_1390 : decode cL_law 1390 = .ok (.aload_n 0, 1) := by decide +kernel
theorem dL_law_1391 : decode cL_law 1391 = .ok (.iload_n 3, 1) := by decide +kernel
theorem dL_law_1392 : decode cL_law 1392 = .ok (.iconst 1, 1) := by decide +kernel
theorem dL_law_1393 : decode cL_law 1393 = .ok (.iadd, 1) := by decide +kernel
theorem dL_law_1394 : decode cL_law 1394 = .ok (.iaload, 1) := by decide +kernel
theorem dL_law_1395 : decode cL_law 1395 = .ok (.aload_n 0, 1) := by decide +kernel
theorem dL_law_1396 : decode cL_law 1396 = .ok (.iload_n 3, 1) := by decide +kernel
theorem dL_law_1397 : decode cL_law 1397 = .ok (.iconst 2, 1) := by decide +kernel
theorem dL_law_1398 : decode cL_law 1398 = .ok (.iadd, 1) := by decide +kernel
theorem dL_law_1399 : decode cL_law 1399 = .ok (.iaload, 1) := by decide +kernel
theorem dL_law_1400 : decode cL_law 1400 = .ok (.invokevirtual 156, 3) := by decide +kernel
theorem dL_law_1403 : decode cL_law 1403 = .ok (.if_icmp .eq 171, 3) := by decide +kernel
theorem dL_law_1406 : decode cL_law 1406 = .ok (.iconst 0, 1) := by decide +kernel
theorem dL_law_1407 : decode cL_law 1407 = .ok (.ireturn, 1) := by decide +kernel
theorem dL_law_1408 : decode cL_law 1408 = .ok (.aload_n 1, 1) := by decide +kernel
theorem dL_law_1409 : decode cL_law 1409 = .ok (.aload_n 0, 1) := by decide +kernel
theorem dL_law_1410 : decode cL_law 1410 = .ok (.iload_n 3, 1) := by decide +kernel
theorem dL_law_1411 : decode cL_law 1411 = .ok (.iconst 1, 1) := by decide +kernel
theorem dL_law_1412 : decode cL_law 1412 = .ok (.iadd, 1) := by decide +kernel
theorem dL_law_1413 : decode cL_law 1413 = .ok (.iaload, 1) := by decide +kernel
theorem dL_law_1414 : decode cL_law 1414 = .ok (.aload_n 0, 1) := by decide +kernel
theorem dL_law_1415 : decode cL_law 1415 = .ok (.iload_n 3, 1) := by decide +kernel
theorem dL_law_1416 : decode cL_law 1416 = .ok (.iconst 2, 1) := by decide +kernel
theorem dL_law_1417 : decode cL_law 1417 = .ok (.iadd, 1) := by decide +kernel
theorem dL_law_1418 : decode cL_law 1418 = .ok (.iaload, 1) := by decide +kernel
theorem dL_law_1419 : decode cL_law 1419 = .ok (.invokevirtual 157, 3) := by decide +kernel
theorem dL_law_1422 : decode cL_law 1422 = .ok (.aload_n 2, 1) := by decide +kernel
theorem dL_law_1423 : decode cL_law 1423 = .ok (.aload_n 0, 1) := by decide +kernel
theorem dL_law_1424 : decode cL_law 1424 = .ok (.iload_n 3, 1) := by decide +kernel
theorem dL_law_1425 : decode cL_law 1425 = .ok (.iconst 1, 1) := by decide +kernel
theorem dL_law_1426 : decode cL_law 1426 = .ok (.iadd, 1) := by decide +kernel
theorem dL_law_1427 : decode cL_law 1427 = .ok (.iaload, 1) := by decide +kernel
theorem dL_law_1428 : decode cL_law 1428 = .ok (.aload_n 0, 1) := by decide +kernel
theorem dL_law_1429 : decode cL_law 1429 = .ok (.iload_n 3, 1) := by decide +kernel
theorem dL_law_1430 : decode cL_law 1430 = .ok (.iconst 2, 1) := by decide +kernel
theorem dL_law_1431 : decode cL_law 1431 = .ok (.iadd, 1) := by decide +kernel
theorem dL_law_1432 : decode cL_law 1432 = .ok (.iaload, 1) := by decide +kernel
theorem dL_law_1433 : decode cL_law 1433 = .ok (.invokevirtual 160, 3) := by decide +kernel
theorem dL_law_1436 : decode cL_law 1436 = .ok (.if_icmp .eq 138, 3) := by decide +kernel
theorem dL_law_1439 : decode cL_law 1439 = .ok (.iconst 0, 1) := by decide +kernel
theorem dL_law_1440 : decode cL_law 1440 = .ok (.ireturn, 1) := by decide +kernel
theorem dL_law_1441 : decode cL_law 1441 = .ok (.aload_n 1, 1) := by decide +kernel
theorem dL_law_1442 : decode cL_law 1442 = .ok (.aload_n 0, 1) := by decide +kernel
theorem dL_law_1443 : decode cL_law 1443 = .ok (.iload_n 3, 1) := by decide +kernel
theorem dL_law_1444 : decode cL_law 1444 = .ok (.iconst 1, 1) := by decide +kernel
theorem dL_law_1445 : decode cL_law 1445 = .ok (.iadd, 1) := by decide +kernel
theorem dL_law_1446 : decode cL_law 1446 = .ok (.iaload, 1) := by decide +kernel
theorem dL_law_1447 : decode cL_law 1447 = .ok (.aload_n 0, 1) := by decide +kernel
theorem dL_law_1448 : decode cL_law 1448 = .ok (.iload_n 3, 1) := by decide +kernel
theorem dL_law_1449 : decode cL_law 1449 = .ok (.iconst 2, 1) := by decide +kernel
theorem dL_law_1450 : decode cL_law 1450 = .ok (.iadd, 1) := by decide +kernel
theorem dL_law_1451 : decode cL_law 1451 = .ok (.iaload, 1) := by decide +kernel
theorem dL_law_1452 : decode cL_law 1452 = .ok (.aload_n 0, 1) := by decide +kernel
theorem dL_law_1453 : decode cL_law 1453 = .ok (.iload_n 3, 1) := by decide +kernel
theorem dL_law_1454 : decode cL_law 1454 = .ok (.iconst 3, 1) := by decide +kernel
theorem dL_law_1455 : decode cL_law 1455 = .ok (.iadd, 1) := by decide +kernel
theorem dL_law_1456 : decode cL_law 1456 = .ok (.iaload, 1) := by decide +kernel
theorem dL_law_1457 : decode cL_law 1457 = .ok (.invokevirtual 161, 3) := by decide +kernel
theorem dL_law_1460 : decode cL_law 1460 = .ok (.aload_n 2, 1) := by decide +kernel
theorem dL_law_1461 : decode cL_law 1461 = .ok (.aload_n 0, 1) := by decide +kernel
theorem dL_law_1462 : decode cL_law 1462 = .ok (.iload_n 3, 1) := by decide +kernel
theorem dL_law_1463 : decode cL_law 1463 = .ok (.iconst 1, 1) := by decide +kernel
theorem dL_law_1464 : decode cL_law 1464 = .ok (.iadd, 1) := by decide +kernel
theorem dL_law_1465 : decode cL_law 1465 = .ok (.iaload, 1) := by decide +kernel
theorem dL_law_1466 : decode cL_law 1466 = .ok (.aload_n 0, 1) := by decide +kernel
theorem dL_law_1467 : decode cL_law 1467 = .ok (.iload_n 3, 1) := by decide +kernel
theorem dL_law_1468 : decode cL_law 1468 = .ok (.iconst 2, 1) := by decide +kernel
theorem dL_law_1469 : decode cL_law 1469 = .ok (.iadd, 1) := by decide +kernel
theorem dL_law_1470 : decode cL_law 1470 = .ok (.iaload, 1) := by decide +kernel
theorem dL_law_1471 : decode cL_law 1471 = .ok (.aload_n 0, 1) := by decide +kernel
theorem dL_law_1472 : decode cL_law 1472 = .ok (.iload_n 3, 1) := by decide +kernel
theorem dL_law_1473 : decode cL_law 1473 = .ok (.iconst 3, 1) := by decide +kernel
theorem dL_law_1474 : decode cL_law 1474 = .ok (.iadd, 1) := by decide +kernel
theorem dL_law_1475 : decode cL_law 1475 = .ok (.iaload, 1) := by decide +kernel
theorem dL_law_1476 : decode cL_law 1476 = .ok (.invokevirtual 164, 3) := by decide +kernel
theorem dL_law_1479 : decode cL_law 1479 = .ok (.if_icmp .eq 95, 3) := by decide +kernel
theorem dL_law_1482 : decode cL_law 1482 = .ok (.iconst 0, 1) := by decide +kernel
theorem dL_law_1483 : decode cL_law 1483 = .ok (.ireturn, 1) := by decide +kernel
theorem dL_law_1484 : decode cL_law 1484 = .ok (.aload_n 1, 1) := by decide +kernel
theorem dL_law_1485 : decode cL_law 1485 = .ok (.aload_n 0, 1) := by decide +kernel
theorem dL_law_1486 : decode cL_law 1486 = .ok (.iload_n 3, 1) := by decide +kernel
theorem dL_law_1487 : decode cL_law 1487 = .ok (.iconst 1, 1) := by decide +kernel
theorem dL_law_1488 : decode cL_law 1488 = .ok (.iadd, 1) := by decide +kernel
theorem dL_law_1489 : decode cL_law 1489 = .ok (.iaload, 1) := by decide +kernel
theorem dL_law_1490 : decode cL_law 1490 = .ok (.invokevirtual 165, 3) := by decide +kernel
theorem dL_law_1493 : decode cL_law 1493 = .ok (.aload_n 2, 1) := by decide +kernel
theorem dL_law_1494 : decode cL_law 1494 = .ok (.aload_n 0, 1) := by decide +kernel
theorem dL_law_1495 : decode cL_law 1495 = .ok (.iload_n 3, 1) := by decide +kernel
theorem dL_law_1496 : decode cL_law 1496 = .ok (.iconst 1, 1) := by decide +kernel
theorem dL_law_1497 : decode cL_law 1497 = .ok (.iadd, 1) := by decide +kernel
theorem dL_law_1498 : decode cL_law 1498 = .ok (.iaload, 1) := by decide +kernel
theorem dL_law_1499 : decode cL_law 1499 = .ok (.invokevirtual 169, 3) := by decide +kernel
theorem dL_law_1502 : decode cL_law 1502 = .ok (.lcmp, 1) := by decide +kernel
theorem dL_law_1503 : decode cL_law 1503 = .ok (.ifCond .eq 71, 3) := by decide +kernel
theorem dL_law_1506 : decode cL_law 1506 = .ok (.iconst 0, 1) := by decide +kernel
theorem dL_law_1507 : decode cL_law 1507 = .ok (.ireturn, 1) := by decide +kernel
theorem dL_law_1508 : decode cL_law 1508 = .ok (.aload_n 1, 1) := by decide +kernel
theorem dL_law_1509 : decode cL_law 1509 = .ok (.aload_n 0, 1) := by decide +kernel
theorem dL_law_1510 : decode cL_law 1510 = .ok (.iload_n 3, 1) := by decide +kernel
theorem dL_law_1511 : decode cL_law 1511 = .ok (.iconst 1, 1) := by decide +kernel
theorem dL_law_1512 : decode cL_law 1512 = .ok (.iadd, 1) := by decide +kernel
theorem dL_law_1513 : decode cL_law 1513 = .ok (.iaload, 1) := by decide +kernel
theorem dL_law_1514 : decode cL_law 1514 = .ok (.aload_n 0, 1) := by decide +kernel
theorem dL_law_1515 : decode cL_law 1515 = .ok (.iload_n 3, 1) := by decide +kernel
theorem dL_law_1516 : decode cL_law 1516 = .ok (.iconst 2, 1) := by decide +kernel
theorem dL_law_1517 : decode cL_law 1517 = .ok (.iadd, 1) := by decide +kernel
theorem dL_law_1518 : decode cL_law 1518 = .ok (.iaload, 1) := by decide +kernel
theorem dL_law_1519 : decode cL_law 1519 = .ok (.aload_n 0, 1) := by decide +kernel
theorem dL_law_1520 : decode cL_law 1520 = .ok (.iload_n 3, 1) := by decide +kernel
theorem dL_law_1521 : decode cL_law 1521 = .ok (.iconst 3, 1) := by decide +kernel
theorem dL_law_1522 : decode cL_law 1522 = .ok (.iadd, 1) := by decide +kernel
theorem dL_law_1523 : decode cL_law 1523 = .ok (.iaload, 1) := by decide +kernel
theorem dL_law_1524 : decode cL_law 1524 = .ok (.invokevirtual 170, 3) := by decide +kernel
theorem dL_law_1527 : decode cL_law 1527 = .ok (.aload_n 2, 1) := by decide +kernel
theorem dL_law_1528 : decode cL_law 1528 = .ok (.aload_n 0, 1) := by decide +kernel
theorem dL_law_1529 : decode cL_law 1529 = .ok (.iload_n 3, 1) := by decide +kernel
theorem dL_law_1530 : decode cL_law 1530 = .ok (.iconst 1, 1) := by decide +kernel
theorem dL_law_1531 : decode cL_law 1531 = .ok (.iadd, 1) := by decide +kernel
theorem dL_law_1532 : decode cL_law 1532 = .ok (.iaload, 1) := by decide +kernel
theorem dL_law_1533 : decode cL_law 1533 = .ok (.aload_n 0, 1) := by decide +kernel
theorem dL_law_1534 : decode cL_law 1534 = .ok (.iload_n 3, 1) := by decide +kernel
theorem dL_law_1535 : decode cL_law 1535 = .ok (.iconst 2, 1) := by decide +kernel
theorem dL_law_1536 : decode cL_law 1536 = .ok (.iadd, 1) := by decide +kernel
theorem dL_law_1537 : decode cL_law 1537 = .ok (.iaload, 1) := by decide +kernel
theorem dL_law_1538 : decode cL_law 1538 = .ok (.aload_n 0, 1) := by decide +kernel
theorem dL_law_1539 : decode cL_law 1539 = .ok (.iload_n 3, 1) := by decide +kernel
theorem dL_law_1540 : decode cL_law 1540 = .ok (.iconst 3, 1) := by decide +kernel
theorem dL_law_1541 : decode cL_law 1541 = .ok (.iadd, 1) := by decide +kernel
theorem dL_law_1542 : decode cL_law 1542 = .ok (.iaload, 1) := by decide +kernel
theorem dL_law_1543 : decode cL_law 1543 = .ok (.invokevirtual 173, 3) := by decide +kernel
theorem dL_law_1546 : decode cL_law 1546 = .ok (.if_icmp .eq 28, 3) := by decide +kernel
theorem dL_law_1549 : decode cL_law 1549 = .ok (.iconst 0, 1) := by decide +kernel
theorem dL_law_1550 : decode cL_law 1550 = .ok (.ireturn, 1) := by decide +kernel
theorem dL_law_1551 : decode cL_law 1551 = .ok (.aload_n 1, 1) := by decide +kernel
theorem dL_law_1552 : decode cL_law 1552 = .ok (.aload_n 0, 1) := by decide +kernel
theorem dL_law_1553 : decode cL_law 1553 = .ok (.iload_n 3, 1) := by decide +kernel
theorem dL_law_1554 : decode cL_law 1554 = .ok (.iconst 1, 1) := by decide +kernel
theorem dL_law_1555 : decode cL_law 1555 = .ok (.iadd, 1) := by decide +kernel
theorem dL_law_1556 : decode cL_law 1556 = .ok (.iaload, 1) := by decide +kernel
theorem dL_law_1557 : decode cL_law 1557 = .ok (.invokevirtual 174, 3) := by decide +kernel
theorem dL_law_1560 : decode cL_law 1560 = .ok (.aload_n 2, 1) := by decide +kernel
theorem dL_law_1561 : decode cL_law 1561 = .ok (.aload_n 0, 1) := by decide +kernel
theorem dL_law_1562 : decode cL_law 1562 = .ok (.iload_n 3, 1) := by decide +kernel
theorem dL_law_1563 : decode cL_law 1563 = .ok (.iconst 1, 1) := by decide +kernel
theorem dL_law_1564 : decode cL_law 1564 = .ok (.iadd, 1) := by decide +kernel
theorem dL_law_1565 : decode cL_law 1565 = .ok (.iaload, 1) := by decide +kernel
theorem dL_law_1566 : decode cL_law 1566 = .ok (.invokevirtual 177, 3) := by decide +kernel
theorem dL_law_1569 : decode cL_law 1569 = .ok (.if_icmp .eq 5, 3) := by decide +kernel
theorem dL_law_1572 : decode cL_law 1572 = .ok (.iconst 0, 1) := by decide +kernel
theorem dL_law_1573 : decode cL_law 1573 = .ok (.ireturn, 1) := by decide +kernel
theorem dL_law_1574 : decode cL_law 1574 = .ok (.iinc 3 7, 3) := by decide +kernel
theorem dL_law_1577 : decode cL_law 1577 = .ok (.goto (-1559), 3) := by decide +kernel
theorem dL_law_1580 : decode cL_law 1580 = .ok (.iconst 1, 1) := by decide +kernel
theorem dL_law_1581 : decode cL_law 1581 = .ok (.ireturn, 1) := by decide +kernel

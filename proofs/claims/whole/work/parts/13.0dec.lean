/-! how the instructions read, 0 -/
theorem dX0_init_0 : decode cX0_init 0 = .ok (.aload_n 0, 1) := by decide +kernel
theorem dX0_init_1 : decode cX0_init 1 = .ok (.invokespecial 1, 3) := by decide +kernel
theorem dX0_init_4 : decode cX0_init 4 = .ok (.aload_n 0, 1) := by decide +kernel
theorem dX0_init_5 : decode cX0_init 5 = .ok (.bipush 24, 2) := by decide +kernel
theorem dX0_init_7 : decode cX0_init 7 = .ok (.newarray .int, 2) := by decide +kernel
theorem dX0_init_9 : decode cX0_init 9 = .ok (.putfield 9, 3) := by decide +kernel
theorem dX0_init_12 : decode cX0_init 12 = .ok (.aload_n 0, 1) := by decide +kernel
theorem dX0_init_13 : decode cX0_init 13 = .ok (.bipush 24, 2) := by decide +kernel
theorem dX0_init_15 : decode cX0_init 15 = .ok (.newarray .int, 2) := by decide +kernel
theorem dX0_init_17 : decode cX0_init 17 = .ok (.putfield 13, 3) := by decide +kernel
theorem dX0_init_20 : decode cX0_init 20 = .ok (.return_, 1) := by decide +kernel
theorem dX0_begin_0 : decode cX0_begin 0 = .ok (.aload_n 0, 1) := by decide +kernel
theorem dX0_begin_1 : decode cX0_begin 1 = .ok (.iload_n 1, 1) := by decide +kernel
theorem dX0_begin_2 : decode cX0_begin 2 = .ok (.putfield 16, 3) := by decide +kernel
theorem dX0_begin_5 : decode cX0_begin 5 = .ok (.aload_n 0, 1) := by decide +kernel
theorem dX0_begin_6 : decode cX0_begin 6 = .ok (.iconst 0, 1) := by decide +kernel
theorem dX0_begin_7 : decode cX0_begin 7 = .ok (.putfield 20, 3) := by decide +kernel
theorem dX0_begin_10 : decode cX0_begin 10 = .ok (.aload_n 0, 1) := by decide +kernel
theorem dX0_begin_11 : decode cX0_begin 11 = .ok (.iconst 0, 1) := by decide +kernel
theorem dX0_begin_12 : decode cX0_begin 12 = .ok (.putfield 23, 3) := by decide +kernel
theorem dX0_begin_15 : decode cX0_begin 15 = .ok (.aload_n 0, 1) := by decide +kernel
theorem dX0_begin_16 : decode cX0_begin 16 = .ok (.sipush 1439, 3) := by decide +kernel
theorem dX0_begin_19 : decode cX0_begin 19 = .ok (.putfield 26, 3) := by decide +kernel
theorem dX0_begin_22 : decode cX0_begin 22 = .ok (.aload_n 0, 1) := by decide +kernel
theorem dX0_begin_23 : decode cX0_begin 23 = .ok (.iconst 0, 1) := by decide +kernel
theorem dX0_begin_24 : decode cX0_begin 24 = .ok (.putfield 29, 3) := by decide +kernel
theorem dX0_begin_27 : decode cX0_begin 27 = .ok (.aload_n 0, 1) := by decide +kernel
theorem dX0_begin_28 : decode cX0_begin 28 = .ok (.iconst 0, 1) := by decide +kernel
theorem dX0_begin_29 : decode cX0_begin 29 = .ok (.putfield 32, 3) := by decide +kernel
theorem dX0_begin_32 : decode cX0_begin 32 = .ok (.aload_n 0, 1) := by decide +kernel
theorem dX0_begin_33 : decode cX0_begin 33 = .ok (.iconst 0, 1) := by decide +kernel
theorem dX0_begin_34 : decode cX0_begin 34 = .ok (.putfield 35, 3) := by decide +kernel
theorem dX0_begin_37 : decode cX0_begin 37 = .ok (.aload_n 0, 1) := by decide +kernel
theorem dX0_begin_38 : decode cX0_begin 38 = .ok (.iconst 3, 1) := by decide +kernel
theorem dX0_begin_39 : decode cX0_begin 39 = .ok (.putfield 38, 3) := by decide +kernel
theorem dX0_begin_42 : decode cX0_begin 42 = .ok (.aload_n 0, 1) := by decide +kernel
theorem dX0_begin_43 : decode cX0_begin 43 = .ok (.iconst 0, 1) := by decide +kernel
theorem dX0_begin_44 : decode cX0_begin 44 = .ok (.putfield 41, 3) := by decide +kernel
theorem dX0_begin_47 : decode cX0_begin 47 = .ok (.return_, 1) := by decide +kernel
theorem dX1_init_0 : decode cX1_init 0 = .ok (.aload_n 0, 1) := by decide +kernel
theorem dX1_init_1 : decode cX1_init 1 = .ok (.invokespecial 3, 3) := by decide +kernel
theorem dX1_init_4 : decode cX1_init 4 = .ok (.aload_n 0, 1) := by decide +kernel
theorem dX1_init_5 : decode cX1_init 5 = .ok (.bipush 120, 2) := by decide +kernel
theorem dX1_init_7 : decode cX1_init 7 = .ok (.newarray .int, 2) := by decide +kernel
theorem dX1_init_9 : decode cX1_init 9 = .ok (.putfield 9, 3) := by decide +kernel
theorem dX1_init_12 : decode cX1_init 12 = .ok (.aload_n 0, 1) := by decide +kernel
theorem dX1_init_13 : decode cX1_init 13 = .ok (.bipush 120, 2) := by decide +kernel
theorem dX1_init_15 : decode cX1_init 15 = .ok (.newarray .int, 2) := by decide +kernel
theorem dX1_init_17 : decode cX1_init 17 = .ok (.putfield 15, 3) := by decide +kernel
theorem dX1_init_20 : decode cX1_init 20 = .ok (.aload_n 0, 1) := by decide +kernel
theorem dX1_init_21 : decode cX1_init 21 = .ok (.bipush 120, 2) := by decide +kernel
theorem dX1_init_23 : decode cX1_init 23 = .ok (.newarray .int, 2) := by decide +kernel
theorem dX1_init_25 : decode cX1_init 25 = .ok (.putfield 18, 3) := by decide +kernel
theorem dX1_init_28 : decode cX1_init 28 = .ok (.aload_n 0, 1) := by decide +kernel
theorem dX1_init_29 : decode cX1_init 29 = .ok (.bipush 120, 2) := by decide +kernel
theorem dX1_init_31 : decode cX1_init 31 = .ok (.newarray .int, 2) := by decide +kernel
theorem dX1_init_33 : decode cX1_init 33 = .ok (.putfield 21, 3) := by decide +kernel
theorem dX1_init_36 : decode cX1_init 36 = .ok (.aload_n 0, 1) := by decide +kernel
theorem dX1_init_37 : decode cX1_init 37 = .ok (.bipush 120, 2) := by decide +kernel
theorem dX1_init_39 : decode cX1_init 39 = .ok (.newarray .boolean, 2) := by decide +kernel
theorem dX1_init_41 : decode cX1_init 41 = .ok (.putfield 24, 3) := by decide +kernel
theorem dX1_init_44 : decode cX1_init 44 = .ok (.aload_n 0, 1) := by decide +kernel
theorem dX1_init_45 : decode cX1_init 45 = .ok (.bipush 70, 2) := by decide +kernel
theorem dX1_init_47 : decode cX1_init 47 = .ok (.newarray .int, 2) := by decide +kernel
theorem dX1_init_49 : decode cX1_init 49 = .ok (.putfield 28, 3) := by decide +kernel
theorem dX1_init_52 : decode cX1_init 52 = .ok (.aload_n 0, 1) := by decide +kernel
theorem dX1_init_53 : decode cX1_init 53 = .ok (.bipush 120, 2) := by decide +kernel
theorem dX1_init_55 : decode cX1_init 55 = .ok (.newarray .int, 2) := by decide +kernel
theorem dX1_init_57 : decode cX1_init 57 = .ok (.putfield 31, 3) := by decide +kernel
theorem dX1_init_60 : decode cX1_init 60 = .ok (.aload_n 0, 1) := by decide +kernel
theorem dX1_init_61 : decode cX1_init 61 = .ok (.bipush 12, 2) := by decide +kernel
theorem dX1_init_63 : decode cX1_init 63 = .ok (.newarray .int, 2) := by decide +kernel
theorem dX1_init_65 : decode cX1_init 65 = .ok (.putfield 34, 3) := by decide +kernel
theorem dX1_init_68 : decode cX1_init 68 = .ok (.aload_n 0, 1) := by decide +kernel
theorem dX1_init_69 : decode cX1_init 69 = .ok (.bipush 70, 2) := by decide +kernel
theorem dX1_init_71 : decode cX1_init 71 = .ok (.newarray .int, 2) := by decide +kernel
theorem dX1_init_73 : decode cX1_init 73 = .ok (.putfield 37, 3) := by decide +kernel
theorem dX1_init_76 : decode cX1_init 76 = .ok (.aload_n 0, 1) := by decide +kernel
theorem dX1_init_77 : decode cX1_init 77 = .ok (.aload_n 1, 1) := by decide +kernel
theorem dX1_init_78 : decode cX1_init 78 = .ok (.putfield 40, 3) := by decide +kernel
theorem dX1_init_81 : decode cX1_init 81 = .ok (.aload_n 0, 1) := by decide +kernel
theorem dX1_init_82 : decode cX1_init 82 = .ok (.aload_n 2, 1) := by decide +kernel
theorem dX1_init_83 : decode cX1_init 83 = .ok (.putfield 44, 3) := by decide +kernel
theorem dX1_init_86 : decode cX1_init 86 = .ok (.aload_n 0, 1) := by decide +kernel
theorem dX1_init_87 : decode cX1_init 87 = .ok (.aload_n 3, 1) := by decide +kernel
theorem dX1_init_88 : decode cX1_init 88 = .ok (.putfield 48, 3) := by decide +kernel
theorem dX1_init_91 : decode cX1_init 91 = .ok (.aload_n 0, 1) := by decide +kernel
theorem dX1_init_92 : decode cX1_init 92 = .ok (.aload 4, 2) := by decide +kernel
theorem dX1_init_94 : decode cX1_init 94 = .ok (.putfield 52, 3) := by decide +kernel
theorem dX1_init_97 : decode cX1_init 97 = .ok (.aload_n 0, 1) := by decide +kernel
theorem dX1_init_98 : decode cX1_init 98 = .ok (.aload 5, 2) := by decide +kernel
theorem dX1_init_100 : decode cX1_init 100 = .ok (.putfield 56, 3) := by decide +kernel
theorem dX1_init_103 : decode cX1_init 103 = .ok (.return_, 1) := by decide +kernel
theorem dX1_begin_0 : decode cX1_begin 0 = .ok (.aload_n 0, 1) := by decide +kernel
theorem dX1_begin_1 : decode cX1_begin 1 = .ok (.getfield 60, 3) := by decide +kernel
theorem dX1_begin_4 : decode cX1_begin 4 = .ok (.istore_n 3, 1) := by decide +kernel
theorem dX1_begin_5 : decode cX1_begin 5 = .ok (.aload_n 0, 1) := by decide +kernel
theorem dX1_begin_6 : decode cX1_begin 6 = .ok (.dup, 1) := by decide +kernel
theorem dX1_begin_7 : decode cX1_begin 7 = .ok (.getfield 60, 3) := by decide +kernel
theorem dX1_begin_10 : decode cX1_begin 10 = .ok (.iconst 1, 1) := by decide +kernel
theorem dX1_begin_11 : decode cX1_begin 11 = .ok (.iadd, 1) := by decide +kernel
theorem dX1_begin_12 : decode cX1_begin 12 = .ok (.putfield 60, 3) := by decide +kernel
theorem dX1_begin_15 : decode cX1_begin 15 = .ok (.aload_n 0, 1) := by decide +kernel
theorem dX1_begin_16 : decode cX1_begin 16 = .ok (.dup, 1) := by decide +kernel
theorem dX1_begin_17 : decode cX1_begin 17 = .ok (.getfield 64, 3) := by decide +kernel
theorem dX1_begin_20 : decode cX1_begin 20 = .ok (.iconst 1, 1) := by decide +kernel
theorem dX1_begin_21 : decode cX1_begin 21 = .ok (.iadd, 1) := by decide +kernel
theorem dX1_begin_22 : decode cX1_begin 22 = .ok (.putfield 64, 3) := by decide +kernel
theorem dX1_begin_25 : decode cX1_begin 25 = .ok (.aload_n 0, 1) := by decide +kernel
theorem dX1_begin_26 : decode cX1_begin 26 = .ok (.getfield 34, 3) := by decide +kernel
theorem dX1_begin_29 : decode cX1_begin 29 = .ok (.iload_n 2, 1) := by decide +kernel
theorem dX1_begin_30 : decode cX1_begin 30 = .ok (.dup2, 1) := by decide +kernel
theorem dX1_begin_31 : decode cX1_begin 31 = .ok (.iaload, 1) := by decide +kernel
theorem dX1_begin_32 : decode cX1_begin 32 = .ok (.iconst 1, 1) := by decide +kernel
theorem dX1_begin_33 : decode cX1_begin 33 = .ok (.iadd, 1) := by decide +kernel
theorem dX1_begin_34 : decode cX1_begin 34 = .ok (.iastore, 1) := by decide +kernel
theorem dX1_begin_35 : decode cX1_begin 35 = .ok (.aload_n 0, 1) := by decide +kernel
theorem dX1_begin_36 : decode cX1_begin 36 = .ok (.getfield 9, 3) := by decide +kernel
theorem dX1_begin_39 : decode cX1_begin 39 = .ok (.iload_n 3, 1) := by decide +kernel
theorem dX1_begin_40 : decode cX1_begin 40 = .ok (.iconst 0, 1) := by decide +kernel
theorem dX1_begin_41 : decode cX1_begin 41 = .ok (.iastore, 1) := by decide +kernel
theorem dX1_begin_42 : decode cX1_begin 42 = .ok (.aload_n 0, 1) := by decide +kernel
theorem dX1_begin_43 : decode cX1_begin 43 = .ok (.getfield 15, 3) := by decide +kernel
theorem dX1_begin_46 : decode cX1_begin 46 = .ok (.iload_n 3, 1) := by decide +kernel
theorem dX1_begin_47 : decode cX1_begin 47 = .ok (.iload_n 2, 1) := by decide +kernel
theorem dX1_begin_48 : decode cX1_begin 48 = .ok (.iastore, 1) := by decide +kernel
theorem dX1_begin_49 : decode cX1_begin 49 = .ok (.aload_n 0, 1) := by decide +kernel
theorem dX1_begin_50 : decode cX1_begin 50 = .ok (.getfield 52, 3) := by decide +kernel
theorem dX1_begin_53 : decode cX1_begin 53 = .ok (.iload_n 3, 1) := by decide +kernel
theorem dX1_begin_54 : decode cX1_begin 54 = .ok (.aaload, 1) := by decide +kernel
theorem dX1_begin_55 : decode cX1_begin 55 = .ok (.iload_n 1, 1) := by decide +kernel
theorem dX1_begin_56 : decode cX1_begin 56 = .ok (.iconst 0, 1) := by decide +kernel
theorem dX1_begin_57 : decode cX1_begin 57 = .ok (.iload_n 2, 1) := by decide +kernel
theorem dX1_begin_58 : decode cX1_begin 58 = .ok (.invokevirtual 67, 3) := by decide +kernel
theorem dX1_begin_61 : decode cX1_begin 61 = .ok (.return_, 1) := by decide +kernel
theorem dX1_move_0 : decode cX1_move 0 = .ok (.aload_n 0, 1) := by decide +kernel
theorem dX1_move_1 : decode cX1_move 1 = .ok (.getfield 9, 3) := by decide +kernel
theorem dX1_move_4 : decode cX1_move 4 = .ok (.iload_n 1, 1) := by decide +kernel
theorem dX1_move_5 : decode cX1_move 5 = .ok (.iaload, 1) := by decide +kernel
theorem dX1_move_6 : decode cX1_move 6 = .ok (.ifCond .ne 31, 3) := by decide +kernel
theorem dX1_move_9 : decode cX1_move 9 = .ok (.aload_n 0, 1) := by decide +kernel
theorem dX1_move_10 : decode cX1_move 10 = .ok (.getfield 34, 3) := by decide +kernel
theorem dX1_move_13 : decode cX1_move 13 = .ok (.aload_n 0, 1) := by decide +kernel
theorem dX1_move_14 : decode cX1_move 14 = .ok (.getfield 15, 3) := by decide +kernel
theorem dX1_move_17 : decode cX1_move 17 = .ok (.iload_n 1, 1) := by decide +kernel
theorem dX1_move_18 : decode cX1_move 18 = .ok (.iaload, 1) := by decide +kernel
theorem dX1_move_19 : decode cX1_move 19 = .ok (.dup2, 1) := by decide +kernel
theorem dX1_move_20 : decode cX1_move 20 = .ok (.iaload, 1) := by decide +kernel
theorem dX1_move_21 : decode cX1_move 21 = .ok (.iconst 1, 1) := by decide +kernel
theorem dX1_move_22 : decode cX1_move 22 = .ok (.isub, 1) := by decide +kernel
theorem dX1_move_23 : decode cX1_move 23 = .ok (.iastore, 1) := by decide +kernel
theorem dX1_move_24 : decode cX1_move 24 = .ok (.aload_n 0, 1) := by decide +kernel
theorem dX1_move_25 : decode cX1_move 25 = .ok (.dup, 1) := by decide +kernel
theorem dX1_move_26 : decode cX1_move 26 = .ok (.getfield 64, 3) := by decide +kernel
theorem dX1_move_29 : decode cX1_move 29 = .ok (.iconst 1, 1) := by decide +kernel
theorem dX1_move_30 : decode cX1_move 30 = .ok (.isub, 1) := by decide +kernel
theorem dX1_move_31 : decode cX1_move 31 = .ok (.putfield 64, 3) := by decide +kernel
theorem dX1_move_34 : decode cX1_move 34 = .ok (.goto 38, 3) := by decide +kernel
theorem dX1_move_37 : decode cX1_move 37 = .ok (.aload_n 0, 1) := by decide +kernel
theorem dX1_move_38 : decode cX1_move 38 = .ok (.getfield 9, 3) := by decide +kernel
theorem dX1_move_41 : decode cX1_move 41 = .ok (.iload_n 1, 1) := by decide +kernel
theorem dX1_move_42 : decode cX1_move 42 = .ok (.iaload, 1) := by decide +kernel
theorem dX1_move_43 : decode cX1_move 43 = .ok (.iconst 1, 1) := by decide +kernel
theorem dX1_move_44 : decode cX1_move 44 = .ok (.if_icmp .ne 28, 3) := by decide +kernel
theorem dX1_move_47 : decode cX1_move 47 = .ok (.aload_n 0, 1) := by decide +kernel
theorem dX1_move_48 : decode cX1_move 48 = .ok (.getfield 37, 3) := by decide +kernel
theorem dX1_move_51 : decode cX1_move 51 = .ok (.aload_n 0, 1) := by decide +kernel
theorem dX1_move_52 : decode cX1_move 52 = .ok (.getfield 15, 3) := by decide +kernel
theorem dX1_move_55 : decode cX1_move 55 = .ok (.iload_n 1, 1) := by decide +kernel
theorem dX1_move_56 : decode cX1_move 56 = .ok (.iaload, 1) := by decide +kernel
theorem dX1_move_57 : decode cX1_move 57 = .ok (.dup2, 1) := by decide +kernel
theorem dX1_move_58 : decode cX1_move 58 = .ok (.iaload, 1) := by decide +kernel
theorem dX1_move_59 : decode cX1_move 59 = .ok (.iconst 1, 1) := by decide +kernel
theorem dX1_move_60 : decode cX1_move 60 = .ok (.isub, 1) := by decide +kernel
theorem dX1_move_61 : decode cX1_move 61 = .ok (.iastore, 1) := by decide +kernel
theorem dX1_move_62 : decode cX1_move 62 = .ok (.aload_n 0, 1) := by decide +kernel
theorem dX1_move_63 : decode cX1_move 63 = .ok (.dup, 1) := by decide +kernel
theorem dX1_move_64 : decode cX1_move 64 = .ok (.getfield 64, 3) := by decide +kernel
theorem dX1_move_67 : decode cX1_move 67 = .ok (.iconst 1, 1) := by decide +kernel
theorem dX1_move_68 : decode cX1_move 68 = .ok (.isub, 1) := by decide +kernel
theorem dX1_move_69 : decode cX1_move 69 = .ok (.putfield 64, 3) := by decide +kernel
theorem dX1_move_72 : decode cX1_move 72 = .ok (.iload_n 3, 1) := by decide +kernel
theorem dX1_move_73 : decode cX1_move 73 = .ok (.ifCond .ne 27, 3) := by decide +kernel
theorem dX1_move_76 : decode cX1_move 76 = .ok (.aload_n 0, 1) := by decide +kernel
theorem dX1_move_77 : decode cX1_move 77 = .ok (.getfield 34, 3) := by decide +kernel
theorem dX1_move_80 : decode cX1_move 80 = .ok (.iload 4, 2) := by decide +kernel
theorem dX1_move_82 : decode cX1_move 82 = .ok (.dup2, 1) := by decide +kernel
theorem dX1_move_83 : decode cX1_move 83 = .ok (.iaload, 1) := by decide +kernel
theorem dX1_move_84 : decode cX1_move 84 = .ok (.iconst 1, 1) := by decide +kernel
theorem dX1_move_85 : decode cX1_move 85 = .ok (.iadd, 1) := by decide +kernel
theorem dX1_move_86 : decode cX1_move 86 = .ok (.iastore, 1) := by decide +kernel
theorem dX1_move_87 : decode cX1_move 87 = .ok (.aload_n 0, 1) := by decide +kernel
theorem dX1_move_88 : decode cX1_move 88 = .ok (.dup, 1) := by decide +kernel
theorem dX1_move_89 : decode cX1_move 89 = .ok (.getfield 64, 3) := by decide +kernel
theorem dX1_move_92 : decode cX1_move 92 = .ok (.iconst 1, 1) := by decide +kernel
theorem dX1_move_93 : decode cX1_move 93 = .ok (.iadd, 1) := by decide +kernel
theorem dX1_move_94 : decode cX1_move 94 = .ok (.putfield 64, 3) := by decide +kernel
theorem dX1_move_97 : decode cX1_move 97 = .ok (.goto 29, 3) := by decide +kernel
theorem dX1_move_100 : decode cX1_move 100 = .ok (.iload_n 3, 1) := by decide +kernel
theorem dX1_move_101 : decode cX1_move 101 = .ok (.iconst 1, 1) := by decide +kernel
theorem dX1_move_102 : decode cX1_move 102 = .ok (.if_icmp .ne 24, 3) := by decide +kernel
theorem dX1_move_105 : decode cX1_move 105 = .ok (.aload_n 0, 1) := by decide +kernel
theorem dX1_move_106 : decode cX1_move 106 = .ok (.getfield 37, 3) := by decide +kernel
theorem dX1_move_109 : decode cX1_move 109 = .ok (.iload 4, 2) := by decide +kernel
theorem dX1_move_111 : decode cX1_move 111 = .ok (.dup2, 1) := by decide +kernel
theorem dX1_move_112 : decode cX1_move 112 = .ok (.iaload, 1) := by decide +kernel
theorem dX1_move_113 : decode cX1_move 113 = .ok (.iconst 1, 1) := by decide +kernel
theorem dX1_move_114 : decode cX1_move 114 = .ok (.iadd, 1) := by decide +kernel
theorem dX1_move_115 : decode cX1_move 115 = .ok (.iastore, 1) := by decide +kernel
theorem dX1_move_116 : decode cX1_move 116 = .ok (.aload_n 0, 1) := by decide +kernel
theorem dX1_move_117 : decode cX1_move 117 = .ok (.dup, 1) := by decide +kernel
theorem dX1_move_118 : decode cX1_move 118 = .ok (.getfield 64, 3) := by decide +kernel
theorem dX1_move_121 : decode cX1_move 121 = .ok (.iconst 1, 1) := by decide +kernel
theorem dX1_move_122 : decode cX1_move 122 = .ok (.iadd, 1) := by decide +kernel
theorem dX1_move_123 : decode cX1_move 123 = .ok (.putfield 64, 3) := by decide +kernel
theorem dX1_move_126 : decode cX1_move 126 = .ok (.aload_n 0, 1) := by decide +kernel
theorem dX1_move_127 : decode cX1_move 127 = .ok (.getfield 9, 3) := by decide +kernel
theorem dX1_move_130 : decode cX1_move 130 = .ok (.iload_n 1, 1) := by decide +kernel
theorem dX1_move_131 : decode cX1_move 131 = .ok (.iload_n 3, 1) := by decide +kernel
theorem dX1_move_132 : decode cX1_move 132 = .ok (.iastore, 1) := by decide +kernel
theorem dX1_move_133 : decode cX1_move 133 = .ok (.aload_n 0, 1) := by decide +kernel
theorem dX1_move_134 : decode cX1_move 134 = .ok (.getfield 15, 3) := by decide +kernel
theorem dX1_move_137 : decode cX1_move 137 = .ok (.iload_n 1, 1) := by decide +kernel
theorem dX1_move_138 : decode cX1_move 138 = .ok (.iload 4, 2) := by decide +kernel
theorem dX1_move_140 : decode cX1_move 140 = .ok (.iastore, 1) := by decide +kernel
theorem dX1_move_141 : decode cX1_move 141 = .ok (.aload_n 0, 1) := by decide +kernel
theorem dX1_move_142 : decode cX1_move 142 = .ok (.getfield 31, 3) := by decide +kernel
theorem dX1_move_145 : decode cX1_move 145 = .ok (.iload_n 1, 1) := by decide +kernel
theorem dX1_move_146 : decode cX1_move 146 = .ok (.iload_n 2, 1) := by decide +kernel
theorem dX1_move_147 : decode cX1_move 147 = .ok (.iastore, 1) := by decide +kernel
theorem dX1_move_148 : decode cX1_move 148 = .ok (.aload_n 0, 1) := by decide +kernel
theorem dX1_move_149 : decode cX1_move 149 = .ok (.getfield 24, 3) := by decide +kernel
theorem dX1_move_152 : decode cX1_move 152 = .ok (.iload_n 1, 1) := by decide +kernel
theorem dX1_move_153 : decode cX1_move 153 = .ok (.iconst 0, 1) := by decide +kernel
theorem dX1_move_154 : decode cX1_move 154 = .ok (.bastore, 1) := by decide +kernel
theorem dX1_move_155 : decode cX1_move 155 = .ok (.aload_n 0, 1) := by decide +kernel
theorem dX1_move_156 : decode cX1_move 156 = .ok (.getfield 56, 3) := by decide +kernel
theorem dX1_move_159 : decode cX1_move 159 = .ok (.ifnull 16, 3) := by decide +kernel
theorem dX1_move_162 : decode cX1_move 162 = .ok (.aload_n 0, 1) := by decide +kernel
theorem dX1_move_163 : decode cX1_move 163 = .ok (.getfield 52, 3) := by decide +kernel
theorem dX1_move_166 : decode cX1_move 166 = .ok (.iload_n 1, 1) := by decide +kernel
theorem dX1_move_167 : decode cX1_move 167 = .ok (.aaload, 1) := by decide +kernel
theorem dX1_move_168 : decode cX1_move 168 = .ok (.iload_n 2, 1) := by decide +kernel
theorem dX1_move_169 : decode cX1_move 169 = .ok (.iload_n 3, 1) := by decide +kernel
theorem dX1_move_170 : decode cX1_move 170 = .ok (.iload 4, 2) := by decide +kernel
theorem dX1_move_172 : decode cX1_move 172 = .ok (.invokevirtual 67, 3) := by decide +kernel
theorem dX1_move_175 : decode cX1_move 175 = .ok (.return_, 1) := by decide +kernel
theorem dX1_isAboard_0 : decode cX1_isAboard 0 = .ok (.aload_n 0, 1) := by decide +kernel
theorem dX1_isAboard_1 : decode cX1_isAboard 1 = .ok (.getfield 9, 3) := by decide +kernel
theorem dX1_isAboard_4 : decode cX1_isAboard 4 = .ok (.iload_n 1, 1) := by decide +kernel
theorem dX1_isAboard_5 : decode cX1_isAboard 5 = .ok (.iaload, 1) := by decide +kernel
theorem dX1_isAboard_6 : decode cX1_isAboard 6 = .ok (.iconst 1, 1) := by decide +kernel
theorem dX1_isAboard_7 : decode cX1_isAboard 7 = .ok (.if_icmp .ne 17, 3) := by decide +kernel
theorem dX1_isAboard_10 : decode cX1_isAboard 10 = .ok (.aload_n 0, 1) := by decide +kernel
theorem dX1_isAboard_11 : decode cX1_isAboard 11 = .ok (.getfield 15, 3) := by decide +kernel
theorem dX1_isAboard_14 : decode cX1_isAboard 14 = .ok (.iload_n 1, 1) := by decide +kernel
theorem dX1_isAboard_15 : decode cX1_isAboard 15 = .ok (.iaload, 1) := by decide +kernel
theorem dX1_isAboard_16 : decode cX1_isAboard 16 = .ok (.iload_n 2, 1) := by decide +kernel
theorem dX1_isAboard_17 : decode cX1_isAboard 17 = .ok (.if_icmp .ne 7, 3) := by decide +kernel
theorem dX1_isAboard_20 : decode cX1_isAboard 20 = .ok (.iconst 1, 1) := by decide +kernel
theorem dX1_isAboard_21 : decode cX1_isAboard 21 = .ok (.goto 4, 3) := by decide +kernel
theorem dX1_isAboard_24 : decode cX1_isAboard 24 = .ok (.iconst 0, 1) := by decide +kernel
theorem dX1_isAboard_25 : decode cX1_isAboard 25 = .ok (.ireturn, 1) := by decide +kernel
theorem dX1_inState_0 : decode cX1_inState 0 = .ok (.iconst 0, 1) := by decide +kernel
theorem dX1_inState_1 : decode cX1_inState 1 = .ok (.istore_n 2, 1) := by decide +kernel
theorem dX1_inState_2 : decode cX1_inState 2 = .ok (.iconst 0, 1) := by decide +kernel
theorem dX1_inState_3 : decode cX1_inState 3 = .ok (.istore_n 3, 1) := by decide +kernel
theorem dX1_inState_4 : decode cX1_inState 4 = .ok (.iload_n 3, 1) := by decide +kernel
theorem dX1_inState_5 : decode cX1_inState 5 = .ok (.aload_n 0, 1) := by decide +kernel
theorem dX1_inState_6 : decode cX1_inState 6 = .ok (.getfield 60, 3) := by decide +kernel
theorem dX1_inState_9 : decode cX1_inState 9 = .ok (.if_icmp .ge 22, 3) := by decide +kernel
theorem dX1_inState_12 : decode cX1_inState 12 = .ok (.aload_n 0, 1) := by decide +kernel
theorem dX1_inState_13 : decode cX1_inState 13 = .ok (.getfield 9, 3) := by decide +kernel
theorem dX1_inState_16 : decode cX1_inState 16 = .ok (.iload_n 3, 1) := by decide +kernel
theorem dX1_inState_17 : decode cX1_inState 17 = .ok (.iaload, 1) := by decide +kernel
theorem dX1_inState_18 : decode cX1_inState 18 = .ok (.iload_n 1, 1) := by decide +kernel
theorem dX1_inState_19 : decode cX1_inState 19 = .ok (.if_icmp .ne 6, 3) := by decide +kernel
theorem dX1_inState_22 : decode cX1_inState 22 = .ok (.iinc 2 1, 3) := by decide +kernel
theorem dX1_inState_25 : decode cX1_inState 25 = .ok (.iinc 3 1, 3) := by decide +kernel
theorem dX1_inState_28 : decode cX1_inState 28 = .ok (.goto (-24), 3) := by decide +kernel
theorem dX1_inState_31 : decode cX1_inState 31 = .ok (.iload_n 2, 1) := by decide +kernel
theorem dX1_inState_32 : decode cX1_inState 32 = .ok (.ireturn, 1) := by decide +kernel
theorem dX1_aboardOf_0 : decode cX1_aboardOf 0 = .ok (.iconst 0, 1) := by decide +kernel
theorem dX1_aboardOf_1 : decode cX1_aboardOf 1 = .ok (.istore_n 3, 1) := by decide +kernel
theorem dX1_aboardOf_2 : decode cX1_aboardOf 2 = .ok (.iconst 0, 1) := by decide +kernel
theorem dX1_aboardOf_3 : decode cX1_aboardOf 3 = .ok (.istore 4, 2) := by decide +kernel
theorem dX1_aboardOf_5 : decode cX1_aboardOf 5 = .ok (.iload 4, 2) := by decide +kernel
theorem dX1_aboardOf_7 : decode cX1_aboardOf 7 = .ok (.aload_n 0, 1) := by decide +kernel
theorem dX1_aboardOf_8 : decode cX1_aboardOf 8 = .ok (.getfield 60, 3) := by decide +kernel
theorem dX1_aboardOf_11 : decode cX1_aboardOf 11 = .ok (.if_icmp .ge 33, 3) := by decide +kernel
theorem dX1_aboardOf_14 : decode cX1_aboardOf 14 = .ok (.aload_n 0, 1) := by decide +kernel
theorem dX1_aboardOf_15 : decode cX1_aboardOf 15 = .ok (.iload 4, 2) := by decide +kernel
theorem dX1_aboardOf_17 : decode cX1_aboardOf 17 = .ok (.iload_n 1, 1) := by decide +kernel
theorem dX1_aboardOf_18 : decode cX1_aboardOf 18 = .ok (.invokevirtual 73, 3) := by decide +kernel
theorem dX1_aboardOf_21 : decode cX1_aboardOf 21 = .ok (.ifCond .eq 17, 3) := by decide +kernel
theorem dX1_aboardOf_24 : decode cX1_aboardOf 24 = .ok (.aload_n 0, 1) := by decide +kernel
theorem dX1_aboardOf_25 : decode cX1_aboardOf 25 = .ok (.getfield 24, 3) := by decide +kernel
theorem dX1_aboardOf_28 : decode cX1_aboardOf 28 = .ok (.iload 4, 2) := by decide +kernel
theorem dX1_aboardOf_30 : decode cX1_aboardOf 30 = .ok (.baload, 1) := by decide +kernel
theorem dX1_aboardOf_31 : decode cX1_aboardOf 31 = .ok (.iload_n 2, 1) := by decide +kernel
theorem dX1_aboardOf_32 : decode cX1_aboardOf 32 = .ok (.if_icmp .ne 6, 3) := by decide +kernel
theorem dX1_aboardOf_35 : decode cX1_aboardOf 35 = .ok (.iinc 3 1, 3) := by decide +kernel
theorem dX1_aboardOf_38 : decode cX1_aboardOf 38 = .ok (.iinc 4 1, 3) := by decide +kernel
theorem dX1_aboardOf_41 : decode cX1_aboardOf 41 = .ok (.goto (-36), 3) := by decide +kernel
theorem dX1_aboardOf_44 : decode cX1_aboardOf 44 = .ok (.iload_n 3, 1) := by decide +kernel
theorem dX1_aboardOf_45 : decode cX1_aboardOf 45 = .ok (.ireturn, 1) := by decide +kernel
theorem dX1_copy_0 : decode cX1_copy 0 = .ok (.aload_n 0, 1) := by decide +kernel
theorem dX1_copy_1 : decode cX1_copy 1 = .ok (.aload_n 1, 1) := by decide +kernel
theorem dX1_copy_2 : decode cX1_copy 2 = .ok (.getfield 60, 3) := by decide +kernel
theorem dX1_copy_5 : decode cX1_copy 5 = .ok (.putfield 60, 3) := by decide +kernel
theorem dX1_copy_8 : decode cX1_copy 8 = .ok (.aload_n 0, 1) := by decide +kernel
theorem dX1_copy_9 : decode cX1_copy 9 = .ok (.aload_n 1, 1) := by decide +kernel
theorem dX1_copy_10 : decode cX1_copy 10 = .ok (.getfield 64, 3) := by decide +kernel
theorem dX1_copy_13 : decode cX1_copy 13 = .ok (.putfield 64, 3) := by decide +kernel
theorem dX1_copy_16 : decode cX1_copy 16 = .ok (.aload_n 1, 1) := by decide +kernel
theorem dX1_copy_17 : decode cX1_copy 17 = .ok (.getfield 9, 3) := by decide +kernel
theorem dX1_copy_20 : decode cX1_copy 20 = .ok (.iconst 0, 1) := by decide +kernel
theorem dX1_copy_21 : decode cX1_copy 21 = .ok (.aload_n 0, 1) := by decide +kernel
theorem dX1_copy_22 : decode cX1_copy 22 = .ok (.getfield 9, 3) := by decide +kernel
theorem dX1_copy_25 : decode cX1_copy 25 = .ok (.iconst 0, 1) := by decide +kernel
theorem dX1_copy_26 : decode cX1_copy 26 = .ok (.bipush 120, 2) := by decide +kernel
theorem dX1_copy_28 : decode cX1_copy 28 = .ok (.invokestatic 77, 3) := by decide +kernel
theorem dX1_copy_31 : decode cX1_copy 31 = .ok (.aload_n 1, 1) := by decide +kernel
theorem dX1_copy_32 : decode cX1_copy 32 = .ok (.getfield 15, 3) := by decide +kernel
theorem dX1_copy_35 : decode cX1_copy 35 = .ok (.iconst 0, 1) := by decide +kernel
theorem dX1_copy_36 : decode cX1_copy 36 = .ok (.aload_n 0, 1) := by decide +kernel
theorem dX1_copy_37 : decode cX1_copy 37 = .ok (.getfield 15, 3) := by decide +kernel
theorem dX1_copy_40 : decode cX1_copy 40 = .ok (.iconst 0, 1) := by decide +kernel
theorem dX1_copy_41 : decode cX1_copy 41 = .ok (.bipush 120, 2) := by decide +kernel
theorem dX1_copy_43 : decode cX1_copy 43 = .ok (.invokestatic 77, 3) := by decide +kernel
theorem dX1_copy_46 : decode cX1_copy 46 = .ok (.aload_n 1, 1) := by decide +kernel
theorem dX1_copy_47 : decode cX1_copy 47 = .ok (.getfield 18, 3) := by decide +kernel
theorem dX1_copy_50 : decode cX1_copy 50 = .ok (.iconst 0, 1) := by decide +kernel
theorem dX1_copy_51 : decode cX1_copy 51 = .ok (.aload_n 0, 1) := by decide +kernel
theorem dX1_copy_52 : decode cX1_copy 52 = .ok (.getfield 18, 3) := by decide +kernel
theorem dX1_copy_55 : decode cX1_copy 55 = .ok (.iconst 0, 1) := by decide +kernel
theorem dX1_copy_56 : decode cX1_copy 56 = .ok (.bipush 120, 2) := by decide +kernel
theorem dX1_copy_58 : decode cX1_copy 58 = .ok (.invokestatic 77, 3) := by decide +kernel
theorem dX1_copy_61 : decode cX1_copy 61 = .ok (.aload_n 1, 1) := by decide +kernel
theorem dX1_copy_62 : decode cX1_copy 62 = .ok (.getfield 21, 3) := by decide +kernel
theorem dX1_copy_65 : decode cX1_copy 65 = .ok (.iconst 0, 1) := by decide +kernel
theorem dX1_copy_66 : decode cX1_copy 66 = .ok (.aload_n 0, 1) := by decide +kernel
theorem dX1_copy_67 : decode cX1_copy 67 = .ok (.getfield 21, 3) := by decide +kernel
theorem dX1_copy_70 : decode cX1_copy 70 = .ok (.iconst 0, 1) := by decide +kernel
theorem dX1_copy_71 : decode cX1_copy 71 = .ok (.bipush 120, 2) := by decide +kernel
theorem dX1_copy_73 : decode cX1_copy 73 = .ok (.invokestatic 77, 3) := by decide +kernel
theorem dX1_copy_76 : decode cX1_copy 76 = .ok (.aload_n 1, 1) := by decide +kernel
theorem dX1_copy_77 : decode cX1_copy 77 = .ok (.getfield 31, 3) := by decide +kernel
theorem dX1_copy_80 : decode cX1_copy 80 = .ok (.iconst 0, 1) := by decide +kernel
theorem dX1_copy_81 : decode cX1_copy 81 = .ok (.aload_n 0, 1) := by decide +kernel
theorem dX1_copy_82 : decode cX1_copy 82 = .ok (.getfield 31, 3) := by decide +kernel
theorem dX1_copy_85 : decode cX1_copy 85 = .ok (.iconst 0, 1) := by decide +kernel
theorem dX1_copy_86 : decode cX1_copy 86 = .ok (.bipush 120, 2) := by decide +kernel
theorem dX1_copy_88 : decode cX1_copy 88 = .ok (.invokestatic 77, 3) := by decide +kernel
theorem dX1_copy_91 : decode cX1_copy 91 = .ok (.aload_n 1, 1) := by decide +kernel
theorem dX1_copy_92 : decode cX1_copy 92 = .ok (.getfield 24, 3) := by decide +kernel
theorem dX1_copy_95 : decode cX1_copy 95 = .ok (.iconst 0, 1) := by decide +kernel
theorem dX1_copy_96 : decode cX1_copy 96 = .ok (.aload_n 0, 1) := by decide +kernel
theorem dX1_copy_97 : decode cX1_copy 97 = .ok (.getfield 24, 3) := by decide +kernel
theorem dX1_copy_100 : decode cX1_copy 100 = .ok (.iconst 0, 1) := by decide +kernel
theorem dX1_copy_101 : decode cX1_copy 101 = .ok (.bipush 120, 2) := by decide +kernel
theorem dX1_copy_103 : decode cX1_copy 103 = .ok (.invokestatic 77, 3) := by decide +kernel
theorem dX1_copy_106 : decode cX1_copy 106 = .ok (.aload_n 1, 1) := by decide +kernel
theorem dX1_copy_107 : decode cX1_copy 107 = .ok (.getfield 28, 3) := by decide +kernel
theorem dX1_copy_110 : decode cX1_copy 110 = .ok (.iconst 0, 1) := by decide +kernel
theorem dX1_copy_111 : decode cX1_copy 111 = .ok (.aload_n 0, 1) := by decide +kernel
theorem dX1_copy_112 : decode cX1_copy 112 = .ok (.getfield 28, 3) := by decide +kernel
theorem dX1_copy_115 : decode cX1_copy 115 = .ok (.iconst 0, 1) := by decide +kernel
theorem dX1_copy_116 : decode cX1_copy 116 = .ok (.bipush 70, 2) := by decide +kernel
theorem dX1_copy_118 : decode cX1_copy 118 = .ok (.invokestatic 77, 3) := by decide +kernel
theorem dX1_copy_121 : decode cX1_copy 121 = .ok (.aload_n 1, 1) := by decide +kernel
theorem dX1_copy_122 : decode cX1_copy 122 = .ok (.getfield 37, 3) := by decide +kernel
theorem dX1_copy_125 : decode cX1_copy 125 = .ok (.iconst 0, 1) := by decide +kernel
theorem dX1_copy_126 : decode cX1_copy 126 = .ok (.aload_n 0, 1) := by decide +kernel
theorem dX1_copy_127 : decode cX1_copy 127 = .ok (.getfield 37, 3) := by decide +kernel
theorem dX1_copy_130 : decode cX1_copy 130 = .ok (.iconst 0, 1) := by decide +kernel
theorem dX1_copy_131 : decode cX1_copy 131 = .ok (.bipush 70, 2) := by decide +kernel
theorem dX1_copy_133 : decode cX1_copy 133 = .ok (.invokestatic 77, 3) := by decide +kernel
theorem dX1_copy_136 : decode cX1_copy 136 = .ok (.aload_n 1, 1) := by decide +kernel
theorem dX1_copy_137 : decode cX1_copy 137 = .ok (.getfield 34, 3) := by decide +kernel
theorem dX1_copy_140 : decode cX1_copy 140 = .ok (.iconst 0, 1) := by decide +kernel
theorem dX1_copy_141 : decode cX1_copy 141 = .ok (.aload_n 0, 1) := by decide +kernel
theorem dX1_copy_142 : decode cX1_copy 142 = .ok (.getfield 34, 3) := by decide +kernel
theorem dX1_copy_145 : decode cX1_copy 145 = .ok (.iconst 0, 1) := by decide +kernel
theorem dX1_copy_146 : decode cX1_copy 146 = .ok (.bipush 12, 2) := by decide +kernel
theorem dX1_copy_148 : decode cX1_copy 148 = .ok (.invokestatic 77, 3) := by decide +kernel
theorem dX1_copy_151 : decode cX1_copy 151 = .ok (.return_, 1) := by decide +kernel
theorem dX1_sumOfMinutes_0 : decode cX1_sumOfMinutes 0 = .ok (.iconst 0, 1) := by decide +kernel
theorem dX1_sumOfMinutes_1 : decode cX1_sumOfMinutes 1 = .ok (.istore_n 1, 1) := by decide +kernel
theorem dX1_sumOfMinutes_2 : decode cX1_sumOfMinutes 2 = .ok (.iconst 0, 1) := by decide +kernel
theorem dX1_sumOfMinutes_3 : decode cX1_sumOfMinutes 3 = .ok (.istore_n 2, 1) := by decide +kernel
theorem dX1_sumOfMinutes_4 : decode cX1_sumOfMinutes 4 = .ok (.iload_n 2, 1) := by decide +kernel
theorem dX1_sumOfMinutes_5 : decode cX1_sumOfMinutes 5 = .ok (.aload_n 0, 1) := by decide +kernel
theorem dX1_sumOfMinutes_6 : decode cX1_sumOfMinutes 6 = .ok (.getfield 60, 3) := by decide +kernel
theorem dX1_sumOfMinutes_9 : decode cX1_sumOfMinutes 9 = .ok (.if_icmp .ge 56, 3) := by decide +kernel
theorem dX1_sumOfMinutes_12 : decode cX1_sumOfMinutes 12 = .ok (.aload_n 0, 1) := by decide +kernel
theorem dX1_sumOfMinutes_13 : decode cX1_sumOfMinutes 13 = .ok (.getfield 9, 3) := by decide +kernel
theorem dX1_sumOfMinutes_16 : decode cX1_sumOfMinutes 16 = .ok (.iload_n 2, 1) := by decide +kernel
theorem dX1_sumOfMinutes_17 : decode cX1_sumOfMinutes 17 = .ok (.iaload, 1) := by decide +kernel
theorem dX1_sumOfMinutes_18 : decode cX1_sumOfMinutes 18 = .ok (.iconst 2, 1) := by decide +kernel
theorem dX1_sumOfMinutes_19 : decode cX1_sumOfMinutes 19 = .ok (.if_icmp .ne 15, 3) := by decide +kernel
theorem dX1_sumOfMinutes_22 : decode cX1_sumOfMinutes 22 = .ok (.iload_n 1, 1) := by decide +kernel
theorem dX1_sumOfMinutes_23 : decode cX1_sumOfMinutes 23 = .ok (.aload_n 0, 1) := by decide +kernel
theorem dX1_sumOfMinutes_24 : decode cX1_sumOfMinutes 24 = .ok (.getfield 31, 3) := by decide +kernel
theorem dX1_sumOfMinutes_27 : decode cX1_sumOfMinutes 27 = .ok (.iload_n 2, 1) := by decide +kernel
theorem dX1_sumOfMinutes_28 : decode cX1_sumOfMinutes 28 = .ok (.iaload, 1) := by decide +kernel
theorem dX1_sumOfMinutes_29 : decode cX1_sumOfMinutes 29 = .ok (.iadd, 1) := by decide +kernel
theorem dX1_sumOfMinutes_30 : decode cX1_sumOfMinutes 30 = .ok (.istore_n 1, 1) := by decide +kernel
theorem dX1_sumOfMinutes_31 : decode cX1_sumOfMinutes 31 = .ok (.goto 28, 3) := by decide +kernel
theorem dX1_sumOfMinutes_34 : decode cX1_sumOfMinutes 34 = .ok (.aload_n 0, 1) := by decide +kernel
theorem dX1_sumOfMinutes_35 : decode cX1_sumOfMinutes 35 = .ok (.getfield 9, 3) := by decide +kernel
theorem dX1_sumOfMinutes_38 : decode cX1_sumOfMinutes 38 = .ok (.iload_n 2, 1) := by decide +kernel
theorem dX1_sumOfMinutes_39 : decode cX1_sumOfMinutes 39 = .ok (.iaload, 1) := by decide +kernel
theorem dX1_sumOfMinutes_40 : decode cX1_sumOfMinutes 40 = .ok (.ifCond .eq 13, 3) := by decide +kernel
theorem dX1_sumOfMinutes_43 : decode cX1_sumOfMinutes 43 = .ok (.aload_n 0, 1) := by decide +kernel
theorem dX1_sumOfMinutes_44 : decode cX1_sumOfMinutes 44 = .ok (.getfield 9, 3) := by decide +kernel
theorem dX1_sumOfMinutes_47 : decode cX1_sumOfMinutes 47 = .ok (.iload_n 2, 1) := by decide +kernel
theorem dX1_sumOfMinutes_48 : decode cX1_sumOfMinutes 48 = .ok (.iaload, 1) := by decide +kernel
theorem dX1_sumOfMinutes_49 : decode cX1_sumOfMinutes 49 = .ok (.iconst 1, 1) := by decide +kernel
theorem dX1_sumOfMinutes_50 : decode cX1_sumOfMinutes 50 = .ok (.if_icmp .ne 9, 3) := by decide +kernel
theorem dX1_sumOfMinutes_53 : decode cX1_sumOfMinutes 53 = .ok (.iinc 1 10080, 6) := by decide +kernel
theorem dX1_sumOfMinutes_59 : decode cX1_sumOfMinutes 59 = .ok (.iinc 2 1, 3) := by decide +kernel
theorem dX1_sumOfMinutes_62 : decode cX1_sumOfMinutes 62 = .ok (.goto (-58), 3) := by decide +kernel
theorem dX1_sumOfMinutes_65 : decode cX1_sumOfMinutes 65 = .ok (.iload_n 1, 1) := by decide +kernel
theorem dX1_sumOfMinutes_66 : decode cX1_sumOfMinutes 66 = .ok (.ireturn, 1) := by decide +kernel
theorem dX1_carry_0 : decode cX1_carry 0 = .ok (.iload_n 1, 1) := by decide +kernel
theorem dX1_carry_1 : decode cX1_carry 1 = .ok (.sipush 1440, 3) := by decide +kernel
theorem dX1_carry_4 : decode cX1_carry 4 = .ok (.idiv, 1) := by decide +kernel
theorem dX1_carry_5 : decode cX1_carry 5 = .ok (.iconst 1, 1) := by decide +kernel
theorem dX1_carry_6 : decode cX1_carry 6 = .ok (.iadd, 1) := by decide +kernel
theorem dX1_carry_7 : decode cX1_carry 7 = .ok (.istore_n 3, 1) := by decide +kernel
theorem dX1_carry_8 : decode cX1_carry 8 = .ok (.aload_n 0, 1) := by decide +kernel
theorem dX1_carry_9 : decode cX1_carry 9 = .ok (.getfield 44, 3) := by decide +kernel
theorem dX1_carry_12 : decode cX1_carry 12 = .ok (.iload_n 1, 1) := by decide +kernel
theorem dX1_carry_13 : decode cX1_carry 13 = .ok (.invokevirtual 83, 3) := by decide +kernel
theorem dX1_carry_16 : decode cX1_carry 16 = .ok (.istore 4, 2) := by decide +kernel
theorem dX1_carry_18 : decode cX1_carry 18 = .ok (.iload 4, 2) := by decide +kernel
theorem dX1_carry_20 : decode cX1_carry 20 = .ok (.aload_n 0, 1) := by decide +kernel
theorem dX1_carry_21 : decode cX1_carry 21 = .ok (.getfield 44, 3) := by decide +kernel
theorem dX1_carry_24 : decode cX1_carry 24 = .ok (.getfield 89, 3) := by decide +kernel
theorem dX1_carry_27 : decode cX1_carry 27 = .ok (.if_icmp .ge 91, 3) := by decide +kernel
theorem dX1_carry_30 : decode cX1_carry 30 = .ok (.aload_n 0, 1) := by decide +kernel
theorem dX1_carry_31 : decode cX1_carry 31 = .ok (.getfield 64, 3) := by decide +kernel
theorem dX1_carry_34 : decode cX1_carry 34 = .ok (.ifCond .le 84, 3) := by decide +kernel
theorem dX1_carry_37 : decode cX1_carry 37 = .ok (.aload_n 0, 1) := by decide +kernel
theorem dX1_carry_38 : decode cX1_carry 38 = .ok (.getfield 44, 3) := by decide +kernel
theorem dX1_carry_41 : decode cX1_carry 41 = .ok (.iload 4, 2) := by decide +kernel
theorem dX1_carry_43 : decode cX1_carry 43 = .ok (.invokevirtual 90, 3) := by decide +kernel
theorem dX1_carry_46 : decode cX1_carry 46 = .ok (.istore 5, 2) := by decide +kernel
theorem dX1_carry_48 : decode cX1_carry 48 = .ok (.iload 5, 2) := by decide +kernel
theorem dX1_carry_50 : decode cX1_carry 50 = .ok (.invokestatic 93, 3) := by decide +kernel
theorem dX1_carry_53 : decode cX1_carry 53 = .ok (.istore 6, 2) := by decide +kernel
theorem dX1_carry_55 : decode cX1_carry 55 = .ok (.iload 6, 2) := by decide +kernel
theorem dX1_carry_57 : decode cX1_carry 57 = .ok (.iload_n 2, 1) := by decide +kernel
theorem dX1_carry_58 : decode cX1_carry 58 = .ok (.if_icmp .le 6, 3) := by decide +kernel
theorem dX1_carry_61 : decode cX1_carry 61 = .ok (.goto 57, 3) := by decide +kernel
theorem dX1_carry_64 : decode cX1_carry 64 = .ok (.iload_n 3, 1) := by decide +kernel
theorem dX1_carry_65 : decode cX1_carry 65 = .ok (.sipush 1440, 3) := by decide +kernel
theorem dX1_carry_68 : decode cX1_carry 68 = .ok (.imul, 1) := by decide +kernel
theorem dX1_carry_69 : decode cX1_carry 69 = .ok (.iload 6, 2) := by decide +kernel
theorem dX1_carry_71 : decode cX1_carry 71 = .ok (.if_icmp .gt 14, 3) := by decide +kernel
theorem dX1_carry_74 : decode cX1_carry 74 = .ok (.aload_n 0, 1) := by decide +kernel
theorem dX1_carry_75 : decode cX1_carry 75 = .ok (.iload_n 3, 1) := by decide +kernel
theorem dX1_carry_76 : decode cX1_carry 76 = .ok (.invokevirtual 96, 3) := by decide +kernel
theorem dX1_carry_79 : decode cX1_carry 79 = .ok (.iinc 3 1, 3) := by decide +kernel
theorem dX1_carry_82 : decode cX1_carry 82 = .ok (.goto (-18), 3) := by decide +kernel
theorem dX1_carry_85 : decode cX1_carry 85 = .ok (.iload 5, 2) := by decide +kernel
theorem dX1_carry_87 : decode cX1_carry 87 = .ok (.invokestatic 100, 3) := by decide +kernel
theorem dX1_carry_90 : decode cX1_carry 90 = .ok (.ifCond .eq 14, 3) := by decide +kernel
theorem dX1_carry_93 : decode cX1_carry 93 = .ok (.aload_n 0, 1) := by decide +kernel
theorem dX1_carry_94 : decode cX1_carry 94 = .ok (.iload 5, 2) := by decide +kernel
theorem dX1_carry_96 : decode cX1_carry 96 = .ok (.iload 6, 2) := by decide +kernel
theorem dX1_carry_98 : decode cX1_carry 98 = .ok (.invokevirtual 104, 3) := by decide +kernel
theorem dX1_carry_101 : decode cX1_carry 101 = .ok (.goto 11, 3) := by decide +kernel
theorem dX1_carry_104 : decode cX1_carry 104 = .ok (.aload_n 0, 1) := by decide +kernel
theorem dX1_carry_105 : decode cX1_carry 105 = .ok (.iload 5, 2) := by decide +kernel
theorem dX1_carry_107 : decode cX1_carry 107 = .ok (.iload 6, 2) := by decide +kernel
theorem dX1_carry_109 : decode cX1_carry 109 = .ok (.invokevirtual 108, 3) := by decide +kernel
theorem dX1_carry_112 : decode cX1_carry 112 = .ok (.iinc 4 1, 3) := by decide +kernel
theorem dX1_carry_115 : decode cX1_carry 115 = .ok (.goto (-97), 3) := by decide +kernel
theorem dX1_carry_118 : decode cX1_carry 118 = .ok (.iload_n 3, 1) := by decide +kernel
theorem dX1_carry_119 : decode cX1_carry 119 = .ok (.sipush 1440, 3) := by decide +kernel
theorem dX1_carry_122 : decode cX1_carry 122 = .ok (.imul, 1) := by decide +kernel
theorem dX1_carry_123 : decode cX1_carry 123 = .ok (.iload_n 2, 1) := by decide +kernel
theorem dX1_carry_124 : decode cX1_carry 124 = .ok (.if_icmp .gt 14, 3) := by decide +kernel
theorem dX1_carry_127 : decode cX1_carry 127 = .ok (.aload_n 0, 1) := by decide +kernel
theorem dX1_carry_128 : decode cX1_carry 128 = .ok (.iload_n 3, 1) := by decide +kernel
theorem dX1_carry_129 : decode cX1_carry 129 = .ok (.invokevirtual 96, 3) := by decide +kernel
theorem dX1_carry_132 : decode cX1_carry 132 = .ok (.iinc 3 1, 3) := by decide +kernel
theorem dX1_carry_135 : decode cX1_carry 135 = .ok (.goto (-17), 3) := by decide +kernel
theorem dX1_carry_138 : decode cX1_carry 138 = .ok (.return_, 1) := by decide +kernel
theorem dX1_burn_0 : decode cX1_burn 0 = .ok (.iconst 0, 1) := by decide +kernel
theorem dX1_burn_1 : decode cX1_burn 1 = .ok (.istore_n 2, 1) := by decide +kernel
theorem dX1_burn_2 : decode cX1_burn 2 = .ok (.iload_n 2, 1) := by decide +kernel
theorem dX1_burn_3 : decode cX1_burn 3 = .ok (.aload_n 0, 1) := by decide +kernel
theorem dX1_burn_4 : decode cX1_burn 4 = .ok (.getfield 60, 3) := by decide +kernel
theorem dX1_burn_7 : decode cX1_burn 7 = .ok (.if_icmp .ge 61, 3) := by decide +kernel
theorem dX1_burn_10 : decode cX1_burn 10 = .ok (.aload_n 0, 1) := by decide +kernel
theorem dX1_burn_11 : decode cX1_burn 11 = .ok (.getfield 9, 3) := by decide +kernel
theorem dX1_burn_14 : decode cX1_burn 14 = .ok (.iload_n 2, 1) := by decide +kernel
theorem dX1_burn_15 : decode cX1_burn 15 = .ok (.iaload, 1) := by decide +kernel
theorem dX1_burn_16 : decode cX1_burn 16 = .ok (.iconst 3, 1) := by decide +kernel
theorem dX1_burn_17 : decode cX1_burn 17 = .ok (.if_icmp .ne 45, 3) := by decide +kernel
theorem dX1_burn_20 : decode cX1_burn 20 = .ok (.iload_n 1, 1) := by decide +kernel
theorem dX1_burn_21 : decode cX1_burn 21 = .ok (.aload_n 0, 1) := by decide +kernel
theorem dX1_burn_22 : decode cX1_burn 22 = .ok (.getfield 31, 3) := by decide +kernel
theorem dX1_burn_25 : decode cX1_burn 25 = .ok (.iload_n 2, 1) := by decide +kernel
theorem dX1_burn_26 : decode cX1_burn 26 = .ok (.iaload, 1) := by decide +kernel
theorem dX1_burn_27 : decode cX1_burn 27 = .ok (.sipush 1440, 3) := by decide +kernel
theorem dX1_burn_30 : decode cX1_burn 30 = .ok (.idiv, 1) := by decide +kernel
theorem dX1_burn_31 : decode cX1_burn 31 = .ok (.isub, 1) := by decide +kernel
theorem dX1_burn_32 : decode cX1_burn 32 = .ok (.aload_n 0, 1) := by decide +kernel
theorem dX1_burn_33 : decode cX1_burn 33 = .ok (.getfield 52, 3) := by decide +kernel
theorem dX1_burn_36 : decode cX1_burn 36 = .ok (.iload_n 2, 1) := by decide +kernel
theorem dX1_burn_37 : decode cX1_burn 37 = .ok (.aaload, 1) := by decide +kernel
theorem dX1_burn_38 : decode cX1_burn 38 = .ok (.getfield 111, 3) := by decide +kernel
theorem dX1_burn_41 : decode cX1_burn 41 = .ok (.if_icmp .lt 21, 3) := by decide +kernel
theorem dX1_burn_44 : decode cX1_burn 44 = .ok (.aload_n 0, 1) := by decide +kernel
theorem dX1_burn_45 : decode cX1_burn 45 = .ok (.iload_n 2, 1) := by decide +kernel
theorem dX1_burn_46 : decode cX1_burn 46 = .ok (.iload_n 1, 1) := by decide +kernel
theorem dX1_burn_47 : decode cX1_burn 47 = .ok (.sipush 1440, 3) := by decide +kernel
theorem dX1_burn_50 : decode cX1_burn 50 = .ok (.imul, 1) := by decide +kernel
theorem dX1_burn_51 : decode cX1_burn 51 = .ok (.bipush 6, 2) := by decide +kernel
theorem dX1_burn_53 : decode cX1_burn 53 = .ok (.aload_n 0, 1) := by decide +kernel
theorem dX1_burn_54 : decode cX1_burn 54 = .ok (.getfield 15, 3) := by decide +kernel
theorem dX1_burn_57 : decode cX1_burn 57 = .ok (.iload_n 2, 1) := by decide +kernel
theorem dX1_burn_58 : decode cX1_burn 58 = .ok (.iaload, 1) := by decide +kernel
theorem dX1_burn_59 : decode cX1_burn 59 = .ok (.invokevirtual 114, 3) := by decide +kernel
theorem dX1_burn_62 : decode cX1_burn 62 = .ok (.iinc 2 1, 3) := by decide +kernel
theorem dX1_burn_65 : decode cX1_burn 65 = .ok (.goto (-63), 3) := by decide +kernel
theorem dX1_burn_68 : decode cX1_burn 68 = .ok (.return_, 1) := by decide +kernel
theorem dX1_comes_0 : decode cX1_comes 0 = .ok (.iload_n 1, 1) := by decide +kernel
theorem dX1_comes_1 : decode cX1_comes 1 = .ok (.invokestatic 118, 3) := by decide +kernel
theorem dX1_comes_4 : decode cX1_comes 4 = .ok (.istore_n 3, 1) := by decide +kernel
theorem dX1_comes_5 : decode cX1_comes 5 = .ok (.iload_n 1, 1) := by decide +kernel
theorem dX1_comes_6 : decode cX1_comes 6 = .ok (.invokestatic 121, 3) := by decide +kernel
theorem dX1_comes_9 : decode cX1_comes 9 = .ok (.istore 4, 2) := by decide +kernel
theorem dX1_comes_11 : decode cX1_comes 11 = .ok (.bipush 10, 2) := by decide +kernel
theorem dX1_comes_13 : decode cX1_comes 13 = .ok (.iload_n 1, 1) := by decide +kernel
theorem dX1_comes_14 : decode cX1_comes 14 = .ok (.invokestatic 124, 3) := by decide +kernel
theorem dX1_comes_17 : decode cX1_comes 17 = .ok (.imul, 1) := by decide +kernel
theorem dX1_comes_18 : decode cX1_comes 18 = .ok (.iload_n 3, 1) := by decide +kernel
theorem dX1_comes_19 : decode cX1_comes 19 = .ok (.iadd, 1) := by decide +kernel
theorem dX1_comes_20 : decode cX1_comes 20 = .ok (.istore 5, 2) := by decide +kernel
theorem dX1_comes_22 : decode cX1_comes 22 = .ok (.aload_n 0, 1) := by decide +kernel
theorem dX1_comes_23 : decode cX1_comes 23 = .ok (.getfield 37, 3) := by decide +kernel
theorem dX1_comes_26 : decode cX1_comes 26 = .ok (.iload 5, 2) := by decide +kernel
theorem dX1_comes_28 : decode cX1_comes 28 = .ok (.iaload, 1) := by decide +kernel
theorem dX1_comes_29 : decode cX1_comes 29 = .ok (.ifCond .eq 17, 3) := by decide +kernel
theorem dX1_comes_32 : decode cX1_comes 32 = .ok (.aload_n 0, 1) := by decide +kernel
theorem dX1_comes_33 : decode cX1_comes 33 = .ok (.getfield 40, 3) := by decide +kernel
theorem dX1_comes_36 : decode cX1_comes 36 = .ok (.iload 5, 2) := by decide +kernel
theorem dX1_comes_38 : decode cX1_comes 38 = .ok (.iload 4, 2) := by decide +kernel
theorem dX1_comes_40 : decode cX1_comes 40 = .ok (.invokevirtual 127, 3) := by decide +kernel
theorem dX1_comes_43 : decode cX1_comes 43 = .ok (.ifCond .eq 4, 3) := by decide +kernel
theorem dX1_comes_46 : decode cX1_comes 46 = .ok (.return_, 1) := by decide +kernel
theorem dX1_comes_47 : decode cX1_comes 47 = .ok (.iload 4, 2) := by decide +kernel
theorem dX1_comes_49 : decode cX1_comes 49 = .ok (.aload_n 0, 1) := by decide +kernel
theorem dX1_comes_50 : decode cX1_comes 50 = .ok (.getfield 40, 3) := by decide +kernel
theorem dX1_comes_53 : decode cX1_comes 53 = .ok (.getfield 132, 3) := by decide +kernel
theorem dX1_comes_56 : decode cX1_comes 56 = .ok (.iload_n 3, 1) := by decide +kernel
theorem dX1_comes_57 : decode cX1_comes 57 = .ok (.iaload, 1) := by decide +kernel
theorem dX1_comes_58 : decode cX1_comes 58 = .ok (.iconst 1, 1) := by decide +kernel
theorem dX1_comes_59 : decode cX1_comes 59 = .ok (.isub, 1) := by decide +kernel
theorem dX1_comes_60 : decode cX1_comes 60 = .ok (.if_icmp .ne 7, 3) := by decide +kernel
theorem dX1_comes_63 : decode cX1_comes 63 = .ok (.iconst 1, 1) := by decide +kernel
theorem dX1_comes_64 : decode cX1_comes 64 = .ok (.goto 4, 3) := by decide +kernel
theorem dX1_comes_67 : decode cX1_comes 67 = .ok (.iconst 0, 1) := by decide +kernel
theorem dX1_comes_68 : decode cX1_comes 68 = .ok (.istore 6, 2) := by decide +kernel
theorem dX1_comes_70 : decode cX1_comes 70 = .ok (.aload_n 0, 1) := by decide +kernel
theorem dX1_comes_71 : decode cX1_comes 71 = .ok (.getfield 40, 3) := by decide +kernel
theorem dX1_comes_74 : decode cX1_comes 74 = .ok (.getfield 135, 3) := by decide +kernel
theorem dX1_comes_77 : decode cX1_comes 77 = .ok (.bipush 8, 2) := by decide +kernel
theorem dX1_comes_79 : decode cX1_comes 79 = .ok (.iload_n 3, 1) := by decide +kernel
theorem dX1_comes_80 : decode cX1_comes 80 = .ok (.imul, 1) := by decide +kernel
theorem dX1_comes_81 : decode cX1_comes 81 = .ok (.iload 4, 2) := by decide +kernel
theorem dX1_comes_83 : decode cX1_comes 83 = .ok (.iadd, 1) := by decide +kernel
theorem dX1_comes_84 : decode cX1_comes 84 = .ok (.iaload, 1) := by decide +kernel
theorem dX1_comes_85 : decode cX1_comes 85 = .ok (.istore 7, 2) := by decide +kernel
theorem dX1_comes_87 : decode cX1_comes 87 = .ok (.iconst 0, 1) := by decide +kernel
theorem dX1_comes_88 : decode cX1_comes 88 = .ok (.istore 8, 2) := by decide +kernel
theorem dX1_comes_90 : decode cX1_comes 90 = .ok (.iload 8, 2) := by decide +kernel
theorem dX1_comes_92 : decode cX1_comes 92 = .ok (.aload_n 0, 1) := by decide +kernel
theorem dX1_comes_93 : decode cX1_comes 93 = .ok (.getfield 60, 3) := by decide +kernel
theorem dX1_comes_96 : decode cX1_comes 96 = .ok (.if_icmp .ge 129, 3) := by decide +kernel
theorem dX1_comes_99 : decode cX1_comes 99 = .ok (.iload 6, 2) := by decide +kernel
theorem dX1_comes_101 : decode cX1_comes 101 = .ok (.ifCond .ne 25, 3) := by decide +kernel
theorem dX1_comes_104 : decode cX1_comes 104 = .ok (.aload_n 0, 1) := by decide +kernel
theorem dX1_comes_105 : decode cX1_comes 105 = .ok (.getfield 24, 3) := by decide +kernel
theorem dX1_comes_108 : decode cX1_comes 108 = .ok (.iload 8, 2) := by decide +kernel
theorem dX1_comes_110 : decode cX1_comes 110 = .ok (.baload, 1) := by decide +kernel
theorem dX1_comes_111 : decode cX1_comes 111 = .ok (.ifCond .eq 19, 3) := by decide +kernel
theorem dX1_comes_114 : decode cX1_comes 114 = .ok (.aload_n 0, 1) := by decide +kernel
theorem dX1_comes_115 : decode cX1_comes 115 = .ok (.getfield 18, 3) := by decide +kernel
theorem dX1_comes_118 : decode cX1_comes 118 = .ok (.iload 8, 2) := by decide +kernel
theorem dX1_comes_120 : decode cX1_comes 120 = .ok (.iaload, 1) := by decide +kernel
theorem dX1_comes_121 : decode cX1_comes 121 = .ok (.iload 4, 2) := by decide +kernel
theorem dX1_comes_123 : decode cX1_comes 123 = .ok (.if_icmp .gt 7, 3) := by decide +kernel
theorem dX1_comes_126 : decode cX1_comes 126 = .ok (.iconst 1, 1) := by decide +kernel
theorem dX1_comes_127 : decode cX1_comes 127 = .ok (.goto 4, 3) := by decide +kernel
theorem dX1_comes_130 : decode cX1_comes 130 = .ok (.iconst 0, 1) := by decide +kernel
theorem dX1_comes_131 : decode cX1_comes 131 = .ok (.istore 9, 2) := by decide +kernel
theorem dX1_comes_133 : decode cX1_comes 133 = .ok (.iload 9, 2) := by decide +kernel
theorem dX1_comes_135 : decode cX1_comes 135 = .ok (.ifCond .eq 84, 3) := by decide +kernel
theorem dX1_comes_138 : decode cX1_comes 138 = .ok (.aload_n 0, 1) := by decide +kernel
theorem dX1_comes_139 : decode cX1_comes 139 = .ok (.iload 8, 2) := by decide +kernel
theorem dX1_comes_141 : decode cX1_comes 141 = .ok (.iload 5, 2) := by decide +kernel
theorem dX1_comes_143 : decode cX1_comes 143 = .ok (.invokevirtual 73, 3) := by decide +kernel
theorem dX1_comes_146 : decode cX1_comes 146 = .ok (.ifCond .eq 73, 3) := by decide +kernel
theorem dX1_comes_149 : decode cX1_comes 149 = .ok (.aload_n 0, 1) := by decide +kernel
theorem dX1_comes_150 : decode cX1_comes 150 = .ok (.getfield 24, 3) := by decide +kernel
theorem dX1_comes_153 : decode cX1_comes 153 = .ok (.iload 8, 2) := by decide +kernel
theorem dX1_comes_155 : decode cX1_comes 155 = .ok (.baload, 1) := by decide +kernel
theorem dX1_comes_156 : decode cX1_comes 156 = .ok (.ifCond .ne 25, 3) := by decide +kernel
theorem dX1_comes_159 : decode cX1_comes 159 = .ok (.aload_n 0, 1) := by decide +kernel
theorem dX1_comes_160 : decode cX1_comes 160 = .ok (.getfield 21, 3) := by decide +kernel
theorem dX1_comes_163 : decode cX1_comes 163 = .ok (.iload 8, 2) := by decide +kernel
theorem dX1_comes_165 : decode cX1_comes 165 = .ok (.dup2, 1) := by decide +kernel
theorem dX1_comes_166 : decode cX1_comes 166 = .ok (.iaload, 1) := by decide +kernel
theorem dX1_comes_167 : decode cX1_comes 167 = .ok (.iconst 1, 1) := by decide +kernel
theorem dX1_comes_168 : decode cX1_comes 168 = .ok (.iadd, 1) := by decide +kernel
theorem dX1_comes_169 : decode cX1_comes 169 = .ok (.iastore, 1) := by decide +kernel
theorem dX1_comes_170 : decode cX1_comes 170 = .ok (.aload_n 0, 1) := by decide +kernel
theorem dX1_comes_171 : decode cX1_comes 171 = .ok (.getfield 28, 3) := by decide +kernel
theorem dX1_comes_174 : decode cX1_comes 174 = .ok (.iload 5, 2) := by decide +kernel
theorem dX1_comes_176 : decode cX1_comes 176 = .ok (.dup2, 1) := by decide +kernel
theorem dX1_comes_177 : decode cX1_comes 177 = .ok (.iaload, 1) := by decide +kernel
theorem dX1_comes_178 : decode cX1_comes 178 = .ok (.iconst 1, 1) := by decide +kernel
theorem dX1_comes_179 : decode cX1_comes 179 = .ok (.iadd, 1) := by decide +kernel
theorem dX1_comes_180 : decode cX1_comes 180 = .ok (.iastore, 1) := by decide +kernel
theorem dX1_comes_181 : decode cX1_comes 181 = .ok (.aload_n 0, 1) := by decide +kernel
theorem dX1_comes_182 : decode cX1_comes 182 = .ok (.iload 8, 2) := by decide +kernel
theorem dX1_comes_184 : decode cX1_comes 184 = .ok (.iload_n 2, 1) := by decide +kernel
theorem dX1_comes_185 : decode cX1_comes 185 = .ok (.aload_n 0, 1) := by decide +kernel
theorem dX1_comes_186 : decode cX1_comes 186 = .ok (.getfield 52, 3) := by decide +kernel
theorem dX1_comes_189 : decode cX1_comes 189 = .ok (.iload 8, 2) := by decide +kernel
theorem dX1_comes_191 : decode cX1_comes 191 = .ok (.aaload, 1) := by decide +kernel
theorem dX1_comes_192 : decode cX1_comes 192 = .ok (.iload 7, 2) := by decide +kernel
theorem dX1_comes_194 : decode cX1_comes 194 = .ok (.invokevirtual 138, 3) := by decide +kernel
theorem dX1_comes_197 : decode cX1_comes 197 = .ok (.iload 7, 2) := by decide +kernel
theorem dX1_comes_199 : decode cX1_comes 199 = .ok (.invokevirtual 114, 3) := by decide +kernel
theorem dX1_comes_202 : decode cX1_comes 202 = .ok (.aload_n 0, 1) := by decide +kernel
theorem dX1_comes_203 : decode cX1_comes 203 = .ok (.getfield 56, 3) := by decide +kernel
theorem dX1_comes_206 : decode cX1_comes 206 = .ok (.ifnull 13, 3) := by decide +kernel
theorem dX1_comes_209 : decode cX1_comes 209 = .ok (.aload_n 0, 1) := by decide +kernel
theorem dX1_comes_210 : decode cX1_comes 210 = .ok (.getfield 56, 3) := by decide +kernel
theorem dX1_comes_213 : decode cX1_comes 213 = .ok (.iload_n 1, 1) := by decide +kernel
theorem dX1_comes_214 : decode cX1_comes 214 = .ok (.iload 8, 2) := by decide +kernel
theorem dX1_comes_216 : decode cX1_comes 216 = .ok (.invokevirtual 141, 3) := by decide +kernel
theorem dX1_comes_219 : decode cX1_comes 219 = .ok (.iinc 8 1, 3) := by decide +kernel
theorem dX1_comes_222 : decode cX1_comes 222 = .ok (.goto (-132), 3) := by decide +kernel
theorem dX1_comes_225 : decode cX1_comes 225 = .ok (.return_, 1) := by decide +kernel
theorem dX1_goes_0 : decode cX1_goes 0 = .ok (.iload_n 1, 1) := by decide +kernel
theorem dX1_goes_1 : decode cX1_goes 1 = .ok (.invokestatic 118, 3) := by decide +kernel
theorem dX1_goes_4 : decode cX1_goes 4 = .ok (.istore_n 3, 1) := by decide +kernel
theorem dX1_goes_5 : decode cX1_goes 5 = .ok (.iload_n 1, 1) := by decide +kernel
theorem dX1_goes_6 : decode cX1_goes 6 = .ok (.invokestatic 121, 3) := by decide +kernel
theorem dX1_goes_9 : decode cX1_goes 9 = .ok (.istore 4, 2) := by decide +kernel
theorem dX1_goes_11 : decode cX1_goes 11 = .ok (.bipush 10, 2) := by decide +kernel
theorem dX1_goes_13 : decode cX1_goes 13 = .ok (.iload_n 1, 1) := by decide +kernel
theorem dX1_goes_14 : decode cX1_goes 14 = .ok (.invokestatic 124, 3) := by decide +kernel
theorem dX1_goes_17 : decode cX1_goes 17 = .ok (.imul, 1) := by decide +kernel
theorem dX1_goes_18 : decode cX1_goes 18 = .ok (.iload_n 3, 1) := by decide +kernel
theorem dX1_goes_19 : decode cX1_goes 19 = .ok (.iadd, 1) := by decide +kernel
theorem dX1_goes_20 : decode cX1_goes 20 = .ok (.istore 5, 2) := by decide +kernel
theorem dX1_goes_22 : decode cX1_goes 22 = .ok (.aload_n 0, 1) := by decide +kernel
theorem dX1_goes_23 : decode cX1_goes 23 = .ok (.getfield 40, 3) := by decide +kernel
theorem dX1_goes_26 : decode cX1_goes 26 = .ok (.getfield 135, 3) := by decide +kernel
theorem dX1_goes_29 : decode cX1_goes 29 = .ok (.bipush 8, 2) := by decide +kernel
theorem dX1_goes_31 : decode cX1_goes 31 = .ok (.iload_n 3, 1) := by decide +kernel
theorem dX1_goes_32 : decode cX1_goes 32 = .ok (.imul, 1) := by decide +kernel
theorem dX1_goes_33 : decode cX1_goes 33 = .ok (.iload 4, 2) := by decide +kernel
theorem dX1_goes_35 : decode cX1_goes 35 = .ok (.iadd, 1) := by decide +kernel
theorem dX1_goes_36 : decode cX1_goes 36 = .ok (.iaload, 1) := by decide +kernel
theorem dX1_goes_37 : decode cX1_goes 37 = .ok (.istore 6, 2) := by decide +kernel
theorem dX1_goes_39 : decode cX1_goes 39 = .ok (.aload_n 0, 1) := by decide +kernel
theorem dX1_goes_40 : decode cX1_goes 40 = .ok (.getfield 34, 3) := by decide +kernel
theorem dX1_goes_43 : decode cX1_goes 43 = .ok (.iload 6, 2) := by decide +kernel
theorem dX1_goes_45 : decode cX1_goes 45 = .ok (.iaload, 1) := by decide +kernel
theorem dX1_goes_46 : decode cX1_goes 46 = .ok (.ifCond .le 122, 3) := by decide +kernel
theorem dX1_goes_49 : decode cX1_goes 49 = .ok (.aload_n 0, 1) := by decide +kernel
theorem dX1_goes_50 : decode cX1_goes 50 = .ok (.getfield 40, 3) := by decide +kernel
theorem dX1_goes_53 : decode cX1_goes 53 = .ok (.iload 5, 2) := by decide +kernel
theorem dX1_goes_55 : decode cX1_goes 55 = .ok (.iload 4, 2) := by decide +kernel
theorem dX1_goes_57 : decode cX1_goes 57 = .ok (.invokevirtual 127, 3) := by decide +kernel
theorem dX1_goes_60 : decode cX1_goes 60 = .ok (.ifCond .ne 108, 3) := by decide +kernel
theorem dX1_goes_63 : decode cX1_goes 63 = .ok (.iconst 0, 1) := by decide +kernel
theorem dX1_goes_64 : decode cX1_goes 64 = .ok (.istore 7, 2) := by decide +kernel
theorem dX1_goes_66 : decode cX1_goes 66 = .ok (.iload 7, 2) := by decide +kernel
theorem dX1_goes_68 : decode cX1_goes 68 = .ok (.aload_n 0, 1) := by decide +kernel
theorem dX1_goes_69 : decode cX1_goes 69 = .ok (.getfield 60, 3) := by decide +kernel
theorem dX1_goes_72 : decode cX1_goes 72 = .ok (.if_icmp .ge 96, 3) := by decide +kernel
theorem dX1_goes_75 : decode cX1_goes 75 = .ok (.aload_n 0, 1) := by decide +kernel
theorem dX1_goes_76 : decode cX1_goes 76 = .ok (.getfield 9, 3) := by decide +kernel
theorem dX1_goes_79 : decode cX1_goes 79 = .ok (.iload 7, 2) := by decide +kernel
theorem dX1_goes_81 : decode cX1_goes 81 = .ok (.iaload, 1) := by decide +kernel
theorem dX1_goes_82 : decode cX1_goes 82 = .ok (.ifCond .ne 36, 3) := by decide +kernel
theorem dX1_goes_85 : decode cX1_goes 85 = .ok (.aload_n 0, 1) := by decide +kernel
theorem dX1_goes_86 : decode cX1_goes 86 = .ok (.getfield 15, 3) := by decide +kernel
theorem dX1_goes_89 : decode cX1_goes 89 = .ok (.iload 7, 2) := by decide +kernel
theorem dX1_goes_91 : decode cX1_goes 91 = .ok (.iaload, 1) := by decide +kernel
theorem dX1_goes_92 : decode cX1_goes 92 = .ok (.iload 6, 2) := by decide +kernel
theorem dX1_goes_94 : decode cX1_goes 94 = .ok (.if_icmp .ne 24, 3) := by decide +kernel
theorem dX1_goes_97 : decode cX1_goes 97 = .ok (.aload_n 0, 1) := by decide +kernel
theorem dX1_goes_98 : decode cX1_goes 98 = .ok (.getfield 44, 3) := by decide +kernel
theorem dX1_goes_101 : decode cX1_goes 101 = .ok (.iload_n 1, 1) := by decide +kernel
theorem dX1_goes_102 : decode cX1_goes 102 = .ok (.aload_n 0, 1) := by decide +kernel
theorem dX1_goes_103 : decode cX1_goes 103 = .ok (.getfield 52, 3) := by decide +kernel
theorem dX1_goes_106 : decode cX1_goes 106 = .ok (.iload 7, 2) := by decide +kernel
theorem dX1_goes_108 : decode cX1_goes 108 = .ok (.aaload, 1) := by decide +kernel
theorem dX1_goes_109 : decode cX1_goes 109 = .ok (.getfield 146, 3) := by decide +kernel
theorem dX1_goes_112 : decode cX1_goes 112 = .ok (.invokevirtual 149, 3) := by decide +kernel
theorem dX1_goes_115 : decode cX1_goes 115 = .ok (.goto 4, 3) := by decide +kernel
theorem dX1_goes_118 : decode cX1_goes 118 = .ok (.iconst 0, 1) := by decide +kernel
theorem dX1_goes_119 : decode cX1_goes 119 = .ok (.istore 8, 2) := by decide +kernel
theorem dX1_goes_121 : decode cX1_goes 121 = .ok (.iload 8, 2) := by decide +kernel
theorem dX1_goes_123 : decode cX1_goes 123 = .ok (.ifCond .le 39, 3) := by decide +kernel
theorem dX1_goes_126 : decode cX1_goes 126 = .ok (.aload_n 0, 1) := by decide +kernel
theorem dX1_goes_127 : decode cX1_goes 127 = .ok (.iload 7, 2) := by decide +kernel
theorem dX1_goes_129 : decode cX1_goes 129 = .ok (.iload_n 2, 1) := by decide +kernel
theorem dX1_goes_130 : decode cX1_goes 130 = .ok (.iconst 1, 1) := by decide +kernel
theorem dX1_goes_131 : decode cX1_goes 131 = .ok (.iload 5, 2) := by decide +kernel
theorem dX1_goes_133 : decode cX1_goes 133 = .ok (.invokevirtual 114, 3) := by decide +kernel
theorem dX1_goes_136 : decode cX1_goes 136 = .ok (.aload_n 0, 1) := by decide +kernel
theorem dX1_goes_137 : decode cX1_goes 137 = .ok (.getfield 18, 3) := by decide +kernel
theorem dX1_goes_140 : decode cX1_goes 140 = .ok (.iload 7, 2) := by decide +kernel
theorem dX1_goes_142 : decode cX1_goes 142 = .ok (.iload 8, 2) := by decide +kernel
theorem dX1_goes_144 : decode cX1_goes 144 = .ok (.iastore, 1) := by decide +kernel
theorem dX1_goes_145 : decode cX1_goes 145 = .ok (.aload_n 0, 1) := by decide +kernel
theorem dX1_goes_146 : decode cX1_goes 146 = .ok (.getfield 56, 3) := by decide +kernel
theorem dX1_goes_149 : decode cX1_goes 149 = .ok (.ifnull 13, 3) := by decide +kernel
theorem dX1_goes_152 : decode cX1_goes 152 = .ok (.aload_n 0, 1) := by decide +kernel
theorem dX1_goes_153 : decode cX1_goes 153 = .ok (.getfield 56, 3) := by decide +kernel
theorem dX1_goes_156 : decode cX1_goes 156 = .ok (.iload_n 1, 1) := by decide +kernel
theorem dX1_goes_157 : decode cX1_goes 157 = .ok (.iload 7, 2) := by decide +kernel
theorem dX1_goes_159 : decode cX1_goes 159 = .ok (.invokevirtual 141, 3) := by decide +kernel
theorem dX1_goes_162 : decode cX1_goes 162 = .ok (.iinc 7 1, 3) := by decide +kernel
theorem dX1_goes_165 : decode cX1_goes 165 = .ok (.goto (-99), 3) := by decide +kernel
theorem dX1_goes_168 : decode cX1_goes 168 = .ok (.aload_n 0, 1) := by decide +kernel
theorem dX1_goes_169 : decode cX1_goes 169 = .ok (.getfield 37, 3) := by decide +kernel
theorem dX1_goes_172 : decode cX1_goes 172 = .ok (.iload 5, 2) := by decide +kernel
theorem dX1_goes_174 : decode cX1_goes 174 = .ok (.iaload, 1) := by decide +kernel
theorem dX1_goes_175 : decode cX1_goes 175 = .ok (.ifCond .le 23, 3) := by decide +kernel
theorem dX1_goes_178 : decode cX1_goes 178 = .ok (.aload_n 0, 1) := by decide +kernel
theorem dX1_goes_179 : decode cX1_goes 179 = .ok (.getfield 48, 3) := by decide +kernel
theorem dX1_goes_182 : decode cX1_goes 182 = .ok (.iload_n 3, 1) := by decide +kernel
theorem dX1_goes_183 : decode cX1_goes 183 = .ok (.invokevirtual 153, 3) := by decide +kernel
theorem dX1_goes_186 : decode cX1_goes 186 = .ok (.ifCond .eq 12, 3) := by decide +kernel
theorem dX1_goes_189 : decode cX1_goes 189 = .ok (.aload_n 0, 1) := by decide +kernel
theorem dX1_goes_190 : decode cX1_goes 190 = .ok (.iload 5, 2) := by decide +kernel
theorem dX1_goes_192 : decode cX1_goes 192 = .ok (.iload_n 3, 1) := by decide +kernel
theorem dX1_goes_193 : decode cX1_goes 193 = .ok (.iload 4, 2) := by decide +kernel
theorem dX1_goes_195 : decode cX1_goes 195 = .ok (.invokevirtual 158, 3) := by decide +kernel
theorem dX1_goes_198 : decode cX1_goes 198 = .ok (.return_, 1) := by decide +kernel
theorem dX1_sort_0 : decode cX1_sort 0 = .ok (.iload_n 3, 1) := by decide +kernel
theorem dX1_sort_1 : decode cX1_sort 1 = .ok (.iconst 1, 1) := by decide +kernel
theorem dX1_sort_2 : decode cX1_sort 2 = .ok (.iadd, 1) := by decide +kernel
theorem dX1_sort_3 : decode cX1_sort 3 = .ok (.aload_n 0, 1) := by decide +kernel
theorem dX1_sort_4 : decode cX1_sort 4 = .ok (.getfield 40, 3) := by decide +kernel
theorem dX1_sort_7 : decode cX1_sort 7 = .ok (.getfield 132, 3) := by decide +kernel
theorem dX1_sort_10 : decode cX1_sort 10 = .ok (.iload_n 2, 1) := by decide +kernel
theorem dX1_sort_11 : decode cX1_sort 11 = .ok (.iaload, 1) := by decide +kernel
theorem dX1_sort_12 : decode cX1_sort 12 = .ok (.if_icmp .lt 4, 3) := by decide +kernel
theorem dX1_sort_15 : decode cX1_sort 15 = .ok (.return_, 1) := by decide +kernel
theorem dX1_sort_16 : decode cX1_sort 16 = .ok (.aload_n 0, 1) := by decide +kernel
theorem dX1_sort_17 : decode cX1_sort 17 = .ok (.getfield 48, 3) := by decide +kernel
theorem dX1_sort_20 : decode cX1_sort 20 = .ok (.aload_n 0, 1) := by decide +kernel
theorem dX1_sort_21 : decode cX1_sort 21 = .ok (.getfield 40, 3) := by decide +kernel
theorem dX1_sort_24 : decode cX1_sort 24 = .ok (.getfield 161, 3) := by decide +kernel
theorem dX1_sort_27 : decode cX1_sort 27 = .ok (.bipush 8, 2) := by decide +kernel
theorem dX1_sort_29 : decode cX1_sort 29 = .ok (.iload_n 2, 1) := by decide +kernel
theorem dX1_sort_30 : decode cX1_sort 30 = .ok (.imul, 1) := by decide +kernel
theorem dX1_sort_31 : decode cX1_sort 31 = .ok (.iload_n 3, 1) := by decide +kernel
theorem dX1_sort_32 : decode cX1_sort 32 = .ok (.iadd, 1) := by decide +kernel
theorem dX1_sort_33 : decode cX1_sort 33 = .ok (.iconst 1, 1) := by decide +kernel
theorem dX1_sort_34 : decode cX1_sort 34 = .ok (.iadd, 1) := by decide +kernel
theorem dX1_sort_35 : decode cX1_sort 35 = .ok (.iaload, 1) := by decide +kernel
theorem dX1_sort_36 : decode cX1_sort 36 = .ok (.aload_n 0, 1) := by decide +kernel
theorem dX1_sort_37 : decode cX1_sort 37 = .ok (.getfield 40, 3) := by decide +kernel
theorem dX1_sort_40 : decode cX1_sort 40 = .ok (.getfield 163, 3) := by decide +kernel
theorem dX1_sort_43 : decode cX1_sort 43 = .ok (.bipush 8, 2) := by decide +kernel
theorem dX1_sort_45 : decode cX1_sort 45 = .ok (.iload_n 2, 1) := by decide +kernel
theorem dX1_sort_46 : decode cX1_sort 46 = .ok (.imul, 1) := by decide +kernel
theorem dX1_sort_47 : decode cX1_sort 47 = .ok (.iload_n 3, 1) := by decide +kernel
theorem dX1_sort_48 : decode cX1_sort 48 = .ok (.iadd, 1) := by decide +kernel
theorem dX1_sort_49 : decode cX1_sort 49 = .ok (.iaload, 1) := by decide +kernel
theorem dX1_sort_50 : decode cX1_sort 50 = .ok (.isub, 1) := by decide +kernel
theorem dX1_sort_51 : decode cX1_sort 51 = .ok (.invokevirtual 165, 3) := by decide +kernel
theorem dX1_sort_54 : decode cX1_sort 54 = .ok (.iconst 0, 1) := by decide +kernel
theorem dX1_sort_55 : decode cX1_sort 55 = .ok (.istore 4, 2) := by decide +kernel
theorem dX1_sort_57 : decode cX1_sort 57 = .ok (.iload 4, 2) := by decide +kernel
theorem dX1_sort_59 : decode cX1_sort 59 = .ok (.aload_n 0, 1) := by decide +kernel
theorem dX1_sort_60 : decode cX1_sort 60 = .ok (.getfield 40, 3) := by decide +kernel
theorem dX1_sort_63 : decode cX1_sort 63 = .ok (.getfield 132, 3) := by decide +kernel
theorem dX1_sort_66 : decode cX1_sort 66 = .ok (.iload_n 2, 1) := by decide +kernel
theorem dX1_sort_67 : decode cX1_sort 67 = .ok (.iaload, 1) := by decide +kernel
theorem dX1_sort_68 : decode cX1_sort 68 = .ok (.if_icmp .ge 93, 3) := by decide +kernel
theorem dX1_sort_71 : decode cX1_sort 71 = .ok (.aload_n 0, 1) := by decide +kernel
theorem dX1_sort_72 : decode cX1_sort 72 = .ok (.getfield 40, 3) := by decide +kernel
theorem dX1_sort_75 : decode cX1_sort 75 = .ok (.getfield 135, 3) := by decide +kernel
theorem dX1_sort_78 : decode cX1_sort 78 = .ok (.bipush 8, 2) := by decide +kernel
theorem dX1_sort_80 : decode cX1_sort 80 = .ok (.iload_n 2, 1) := by decide +kernel
theorem dX1_sort_81 : decode cX1_sort 81 = .ok (.imul, 1) := by decide +kernel
theorem dX1_sort_82 : decode cX1_sort 82 = .ok (.iload 4, 2) := by decide +kernel
theorem dX1_sort_84 : decode cX1_sort 84 = .ok (.iadd, 1) := by decide +kernel
theorem dX1_sort_85 : decode cX1_sort 85 = .ok (.iaload, 1) := by decide +kernel
theorem dX1_sort_86 : decode cX1_sort 86 = .ok (.istore 5, 2) := by decide +kernel
theorem dX1_sort_88 : decode cX1_sort 88 = .ok (.iconst 0, 1) := by decide +kernel
theorem dX1_sort_89 : decode cX1_sort 89 = .ok (.istore 6, 2) := by decide +kernel
theorem dX1_sort_91 : decode cX1_sort 91 = .ok (.iload 6, 2) := by decide +kernel
theorem dX1_sort_93 : decode cX1_sort 93 = .ok (.aload_n 0, 1) := by decide +kernel
theorem dX1_sort_94 : decode cX1_sort 94 = .ok (.getfield 60, 3) := by decide +kernel
theorem dX1_sort_97 : decode cX1_sort 97 = .ok (.if_icmp .ge 58, 3) := by decide +kernel
theorem dX1_sort_100 : decode cX1_sort 100 = .ok (.aload_n 0, 1) := by decide +kernel
theorem dX1_sort_101 : decode cX1_sort 101 = .ok (.iload 6, 2) := by decide +kernel
theorem dX1_sort_103 : decode cX1_sort 103 = .ok (.iload_n 1, 1) := by decide +kernel
theorem dX1_sort_104 : decode cX1_sort 104 = .ok (.invokevirtual 73, 3) := by decide +kernel
theorem dX1_sort_107 : decode cX1_sort 107 = .ok (.ifCond .eq 42, 3) := by decide +kernel
theorem dX1_sort_110 : decode cX1_sort 110 = .ok (.aload_n 0, 1) := by decide +kernel
theorem dX1_sort_111 : decode cX1_sort 111 = .ok (.getfield 24, 3) := by decide +kernel
theorem dX1_sort_114 : decode cX1_sort 114 = .ok (.iload 6, 2) := by decide +kernel
theorem dX1_sort_116 : decode cX1_sort 116 = .ok (.baload, 1) := by decide +kernel
theorem dX1_sort_117 : decode cX1_sort 117 = .ok (.ifCond .ne 32, 3) := by decide +kernel
theorem dX1_sort_120 : decode cX1_sort 120 = .ok (.aload_n 0, 1) := by decide +kernel
theorem dX1_sort_121 : decode cX1_sort 121 = .ok (.getfield 18, 3) := by decide +kernel
theorem dX1_sort_124 : decode cX1_sort 124 = .ok (.iload 6, 2) := by decide +kernel
theorem dX1_sort_126 : decode cX1_sort 126 = .ok (.iaload, 1) := by decide +kernel
theorem dX1_sort_127 : decode cX1_sort 127 = .ok (.iload 4, 2) := by decide +kernel
theorem dX1_sort_129 : decode cX1_sort 129 = .ok (.if_icmp .ne 20, 3) := by decide +kernel
theorem dX1_sort_132 : decode cX1_sort 132 = .ok (.aload_n 0, 1) := by decide +kernel
theorem dX1_sort_133 : decode cX1_sort 133 = .ok (.getfield 24, 3) := by decide +kernel
theorem dX1_sort_136 : decode cX1_sort 136 = .ok (.iload 6, 2) := by decide +kernel
theorem dX1_sort_138 : decode cX1_sort 138 = .ok (.aload_n 0, 1) := by decide +kernel
theorem dX1_sort_139 : decode cX1_sort 139 = .ok (.getfield 48, 3) := by decide +kernel
theorem dX1_sort_142 : decode cX1_sort 142 = .ok (.iload_n 2, 1) := by decide +kernel
theorem dX1_sort_143 : decode cX1_sort 143 = .ok (.iload 5, 2) := by decide +kernel
theorem dX1_sort_145 : decode cX1_sort 145 = .ok (.invokevirtual 168, 3) := by decide +kernel
theorem dX1_sort_148 : decode cX1_sort 148 = .ok (.bastore, 1) := by decide +kernel
theorem dX1_sort_149 : decode cX1_sort 149 = .ok (.iinc 6 1, 3) := by decide +kernel
theorem dX1_sort_152 : decode cX1_sort 152 = .ok (.goto (-61), 3) := by decide +kernel
theorem dX1_sort_155 : decode cX1_sort 155 = .ok (.iinc 4 1, 3) := by decide +kernel
theorem dX1_sort_158 : decode cX1_sort 158 = .ok (.goto (-101), 3) := by decide +kernel
theorem dX1_sort_161 : decode cX1_sort 161 = .ok (.return_, 1) := by decide +kernel
theorem dX2_init_0 : decode cX2_init 0 = .ok (.aload_n 0, 1) := by decide +kernel
theorem dX2_init_1 : decode cX2_init 1 = .ok (.invokespecial 3, 3) := by decide +kernel
theorem dX2_init_4 : decode cX2_init 4 = .ok (.aload_n 0, 1) := by decide +kernel
theorem dX2_init_5 : decode cX2_init 5 = .ok (.bipush (-60), 2) := by decide +kernel
theorem dX2_init_7 : decode cX2_init 7 = .ok (.putfield 9, 3) := by decide +kernel
theorem dX2_init_10 : decode cX2_init 10 = .ok (.aload_n 0, 1) := by decide +kernel
theorem dX2_init_11 : decode cX2_init 11 = .ok (.bipush 60, 2) := by decide +kernel
theorem dX2_init_13 : decode cX2_init 13 = .ok (.putfield 15, 3) := by decide +kernel
theorem dX2_init_16 : decode cX2_init 16 = .ok (.return_, 1) := by decide +kernel
theorem dX2_shown_0 : decode cX2_shown 0 = .ok (.iload_n 0, 1) := by decide +kernel
theorem dX2_shown_1 : decode cX2_shown 1 = .ok (.sipush 3600, 3) := by decide +kernel
theorem dX2_shown_4 : decode cX2_shown 4 = .ok (.iload_n 1, 1) := by decide +kernel
theorem dX2_shown_5 : decode cX2_shown 5 = .ok (.iadd, 1) := by decide +kernel
theorem dX2_shown_6 : decode cX2_shown 6 = .ok (.imul, 1) := by decide +kernel
theorem dX2_shown_7 : decode cX2_shown 7 = .ok (.sipush 3600, 3) := by decide +kernel
theorem dX2_shown_10 : decode cX2_shown 10 = .ok (.idiv, 1) := by decide +kernel
theorem dX2_shown_11 : decode cX2_shown 11 = .ok (.ireturn, 1) := by decide +kernel
theorem dX2_learn_0 : decode cX2_learn 0 = .ok (.sipush (-1000), 3) := by decide +kernel
theorem dX2_learn_3 : decode cX2_learn 3 = .ok (.istore_n 3, 1) := by decide +kernel
theorem dX2_learn_4 : decode cX2_learn 4 = .ok (.sipush (-1000), 3) := by decide +kernel
theorem dX2_learn_7 : decode cX2_learn 7 = .ok (.istore 4, 2) := by decide +kernel
theorem dX2_learn_9 : decode cX2_learn 9 = .ok (.aload_n 0, 1) := by decide +kernel
theorem dX2_learn_10 : decode cX2_learn 10 = .ok (.getfield 9, 3) := by decide +kernel
theorem dX2_learn_13 : decode cX2_learn 13 = .ok (.istore 5, 2) := by decide +kernel
theorem dX2_learn_15 : decode cX2_learn 15 = .ok (.iload 5, 2) := by decide +kernel
theorem dX2_learn_17 : decode cX2_learn 17 = .ok (.aload_n 0, 1) := by decide +kernel
theorem dX2_learn_18 : decode cX2_learn 18 = .ok (.getfield 15, 3) := by decide +kernel
theorem dX2_learn_21 : decode cX2_learn 21 = .ok (.if_icmp .gt 47, 3) := by decide +kernel
theorem dX2_learn_24 : decode cX2_learn 24 = .ok (.iload_n 1, 1) := by decide +kernel
theorem dX2_learn_25 : decode cX2_learn 25 = .ok (.aload_n 0, 1) := by decide +kernel
theorem dX2_learn_26 : decode cX2_learn 26 = .ok (.getfield 18, 3) := by decide +kernel
theorem dX2_learn_29 : decode cX2_learn 29 = .ok (.isub, 1) := by decide +kernel
theorem dX2_learn_30 : decode cX2_learn 30 = .ok (.iload 5, 2) := by decide +kernel
theorem dX2_learn_32 : decode cX2_learn 32 = .ok (.invokestatic 21, 3) := by decide +kernel
theorem dX2_learn_35 : decode cX2_learn 35 = .ok (.iload_n 2, 1) := by decide +kernel
theorem dX2_learn_36 : decode cX2_learn 36 = .ok (.aload_n 0, 1) := by decide +kernel
theorem dX2_learn_37 : decode cX2_learn 37 = .ok (.getfield 18, 3) := by decide +kernel
theorem dX2_learn_40 : decode cX2_learn 40 = .ok (.isub, 1) := by decide +kernel
theorem dX2_learn_41 : decode cX2_learn 41 = .ok (.if_icmp .ne 21, 3) := by decide +kernel
theorem dX2_learn_44 : decode cX2_learn 44 = .ok (.iload_n 3, 1) := by decide +kernel
theorem dX2_learn_45 : decode cX2_learn 45 = .ok (.sipush (-1000), 3) := by decide +kernel
theorem dX2_learn_48 : decode cX2_learn 48 = .ok (.if_icmp .ne 8, 3) := by decide +kernel
theorem dX2_learn_51 : decode cX2_learn 51 = .ok (.iload 5, 2) := by decide +kernel
theorem dX2_learn_53 : decode cX2_learn 53 = .ok (.goto 4, 3) := by decide +kernel
theorem dX2_learn_56 : decode cX2_learn 56 = .ok (.iload_n 3, 1) := by decide +kernel
theorem dX2_learn_57 : decode cX2_learn 57 = .ok (.istore_n 3, 1) := by decide +kernel
theorem dX2_learn_58 : decode cX2_learn 58 = .ok (.iload 5, 2) := by decide +kernel
theorem dX2_learn_60 : decode cX2_learn 60 = .ok (.istore 4, 2) := by decide +kernel
theorem dX2_learn_62 : decode cX2_learn 62 = .ok (.iinc 5 1, 3) := by decide +kernel
theorem dX2_learn_65 : decode cX2_learn 65 = .ok (.goto (-50), 3) := by decide +kernel
theorem dX2_learn_68 : decode cX2_learn 68 = .ok (.iload_n 3, 1) := by decide +kernel
theorem dX2_learn_69 : decode cX2_learn 69 = .ok (.sipush (-1000), 3) := by decide +kernel
theorem dX2_learn_72 : decode cX2_learn 72 = .ok (.if_icmp .ne 5, 3) := by decide +kernel
theorem dX2_learn_75 : decode cX2_learn 75 = .ok (.iconst 0, 1) := by decide +kernel
theorem dX2_learn_76 : decode cX2_learn 76 = .ok (.ireturn, 1) := by decide +kernel
theorem dX2_learn_77 : decode cX2_learn 77 = .ok (.aload_n 0, 1) := by decide +kernel
theorem dX2_learn_78 : decode cX2_learn 78 = .ok (.iload_n 3, 1) := by decide +kernel
theorem dX2_learn_79 : decode cX2_learn 79 = .ok (.putfield 9, 3) := by decide +kernel
theorem dX2_learn_82 : decode cX2_learn 82 = .ok (.aload_n 0, 1) := by decide +kernel
theorem dX2_learn_83 : decode cX2_learn 83 = .ok (.iload 4, 2) := by decide +kernel
theorem dX2_learn_85 : decode cX2_learn 85 = .ok (.putfield 15, 3) := by decide +kernel
theorem dX2_learn_88 : decode cX2_learn 88 = .ok (.iconst 1, 1) := by decide +kernel
theorem dX2_learn_89 : decode cX2_learn 89 = .ok (.ireturn, 1) := by decide +kernel
theorem dX2_mayShow_0 : decode cX2_mayShow 0 = .ok (.iload_n 1, 1) := by decide +kernel
theorem dX2_mayShow_1 : decode cX2_mayShow 1 = .ok (.aload_n 0, 1) := by decide +kernel
theorem dX2_mayShow_2 : decode cX2_mayShow 2 = .ok (.getfield 9, 3) := by decide +kernel
theorem dX2_mayShow_5 : decode cX2_mayShow 5 = .ok (.invokestatic 21, 3) := by decide +kernel
theorem dX2_mayShow_8 : decode cX2_mayShow 8 = .ok (.iload_n 2, 1) := by decide +kernel
theorem dX2_mayShow_9 : decode cX2_mayShow 9 = .ok (.if_icmp .gt 15, 3) := by decide +kernel
theorem dX2_mayShow_12 : decode cX2_mayShow 12 = .ok (.iload_n 1, 1) := by decide +kernel
theorem dX2_mayShow_13 : decode cX2_mayShow 13 = .ok (.aload_n 0, 1) := by decide +kernel
theorem dX2_mayShow_14 : decode cX2_mayShow 14 = .ok (.getfield 15, 3) := by decide +kernel
theorem dX2_mayShow_17 : decode cX2_mayShow 17 = .ok (.invokestatic 21, 3) := by decide +kernel
theorem dX2_mayShow_20 : decode cX2_mayShow 20 = .ok (.iload_n 2, 1) := by decide +kernel
theorem dX2_mayShow_21 : decode cX2_mayShow 21 = .ok (.if_icmp .ge 5, 3) := by decide +kernel
theorem dX2_mayShow_24 : decode cX2_mayShow 24 = .ok (.iconst 0, 1) := by decide +kernel
theorem dX2_mayShow_25 : decode cX2_mayShow 25 = .ok (.ireturn, 1) := by decide +kernel
theorem dX2_mayShow_26 : decode cX2_mayShow 26 = .ok (.aload_n 0, 1) := by decide +kernel
theorem dX2_mayShow_27 : decode cX2_mayShow 27 = .ok (.getfield 9, 3) := by decide +kernel
theorem dX2_mayShow_30 : decode cX2_mayShow 30 = .ok (.istore_n 3, 1) := by decide +kernel
theorem dX2_mayShow_31 : decode cX2_mayShow 31 = .ok (.iload_n 3, 1) := by decide +kernel
theorem dX2_mayShow_32 : decode cX2_mayShow 32 = .ok (.aload_n 0, 1) := by decide +kernel
theorem dX2_mayShow_33 : decode cX2_mayShow 33 = .ok (.getfield 15, 3) := by decide +kernel
theorem dX2_mayShow_36 : decode cX2_mayShow 36 = .ok (.if_icmp .gt 20, 3) := by decide +kernel
theorem dX2_mayShow_39 : decode cX2_mayShow 39 = .ok (.iload_n 1, 1) := by decide +kernel
theorem dX2_mayShow_40 : decode cX2_mayShow 40 = .ok (.iload_n 3, 1) := by decide +kernel
theorem dX2_mayShow_41 : decode cX2_mayShow 41 = .ok (.invokestatic 21, 3) := by decide +kernel
theorem dX2_mayShow_44 : decode cX2_mayShow 44 = .ok (.iload_n 2, 1) := by decide +kernel
theorem dX2_mayShow_45 : decode cX2_mayShow 45 = .ok (.if_icmp .ne 5, 3) := by decide +kernel
theorem dX2_mayShow_48 : decode cX2_mayShow 48 = .ok (.iconst 1, 1) := by decide +kernel
theorem dX2_mayShow_49 : decode cX2_mayShow 49 = .ok (.ireturn, 1) := by decide +kernel
theorem dX2_mayShow_50 : decode cX2_mayShow 50 = .ok (.iinc 3 1, 3) := by decide +kernel
theorem dX2_mayShow_53 : decode cX2_mayShow 53 = .ok (.goto (-22), 3) := by decide +kernel
theorem dX2_mayShow_56 : decode cX2_mayShow 56 = .ok (.iconst 0, 1) := by decide +kernel
theorem dX2_mayShow_57 : decode cX2_mayShow 57 = .ok (.ireturn, 1) := by decide +kernel
theorem dX2_least_0 : decode cX2_least 0 = .ok (.aload_n 0, 1) := by decide +kernel
theorem dX2_least_1 : decode cX2_least 1 = .ok (.getfield 18, 3) := by decide +kernel
theorem dX2_least_4 : decode cX2_least 4 = .ok (.istore_n 2, 1) := by decide +kernel
theorem dX2_least_5 : decode cX2_least 5 = .ok (.iload_n 2, 1) := by decide +kernel
theorem dX2_least_6 : decode cX2_least 6 = .ok (.sipush 10079, 3) := by decide +kernel
theorem dX2_least_9 : decode cX2_least 9 = .ok (.if_icmp .gt 30, 3) := by decide +kernel
theorem dX2_least_12 : decode cX2_least 12 = .ok (.aload_n 0, 1) := by decide +kernel
theorem dX2_least_13 : decode cX2_least 13 = .ok (.iload_n 2, 1) := by decide +kernel
theorem dX2_least_14 : decode cX2_least 14 = .ok (.aload_n 0, 1) := by decide +kernel
theorem dX2_least_15 : decode cX2_least 15 = .ok (.getfield 18, 3) := by decide +kernel
theorem dX2_least_18 : decode cX2_least 18 = .ok (.isub, 1) := by decide +kernel
theorem dX2_least_19 : decode cX2_least 19 = .ok (.iload_n 1, 1) := by decide +kernel
theorem dX2_least_20 : decode cX2_least 20 = .ok (.aload_n 0, 1) := by decide +kernel
theorem dX2_least_21 : decode cX2_least 21 = .ok (.getfield 18, 3) := by decide +kernel
theorem dX2_least_24 : decode cX2_least 24 = .ok (.isub, 1) := by decide +kernel
theorem dX2_least_25 : decode cX2_least 25 = .ok (.invokevirtual 25, 3) := by decide +kernel
theorem dX2_least_28 : decode cX2_least 28 = .ok (.ifCond .eq 5, 3) := by decide +kernel
theorem dX2_least_31 : decode cX2_least 31 = .ok (.iload_n 2, 1) := by decide +kernel
theorem dX2_least_32 : decode cX2_least 32 = .ok (.ireturn, 1) := by decide +kernel
theorem dX2_least_33 : decode cX2_least 33 = .ok (.iinc 2 1, 3) := by decide +kernel
theorem dX2_least_36 : decode cX2_least 36 = .ok (.goto (-31), 3) := by decide +kernel
theorem dX2_least_39 : decode cX2_least 39 = .ok (.iconst (-1), 1) := by decide +kernel
theorem dX2_least_40 : decode cX2_least 40 = .ok (.ireturn, 1) := by decide +kernel
theorem dX2_greatest_0 : decode cX2_greatest 0 = .ok (.sipush 10079, 3) := by decide +kernel
theorem dX2_greatest_3 : decode cX2_greatest 3 = .ok (.istore_n 2, 1) := by decide +kernel
theorem dX2_greatest_4 : decode cX2_greatest 4 = .ok (.iload_n 2, 1) := by decide +kernel
theorem dX2_greatest_5 : decode cX2_greatest 5 = .ok (.aload_n 0, 1) := by decide +kernel
theorem dX2_greatest_6 : decode cX2_greatest 6 = .ok (.getfield 18, 3) := by decide +kernel
theorem dX2_greatest_9 : decode cX2_greatest 9 = .ok (.if_icmp .lt 30, 3) := by decide +kernel
theorem dX2_greatest_12 : decode cX2_greatest 12 = .ok (.aload_n 0, 1) := by decide +kernel
theorem dX2_greatest_13 : decode cX2_greatest 13 = .ok (.iload_n 2, 1) := by decide +kernel
theorem dX2_greatest_14 : decode cX2_greatest 14 = .ok (.aload_n 0, 1) := by decide +kernel
theorem dX2_greatest_15 : decode cX2_greatest 15 = .ok (.getfield 18, 3) := by decide +kernel
theorem dX2_greatest_18 : decode cX2_greatest 18 = .ok (.isub, 1) := by decide +kernel
theorem dX2_greatest_19 : decode cX2_greatest 19 = .ok (.iload_n 1, 1) := by decide +kernel
theorem dX2_greatest_20 : decode cX2_greatest 20 = .ok (.aload_n 0, 1) := by decide +kernel
theorem dX2_greatest_21 : decode cX2_greatest 21 = .ok (.getfield 18, 3) := by decide +kernel
theorem dX2_greatest_24 : decode cX2_greatest 24 = .ok (.isub, 1) := by decide +kernel
theorem dX2_greatest_25 : decode cX2_greatest 25 = .ok (.invokevirtual 25, 3) := by decide +kernel
theorem dX2_greatest_28 : decode cX2_greatest 28 = .ok (.ifCond .eq 5, 3) := by decide +kernel
theorem dX2_greatest_31 : decode cX2_greatest 31 = .ok (.iload_n 2, 1) := by decide +kernel
theorem dX2_greatest_32 : decode cX2_greatest 32 = .ok (.ireturn, 1) := by decide +kernel
theorem dX2_greatest_33 : decode cX2_greatest 33 = .ok (.iinc 2 (-1), 3) := by decide +kernel
theorem dX2_greatest_36 : decode cX2_greatest 36 = .ok (.goto (-32), 3) := by decide +kernel
theorem dX2_greatest_39 : decode cX2_greatest 39 = .ok (.iconst (-1), 1) := by decide +kernel
theorem dX2_greatest_40 : decode cX2_greatest 40 = .ok (.ireturn, 1) := by decide +kernel
theorem dX3_init_0 : decode cX3_init 0 = .ok (.aload_n 0, 1) := by decide +kernel
theorem dX3_init_1 : decode cX3_init 1 = .ok (.invokespecial 3, 3) := by decide +kernel
theorem dX3_init_4 : decode cX3_init 4 = .ok (.aload_n 0, 1) := by decide +kernel
theorem dX3_init_5 : decode cX3_init 5 = .ok (.bipush 8, 2) := by decide +kernel
theorem dX3_init_7 : decode cX3_init 7 = .ok (.newarray .int, 2) := by decide +kernel
theorem dX3_init_9 : decode cX3_init 9 = .ok (.putfield 9, 3) := by decide +kernel
theorem dX3_init_12 : decode cX3_init 12 = .ok (.aload_n 0, 1) := by decide +kernel
theorem dX3_init_13 : decode cX3_init 13 = .ok (.bipush 8, 2) := by decide +kernel
theorem dX3_init_15 : decode cX3_init 15 = .ok (.newarray .int, 2) := by decide +kernel
theorem dX3_init_17 : decode cX3_init 17 = .ok (.putfield 15, 3) := by decide +kernel
theorem dX3_init_20 : decode cX3_init 20 = .ok (.aload_n 0, 1) := by decide +kernel
theorem dX3_init_21 : decode cX3_init 21 = .ok (.bipush 8, 2) := by decide +kernel
theorem dX3_init_23 : decode cX3_init 23 = .ok (.newarray .int, 2) := by decide +kernel
theorem dX3_init_25 : decode cX3_init 25 = .ok (.putfield 18, 3) := by decide +kernel
theorem dX3_init_28 : decode cX3_init 28 = .ok (.aload_n 0, 1) := by decide +kernel
theorem dX3_init_29 : decode cX3_init 29 = .ok (.bipush 8, 2) := by decide +kernel
theorem dX3_init_31 : decode cX3_init 31 = .ok (.newarray .int, 2) := by decide +kernel
theorem dX3_init_33 : decode cX3_init 33 = .ok (.putfield 21, 3) := by decide +kernel
theorem dX3_init_36 : decode cX3_init 36 = .ok (.return_, 1) := by decide +kernel
theorem dX3_add_0 : decode cX3_add 0 = .ok (.aload_n 0, 1) := by decide +kernel
theorem dX3_add_1 : decode cX3_add 1 = .ok (.getfield 24, 3) := by decide +kernel
theorem dX3_add_4 : decode cX3_add 4 = .ok (.bipush 8, 2) := by decide +kernel
theorem dX3_add_6 : decode cX3_add 6 = .ok (.if_icmp .lt 5, 3) := by decide +kernel
theorem dX3_add_9 : decode cX3_add 9 = .ok (.iconst (-1), 1) := by decide +kernel
theorem dX3_add_10 : decode cX3_add 10 = .ok (.ireturn, 1) := by decide +kernel
theorem dX3_add_11 : decode cX3_add 11 = .ok (.aload_n 0, 1) := by decide +kernel
theorem dX3_add_12 : decode cX3_add 12 = .ok (.getfield 15, 3) := by decide +kernel
theorem dX3_add_15 : decode cX3_add 15 = .ok (.aload_n 0, 1) := by decide +kernel
theorem dX3_add_16 : decode cX3_add 16 = .ok (.getfield 24, 3) := by decide +kernel
theorem dX3_add_19 : decode cX3_add 19 = .ok (.iload_n 1, 1) := by decide +kernel
theorem dX3_add_20 : decode cX3_add 20 = .ok (.iastore, 1) := by decide +kernel
theorem dX3_add_21 : decode cX3_add 21 = .ok (.aload_n 0, 1) := by decide +kernel
theorem dX3_add_22 : decode cX3_add 22 = .ok (.getfield 18, 3) := by decide +kernel
theorem dX3_add_25 : decode cX3_add 25 = .ok (.aload_n 0, 1) := by decide +kernel
theorem dX3_add_26 : decode cX3_add 26 = .ok (.getfield 24, 3) := by decide +kernel
theorem dX3_add_29 : decode cX3_add 29 = .ok (.iload_n 2, 1) := by decide +kernel
theorem dX3_add_30 : decode cX3_add 30 = .ok (.iastore, 1) := by decide +kernel
theorem dX3_add_31 : decode cX3_add 31 = .ok (.aload_n 0, 1) := by decide +kernel
theorem dX3_add_32 : decode cX3_add 32 = .ok (.getfield 9, 3) := by decide +kernel
theorem dX3_add_35 : decode cX3_add 35 = .ok (.aload_n 0, 1) := by decide +kernel
theorem dX3_add_36 : decode cX3_add 36 = .ok (.getfield 24, 3) := by decide +kernel
theorem dX3_add_39 : decode cX3_add 39 = .ok (.iconst (-1), 1) := by decide +kernel
theorem dX3_add_40 : decode cX3_add 40 = .ok (.iastore, 1) := by decide +kernel
theorem dX3_add_41 : decode cX3_add 41 = .ok (.aload_n 0, 1) := by decide +kernel
theorem dX3_add_42 : decode cX3_add 42 = .ok (.dup, 1) := by decide +kernel
theorem dX3_add_43 : decode cX3_add 43 = .ok (.getfield 24, 3) := by decide +kernel
theorem dX3_add_46 : decode cX3_add 46 = .ok (.iconst 1, 1) := by decide +kernel
theorem dX3_add_47 : decode cX3_add 47 = .ok (.iadd, 1) := by decide +kernel
theorem dX3_add_48 : decode cX3_add 48 = .ok (.putfield 24, 3) := by decide +kernel
theorem dX3_add_51 : decode cX3_add 51 = .ok (.aload_n 0, 1) := by decide +kernel
theorem dX3_add_52 : decode cX3_add 52 = .ok (.getfield 24, 3) := by decide +kernel
theorem dX3_add_55 : decode cX3_add 55 = .ok (.iconst 1, 1) := by decide +kernel
theorem dX3_add_56 : decode cX3_add 56 = .ok (.isub, 1) := by decide +kernel
theorem dX3_add_57 : decode cX3_add 57 = .ok (.ireturn, 1) := by decide +kernel
theorem dX3_sitsIn_0 : decode cX3_sitsIn 0 = .ok (.iconst 0, 1) := by decide +kernel
theorem dX3_sitsIn_1 : decode cX3_sitsIn 1 = .ok (.istore_n 2, 1) := by decide +kernel
theorem dX3_sitsIn_2 : decode cX3_sitsIn 2 = .ok (.iload_n 2, 1) := by decide +kernel
theorem dX3_sitsIn_3 : decode cX3_sitsIn 3 = .ok (.aload_n 0, 1) := by decide +kernel
theorem dX3_sitsIn_4 : decode cX3_sitsIn 4 = .ok (.getfield 24, 3) := by decide +kernel
theorem dX3_sitsIn_7 : decode cX3_sitsIn 7 = .ok (.if_icmp .ge 21, 3) := by decide +kernel
theorem dX3_sitsIn_10 : decode cX3_sitsIn 10 = .ok (.aload_n 0, 1) := by decide +kernel
theorem dX3_sitsIn_11 : decode cX3_sitsIn 11 = .ok (.getfield 9, 3) := by decide +kernel
theorem dX3_sitsIn_14 : decode cX3_sitsIn 14 = .ok (.iload_n 2, 1) := by decide +kernel
theorem dX3_sitsIn_15 : decode cX3_sitsIn 15 = .ok (.iaload, 1) := by decide +kernel
theorem dX3_sitsIn_16 : decode cX3_sitsIn 16 = .ok (.iload_n 1, 1) := by decide +kernel
theorem dX3_sitsIn_17 : decode cX3_sitsIn 17 = .ok (.if_icmp .ne 5, 3) := by decide +kernel
theorem dX3_sitsIn_20 : decode cX3_sitsIn 20 = .ok (.iconst 1, 1) := by decide +kernel
theorem dX3_sitsIn_21 : decode cX3_sitsIn 21 = .ok (.ireturn, 1) := by decide +kernel
theorem dX3_sitsIn_22 : decode cX3_sitsIn 22 = .ok (.iinc 2 1, 3) := by decide +kernel
theorem dX3_sitsIn_25 : decode cX3_sitsIn 25 = .ok (.goto (-23), 3) := by decide +kernel
theorem dX3_sitsIn_28 : decode cX3_sitsIn 28 = .ok (.iconst 0, 1) := by decide +kernel
theorem dX3_sitsIn_29 : decode cX3_sitsIn 29 = .ok (.ireturn, 1) := by decide +kernel
theorem dX3_begin_0 : decode cX3_begin 0 = .ok (.iconst 0, 1) := by decide +kernel
theorem dX3_begin_1 : decode cX3_begin 1 = .ok (.istore_n 2, 1) := by decide +kernel
theorem dX3_begin_2 : decode cX3_begin 2 = .ok (.iload_n 2, 1) := by decide +kernel
theorem dX3_begin_3 : decode cX3_begin 3 = .ok (.aload_n 0, 1) := by decide +kernel
theorem dX3_begin_4 : decode cX3_begin 4 = .ok (.getfield 24, 3) := by decide +kernel
theorem dX3_begin_7 : decode cX3_begin 7 = .ok (.if_icmp .ge 23, 3) := by decide +kernel
theorem dX3_begin_10 : decode cX3_begin 10 = .ok (.aload_n 0, 1) := by decide +kernel
theorem dX3_begin_11 : decode cX3_begin 11 = .ok (.getfield 21, 3) := by decide +kernel
theorem dX3_begin_14 : decode cX3_begin 14 = .ok (.iload_n 2, 1) := by decide +kernel
theorem dX3_begin_15 : decode cX3_begin 15 = .ok (.aload_n 0, 1) := by decide +kernel
theorem dX3_begin_16 : decode cX3_begin 16 = .ok (.getfield 15, 3) := by decide +kernel
theorem dX3_begin_19 : decode cX3_begin 19 = .ok (.iload_n 2, 1) := by decide +kernel
theorem dX3_begin_20 : decode cX3_begin 20 = .ok (.iaload, 1) := by decide +kernel
theorem dX3_begin_21 : decode cX3_begin 21 = .ok (.iload_n 1, 1) := by decide +kernel
theorem dX3_begin_22 : decode cX3_begin 22 = .ok (.imul, 1) := by decide +kernel
theorem dX3_begin_23 : decode cX3_begin 23 = .ok (.iastore, 1) := by decide +kernel
theorem dX3_begin_24 : decode cX3_begin 24 = .ok (.iinc 2 1, 3) := by decide +kernel
theorem dX3_begin_27 : decode cX3_begin 27 = .ok (.goto (-25), 3) := by decide +kernel
theorem dX3_begin_30 : decode cX3_begin 30 = .ok (.return_, 1) := by decide +kernel
theorem dX3_sortsOne_0 : decode cX3_sortsOne 0 = .ok (.iconst 0, 1) := by decide +kernel
theorem dX3_sortsOne_1 : decode cX3_sortsOne 1 = .ok (.istore_n 3, 1) := by decide +kernel
theorem dX3_sortsOne_2 : decode cX3_sortsOne 2 = .ok (.iload_n 3, 1) := by decide +kernel
theorem dX3_sortsOne_3 : decode cX3_sortsOne 3 = .ok (.aload_n 0, 1) := by decide +kernel
theorem dX3_sortsOne_4 : decode cX3_sortsOne 4 = .ok (.getfield 24, 3) := by decide +kernel
theorem dX3_sortsOne_7 : decode cX3_sortsOne 7 = .ok (.if_icmp .ge 54, 3) := by decide +kernel
theorem dX3_sortsOne_10 : decode cX3_sortsOne 10 = .ok (.aload_n 0, 1) := by decide +kernel
theorem dX3_sortsOne_11 : decode cX3_sortsOne 11 = .ok (.getfield 9, 3) := by decide +kernel
theorem dX3_sortsOne_14 : decode cX3_sortsOne 14 = .ok (.iload_n 3, 1) := by decide +kernel
theorem dX3_sortsOne_15 : decode cX3_sortsOne 15 = .ok (.iaload, 1) := by decide +kernel
theorem dX3_sortsOne_16 : decode cX3_sortsOne 16 = .ok (.iload_n 1, 1) := by decide +kernel
theorem dX3_sortsOne_17 : decode cX3_sortsOne 17 = .ok (.if_icmp .ne 38, 3) := by decide +kernel
theorem dX3_sortsOne_20 : decode cX3_sortsOne 20 = .ok (.aload_n 0, 1) := by decide +kernel
theorem dX3_sortsOne_21 : decode cX3_sortsOne 21 = .ok (.getfield 21, 3) := by decide +kernel
theorem dX3_sortsOne_24 : decode cX3_sortsOne 24 = .ok (.iload_n 3, 1) := by decide +kernel
theorem dX3_sortsOne_25 : decode cX3_sortsOne 25 = .ok (.iaload, 1) := by decide +kernel
theorem dX3_sortsOne_26 : decode cX3_sortsOne 26 = .ok (.ifCond .le 29, 3) := by decide +kernel
theorem dX3_sortsOne_29 : decode cX3_sortsOne 29 = .ok (.aload_n 0, 1) := by decide +kernel
theorem dX3_sortsOne_30 : decode cX3_sortsOne 30 = .ok (.getfield 18, 3) := by decide +kernel
theorem dX3_sortsOne_33 : decode cX3_sortsOne 33 = .ok (.iload_n 3, 1) := by decide +kernel
theorem dX3_sortsOne_34 : decode cX3_sortsOne 34 = .ok (.iaload, 1) := by decide +kernel
theorem dX3_sortsOne_35 : decode cX3_sortsOne 35 = .ok (.iload_n 2, 1) := by decide +kernel
theorem dX3_sortsOne_36 : decode cX3_sortsOne 36 = .ok (.ishr, 1) := by decide +kernel
theorem dX3_sortsOne_37 : decode cX3_sortsOne 37 = .ok (.iconst 1, 1) := by decide +kernel
theorem dX3_sortsOne_38 : decode cX3_sortsOne 38 = .ok (.iand, 1) := by decide +kernel
theorem dX3_sortsOne_39 : decode cX3_sortsOne 39 = .ok (.iconst 1, 1) := by decide +kernel
theorem dX3_sortsOne_40 : decode cX3_sortsOne 40 = .ok (.if_icmp .ne 15, 3) := by decide +kernel
theorem dX3_sortsOne_43 : decode cX3_sortsOne 43 = .ok (.aload_n 0, 1) := by decide +kernel
theorem dX3_sortsOne_44 : decode cX3_sortsOne 44 = .ok (.getfield 21, 3) := by decide +kernel
theorem dX3_sortsOne_47 : decode cX3_sortsOne 47 = .ok (.iload_n 3, 1) := by decide +kernel
theorem dX3_sortsOne_48 : decode cX3_sortsOne 48 = .ok (.dup2, 1) := by decide +kernel
theorem dX3_sortsOne_49 : decode cX3_sortsOne 49 = .ok (.iaload, 1) := by decide +kernel
theorem dX3_sortsOne_50 : decode cX3_sortsOne 50 = .ok (.iconst 1, 1) := by decide +kernel
theorem dX3_sortsOne_51 : decode cX3_sortsOne 51 = .ok (.isub, 1) := by decide +kernel
theorem dX3_sortsOne_52 : decode cX3_sortsOne 52 = .ok (.iastore, 1) := by decide +kernel
theorem dX3_sortsOne_53 : decode cX3_sortsOne 53 = .ok (.iconst 1, 1) := by decide +kernel
theorem dX3_sortsOne_54 : decode cX3_sortsOne 54 = .ok (.ireturn, 1) := by decide +kernel
theorem dX3_sortsOne_55 : decode cX3_sortsOne 55 = .ok (.iinc 3 1, 3) := by decide +kernel
theorem dX3_sortsOne_58 : decode cX3_sortsOne 58 = .ok (.goto (-56), 3) := by decide +kernel
theorem dX3_sortsOne_61 : decode cX3_sortsOne 61 = .ok (.iconst 0, 1) := by decide +kernel
theorem dX3_sortsOne_62 : decode cX3_sortsOne 62 = .ok (.ireturn, 1) := by decide +kernel
theorem dX4_init_0 : decode cX4_init 0 = .ok (.aload_n 0, 1) := by decide +kernel
theorem dX4_init_1 : decode cX4_init 1 = .ok (.invokespecial 5, 3) := by decide +kernel
theorem dX4_init_4 : decode cX4_init 4 = .ok (.aload_n 0, 1) := by decide +kernel
theorem dX4_init_5 : decode cX4_init 5 = .ok (.sipush 2240, 3) := by decide +kernel
theorem dX4_init_8 : decode cX4_init 8 = .ok (.newarray .long, 2) := by decide +kernel
theorem dX4_init_10 : decode cX4_init 10 = .ok (.putfield 11, 3) := by decide +kernel
theorem dX4_init_13 : decode cX4_init 13 = .ok (.aload_n 0, 1) := by decide +kernel
theorem dX4_init_14 : decode cX4_init 14 = .ok (.aload_n 1, 1) := by decide +kernel
theorem dX4_init_15 : decode cX4_init 15 = .ok (.putfield 15, 3) := by decide +kernel
theorem dX4_init_18 : decode cX4_init 18 = .ok (.aload_n 0, 1) := by decide +kernel
theorem dX4_init_19 : decode cX4_init 19 = .ok (.aload_n 2, 1) := by decide +kernel
theorem dX4_init_20 : decode cX4_init 20 = .ok (.putfield 19, 3) := by decide +kernel
theorem dX4_init_23 : decode cX4_init 23 = .ok (.aload_n 0, 1) := by decide +kernel
theorem dX4_init_24 : decode cX4_init 24 = .ok (.aload_n 3, 1) := by decide +kernel
theorem dX4_init_25 : decode cX4_init 25 = .ok (.putfield 23, 3) := by decide +kernel
theorem dX4_init_28 : decode cX4_init 28 = .ok (.return_, 1) := by decide +kernel
theorem dX4_mark_0 : decode cX4_mark 0 = .ok (.aload_n 0, 1) := by decide +kernel
theorem dX4_mark_1 : decode cX4_mark 1 = .ok (.getfield 11, 3) := by decide +kernel
theorem dX4_mark_4 : decode cX4_mark 4 = .ok (.iload_n 1, 1) := by decide +kernel
theorem dX4_mark_5 : decode cX4_mark 5 = .ok (.iload_n 2, 1) := by decide +kernel
theorem dX4_mark_6 : decode cX4_mark 6 = .ok (.invokestatic 27, 3) := by decide +kernel
theorem dX4_mark_9 : decode cX4_mark 9 = .ok (.dup2, 1) := by decide +kernel
theorem dX4_mark_10 : decode cX4_mark 10 = .ok (.laload, 1) := by decide +kernel
theorem dX4_mark_11 : decode cX4_mark 11 = .ok (.lconst 1, 1) := by decide +kernel
theorem dX4_mark_12 : decode cX4_mark 12 = .ok (.iload_n 2, 1) := by decide +kernel
theorem dX4_mark_13 : decode cX4_mark 13 = .ok (.bipush 64, 2) := by decide +kernel
theorem dX4_mark_15 : decode cX4_mark 15 = .ok (.irem, 1) := by decide +kernel
theorem dX4_mark_16 : decode cX4_mark 16 = .ok (.lshl, 1) := by decide +kernel
theorem dX4_mark_17 : decode cX4_mark 17 = .ok (.lor, 1) := by decide +kernel
theorem dX4_mark_18 : decode cX4_mark 18 = .ok (.lastore, 1) := by decide +kernel
theorem dX4_mark_19 : decode cX4_mark 19 = .ok (.return_, 1) := by decide +kernel
theorem dX4_isMarked_0 : decode cX4_isMarked 0 = .ok (.aload_n 0, 1) := by decide +kernel
theorem dX4_isMarked_1 : decode cX4_isMarked 1 = .ok (.getfield 11, 3) := by decide +kernel
theorem dX4_isMarked_4 : decode cX4_isMarked 4 = .ok (.iload_n 1, 1) := by decide +kernel
theorem dX4_isMarked_5 : decode cX4_isMarked 5 = .ok (.iload_n 2, 1) := by decide +kernel
theorem dX4_isMarked_6 : decode cX4_isMarked 6 = .ok (.invokestatic 27, 3) := by decide +kernel
theorem dX4_isMarked_9 : decode cX4_isMarked 9 = .ok (.laload, 1) := by decide +kernel
theorem dX4_isMarked_10 : decode cX4_isMarked 10 = .ok (.iload_n 2, 1) := by decide +kernel
theorem dX4_isMarked_11 : decode cX4_isMarked 11 = .ok (.bipush 64, 2) := by decide +kernel
theorem dX4_isMarked_13 : decode cX4_isMarked 13 = .ok (.irem, 1) := by decide +kernel
theorem dX4_isMarked_14 : decode cX4_isMarked 14 = .ok (.lshr, 1) := by decide +kernel
theorem dX4_isMarked_15 : decode cX4_isMarked 15 = .ok (.lconst 1, 1) := by decide +kernel
theorem dX4_isMarked_16 : decode cX4_isMarked 16 = .ok (.land, 1) := by decide +kernel
theorem dX4_isMarked_17 : decode cX4_isMarked 17 = .ok (.lconst 1, 1) := by decide +kernel
theorem dX4_isMarked_18 : decode cX4_isMarked 18 = .ok (.lcmp, 1) := by decide +kernel
theorem dX4_isMarked_19 : decode cX4_isMarked 19 = .ok (.ifCond .ne 7, 3) := by decide +kernel
theorem dX4_isMarked_22 : decode cX4_isMarked 22 = .ok (.iconst 1, 1) := by decide +kernel
theorem dX4_isMarked_23 : decode cX4_isMarked 23 = .ok (.goto 4, 3) := by decide +kernel
theorem dX4_isMarked_26 : decode cX4_isMarked 26 = .ok (.iconst 0, 1) := by decide +kernel
theorem dX4_isMarked_27 : decode cX4_isMarked 27 = .ok (.ireturn, 1) := by decide +kernel
theorem dX4_wordOf_0 : decode cX4_wordOf 0 = .ok (.iconst 2, 1) := by decide +kernel
theorem dX4_wordOf_1 : decode cX4_wordOf 1 = .ok (.iload_n 0, 1) := by decide +kernel
theorem dX4_wordOf_2 : decode cX4_wordOf 2 = .ok (.invokestatic 31, 3) := by decide +kernel
theorem dX4_wordOf_5 : decode cX4_wordOf 5 = .ok (.imul, 1) := by decide +kernel
theorem dX4_wordOf_6 : decode cX4_wordOf 6 = .ok (.iload_n 0, 1) := by decide +kernel
theorem dX4_wordOf_7 : decode cX4_wordOf 7 = .ok (.invokestatic 37, 3) := by decide +kernel
theorem dX4_wordOf_10 : decode cX4_wordOf 10 = .ok (.ifCond .eq 7, 3) := by decide +kernel
theorem dX4_wordOf_13 : decode cX4_wordOf 13 = .ok (.iconst 1, 1) := by decide +kernel
theorem dX4_wordOf_14 : decode cX4_wordOf 14 = .ok (.goto 4, 3) := by decide +kernel
theorem dX4_wordOf_17 : decode cX4_wordOf 17 = .ok (.iconst 0, 1) := by decide +kernel
theorem dX4_wordOf_18 : decode cX4_wordOf 18 = .ok (.iadd, 1) := by decide +kernel
theorem dX4_wordOf_19 : decode cX4_wordOf 19 = .ok (.istore_n 2, 1) := by decide +kernel
theorem dX4_wordOf_20 : decode cX4_wordOf 20 = .ok (.iconst 2, 1) := by decide +kernel
theorem dX4_wordOf_21 : decode cX4_wordOf 21 = .ok (.iload_n 2, 1) := by decide +kernel
theorem dX4_wordOf_22 : decode cX4_wordOf 22 = .ok (.imul, 1) := by decide +kernel
theorem dX4_wordOf_23 : decode cX4_wordOf 23 = .ok (.iload_n 1, 1) := by decide +kernel
theorem dX4_wordOf_24 : decode cX4_wordOf 24 = .ok (.bipush 64, 2) := by decide +kernel
theorem dX4_wordOf_26 : decode cX4_wordOf 26 = .ok (.idiv, 1) := by decide +kernel
theorem dX4_wordOf_27 : decode cX4_wordOf 27 = .ok (.iadd, 1) := by decide +kernel
theorem dX4_wordOf_28 : decode cX4_wordOf 28 = .ok (.ireturn, 1) := by decide +kernel
theorem dX4_rowOf_0 : decode cX4_rowOf 0 = .ok (.aload_n 0, 1) := by decide +kernel
theorem dX4_rowOf_1 : decode cX4_rowOf 1 = .ok (.getfield 23, 3) := by decide +kernel
theorem dX4_rowOf_4 : decode cX4_rowOf 4 = .ok (.iload_n 1, 1) := by decide +kernel
theorem dX4_rowOf_5 : decode cX4_rowOf 5 = .ok (.aaload, 1) := by decide +kernel
theorem dX4_rowOf_6 : decode cX4_rowOf 6 = .ok (.astore 4, 2) := by decide +kernel
theorem dX4_rowOf_8 : decode cX4_rowOf 8 = .ok (.iload_n 2, 1) := by decide +kernel
theorem dX4_rowOf_9 : decode cX4_rowOf 9 = .ok (.aload 4, 2) := by decide +kernel
theorem dX4_rowOf_11 : decode cX4_rowOf 11 = .ok (.getfield 41, 3) := by decide +kernel
theorem dX4_rowOf_14 : decode cX4_rowOf 14 = .ok (.iconst 1, 1) := by decide +kernel
theorem dX4_rowOf_15 : decode cX4_rowOf 15 = .ok (.isub, 1) := by decide +kernel
theorem dX4_rowOf_16 : decode cX4_rowOf 16 = .ok (.if_icmp .ne 21, 3) := by decide +kernel
theorem dX4_rowOf_19 : decode cX4_rowOf 19 = .ok (.aload 4, 2) := by decide +kernel
theorem dX4_rowOf_21 : decode cX4_rowOf 21 = .ok (.getfield 47, 3) := by decide +kernel
theorem dX4_rowOf_24 : decode cX4_rowOf 24 = .ok (.invokestatic 50, 3) := by decide +kernel
theorem dX4_rowOf_27 : decode cX4_rowOf 27 = .ok (.iload_n 3, 1) := by decide +kernel
theorem dX4_rowOf_28 : decode cX4_rowOf 28 = .ok (.if_icmp .gt 9, 3) := by decide +kernel
theorem dX4_rowOf_31 : decode cX4_rowOf 31 = .ok (.aload 4, 2) := by decide +kernel
theorem dX4_rowOf_33 : decode cX4_rowOf 33 = .ok (.getfield 47, 3) := by decide +kernel
theorem dX4_rowOf_36 : decode cX4_rowOf 36 = .ok (.ireturn, 1) := by decide +kernel
theorem dX4_rowOf_37 : decode cX4_rowOf 37 = .ok (.aload_n 0, 1) := by decide +kernel
theorem dX4_rowOf_38 : decode cX4_rowOf 38 = .ok (.getfield 19, 3) := by decide +kernel
theorem dX4_rowOf_41 : decode cX4_rowOf 41 = .ok (.invokevirtual 53, 3) := by decide +kernel
theorem dX4_rowOf_44 : decode cX4_rowOf 44 = .ok (.aload 4, 2) := by decide +kernel
theorem dX4_rowOf_46 : decode cX4_rowOf 46 = .ok (.getfield 56, 3) := by decide +kernel
theorem dX4_rowOf_49 : decode cX4_rowOf 49 = .ok (.iconst 0, 1) := by decide +kernel
theorem dX4_rowOf_50 : decode cX4_rowOf 50 = .ok (.aload 4, 2) := by decide +kernel
theorem dX4_rowOf_52 : decode cX4_rowOf 52 = .ok (.getfield 59, 3) := by decide +kernel
theorem dX4_rowOf_55 : decode cX4_rowOf 55 = .ok (.invokestatic 62, 3) := by decide +kernel
theorem dX4_rowOf_58 : decode cX4_rowOf 58 = .ok (.istore 5, 2) := by decide +kernel
theorem dX4_rowOf_60 : decode cX4_rowOf 60 = .ok (.iconst 0, 1) := by decide +kernel
theorem dX4_rowOf_61 : decode cX4_rowOf 61 = .ok (.istore 6, 2) := by decide +kernel
theorem dX4_rowOf_63 : decode cX4_rowOf 63 = .ok (.aload_n 0, 1) := by decide +kernel
theorem dX4_rowOf_64 : decode cX4_rowOf 64 = .ok (.getfield 19, 3) := by decide +kernel
theorem dX4_rowOf_67 : decode cX4_rowOf 67 = .ok (.aload 4, 2) := by decide +kernel
theorem dX4_rowOf_69 : decode cX4_rowOf 69 = .ok (.getfield 56, 3) := by decide +kernel
theorem dX4_rowOf_72 : decode cX4_rowOf 72 = .ok (.invokevirtual 66, 3) := by decide +kernel
theorem dX4_rowOf_75 : decode cX4_rowOf 75 = .ok (.istore 7, 2) := by decide +kernel
theorem dX4_rowOf_77 : decode cX4_rowOf 77 = .ok (.iload 7, 2) := by decide +kernel
theorem dX4_rowOf_79 : decode cX4_rowOf 79 = .ok (.aload_n 0, 1) := by decide +kernel
theorem dX4_rowOf_80 : decode cX4_rowOf 80 = .ok (.getfield 19, 3) := by decide +kernel
theorem dX4_rowOf_83 : decode cX4_rowOf 83 = .ok (.getfield 69, 3) := by decide +kernel
theorem dX4_rowOf_86 : decode cX4_rowOf 86 = .ok (.if_icmp .ge 61, 3) := by decide +kernel
theorem dX4_rowOf_89 : decode cX4_rowOf 89 = .ok (.iload 6, 2) := by decide +kernel
theorem dX4_rowOf_91 : decode cX4_rowOf 91 = .ok (.iload_n 2, 1) := by decide +kernel
theorem dX4_rowOf_92 : decode cX4_rowOf 92 = .ok (.if_icmp .ge 55, 3) := by decide +kernel
theorem dX4_rowOf_95 : decode cX4_rowOf 95 = .ok (.aload_n 0, 1) := by decide +kernel
theorem dX4_rowOf_96 : decode cX4_rowOf 96 = .ok (.getfield 19, 3) := by decide +kernel
theorem dX4_rowOf_99 : decode cX4_rowOf 99 = .ok (.iload 7, 2) := by decide +kernel
theorem dX4_rowOf_101 : decode cX4_rowOf 101 = .ok (.invokevirtual 72, 3) := by decide +kernel
theorem dX4_rowOf_104 : decode cX4_rowOf 104 = .ok (.istore 8, 2) := by decide +kernel
theorem dX4_rowOf_106 : decode cX4_rowOf 106 = .ok (.iload 8, 2) := by decide +kernel
theorem dX4_rowOf_108 : decode cX4_rowOf 108 = .ok (.invokestatic 75, 3) := by decide +kernel
theorem dX4_rowOf_111 : decode cX4_rowOf 111 = .ok (.iload_n 3, 1) := by decide +kernel
theorem dX4_rowOf_112 : decode cX4_rowOf 112 = .ok (.if_icmp .le 6, 3) := by decide +kernel
theorem dX4_rowOf_115 : decode cX4_rowOf 115 = .ok (.goto 32, 3) := by decide +kernel
theorem dX4_rowOf_118 : decode cX4_rowOf 118 = .ok (.aload_n 0, 1) := by decide +kernel
theorem dX4_rowOf_119 : decode cX4_rowOf 119 = .ok (.iload 8, 2) := by decide +kernel
theorem dX4_rowOf_121 : decode cX4_rowOf 121 = .ok (.iload_n 1, 1) := by decide +kernel
theorem dX4_rowOf_122 : decode cX4_rowOf 122 = .ok (.invokevirtual 78, 3) := by decide +kernel
theorem dX4_rowOf_125 : decode cX4_rowOf 125 = .ok (.ifCond .eq 16, 3) := by decide +kernel
theorem dX4_rowOf_128 : decode cX4_rowOf 128 = .ok (.aload_n 0, 1) := by decide +kernel
theorem dX4_rowOf_129 : decode cX4_rowOf 129 = .ok (.iload 8, 2) := by decide +kernel
theorem dX4_rowOf_131 : decode cX4_rowOf 131 = .ok (.aload 4, 2) := by decide +kernel
theorem dX4_rowOf_133 : decode cX4_rowOf 133 = .ok (.invokevirtual 82, 3) := by decide +kernel
theorem dX4_rowOf_136 : decode cX4_rowOf 136 = .ok (.istore 5, 2) := by decide +kernel
theorem dX4_rowOf_138 : decode cX4_rowOf 138 = .ok (.iinc 6 1, 3) := by decide +kernel
theorem dX4_rowOf_141 : decode cX4_rowOf 141 = .ok (.iinc 7 1, 3) := by decide +kernel
theorem dX4_rowOf_144 : decode cX4_rowOf 144 = .ok (.goto (-67), 3) := by decide +kernel
theorem dX4_rowOf_147 : decode cX4_rowOf 147 = .ok (.iload 5, 2) := by decide +kernel
theorem dX4_rowOf_149 : decode cX4_rowOf 149 = .ok (.ireturn, 1) := by decide +kernel
theorem dX4_rowBy_0 : decode cX4_rowBy 0 = .ok (.iload_n 1, 1) := by decide +kernel
theorem dX4_rowBy_1 : decode cX4_rowBy 1 = .ok (.invokestatic 86, 3) := by decide +kernel
theorem dX4_rowBy_4 : decode cX4_rowBy 4 = .ok (.istore_n 3, 1) := by decide +kernel
theorem dX4_rowBy_5 : decode cX4_rowBy 5 = .ok (.iload_n 1, 1) := by decide +kernel
theorem dX4_rowBy_6 : decode cX4_rowBy 6 = .ok (.invokestatic 37, 3) := by decide +kernel
theorem dX4_rowBy_9 : decode cX4_rowBy 9 = .ok (.ifCond .eq 21, 3) := by decide +kernel
theorem dX4_rowBy_12 : decode cX4_rowBy 12 = .ok (.iload_n 1, 1) := by decide +kernel
theorem dX4_rowBy_13 : decode cX4_rowBy 13 = .ok (.invokestatic 75, 3) := by decide +kernel
theorem dX4_rowBy_16 : decode cX4_rowBy 16 = .ok (.iconst 1, 1) := by decide +kernel
theorem dX4_rowBy_17 : decode cX4_rowBy 17 = .ok (.bipush 10, 2) := by decide +kernel
theorem dX4_rowBy_19 : decode cX4_rowBy 19 = .ok (.iload_n 1, 1) := by decide +kernel
theorem dX4_rowBy_20 : decode cX4_rowBy 20 = .ok (.invokestatic 89, 3) := by decide +kernel
theorem dX4_rowBy_23 : decode cX4_rowBy 23 = .ok (.imul, 1) := by decide +kernel
theorem dX4_rowBy_24 : decode cX4_rowBy 24 = .ok (.iload_n 3, 1) := by decide +kernel
theorem dX4_rowBy_25 : decode cX4_rowBy 25 = .ok (.iadd, 1) := by decide +kernel
theorem dX4_rowBy_26 : decode cX4_rowBy 26 = .ok (.invokestatic 62, 3) := by decide +kernel
theorem dX4_rowBy_29 : decode cX4_rowBy 29 = .ok (.ireturn, 1) := by decide +kernel
theorem dX4_rowBy_30 : decode cX4_rowBy 30 = .ok (.aload_n 0, 1) := by decide +kernel
theorem dX4_rowBy_31 : decode cX4_rowBy 31 = .ok (.getfield 15, 3) := by decide +kernel
theorem dX4_rowBy_34 : decode cX4_rowBy 34 = .ok (.getfield 92, 3) := by decide +kernel
theorem dX4_rowBy_37 : decode cX4_rowBy 37 = .ok (.bipush 8, 2) := by decide +kernel
theorem dX4_rowBy_39 : decode cX4_rowBy 39 = .ok (.iload_n 3, 1) := by decide +kernel
theorem dX4_rowBy_40 : decode cX4_rowBy 40 = .ok (.imul, 1) := by decide +kernel
theorem dX4_rowBy_41 : decode cX4_rowBy 41 = .ok (.iload_n 1, 1) := by decide +kernel
theorem dX4_rowBy_42 : decode cX4_rowBy 42 = .ok (.invokestatic 98, 3) := by decide +kernel
theorem dX4_rowBy_45 : decode cX4_rowBy 45 = .ok (.iadd, 1) := by decide +kernel
theorem dX4_rowBy_46 : decode cX4_rowBy 46 = .ok (.iaload, 1) := by decide +kernel
theorem dX4_rowBy_47 : decode cX4_rowBy 47 = .ok (.istore 4, 2) := by decide +kernel
theorem dX4_rowBy_49 : decode cX4_rowBy 49 = .ok (.iload_n 1, 1) := by decide +kernel
theorem dX4_rowBy_50 : decode cX4_rowBy 50 = .ok (.invokestatic 75, 3) := by decide +kernel
theorem dX4_rowBy_53 : decode cX4_rowBy 53 = .ok (.aload_n 2, 1) := by decide +kernel
theorem dX4_rowBy_54 : decode cX4_rowBy 54 = .ok (.iload 4, 2) := by decide +kernel
theorem dX4_rowBy_56 : decode cX4_rowBy 56 = .ok (.invokevirtual 101, 3) := by decide +kernel
theorem dX4_rowBy_59 : decode cX4_rowBy 59 = .ok (.iload 4, 2) := by decide +kernel
theorem dX4_rowBy_61 : decode cX4_rowBy 61 = .ok (.invokestatic 62, 3) := by decide +kernel
theorem dX4_rowBy_64 : decode cX4_rowBy 64 = .ok (.ireturn, 1) := by decide +kernel
theorem dX5_init_0 : decode cX5_init 0 = .ok (.aload_n 0, 1) := by decide +kernel
theorem dX5_init_1 : decode cX5_init 1 = .ok (.invokespecial 3, 3) := by decide +kernel
theorem dX5_init_4 : decode cX5_init 4 = .ok (.aload_n 0, 1) := by decide +kernel
theorem dX5_init_5 : decode cX5_init 5 = .ok (.iconst (-1), 1) := by decide +kernel
theorem dX5_init_6 : decode cX5_init 6 = .ok (.putfield 9, 3) := by decide +kernel
theorem dX5_init_9 : decode cX5_init 9 = .ok (.aload_n 0, 1) := by decide +kernel
theorem dX5_init_10 : decode cX5_init 10 = .ok (.iconst (-1), 1) := by decide +kernel
theorem dX5_init_11 : decode cX5_init 11 = .ok (.putfield 15, 3) := by decide +kernel
theorem dX5_init_14 : decode cX5_init 14 = .ok (.aload_n 0, 1) := by decide +kernel
theorem dX5_init_15 : decode cX5_init 15 = .ok (.iconst 3, 1) := by decide +kernel
theorem dX5_init_16 : decode cX5_init 16 = .ok (.putfield 18, 3) := by decide +kernel
theorem dX5_init_19 : decode cX5_init 19 = .ok (.aload_n 0, 1) := by decide +kernel
theorem dX5_init_20 : decode cX5_init 20 = .ok (.iconst 4, 1) := by decide +kernel
theorem dX5_init_21 : decode cX5_init 21 = .ok (.newarray .int, 2) := by decide +kernel
theorem dX5_init_23 : decode cX5_init 23 = .ok (.putfield 21, 3) := by decide +kernel
theorem dX5_init_26 : decode cX5_init 26 = .ok (.return_, 1) := by decide +kernel
theorem dX5_begin_0 : decode cX5_begin 0 = .ok (.aload_n 0, 1) := by decide +kernel
theorem dX5_begin_1 : decode cX5_begin 1 = .ok (.iload_n 1, 1) := by decide +kernel
theorem dX5_begin_2 : decode cX5_begin 2 = .ok (.putfield 25, 3) := by decide +kernel
theorem dX5_begin_5 : decode cX5_begin 5 = .ok (.aload_n 0, 1) := by decide +kernel
theorem dX5_begin_6 : decode cX5_begin 6 = .ok (.iload_n 2, 1) := by decide +kernel
theorem dX5_begin_7 : decode cX5_begin 7 = .ok (.putfield 28, 3) := by decide +kernel
theorem dX5_begin_10 : decode cX5_begin 10 = .ok (.aload_n 0, 1) := by decide +kernel
theorem dX5_begin_11 : decode cX5_begin 11 = .ok (.iload_n 3, 1) := by decide +kernel
theorem dX5_begin_12 : decode cX5_begin 12 = .ok (.putfield 31, 3) := by decide +kernel
theorem dX5_begin_15 : decode cX5_begin 15 = .ok (.aload_n 0, 1) := by decide +kernel
theorem dX5_begin_16 : decode cX5_begin 16 = .ok (.iload 4, 2) := by decide +kernel
theorem dX5_begin_18 : decode cX5_begin 18 = .ok (.putfield 34, 3) := by decide +kernel
theorem dX5_begin_21 : decode cX5_begin 21 = .ok (.aload_n 0, 1) := by decide +kernel
theorem dX5_begin_22 : decode cX5_begin 22 = .ok (.iload 5, 2) := by decide +kernel
theorem dX5_begin_24 : decode cX5_begin 24 = .ok (.putfield 37, 3) := by decide +kernel
theorem dX5_begin_27 : decode cX5_begin 27 = .ok (.aload_n 0, 1) := by decide +kernel
theorem dX5_begin_28 : decode cX5_begin 28 = .ok (.iload 6, 2) := by decide +kernel
theorem dX5_begin_30 : decode cX5_begin 30 = .ok (.putfield 40, 3) := by decide +kernel
theorem dX5_begin_33 : decode cX5_begin 33 = .ok (.return_, 1) := by decide +kernel
theorem dX5_dayOf_0 : decode cX5_dayOf 0 = .ok (.aload_n 0, 1) := by decide +kernel
theorem dX5_dayOf_1 : decode cX5_dayOf 1 = .ok (.getfield 43, 3) := by decide +kernel
theorem dX5_dayOf_4 : decode cX5_dayOf 4 = .ok (.sipush 1440, 3) := by decide +kernel
theorem dX5_dayOf_7 : decode cX5_dayOf 7 = .ok (.idiv, 1) := by decide +kernel
theorem dX5_dayOf_8 : decode cX5_dayOf 8 = .ok (.ireturn, 1) := by decide +kernel
theorem dX5_owed_0 : decode cX5_owed 0 = .ok (.aload_n 0, 1) := by decide +kernel
theorem dX5_owed_1 : decode cX5_owed 1 = .ok (.getfield 25, 3) := by decide +kernel
theorem dX5_owed_4 : decode cX5_owed 4 = .ok (.ifCond .eq 11, 3) := by decide +kernel
theorem dX5_owed_7 : decode cX5_owed 7 = .ok (.aload_n 0, 1) := by decide +kernel
theorem dX5_owed_8 : decode cX5_owed 8 = .ok (.getfield 25, 3) := by decide +kernel
theorem dX5_owed_11 : decode cX5_owed 11 = .ok (.iconst 3, 1) := by decide +kernel
theorem dX5_owed_12 : decode cX5_owed 12 = .ok (.if_icmp .ne 10, 3) := by decide +kernel
theorem dX5_owed_15 : decode cX5_owed 15 = .ok (.aload_n 0, 1) := by decide +kernel
theorem dX5_owed_16 : decode cX5_owed 16 = .ok (.getfield 46, 3) := by decide +kernel
theorem dX5_owed_19 : decode cX5_owed 19 = .ok (.goto 4, 3) := by decide +kernel
theorem dX5_owed_22 : decode cX5_owed 22 = .ok (.iconst 0, 1) := by decide +kernel
theorem dX5_owed_23 : decode cX5_owed 23 = .ok (.ireturn, 1) := by decide +kernel
theorem dX5_note_0 : decode cX5_note 0 = .ok (.aload_n 0, 1) := by decide +kernel
theorem dX5_note_1 : decode cX5_note 1 = .ok (.iload_n 1, 1) := by decide +kernel
theorem dX5_note_2 : decode cX5_note 2 = .ok (.iload_n 2, 1) := by decide +kernel
theorem dX5_note_3 : decode cX5_note 3 = .ok (.iload_n 3, 1) := by decide +kernel
theorem dX5_note_4 : decode cX5_note 4 = .ok (.invokestatic 49, 3) := by decide +kernel
theorem dX5_note_7 : decode cX5_note 7 = .ok (.putfield 53, 3) := by decide +kernel
theorem dX5_note_10 : decode cX5_note 10 = .ok (.aload_n 0, 1) := by decide +kernel
theorem dX5_note_11 : decode cX5_note 11 = .ok (.dup, 1) := by decide +kernel
theorem dX5_note_12 : decode cX5_note 12 = .ok (.getfield 56, 3) := by decide +kernel
theorem dX5_note_15 : decode cX5_note 15 = .ok (.iconst 1, 1) := by decide +kernel
theorem dX5_note_16 : decode cX5_note 16 = .ok (.iadd, 1) := by decide +kernel
theorem dX5_note_17 : decode cX5_note 17 = .ok (.putfield 56, 3) := by decide +kernel
theorem dX5_note_20 : decode cX5_note 20 = .ok (.return_, 1) := by decide +kernel
theorem dX5_stateIn_0 : decode cX5_stateIn 0 = .ok (.aload_n 0, 1) := by decide +kernel
theorem dX5_stateIn_1 : decode cX5_stateIn 1 = .ok (.getfield 31, 3) := by decide +kernel
theorem dX5_stateIn_4 : decode cX5_stateIn 4 = .ok (.iload_n 1, 1) := by decide +kernel
theorem dX5_stateIn_5 : decode cX5_stateIn 5 = .ok (.if_icmp .eq 5, 3) := by decide +kernel
theorem dX5_stateIn_8 : decode cX5_stateIn 8 = .ok (.iconst 0, 1) := by decide +kernel
theorem dX5_stateIn_9 : decode cX5_stateIn 9 = .ok (.ireturn, 1) := by decide +kernel
theorem dX5_stateIn_10 : decode cX5_stateIn 10 = .ok (.aload_n 0, 1) := by decide +kernel
theorem dX5_stateIn_11 : decode cX5_stateIn 11 = .ok (.getfield 59, 3) := by decide +kernel
theorem dX5_stateIn_14 : decode cX5_stateIn 14 = .ok (.ifCond .eq 7, 3) := by decide +kernel
theorem dX5_stateIn_17 : decode cX5_stateIn 17 = .ok (.iconst 3, 1) := by decide +kernel
theorem dX5_stateIn_18 : decode cX5_stateIn 18 = .ok (.goto 4, 3) := by decide +kernel
theorem dX5_stateIn_21 : decode cX5_stateIn 21 = .ok (.iconst 2, 1) := by decide +kernel
theorem dX5_stateIn_22 : decode cX5_stateIn 22 = .ok (.ireturn, 1) := by decide +kernel
theorem dX5_row_0 : decode cX5_row 0 = .ok (.iload_n 0, 1) := by decide +kernel
theorem dX5_row_1 : decode cX5_row 1 = .ok (.bipush 10, 2) := by decide +kernel
theorem dX5_row_3 : decode cX5_row 3 = .ok (.ishl, 1) := by decide +kernel
theorem dX5_row_4 : decode cX5_row 4 = .ok (.iload_n 1, 1) := by decide +kernel
theorem dX5_row_5 : decode cX5_row 5 = .ok (.bipush 7, 2) := by decide +kernel
theorem dX5_row_7 : decode cX5_row 7 = .ok (.ishl, 1) := by decide +kernel
theorem dX5_row_8 : decode cX5_row 8 = .ok (.ior, 1) := by decide +kernel
theorem dX5_row_9 : decode cX5_row 9 = .ok (.iload_n 2, 1) := by decide +kernel
theorem dX5_row_10 : decode cX5_row 10 = .ok (.ior, 1) := by decide +kernel
theorem dX5_row_11 : decode cX5_row 11 = .ok (.ireturn, 1) := by decide +kernel
theorem dX5_minuteOf_0 : decode cX5_minuteOf 0 = .ok (.iload_n 0, 1) := by decide +kernel
theorem dX5_minuteOf_1 : decode cX5_minuteOf 1 = .ok (.bipush 10, 2) := by decide +kernel
theorem dX5_minuteOf_3 : decode cX5_minuteOf 3 = .ok (.ishr, 1) := by decide +kernel
theorem dX5_minuteOf_4 : decode cX5_minuteOf 4 = .ok (.ireturn, 1) := by decide +kernel
theorem dX5_stateOf_0 : decode cX5_stateOf 0 = .ok (.iload_n 0, 1) := by decide +kernel
theorem dX5_stateOf_1 : decode cX5_stateOf 1 = .ok (.bipush 7, 2) := by decide +kernel
theorem dX5_stateOf_3 : decode cX5_stateOf 3 = .ok (.ishr, 1) := by decide +kernel
theorem dX5_stateOf_4 : decode cX5_stateOf 4 = .ok (.bipush 7, 2) := by decide +kernel
theorem dX5_stateOf_6 : decode cX5_stateOf 6 = .ok (.iand, 1) := by decide +kernel
theorem dX5_stateOf_7 : decode cX5_stateOf 7 = .ok (.ireturn, 1) := by decide +kernel
theorem dX5_placeOf_0 : decode cX5_placeOf 0 = .ok (.iload_n 0, 1) := by decide +kernel
theorem dX5_placeOf_1 : decode cX5_placeOf 1 = .ok (.bipush 127, 2) := by decide +kernel
theorem dX5_placeOf_3 : decode cX5_placeOf 3 = .ok (.iand, 1) := by decide +kernel
theorem dX5_placeOf_4 : decode cX5_placeOf 4 = .ok (.ireturn, 1) := by decide +kernel
theorem dX5_placeTown_0 : decode cX5_placeTown 0 = .ok (.aload_n 0, 1) := by decide +kernel
theorem dX5_placeTown_1 : decode cX5_placeTown 1 = .ok (.getfield 21, 3) := by decide +kernel
theorem dX5_placeTown_4 : decode cX5_placeTown 4 = .ok (.iload_n 1, 1) := by decide +kernel
theorem dX5_placeTown_5 : decode cX5_placeTown 5 = .ok (.iaload, 1) := by decide +kernel
theorem dX5_placeTown_6 : decode cX5_placeTown 6 = .ok (.bipush 15, 2) := by decide +kernel
theorem dX5_placeTown_8 : decode cX5_placeTown 8 = .ok (.iand, 1) := by decide +kernel
theorem dX5_placeTown_9 : decode cX5_placeTown 9 = .ok (.ireturn, 1) := by decide +kernel
theorem dX5_placeChance_0 : decode cX5_placeChance 0 = .ok (.bipush 100, 2) := by decide +kernel
theorem dX5_placeChance_2 : decode cX5_placeChance 2 = .ok (.aload_n 0, 1) := by decide +kernel
theorem dX5_placeChance_3 : decode cX5_placeChance 3 = .ok (.getfield 21, 3) := by decide +kernel
theorem dX5_placeChance_6 : decode cX5_placeChance 6 = .ok (.iload_n 1, 1) := by decide +kernel
theorem dX5_placeChance_7 : decode cX5_placeChance 7 = .ok (.iaload, 1) := by decide +kernel
theorem dX5_placeChance_8 : decode cX5_placeChance 8 = .ok (.iconst 4, 1) := by decide +kernel
theorem dX5_placeChance_9 : decode cX5_placeChance 9 = .ok (.ishr, 1) := by decide +kernel
theorem dX5_placeChance_10 : decode cX5_placeChance 10 = .ok (.isub, 1) := by decide +kernel
theorem dX5_placeChance_11 : decode cX5_placeChance 11 = .ok (.ireturn, 1) := by decide +kernel
theorem dX5_rowOfPlace_0 : decode cX5_rowOfPlace 0 = .ok (.iconst 0, 1) := by decide +kernel
theorem dX5_rowOfPlace_1 : decode cX5_rowOfPlace 1 = .ok (.istore_n 2, 1) := by decide +kernel
theorem dX5_rowOfPlace_2 : decode cX5_rowOfPlace 2 = .ok (.iload_n 2, 1) := by decide +kernel
theorem dX5_rowOfPlace_3 : decode cX5_rowOfPlace 3 = .ok (.aload_n 0, 1) := by decide +kernel
theorem dX5_rowOfPlace_4 : decode cX5_rowOfPlace 4 = .ok (.getfield 63, 3) := by decide +kernel
theorem dX5_rowOfPlace_7 : decode cX5_rowOfPlace 7 = .ok (.if_icmp .ge 20, 3) := by decide +kernel
theorem dX5_rowOfPlace_10 : decode cX5_rowOfPlace 10 = .ok (.aload_n 0, 1) := by decide +kernel
theorem dX5_rowOfPlace_11 : decode cX5_rowOfPlace 11 = .ok (.iload_n 2, 1) := by decide +kernel
theorem dX5_rowOfPlace_12 : decode cX5_rowOfPlace 12 = .ok (.invokevirtual 66, 3) := by decide +kernel
theorem dX5_rowOfPlace_15 : decode cX5_rowOfPlace 15 = .ok (.iload_n 1, 1) := by decide +kernel
theorem dX5_rowOfPlace_16 : decode cX5_rowOfPlace 16 = .ok (.if_icmp .ne 5, 3) := by decide +kernel
theorem dX5_rowOfPlace_19 : decode cX5_rowOfPlace 19 = .ok (.iload_n 2, 1) := by decide +kernel
theorem dX5_rowOfPlace_20 : decode cX5_rowOfPlace 20 = .ok (.ireturn, 1) := by decide +kernel
theorem dX5_rowOfPlace_21 : decode cX5_rowOfPlace 21 = .ok (.iinc 2 1, 3) := by decide +kernel
theorem dX5_rowOfPlace_24 : decode cX5_rowOfPlace 24 = .ok (.goto (-22), 3) := by decide +kernel
theorem dX5_rowOfPlace_27 : decode cX5_rowOfPlace 27 = .ok (.iconst (-1), 1) := by decide +kernel
theorem dX5_rowOfPlace_28 : decode cX5_rowOfPlace 28 = .ok (.ireturn, 1) := by decide +kernel
theorem dX5_tell_0 : decode cX5_tell 0 = .ok (.aload_n 0, 1) := by decide +kernel
theorem dX5_tell_1 : decode cX5_tell 1 = .ok (.iload_n 1, 1) := by decide +kernel
theorem dX5_tell_2 : decode cX5_tell 2 = .ok (.invokevirtual 70, 3) := by decide +kernel
theorem dX5_tell_5 : decode cX5_tell 5 = .ok (.istore_n 3, 1) := by decide +kernel
theorem dX5_tell_6 : decode cX5_tell 6 = .ok (.iload_n 3, 1) := by decide +kernel
theorem dX5_tell_7 : decode cX5_tell 7 = .ok (.iconst (-1), 1) := by decide +kernel
theorem dX5_tell_8 : decode cX5_tell 8 = .ok (.if_icmp .ne 28, 3) := by decide +kernel
theorem dX5_tell_11 : decode cX5_tell 11 = .ok (.aload_n 0, 1) := by decide +kernel
theorem dX5_tell_12 : decode cX5_tell 12 = .ok (.getfield 63, 3) := by decide +kernel
theorem dX5_tell_15 : decode cX5_tell 15 = .ok (.iconst 4, 1) := by decide +kernel
theorem dX5_tell_16 : decode cX5_tell 16 = .ok (.if_icmp .lt 5, 3) := by decide +kernel
theorem dX5_tell_19 : decode cX5_tell 19 = .ok (.iconst 0, 1) := by decide +kernel
theorem dX5_tell_20 : decode cX5_tell 20 = .ok (.ireturn, 1) := by decide +kernel
theorem dX5_tell_21 : decode cX5_tell 21 = .ok (.aload_n 0, 1) := by decide +kernel
theorem dX5_tell_22 : decode cX5_tell 22 = .ok (.getfield 63, 3) := by decide +kernel
theorem dX5_tell_25 : decode cX5_tell 25 = .ok (.istore_n 3, 1) := by decide +kernel
theorem dX5_tell_26 : decode cX5_tell 26 = .ok (.aload_n 0, 1) := by decide +kernel
theorem dX5_tell_27 : decode cX5_tell 27 = .ok (.dup, 1) := by decide +kernel
theorem dX5_tell_28 : decode cX5_tell 28 = .ok (.getfield 63, 3) := by decide +kernel
theorem dX5_tell_31 : decode cX5_tell 31 = .ok (.iconst 1, 1) := by decide +kernel
theorem dX5_tell_32 : decode cX5_tell 32 = .ok (.iadd, 1) := by decide +kernel
theorem dX5_tell_33 : decode cX5_tell 33 = .ok (.putfield 63, 3) := by decide +kernel
theorem dX5_tell_36 : decode cX5_tell 36 = .ok (.bipush 100, 2) := by decide +kernel
theorem dX5_tell_38 : decode cX5_tell 38 = .ok (.iload_n 2, 1) := by decide +kernel
theorem dX5_tell_39 : decode cX5_tell 39 = .ok (.isub, 1) := by decide +kernel
theorem dX5_tell_40 : decode cX5_tell 40 = .ok (.iconst 4, 1) := by decide +kernel
theorem dX5_tell_41 : decode cX5_tell 41 = .ok (.ishl, 1) := by decide +kernel
theorem dX5_tell_42 : decode cX5_tell 42 = .ok (.iload_n 1, 1) := by decide +kernel
theorem dX5_tell_43 : decode cX5_tell 43 = .ok (.ior, 1) := by decide +kernel
theorem dX5_tell_44 : decode cX5_tell 44 = .ok (.istore 4, 2) := by decide +kernel
theorem dX5_tell_46 : decode cX5_tell 46 = .ok (.iload_n 3, 1) := by decide +kernel
theorem dX5_tell_47 : decode cX5_tell 47 = .ok (.aload_n 0, 1) := by decide +kernel
theorem dX5_tell_48 : decode cX5_tell 48 = .ok (.getfield 63, 3) := by decide +kernel
theorem dX5_tell_51 : decode cX5_tell 51 = .ok (.iconst 1, 1) := by decide +kernel
theorem dX5_tell_52 : decode cX5_tell 52 = .ok (.isub, 1) := by decide +kernel
theorem dX5_tell_53 : decode cX5_tell 53 = .ok (.if_icmp .ge 36, 3) := by decide +kernel
theorem dX5_tell_56 : decode cX5_tell 56 = .ok (.aload_n 0, 1) := by decide +kernel
theorem dX5_tell_57 : decode cX5_tell 57 = .ok (.getfield 21, 3) := by decide +kernel
theorem dX5_tell_60 : decode cX5_tell 60 = .ok (.iload_n 3, 1) := by decide +kernel
theorem dX5_tell_61 : decode cX5_tell 61 = .ok (.iconst 1, 1) := by decide +kernel
theorem dX5_tell_62 : decode cX5_tell 62 = .ok (.iadd, 1) := by decide +kernel
theorem dX5_tell_63 : decode cX5_tell 63 = .ok (.iaload, 1) := by decide +kernel
theorem dX5_tell_64 : decode cX5_tell 64 = .ok (.iload 4, 2) := by decide +kernel
theorem dX5_tell_66 : decode cX5_tell 66 = .ok (.if_icmp .ge 23, 3) := by decide +kernel
theorem dX5_tell_69 : decode cX5_tell 69 = .ok (.aload_n 0, 1) := by decide +kernel
theorem dX5_tell_70 : decode cX5_tell 70 = .ok (.getfield 21, 3) := by decide +kernel
theorem dX5_tell_73 : decode cX5_tell 73 = .ok (.iload_n 3, 1) := by decide +kernel
theorem dX5_tell_74 : decode cX5_tell 74 = .ok (.aload_n 0, 1) := by decide +kernel
theorem dX5_tell_75 : decode cX5_tell 75 = .ok (.getfield 21, 3) := by decide +kernel
theorem dX5_tell_78 : decode cX5_tell 78 = .ok (.iload_n 3, 1) := by decide +kernel
theorem dX5_tell_79 : decode cX5_tell 79 = .ok (.iconst 1, 1) := by decide +kernel
theorem dX5_tell_80 : decode cX5_tell 80 = .ok (.iadd, 1) := by decide +kernel
theorem dX5_tell_81 : decode cX5_tell 81 = .ok (.iaload, 1) := by decide +kernel
theorem dX5_tell_82 : decode cX5_tell 82 = .ok (.iastore, 1) := by decide +kernel
theorem dX5_tell_83 : decode cX5_tell 83 = .ok (.iinc 3 1, 3) := by decide +kernel
theorem dX5_tell_86 : decode cX5_tell 86 = .ok (.goto (-40), 3) := by decide +kernel
theorem dX5_tell_89 : decode cX5_tell 89 = .ok (.iload_n 3, 1) := by decide +kernel
theorem dX5_tell_90 : decode cX5_tell 90 = .ok (.ifCond .le 36, 3) := by decide +kernel
theorem dX5_tell_93 : decode cX5_tell 93 = .ok (.aload_n 0, 1) := by decide +kernel
theorem dX5_tell_94 : decode cX5_tell 94 = .ok (.getfield 21, 3) := by decide +kernel
theorem dX5_tell_97 : decode cX5_tell 97 = .ok (.iload_n 3, 1) := by decide +kernel
theorem dX5_tell_98 : decode cX5_tell 98 = .ok (.iconst 1, 1) := by decide +kernel
theorem dX5_tell_99 : decode cX5_tell 99 = .ok (.isub, 1) := by decide +kernel
theorem dX5_tell_100 : decode cX5_tell 100 = .ok (.iaload, 1) := by decide +kernel
theorem dX5_tell_101 : decode cX5_tell 101 = .ok (.iload 4, 2) := by decide +kernel
theorem dX5_tell_103 : decode cX5_tell 103 = .ok (.if_icmp .le 23, 3) := by decide +kernel
theorem dX5_tell_106 : decode cX5_tell 106 = .ok (.aload_n 0, 1) := by decide +kernel
theorem dX5_tell_107 : decode cX5_tell 107 = .ok (.getfield 21, 3) := by decide +kernel
theorem dX5_tell_110 : decode cX5_tell 110 = .ok (.iload_n 3, 1) := by decide +kernel
theorem dX5_tell_111 : decode cX5_tell 111 = .ok (.aload_n 0, 1) := by decide +kernel
theorem dX5_tell_112 : decode cX5_tell 112 = .ok (.getfield 21, 3) := by decide +kernel
theorem dX5_tell_115 : decode cX5_tell 115 = .ok (.iload_n 3, 1) := by decide +kernel
theorem dX5_tell_116 : decode cX5_tell 116 = .ok (.iconst 1, 1) := by decide +kernel
theorem dX5_tell_117 : decode cX5_tell 117 = .ok (.isub, 1) := by decide +kernel
theorem dX5_tell_118 : decode cX5_tell 118 = .ok (.iaload, 1) := by decide +kernel
theorem dX5_tell_119 : decode cX5_tell 119 = .ok (.iastore, 1) := by decide +kernel
theorem dX5_tell_120 : decode cX5_tell 120 = .ok (.iinc 3 (-1), 3) := by decide +kernel
theorem dX5_tell_123 : decode cX5_tell 123 = .ok (.goto (-34), 3) := by decide +kernel
theorem dX5_tell_126 : decode cX5_tell 126 = .ok (.aload_n 0, 1) := by decide +kernel
theorem dX5_tell_127 : decode cX5_tell 127 = .ok (.getfield 21, 3) := by decide +kernel
theorem dX5_tell_130 : decode cX5_tell 130 = .ok (.iload_n 3, 1) := by decide +kernel
theorem dX5_tell_131 : decode cX5_tell 131 = .ok (.iload 4, 2) := by decide +kernel
theorem dX5_tell_133 : decode cX5_tell 133 = .ok (.iastore, 1) := by decide +kernel
theorem dX5_tell_134 : decode cX5_tell 134 = .ok (.iconst 1, 1) := by decide +kernel
theorem dX5_tell_135 : decode cX5_tell 135 = .ok (.ireturn, 1) := by decide +kernel
theorem dX5_foundByAll_0 : decode cX5_foundByAll 0 = .ok (.lconst 1, 1) := by decide +kernel
theorem dX5_foundByAll_1 : decode cX5_foundByAll 1 = .ok (.lstore_n 2, 1) := by decide +kernel
theorem dX5_foundByAll_2 : decode cX5_foundByAll 2 = .ok (.lconst 1, 1) := by decide +kernel
theorem dX5_foundByAll_3 : decode cX5_foundByAll 3 = .ok (.lstore 4, 2) := by decide +kernel
theorem dX5_foundByAll_5 : decode cX5_foundByAll 5 = .ok (.iconst 0, 1) := by decide +kernel
theorem dX5_foundByAll_6 : decode cX5_foundByAll 6 = .ok (.istore 6, 2) := by decide +kernel
theorem dX5_foundByAll_8 : decode cX5_foundByAll 8 = .ok (.iload 6, 2) := by decide +kernel
theorem dX5_foundByAll_10 : decode cX5_foundByAll 10 = .ok (.aload_n 0, 1) := by decide +kernel
theorem dX5_foundByAll_11 : decode cX5_foundByAll 11 = .ok (.getfield 63, 3) := by decide +kernel
theorem dX5_foundByAll_14 : decode cX5_foundByAll 14 = .ok (.if_icmp .ge 30, 3) := by decide +kernel
theorem dX5_foundByAll_17 : decode cX5_foundByAll 17 = .ok (.lload_n 2, 1) := by decide +kernel
theorem dX5_foundByAll_18 : decode cX5_foundByAll 18 = .ok (.ldc2_w 73, 3) := by decide +kernel
theorem dX5_foundByAll_21 : decode cX5_foundByAll 21 = .ok (.lmul, 1) := by decide +kernel
theorem dX5_foundByAll_22 : decode cX5_foundByAll 22 = .ok (.lstore_n 2, 1) := by decide +kernel
theorem dX5_foundByAll_23 : decode cX5_foundByAll 23 = .ok (.lload 4, 2) := by decide +kernel
theorem dX5_foundByAll_25 : decode cX5_foundByAll 25 = .ok (.bipush 100, 2) := by decide +kernel
theorem dX5_foundByAll_27 : decode cX5_foundByAll 27 = .ok (.aload_n 0, 1) := by decide +kernel
theorem dX5_foundByAll_28 : decode cX5_foundByAll 28 = .ok (.iload 6, 2) := by decide +kernel
theorem dX5_foundByAll_30 : decode cX5_foundByAll 30 = .ok (.invokevirtual 75, 3) := by decide +kernel
theorem dX5_foundByAll_33 : decode cX5_foundByAll 33 = .ok (.isub, 1) := by decide +kernel
theorem dX5_foundByAll_34 : decode cX5_foundByAll 34 = .ok (.i2l, 1) := by decide +kernel
theorem dX5_foundByAll_35 : decode cX5_foundByAll 35 = .ok (.lmul, 1) := by decide +kernel
theorem dX5_foundByAll_36 : decode cX5_foundByAll 36 = .ok (.lstore 4, 2) := by decide +kernel
theorem dX5_foundByAll_38 : decode cX5_foundByAll 38 = .ok (.iinc 6 1, 3) := by decide +kernel
theorem dX5_foundByAll_41 : decode cX5_foundByAll 41 = .ok (.goto (-33), 3) := by decide +kernel
theorem dX5_foundByAll_44 : decode cX5_foundByAll 44 = .ok (.lload_n 2, 1) := by decide +kernel
theorem dX5_foundByAll_45 : decode cX5_foundByAll 45 = .ok (.lstore 6, 2) := by decide +kernel
theorem dX5_foundByAll_47 : decode cX5_foundByAll 47 = .ok (.lload_n 2, 1) := by decide +kernel
theorem dX5_foundByAll_48 : decode cX5_foundByAll 48 = .ok (.lload 4, 2) := by decide +kernel
theorem dX5_foundByAll_50 : decode cX5_foundByAll 50 = .ok (.lsub, 1) := by decide +kernel
theorem dX5_foundByAll_51 : decode cX5_foundByAll 51 = .ok (.lstore 8, 2) := by decide +kernel
theorem dX5_foundByAll_53 : decode cX5_foundByAll 53 = .ok (.iconst 0, 1) := by decide +kernel
theorem dX5_foundByAll_54 : decode cX5_foundByAll 54 = .ok (.istore 10, 2) := by decide +kernel
theorem dX5_foundByAll_56 : decode cX5_foundByAll 56 = .ok (.iload 10, 2) := by decide +kernel
theorem dX5_foundByAll_58 : decode cX5_foundByAll 58 = .ok (.bipush 100, 2) := by decide +kernel
theorem dX5_foundByAll_60 : decode cX5_foundByAll 60 = .ok (.if_icmp .ge 31, 3) := by decide +kernel
theorem dX5_foundByAll_63 : decode cX5_foundByAll 63 = .ok (.lload 8, 2) := by decide +kernel
theorem dX5_foundByAll_65 : decode cX5_foundByAll 65 = .ok (.lconst 0, 1) := by decide +kernel
theorem dX5_foundByAll_66 : decode cX5_foundByAll 66 = .ok (.lcmp, 1) := by decide +kernel
theorem dX5_foundByAll_67 : decode cX5_foundByAll 67 = .ok (.ifCond .le 24, 3) := by decide +kernel
theorem dX5_foundByAll_70 : decode cX5_foundByAll 70 = .ok (.lload 6, 2) := by decide +kernel
theorem dX5_foundByAll_72 : decode cX5_foundByAll 72 = .ok (.lload 8, 2) := by decide +kernel
theorem dX5_foundByAll_74 : decode cX5_foundByAll 74 = .ok (.lrem, 1) := by decide +kernel
theorem dX5_foundByAll_75 : decode cX5_foundByAll 75 = .ok (.lstore 11, 2) := by decide +kernel
theorem dX5_foundByAll_77 : decode cX5_foundByAll 77 = .ok (.lload 8, 2) := by decide +kernel
theorem dX5_foundByAll_79 : decode cX5_foundByAll 79 = .ok (.lstore 6, 2) := by decide +kernel
theorem dX5_foundByAll_81 : decode cX5_foundByAll 81 = .ok (.lload 11, 2) := by decide +kernel
theorem dX5_foundByAll_83 : decode cX5_foundByAll 83 = .ok (.lstore 8, 2) := by decide +kernel
theorem dX5_foundByAll_85 : decode cX5_foundByAll 85 = .ok (.iinc 10 1, 3) := by decide +kernel
theorem dX5_foundByAll_88 : decode cX5_foundByAll 88 = .ok (.goto (-32), 3) := by decide +kernel
theorem dX5_foundByAll_91 : decode cX5_foundByAll 91 = .ok (.lload 6, 2) := by decide +kernel
theorem dX5_foundByAll_93 : decode cX5_foundByAll 93 = .ok (.lconst 0, 1) := by decide +kernel
theorem dX5_foundByAll_94 : decode cX5_foundByAll 94 = .ok (.lcmp, 1) := by decide +kernel
theorem dX5_foundByAll_95 : decode cX5_foundByAll 95 = .ok (.ifCond .ne 7, 3) := by decide +kernel
theorem dX5_foundByAll_98 : decode cX5_foundByAll 98 = .ok (.ldc2_w 78, 3) := by decide +kernel
theorem dX5_foundByAll_101 : decode cX5_foundByAll 101 = .ok (.lreturn, 1) := by decide +kernel
theorem dX5_foundByAll_102 : decode cX5_foundByAll 102 = .ok (.iload_n 1, 1) := by decide +kernel
theorem dX5_foundByAll_103 : decode cX5_foundByAll 103 = .ok (.ifCond .eq 10, 3) := by decide +kernel
theorem dX5_foundByAll_106 : decode cX5_foundByAll 106 = .ok (.lload_n 2, 1) := by decide +kernel
theorem dX5_foundByAll_107 : decode cX5_foundByAll 107 = .ok (.lload 4, 2) := by decide +kernel
theorem dX5_foundByAll_109 : decode cX5_foundByAll 109 = .ok (.lsub, 1) := by decide +kernel
theorem dX5_foundByAll_110 : decode cX5_foundByAll 110 = .ok (.goto 4, 3) := by decide +kernel
theorem dX5_foundByAll_113 : decode cX5_foundByAll 113 = .ok (.lload_n 2, 1) := by decide +kernel
theorem dX5_foundByAll_114 : decode cX5_foundByAll 114 = .ok (.lload 6, 2) := by decide +kernel
theorem dX5_foundByAll_116 : decode cX5_foundByAll 116 = .ok (.ldiv, 1) := by decide +kernel
theorem dX5_foundByAll_117 : decode cX5_foundByAll 117 = .ok (.lreturn, 1) := by decide +kernel
theorem dX6_init_0 : decode cX6_init 0 = .ok (.aload_n 0, 1) := by decide +kernel
theorem dX6_init_1 : decode cX6_init 1 = .ok (.invokespecial 7, 3) := by decide +kernel
theorem dX6_init_4 : decode cX6_init 4 = .ok (.aload_n 0, 1) := by decide +kernel
theorem dX6_init_5 : decode cX6_init 5 = .ok (.iconst (-1), 1) := by decide +kernel
theorem dX6_init_6 : decode cX6_init 6 = .ok (.putfield 13, 3) := by decide +kernel
theorem dX6_init_9 : decode cX6_init 9 = .ok (.aload_n 0, 1) := by decide +kernel
theorem dX6_init_10 : decode cX6_init 10 = .ok (.sipush 600, 3) := by decide +kernel
theorem dX6_init_13 : decode cX6_init 13 = .ok (.newarray .int, 2) := by decide +kernel
theorem dX6_init_15 : decode cX6_init 15 = .ok (.putfield 17, 3) := by decide +kernel
theorem dX6_init_18 : decode cX6_init 18 = .ok (.aload_n 0, 1) := by decide +kernel
theorem dX6_init_19 : decode cX6_init 19 = .ok (.sipush 601, 3) := by decide +kernel
theorem dX6_init_22 : decode cX6_init 22 = .ok (.newarray .int, 2) := by decide +kernel
theorem dX6_init_24 : decode cX6_init 24 = .ok (.putfield 21, 3) := by decide +kernel
theorem dX6_init_27 : decode cX6_init 27 = .ok (.aload_n 0, 1) := by decide +kernel
theorem dX6_init_28 : decode cX6_init 28 = .ok (.sipush 900, 3) := by decide +kernel
theorem dX6_init_31 : decode cX6_init 31 = .ok (.newarray .long, 2) := by decide +kernel
theorem dX6_init_33 : decode cX6_init 33 = .ok (.putfield 24, 3) := by decide +kernel
theorem dX6_init_36 : decode cX6_init 36 = .ok (.return_, 1) := by decide +kernel
theorem dX6_take_0 : decode cX6_take 0 = .ok (.bipush 24, 2) := by decide +kernel
theorem dX6_take_2 : decode cX6_take 2 = .ok (.istore_n 2, 1) := by decide +kernel
theorem dX6_take_3 : decode cX6_take 3 = .ok (.iload_n 2, 1) := by decide +kernel
theorem dX6_take_4 : decode cX6_take 4 = .ok (.ifCond .lt 45, 3) := by decide +kernel
theorem dX6_take_7 : decode cX6_take 7 = .ok (.aload_n 0, 1) := by decide +kernel
theorem dX6_take_8 : decode cX6_take 8 = .ok (.getfield 28, 3) := by decide +kernel
theorem dX6_take_11 : decode cX6_take 11 = .ok (.sipush 600, 3) := by decide +kernel
theorem dX6_take_14 : decode cX6_take 14 = .ok (.if_icmp .ge 29, 3) := by decide +kernel
theorem dX6_take_17 : decode cX6_take 17 = .ok (.aload_n 0, 1) := by decide +kernel
theorem dX6_take_18 : decode cX6_take 18 = .ok (.getfield 17, 3) := by decide +kernel
theorem dX6_take_21 : decode cX6_take 21 = .ok (.aload_n 0, 1) := by decide +kernel
theorem dX6_take_22 : decode cX6_take 22 = .ok (.getfield 28, 3) := by decide +kernel
theorem dX6_take_25 : decode cX6_take 25 = .ok (.iload_n 1, 1) := by decide +kernel
theorem dX6_take_26 : decode cX6_take 26 = .ok (.iload_n 2, 1) := by decide +kernel
theorem dX6_take_27 : decode cX6_take 27 = .ok (.ishr, 1) := by decide +kernel
theorem dX6_take_28 : decode cX6_take 28 = .ok (.sipush 255, 3) := by decide +kernel
theorem dX6_take_31 : decode cX6_take 31 = .ok (.iand, 1) := by decide +kernel
theorem dX6_take_32 : decode cX6_take 32 = .ok (.iastore, 1) := by decide +kernel
theorem dX6_take_33 : decode cX6_take 33 = .ok (.aload_n 0, 1) := by decide +kernel
theorem dX6_take_34 : decode cX6_take 34 = .ok (.dup, 1) := by decide +kernel
theorem dX6_take_35 : decode cX6_take 35 = .ok (.getfield 28, 3) := by decide +kernel
theorem dX6_take_38 : decode cX6_take 38 = .ok (.iconst 1, 1) := by decide +kernel
theorem dX6_take_39 : decode cX6_take 39 = .ok (.iadd, 1) := by decide +kernel
theorem dX6_take_40 : decode cX6_take 40 = .ok (.putfield 28, 3) := by decide +kernel
theorem dX6_take_43 : decode cX6_take 43 = .ok (.iinc 2 (-8), 3) := by decide +kernel
theorem dX6_take_46 : decode cX6_take 46 = .ok (.goto (-43), 3) := by decide +kernel
theorem dX6_take_49 : decode cX6_take 49 = .ok (.return_, 1) := by decide +kernel
theorem dX6_drop_0 : decode cX6_drop 0 = .ok (.aload_n 0, 1) := by decide +kernel
theorem dX6_drop_1 : decode cX6_drop 1 = .ok (.iconst 0, 1) := by decide +kernel
theorem dX6_drop_2 : decode cX6_drop 2 = .ok (.putfield 28, 3) := by decide +kernel
theorem dX6_drop_5 : decode cX6_drop 5 = .ok (.aload_n 0, 1) := by decide +kernel
theorem dX6_drop_6 : decode cX6_drop 6 = .ok (.iconst 0, 1) := by decide +kernel
theorem dX6_drop_7 : decode cX6_drop 7 = .ok (.putfield 31, 3) := by decide +kernel
theorem dX6_drop_10 : decode cX6_drop 10 = .ok (.aload_n 0, 1) := by decide +kernel
theorem dX6_drop_11 : decode cX6_drop 11 = .ok (.iconst (-1), 1) := by decide +kernel
theorem dX6_drop_12 : decode cX6_drop 12 = .ok (.putfield 13, 3) := by decide +kernel
theorem dX6_drop_15 : decode cX6_drop 15 = .ok (.return_, 1) := by decide +kernel
theorem dX6_read_0 : decode cX6_read 0 = .ok (.aload_n 0, 1) := by decide +kernel
theorem dX6_read_1 : decode cX6_read 1 = .ok (.getfield 34, 3) := by decide +kernel
theorem dX6_read_4 : decode cX6_read 4 = .ok (.istore_n 2, 1) := by decide +kernel
theorem dX6_read_5 : decode cX6_read 5 = .ok (.aload_n 0, 1) := by decide +kernel
theorem dX6_read_6 : decode cX6_read 6 = .ok (.invokevirtual 37, 3) := by decide +kernel
theorem dX6_read_9 : decode cX6_read 9 = .ok (.aload_n 0, 1) := by decide +kernel
theorem dX6_read_10 : decode cX6_read 10 = .ok (.invokevirtual 40, 3) := by decide +kernel
theorem dX6_read_13 : decode cX6_read 13 = .ok (.aload_n 0, 1) := by decide +kernel
theorem dX6_read_14 : decode cX6_read 14 = .ok (.iconst 0, 1) := by decide +kernel
theorem dX6_read_15 : decode cX6_read 15 = .ok (.putfield 43, 3) := by decide +kernel
theorem dX6_read_18 : decode cX6_read 18 = .ok (.aload_n 0, 1) := by decide +kernel
theorem dX6_read_19 : decode cX6_read 19 = .ok (.aload_n 0, 1) := by decide +kernel
theorem dX6_read_20 : decode cX6_read 20 = .ok (.getfield 21, 3) := by decide +kernel
theorem dX6_read_23 : decode cX6_read 23 = .ok (.iconst 0, 1) := by decide +kernel
theorem dX6_read_24 : decode cX6_read 24 = .ok (.iaload, 1) := by decide +kernel
theorem dX6_read_25 : decode cX6_read 25 = .ok (.bipush 127, 2) := by decide +kernel
theorem dX6_read_27 : decode cX6_read 27 = .ok (.iand, 1) := by decide +kernel
theorem dX6_read_28 : decode cX6_read 28 = .ok (.putfield 46, 3) := by decide +kernel
theorem dX6_read_31 : decode cX6_read 31 = .ok (.iconst 1, 1) := by decide +kernel
theorem dX6_read_32 : decode cX6_read 32 = .ok (.istore_n 3, 1) := by decide +kernel
theorem dX6_read_33 : decode cX6_read 33 = .ok (.iconst 0, 1) := by decide +kernel
theorem dX6_read_34 : decode cX6_read 34 = .ok (.istore 4, 2) := by decide +kernel
theorem dX6_read_36 : decode cX6_read 36 = .ok (.iload 4, 2) := by decide +kernel
theorem dX6_read_38 : decode cX6_read 38 = .ok (.sipush 600, 3) := by decide +kernel
theorem dX6_read_41 : decode cX6_read 41 = .ok (.if_icmp .gt 121, 3) := by decide +kernel
theorem dX6_read_44 : decode cX6_read 44 = .ok (.iload_n 3, 1) := by decide +kernel
theorem dX6_read_45 : decode cX6_read 45 = .ok (.ifCond .eq 117, 3) := by decide +kernel
theorem dX6_read_48 : decode cX6_read 48 = .ok (.aload_n 0, 1) := by decide +kernel
theorem dX6_read_49 : decode cX6_read 49 = .ok (.getfield 46, 3) := by decide +kernel
theorem dX6_read_52 : decode cX6_read 52 = .ok (.bipush 19, 2) := by decide +kernel
theorem dX6_read_54 : decode cX6_read 54 = .ok (.if_icmp .eq 108, 3) := by decide +kernel
theorem dX6_read_57 : decode cX6_read 57 = .ok (.aload_n 0, 1) := by decide +kernel
theorem dX6_read_58 : decode cX6_read 58 = .ok (.getfield 46, 3) := by decide +kernel
theorem dX6_read_61 : decode cX6_read 61 = .ok (.iconst 5, 1) := by decide +kernel
theorem dX6_read_62 : decode cX6_read 62 = .ok (.if_icmp .le 12, 3) := by decide +kernel
theorem dX6_read_65 : decode cX6_read 65 = .ok (.aload_n 0, 1) := by decide +kernel
theorem dX6_read_66 : decode cX6_read 66 = .ok (.iconst 1, 1) := by decide +kernel
theorem dX6_read_67 : decode cX6_read 67 = .ok (.invokevirtual 49, 3) := by decide +kernel
theorem dX6_read_70 : decode cX6_read 70 = .ok (.pop, 1) := by decide +kernel
theorem dX6_read_71 : decode cX6_read 71 = .ok (.goto 63, 3) := by decide +kernel
theorem dX6_read_74 : decode cX6_read 74 = .ok (.aload_n 1, 1) := by decide +kernel
theorem dX6_read_75 : decode cX6_read 75 = .ok (.getfield 53, 3) := by decide +kernel
theorem dX6_read_78 : decode cX6_read 78 = .ok (.bipush 24, 2) := by decide +kernel
theorem dX6_read_80 : decode cX6_read 80 = .ok (.if_icmp .lt 12, 3) := by decide +kernel
theorem dX6_read_83 : decode cX6_read 83 = .ok (.aload_n 0, 1) := by decide +kernel
theorem dX6_read_84 : decode cX6_read 84 = .ok (.iconst 3, 1) := by decide +kernel
theorem dX6_read_85 : decode cX6_read 85 = .ok (.invokevirtual 49, 3) := by decide +kernel
theorem dX6_read_88 : decode cX6_read 88 = .ok (.pop, 1) := by decide +kernel
theorem dX6_read_89 : decode cX6_read 89 = .ok (.goto 45, 3) := by decide +kernel
theorem dX6_read_92 : decode cX6_read 92 = .ok (.aload_n 0, 1) := by decide +kernel
theorem dX6_read_93 : decode cX6_read 93 = .ok (.getfield 46, 3) := by decide +kernel
theorem dX6_read_96 : decode cX6_read 96 = .ok (.ifCond .ne 22, 3) := by decide +kernel
theorem dX6_read_99 : decode cX6_read 99 = .ok (.aload_n 1, 1) := by decide +kernel
theorem dX6_read_100 : decode cX6_read 100 = .ok (.dup, 1) := by decide +kernel
theorem dX6_read_101 : decode cX6_read 101 = .ok (.getfield 53, 3) := by decide +kernel
theorem dX6_read_104 : decode cX6_read 104 = .ok (.iconst 1, 1) := by decide +kernel
theorem dX6_read_105 : decode cX6_read 105 = .ok (.iadd, 1) := by decide +kernel
theorem dX6_read_106 : decode cX6_read 106 = .ok (.putfield 53, 3) := by decide +kernel
theorem dX6_read_109 : decode cX6_read 109 = .ok (.aload_n 0, 1) := by decide +kernel
theorem dX6_read_110 : decode cX6_read 110 = .ok (.aload_n 1, 1) := by decide +kernel
theorem dX6_read_111 : decode cX6_read 111 = .ok (.invokevirtual 58, 3) := by decide +kernel
theorem dX6_read_114 : decode cX6_read 114 = .ok (.pop, 1) := by decide +kernel
theorem dX6_read_115 : decode cX6_read 115 = .ok (.goto 19, 3) := by decide +kernel
theorem dX6_read_118 : decode cX6_read 118 = .ok (.aload_n 1, 1) := by decide +kernel
theorem dX6_read_119 : decode cX6_read 119 = .ok (.dup, 1) := by decide +kernel
theorem dX6_read_120 : decode cX6_read 120 = .ok (.getfield 53, 3) := by decide +kernel
theorem dX6_read_123 : decode cX6_read 123 = .ok (.iconst 1, 1) := by decide +kernel
theorem dX6_read_124 : decode cX6_read 124 = .ok (.iadd, 1) := by decide +kernel
theorem dX6_read_125 : decode cX6_read 125 = .ok (.putfield 53, 3) := by decide +kernel
theorem dX6_read_128 : decode cX6_read 128 = .ok (.aload_n 0, 1) := by decide +kernel
theorem dX6_read_129 : decode cX6_read 129 = .ok (.aload_n 1, 1) := by decide +kernel
theorem dX6_read_130 : decode cX6_read 130 = .ok (.invokevirtual 62, 3) := by decide +kernel
theorem dX6_read_133 : decode cX6_read 133 = .ok (.pop, 1) := by decide +kernel
theorem dX6_read_134 : decode cX6_read 134 = .ok (.aload_n 0, 1) := by decide +kernel
theorem dX6_read_135 : decode cX6_read 135 = .ok (.getfield 31, 3) := by decide +kernel
theorem dX6_read_138 : decode cX6_read 138 = .ok (.ifCond .ne 16, 3) := by decide +kernel
theorem dX6_read_141 : decode cX6_read 141 = .ok (.aload_n 0, 1) := by decide +kernel
theorem dX6_read_142 : decode cX6_read 142 = .ok (.bipush 59, 2) := by decide +kernel
theorem dX6_read_144 : decode cX6_read 144 = .ok (.invokevirtual 65, 3) := by decide +kernel
theorem dX6_read_147 : decode cX6_read 147 = .ok (.ifCond .eq 7, 3) := by decide +kernel
theorem dX6_read_150 : decode cX6_read 150 = .ok (.iconst 1, 1) := by decide +kernel
theorem dX6_read_151 : decode cX6_read 151 = .ok (.goto 4, 3) := by decide +kernel
theorem dX6_read_154 : decode cX6_read 154 = .ok (.iconst 0, 1) := by decide +kernel
theorem dX6_read_155 : decode cX6_read 155 = .ok (.istore_n 3, 1) := by decide +kernel
theorem dX6_read_156 : decode cX6_read 156 = .ok (.iinc 4 1, 3) := by decide +kernel
theorem dX6_read_159 : decode cX6_read 159 = .ok (.goto (-123), 3) := by decide +kernel
theorem dX6_read_162 : decode cX6_read 162 = .ok (.iload_n 3, 1) := by decide +kernel
theorem dX6_read_163 : decode cX6_read 163 = .ok (.ifCond .ne 8, 3) := by decide +kernel
theorem dX6_read_166 : decode cX6_read 166 = .ok (.aload_n 0, 1) := by decide +kernel
theorem dX6_read_167 : decode cX6_read 167 = .ok (.iload_n 2, 1) := by decide +kernel
theorem dX6_read_168 : decode cX6_read 168 = .ok (.putfield 34, 3) := by decide +kernel
theorem dX6_read_171 : decode cX6_read 171 = .ok (.iload_n 3, 1) := by decide +kernel
theorem dX6_read_172 : decode cX6_read 172 = .ok (.ireturn, 1) := by decide +kernel
theorem dX6_readRule_0 : decode cX6_readRule 0 = .ok (.aload_n 0, 1) := by decide +kernel
theorem dX6_readRule_1 : decode cX6_readRule 1 = .ok (.getfield 46, 3) := by decide +kernel
theorem dX6_readRule_4 : decode cX6_readRule 4 = .ok (.istore_n 2, 1) := by decide +kernel
theorem dX6_readRule_5 : decode cX6_readRule 5 = .ok (.aload_n 0, 1) := by decide +kernel
theorem dX6_readRule_6 : decode cX6_readRule 6 = .ok (.invokevirtual 68, 3) := by decide +kernel
theorem dX6_readRule_9 : decode cX6_readRule 9 = .ok (.aload_n 0, 1) := by decide +kernel
theorem dX6_readRule_10 : decode cX6_readRule 10 = .ok (.getfield 46, 3) := by decide +kernel
theorem dX6_readRule_13 : decode cX6_readRule 13 = .ok (.bipush 18, 2) := by decide +kernel
theorem dX6_readRule_15 : decode cX6_readRule 15 = .ok (.if_icmp .eq 9, 3) := by decide +kernel
theorem dX6_readRule_18 : decode cX6_readRule 18 = .ok (.aload_n 0, 1) := by decide +kernel
theorem dX6_readRule_19 : decode cX6_readRule 19 = .ok (.iconst 1, 1) := by decide +kernel
theorem dX6_readRule_20 : decode cX6_readRule 20 = .ok (.invokevirtual 49, 3) := by decide +kernel
theorem dX6_readRule_23 : decode cX6_readRule 23 = .ok (.ireturn, 1) := by decide +kernel
theorem dX6_readRule_24 : decode cX6_readRule 24 = .ok (.aload_n 0, 1) := by decide +kernel
theorem dX6_readRule_25 : decode cX6_readRule 25 = .ok (.invokevirtual 71, 3) := by decide +kernel
theorem dX6_readRule_28 : decode cX6_readRule 28 = .ok (.istore_n 3, 1) := by decide +kernel
theorem dX6_readRule_29 : decode cX6_readRule 29 = .ok (.iload_n 2, 1) := by decide +kernel
theorem dX6_readRule_30 : decode cX6_readRule 30 = .ok (.iconst 2, 1) := by decide +kernel
theorem dX6_readRule_31 : decode cX6_readRule 31 = .ok (.if_icmp .ne 15, 3) := by decide +kernel
theorem dX6_readRule_34 : decode cX6_readRule 34 = .ok (.iload_n 3, 1) := by decide +kernel
theorem dX6_readRule_35 : decode cX6_readRule 35 = .ok (.bipush 99, 2) := by decide +kernel
theorem dX6_readRule_37 : decode cX6_readRule 37 = .ok (.if_icmp .le 9, 3) := by decide +kernel
theorem dX6_readRule_40 : decode cX6_readRule 40 = .ok (.aload_n 0, 1) := by decide +kernel
theorem dX6_readRule_41 : decode cX6_readRule 41 = .ok (.iconst 2, 1) := by decide +kernel
theorem dX6_readRule_42 : decode cX6_readRule 42 = .ok (.invokevirtual 49, 3) := by decide +kernel
theorem dX6_readRule_45 : decode cX6_readRule 45 = .ok (.ireturn, 1) := by decide +kernel
theorem dX6_readRule_46 : decode cX6_readRule 46 = .ok (.aload_n 0, 1) := by decide +kernel
theorem dX6_readRule_47 : decode cX6_readRule 47 = .ok (.invokevirtual 68, 3) := by decide +kernel
theorem dX6_readRule_50 : decode cX6_readRule 50 = .ok (.iload_n 2, 1) := by decide +kernel
theorem dX6_readRule_51 : decode cX6_readRule 51 = .ok (.tableswitch 60 1 4 #[29, 36, 44, 52], 29) := by decide +kernel
theorem dX6_readRule_80 : decode cX6_readRule 80 = .ok (.aload_n 0, 1) := by decide +kernel
theorem dX6_readRule_81 : decode cX6_readRule 81 = .ok (.aload_n 1, 1) := by decide +kernel
theorem dX6_readRule_82 : decode cX6_readRule 82 = .ok (.iload_n 3, 1) := by decide +kernel
theorem dX6_readRule_83 : decode cX6_readRule 83 = .ok (.invokevirtual 75, 3) := by decide +kernel
theorem dX6_readRule_86 : decode cX6_readRule 86 = .ok (.ireturn, 1) := by decide +kernel
theorem dX6_readRule_87 : decode cX6_readRule 87 = .ok (.aload_n 1, 1) := by decide +kernel
theorem dX6_readRule_88 : decode cX6_readRule 88 = .ok (.iload_n 3, 1) := by decide +kernel
theorem dX6_readRule_89 : decode cX6_readRule 89 = .ok (.putfield 79, 3) := by decide +kernel
theorem dX6_readRule_92 : decode cX6_readRule 92 = .ok (.goto 24, 3) := by decide +kernel
theorem dX6_readRule_95 : decode cX6_readRule 95 = .ok (.aload_n 1, 1) := by decide +kernel
theorem dX6_readRule_96 : decode cX6_readRule 96 = .ok (.iload_n 3, 1) := by decide +kernel
theorem dX6_readRule_97 : decode cX6_readRule 97 = .ok (.putfield 82, 3) := by decide +kernel
theorem dX6_readRule_100 : decode cX6_readRule 100 = .ok (.goto 16, 3) := by decide +kernel
theorem dX6_readRule_103 : decode cX6_readRule 103 = .ok (.aload_n 1, 1) := by decide +kernel
theorem dX6_readRule_104 : decode cX6_readRule 104 = .ok (.iload_n 3, 1) := by decide +kernel
theorem dX6_readRule_105 : decode cX6_readRule 105 = .ok (.putfield 85, 3) := by decide +kernel
theorem dX6_readRule_108 : decode cX6_readRule 108 = .ok (.goto 8, 3) := by decide +kernel
theorem dX6_readRule_111 : decode cX6_readRule 111 = .ok (.aload_n 1, 1) := by decide +kernel
theorem dX6_readRule_112 : decode cX6_readRule 112 = .ok (.iload_n 3, 1) := by decide +kernel
theorem dX6_readRule_113 : decode cX6_readRule 113 = .ok (.putfield 88, 3) := by decide +kernel
theorem dX6_readRule_116 : decode cX6_readRule 116 = .ok (.iconst 1, 1) := by decide +kernel
theorem dX6_readRule_117 : decode cX6_readRule 117 = .ok (.ireturn, 1) := by decide +kernel
theorem dX6_readAfter_0 : decode cX6_readAfter 0 = .ok (.aload_n 0, 1) := by decide +kernel
theorem dX6_readAfter_1 : decode cX6_readAfter 1 = .ok (.bipush 14, 2) := by decide +kernel
theorem dX6_readAfter_3 : decode cX6_readAfter 3 = .ok (.invokevirtual 65, 3) := by decide +kernel
theorem dX6_readAfter_6 : decode cX6_readAfter 6 = .ok (.ifCond .ne 5, 3) := by decide +kernel
theorem dX6_readAfter_9 : decode cX6_readAfter 9 = .ok (.iconst 0, 1) := by decide +kernel
theorem dX6_readAfter_10 : decode cX6_readAfter 10 = .ok (.ireturn, 1) := by decide +kernel
theorem dX6_readAfter_11 : decode cX6_readAfter 11 = .ok (.aload_n 0, 1) := by decide +kernel
theorem dX6_readAfter_12 : decode cX6_readAfter 12 = .ok (.getfield 46, 3) := by decide +kernel
theorem dX6_readAfter_15 : decode cX6_readAfter 15 = .ok (.bipush 18, 2) := by decide +kernel
theorem dX6_readAfter_17 : decode cX6_readAfter 17 = .ok (.if_icmp .eq 9, 3) := by decide +kernel
theorem dX6_readAfter_20 : decode cX6_readAfter 20 = .ok (.aload_n 0, 1) := by decide +kernel
theorem dX6_readAfter_21 : decode cX6_readAfter 21 = .ok (.iconst 1, 1) := by decide +kernel
theorem dX6_readAfter_22 : decode cX6_readAfter 22 = .ok (.invokevirtual 49, 3) := by decide +kernel
theorem dX6_readAfter_25 : decode cX6_readAfter 25 = .ok (.ireturn, 1) := by decide +kernel
theorem dX6_readAfter_26 : decode cX6_readAfter 26 = .ok (.aload_n 0, 1) := by decide +kernel
theorem dX6_readAfter_27 : decode cX6_readAfter 27 = .ok (.invokevirtual 71, 3) := by decide +kernel
theorem dX6_readAfter_30 : decode cX6_readAfter 30 = .ok (.sipush 1439, 3) := by decide +kernel
theorem dX6_readAfter_33 : decode cX6_readAfter 33 = .ok (.if_icmp .le 9, 3) := by decide +kernel
theorem dX6_readAfter_36 : decode cX6_readAfter 36 = .ok (.aload_n 0, 1) := by decide +kernel
theorem dX6_readAfter_37 : decode cX6_readAfter 37 = .ok (.iconst 2, 1) := by decide +kernel
theorem dX6_readAfter_38 : decode cX6_readAfter 38 = .ok (.invokevirtual 49, 3) := by decide +kernel
theorem dX6_readAfter_41 : decode cX6_readAfter 41 = .ok (.ireturn, 1) := by decide +kernel
theorem dX6_readAfter_42 : decode cX6_readAfter 42 = .ok (.aload_n 1, 1) := by decide +kernel
theorem dX6_readAfter_43 : decode cX6_readAfter 43 = .ok (.iload_n 2, 1) := by decide +kernel
theorem dX6_readAfter_44 : decode cX6_readAfter 44 = .ok (.putfield 91, 3) := by decide +kernel
theorem dX6_readAfter_47 : decode cX6_readAfter 47 = .ok (.aload_n 1, 1) := by decide +kernel
theorem dX6_readAfter_48 : decode cX6_readAfter 48 = .ok (.aload_n 0, 1) := by decide +kernel
theorem dX6_readAfter_49 : decode cX6_readAfter 49 = .ok (.invokevirtual 71, 3) := by decide +kernel
theorem dX6_readAfter_52 : decode cX6_readAfter 52 = .ok (.putfield 94, 3) := by decide +kernel
theorem dX6_readAfter_55 : decode cX6_readAfter 55 = .ok (.aload_n 0, 1) := by decide +kernel
theorem dX6_readAfter_56 : decode cX6_readAfter 56 = .ok (.invokevirtual 68, 3) := by decide +kernel
theorem dX6_readAfter_59 : decode cX6_readAfter 59 = .ok (.iconst 1, 1) := by decide +kernel
theorem dX6_readAfter_60 : decode cX6_readAfter 60 = .ok (.ireturn, 1) := by decide +kernel
theorem dX6_readCharge_0 : decode cX6_readCharge 0 = .ok (.aload_n 1, 1) := by decide +kernel
theorem dX6_readCharge_1 : decode cX6_readCharge 1 = .ok (.getfield 97, 3) := by decide +kernel
theorem dX6_readCharge_4 : decode cX6_readCharge 4 = .ok (.istore_n 2, 1) := by decide +kernel
theorem dX6_readCharge_5 : decode cX6_readCharge 5 = .ok (.iload_n 2, 1) := by decide +kernel
theorem dX6_readCharge_6 : decode cX6_readCharge 6 = .ok (.bipush 24, 2) := by decide +kernel
theorem dX6_readCharge_8 : decode cX6_readCharge 8 = .ok (.if_icmp .lt 9, 3) := by decide +kernel
theorem dX6_readCharge_11 : decode cX6_readCharge 11 = .ok (.aload_n 0, 1) := by decide +kernel
theorem dX6_readCharge_12 : decode cX6_readCharge 12 = .ok (.iconst 3, 1) := by decide +kernel
theorem dX6_readCharge_13 : decode cX6_readCharge 13 = .ok (.invokevirtual 49, 3) := by decide +kernel
theorem dX6_readCharge_16 : decode cX6_readCharge 16 = .ok (.ireturn, 1) := by decide +kernel
theorem dX6_readCharge_17 : decode cX6_readCharge 17 = .ok (.aload_n 1, 1) := by decide +kernel
theorem dX6_readCharge_18 : decode cX6_readCharge 18 = .ok (.dup, 1) := by decide +kernel
theorem dX6_readCharge_19 : decode cX6_readCharge 19 = .ok (.getfield 97, 3) := by decide +kernel
theorem dX6_readCharge_22 : decode cX6_readCharge 22 = .ok (.iconst 1, 1) := by decide +kernel
theorem dX6_readCharge_23 : decode cX6_readCharge 23 = .ok (.iadd, 1) := by decide +kernel
theorem dX6_readCharge_24 : decode cX6_readCharge 24 = .ok (.putfield 97, 3) := by decide +kernel
theorem dX6_readCharge_27 : decode cX6_readCharge 27 = .ok (.aload_n 1, 1) := by decide +kernel
theorem dX6_readCharge_28 : decode cX6_readCharge 28 = .ok (.getfield 100, 3) := by decide +kernel
theorem dX6_readCharge_31 : decode cX6_readCharge 31 = .ok (.iload_n 2, 1) := by decide +kernel
theorem dX6_readCharge_32 : decode cX6_readCharge 32 = .ok (.aload_n 0, 1) := by decide +kernel
theorem dX6_readCharge_33 : decode cX6_readCharge 33 = .ok (.getfield 34, 3) := by decide +kernel
theorem dX6_readCharge_36 : decode cX6_readCharge 36 = .ok (.iastore, 1) := by decide +kernel
theorem dX6_readCharge_37 : decode cX6_readCharge 37 = .ok (.aload_n 1, 1) := by decide +kernel
theorem dX6_readCharge_38 : decode cX6_readCharge 38 = .ok (.getfield 103, 3) := by decide +kernel
theorem dX6_readCharge_41 : decode cX6_readCharge 41 = .ok (.iload_n 2, 1) := by decide +kernel
theorem dX6_readCharge_42 : decode cX6_readCharge 42 = .ok (.iconst (-1), 1) := by decide +kernel
theorem dX6_readCharge_43 : decode cX6_readCharge 43 = .ok (.iastore, 1) := by decide +kernel
theorem dX6_readCharge_44 : decode cX6_readCharge 44 = .ok (.aload_n 0, 1) := by decide +kernel
theorem dX6_readCharge_45 : decode cX6_readCharge 45 = .ok (.invokevirtual 68, 3) := by decide +kernel
theorem dX6_readCharge_48 : decode cX6_readCharge 48 = .ok (.aload_n 0, 1) := by decide +kernel
theorem dX6_readCharge_49 : decode cX6_readCharge 49 = .ok (.iconst 0, 1) := by decide +kernel
theorem dX6_readCharge_50 : decode cX6_readCharge 50 = .ok (.invokevirtual 106, 3) := by decide +kernel
theorem dX6_readCharge_53 : decode cX6_readCharge 53 = .ok (.ifCond .ne 5, 3) := by decide +kernel
theorem dX6_readCharge_56 : decode cX6_readCharge 56 = .ok (.iconst 0, 1) := by decide +kernel
theorem dX6_readCharge_57 : decode cX6_readCharge 57 = .ok (.ireturn, 1) := by decide +kernel
theorem dX6_readCharge_58 : decode cX6_readCharge 58 = .ok (.aload_n 0, 1) := by decide +kernel
theorem dX6_readCharge_59 : decode cX6_readCharge 59 = .ok (.bipush (-100), 2) := by decide +kernel
theorem dX6_readCharge_61 : decode cX6_readCharge 61 = .ok (.invokevirtual 109, 3) := by decide +kernel
theorem dX6_readCharge_64 : decode cX6_readCharge 64 = .ok (.aload_n 0, 1) := by decide +kernel
theorem dX6_readCharge_65 : decode cX6_readCharge 65 = .ok (.getfield 46, 3) := by decide +kernel
theorem dX6_readCharge_68 : decode cX6_readCharge 68 = .ok (.bipush 13, 2) := by decide +kernel
theorem dX6_readCharge_70 : decode cX6_readCharge 70 = .ok (.if_icmp .eq 5, 3) := by decide +kernel
theorem dX6_readCharge_73 : decode cX6_readCharge 73 = .ok (.iconst 1, 1) := by decide +kernel
theorem dX6_readCharge_74 : decode cX6_readCharge 74 = .ok (.ireturn, 1) := by decide +kernel
theorem dX6_readCharge_75 : decode cX6_readCharge 75 = .ok (.aload_n 0, 1) := by decide +kernel
theorem dX6_readCharge_76 : decode cX6_readCharge 76 = .ok (.invokevirtual 68, 3) := by decide +kernel
theorem dX6_readCharge_79 : decode cX6_readCharge 79 = .ok (.aload_n 1, 1) := by decide +kernel
theorem dX6_readCharge_80 : decode cX6_readCharge 80 = .ok (.getfield 103, 3) := by decide +kernel
theorem dX6_readCharge_83 : decode cX6_readCharge 83 = .ok (.iload_n 2, 1) := by decide +kernel
theorem dX6_readCharge_84 : decode cX6_readCharge 84 = .ok (.aload_n 0, 1) := by decide +kernel
theorem dX6_readCharge_85 : decode cX6_readCharge 85 = .ok (.getfield 34, 3) := by decide +kernel
theorem dX6_readCharge_88 : decode cX6_readCharge 88 = .ok (.iastore, 1) := by decide +kernel
theorem dX6_readCharge_89 : decode cX6_readCharge 89 = .ok (.aload_n 0, 1) := by decide +kernel
theorem dX6_readCharge_90 : decode cX6_readCharge 90 = .ok (.invokevirtual 113, 3) := by decide +kernel
theorem dX6_readCharge_93 : decode cX6_readCharge 93 = .ok (.istore_n 3, 1) := by decide +kernel
theorem dX6_readCharge_94 : decode cX6_readCharge 94 = .ok (.aload_n 0, 1) := by decide +kernel
theorem dX6_readCharge_95 : decode cX6_readCharge 95 = .ok (.bipush (-100), 2) := by decide +kernel
theorem dX6_readCharge_97 : decode cX6_readCharge 97 = .ok (.invokevirtual 109, 3) := by decide +kernel
theorem dX6_readCharge_100 : decode cX6_readCharge 100 = .ok (.iload_n 3, 1) := by decide +kernel
theorem dX6_readCharge_101 : decode cX6_readCharge 101 = .ok (.ireturn, 1) := by decide +kernel
theorem dX6_readWhen_0 : decode cX6_readWhen 0 = .ok (.iconst 0, 1) := by decide +kernel
theorem dX6_readWhen_1 : decode cX6_readWhen 1 = .ok (.istore_n 1, 1) := by decide +kernel
theorem dX6_readWhen_2 : decode cX6_readWhen 2 = .ok (.bipush 13, 2) := by decide +kernel
theorem dX6_readWhen_4 : decode cX6_readWhen 4 = .ok (.istore_n 2, 1) := by decide +kernel
theorem dX6_readWhen_5 : decode cX6_readWhen 5 = .ok (.iconst 0, 1) := by decide +kernel
theorem dX6_readWhen_6 : decode cX6_readWhen 6 = .ok (.istore_n 3, 1) := by decide +kernel
theorem dX6_readWhen_7 : decode cX6_readWhen 7 = .ok (.iload_n 3, 1) := by decide +kernel
theorem dX6_readWhen_8 : decode cX6_readWhen 8 = .ok (.sipush 600, 3) := by decide +kernel
theorem dX6_readWhen_11 : decode cX6_readWhen 11 = .ok (.if_icmp .gt 140, 3) := by decide +kernel
theorem dX6_readWhen_14 : decode cX6_readWhen 14 = .ok (.aload_n 0, 1) := by decide +kernel
theorem dX6_readWhen_15 : decode cX6_readWhen 15 = .ok (.invokevirtual 117, 3) := by decide +kernel
theorem dX6_readWhen_18 : decode cX6_readWhen 18 = .ok (.istore 4, 2) := by decide +kernel
theorem dX6_readWhen_20 : decode cX6_readWhen 20 = .ok (.iload 4, 2) := by decide +kernel
theorem dX6_readWhen_22 : decode cX6_readWhen 22 = .ok (.iconst (-1), 1) := by decide +kernel
theorem dX6_readWhen_23 : decode cX6_readWhen 23 = .ok (.if_icmp .eq 12, 3) := by decide +kernel
theorem dX6_readWhen_26 : decode cX6_readWhen 26 = .ok (.aload_n 0, 1) := by decide +kernel
theorem dX6_readWhen_27 : decode cX6_readWhen 27 = .ok (.iload 4, 2) := by decide +kernel
theorem dX6_readWhen_29 : decode cX6_readWhen 29 = .ok (.invokevirtual 106, 3) := by decide +kernel
theorem dX6_readWhen_32 : decode cX6_readWhen 32 = .ok (.ifCond .ne 5, 3) := by decide +kernel
theorem dX6_readWhen_35 : decode cX6_readWhen 35 = .ok (.iconst 0, 1) := by decide +kernel
theorem dX6_readWhen_36 : decode cX6_readWhen 36 = .ok (.ireturn, 1) := by decide +kernel
theorem dX6_readWhen_37 : decode cX6_readWhen 37 = .ok (.aload_n 0, 1) := by decide +kernel
theorem dX6_readWhen_38 : decode cX6_readWhen 38 = .ok (.invokevirtual 120, 3) := by decide +kernel
theorem dX6_readWhen_41 : decode cX6_readWhen 41 = .ok (.istore 5, 2) := by decide +kernel
theorem dX6_readWhen_43 : decode cX6_readWhen 43 = .ok (.iload 5, 2) := by decide +kernel
theorem dX6_readWhen_45 : decode cX6_readWhen 45 = .ok (.iconst (-1), 1) := by decide +kernel
theorem dX6_readWhen_46 : decode cX6_readWhen 46 = .ok (.if_icmp .ne 9, 3) := by decide +kernel
theorem dX6_readWhen_49 : decode cX6_readWhen 49 = .ok (.aload_n 0, 1) := by decide +kernel
theorem dX6_readWhen_50 : decode cX6_readWhen 50 = .ok (.iconst 1, 1) := by decide +kernel
theorem dX6_readWhen_51 : decode cX6_readWhen 51 = .ok (.invokevirtual 49, 3) := by decide +kernel
theorem dX6_readWhen_54 : decode cX6_readWhen 54 = .ok (.ireturn, 1) := by decide +kernel
theorem dX6_readWhen_55 : decode cX6_readWhen 55 = .ok (.aload_n 0, 1) := by decide +kernel
theorem dX6_readWhen_56 : decode cX6_readWhen 56 = .ok (.invokevirtual 68, 3) := by decide +kernel
theorem dX6_readWhen_59 : decode cX6_readWhen 59 = .ok (.aload_n 0, 1) := by decide +kernel
theorem dX6_readWhen_60 : decode cX6_readWhen 60 = .ok (.iload 4, 2) := by decide +kernel
theorem dX6_readWhen_62 : decode cX6_readWhen 62 = .ok (.invokevirtual 106, 3) := by decide +kernel
theorem dX6_readWhen_65 : decode cX6_readWhen 65 = .ok (.ifCond .ne 5, 3) := by decide +kernel
theorem dX6_readWhen_68 : decode cX6_readWhen 68 = .ok (.iconst 0, 1) := by decide +kernel
theorem dX6_readWhen_69 : decode cX6_readWhen 69 = .ok (.ireturn, 1) := by decide +kernel
theorem dX6_readWhen_70 : decode cX6_readWhen 70 = .ok (.aload_n 0, 1) := by decide +kernel
theorem dX6_readWhen_71 : decode cX6_readWhen 71 = .ok (.iload 5, 2) := by decide +kernel
theorem dX6_readWhen_73 : decode cX6_readWhen 73 = .ok (.invokevirtual 109, 3) := by decide +kernel
theorem dX6_readWhen_76 : decode cX6_readWhen 76 = .ok (.iload 4, 2) := by decide +kernel
theorem dX6_readWhen_78 : decode cX6_readWhen 78 = .ok (.iconst 2, 1) := by decide +kernel
theorem dX6_readWhen_79 : decode cX6_readWhen 79 = .ok (.irem, 1) := by decide +kernel
theorem dX6_readWhen_80 : decode cX6_readWhen 80 = .ok (.iconst 1, 1) := by decide +kernel
theorem dX6_readWhen_81 : decode cX6_readWhen 81 = .ok (.if_icmp .ne 9, 3) := by decide +kernel
theorem dX6_readWhen_84 : decode cX6_readWhen 84 = .ok (.aload_n 0, 1) := by decide +kernel
theorem dX6_readWhen_85 : decode cX6_readWhen 85 = .ok (.bipush (-17), 2) := by decide +kernel
theorem dX6_readWhen_87 : decode cX6_readWhen 87 = .ok (.invokevirtual 109, 3) := by decide +kernel
theorem dX6_readWhen_90 : decode cX6_readWhen 90 = .ok (.iload_n 2, 1) := by decide +kernel
theorem dX6_readWhen_91 : decode cX6_readWhen 91 = .ok (.bipush 16, 2) := by decide +kernel
theorem dX6_readWhen_93 : decode cX6_readWhen 93 = .ok (.if_icmp .ne 9, 3) := by decide +kernel
theorem dX6_readWhen_96 : decode cX6_readWhen 96 = .ok (.aload_n 0, 1) := by decide +kernel
theorem dX6_readWhen_97 : decode cX6_readWhen 97 = .ok (.bipush (-18), 2) := by decide +kernel
theorem dX6_readWhen_99 : decode cX6_readWhen 99 = .ok (.invokevirtual 109, 3) := by decide +kernel
theorem dX6_readWhen_102 : decode cX6_readWhen 102 = .ok (.aload_n 0, 1) := by decide +kernel
theorem dX6_readWhen_103 : decode cX6_readWhen 103 = .ok (.getfield 46, 3) := by decide +kernel
theorem dX6_readWhen_106 : decode cX6_readWhen 106 = .ok (.istore_n 2, 1) := by decide +kernel
theorem dX6_readWhen_107 : decode cX6_readWhen 107 = .ok (.iload_n 2, 1) := by decide +kernel
theorem dX6_readWhen_108 : decode cX6_readWhen 108 = .ok (.bipush 16, 2) := by decide +kernel
theorem dX6_readWhen_110 : decode cX6_readWhen 110 = .ok (.if_icmp .eq 31, 3) := by decide +kernel
theorem dX6_readWhen_113 : decode cX6_readWhen 113 = .ok (.iload_n 1, 1) := by decide +kernel
theorem dX6_readWhen_114 : decode cX6_readWhen 114 = .ok (.ifCond .eq 9, 3) := by decide +kernel
theorem dX6_readWhen_117 : decode cX6_readWhen 117 = .ok (.aload_n 0, 1) := by decide +kernel
theorem dX6_readWhen_118 : decode cX6_readWhen 118 = .ok (.bipush (-19), 2) := by decide +kernel
theorem dX6_readWhen_120 : decode cX6_readWhen 120 = .ok (.invokevirtual 109, 3) := by decide +kernel
theorem dX6_readWhen_123 : decode cX6_readWhen 123 = .ok (.iload_n 2, 1) := by decide +kernel
theorem dX6_readWhen_124 : decode cX6_readWhen 124 = .ok (.bipush 17, 2) := by decide +kernel
theorem dX6_readWhen_126 : decode cX6_readWhen 126 = .ok (.if_icmp .ne 7, 3) := by decide +kernel
theorem dX6_readWhen_129 : decode cX6_readWhen 129 = .ok (.iconst 1, 1) := by decide +kernel
theorem dX6_readWhen_130 : decode cX6_readWhen 130 = .ok (.goto 4, 3) := by decide +kernel
theorem dX6_readWhen_133 : decode cX6_readWhen 133 = .ok (.iconst 0, 1) := by decide +kernel
theorem dX6_readWhen_134 : decode cX6_readWhen 134 = .ok (.istore_n 1, 1) := by decide +kernel
theorem dX6_readWhen_135 : decode cX6_readWhen 135 = .ok (.iload_n 1, 1) := by decide +kernel
theorem dX6_readWhen_136 : decode cX6_readWhen 136 = .ok (.ifCond .ne 5, 3) := by decide +kernel
theorem dX6_readWhen_139 : decode cX6_readWhen 139 = .ok (.iconst 1, 1) := by decide +kernel
theorem dX6_readWhen_140 : decode cX6_readWhen 140 = .ok (.ireturn, 1) := by decide +kernel
theorem dX6_readWhen_141 : decode cX6_readWhen 141 = .ok (.aload_n 0, 1) := by decide +kernel
theorem dX6_readWhen_142 : decode cX6_readWhen 142 = .ok (.invokevirtual 68, 3) := by decide +kernel
theorem dX6_readWhen_145 : decode cX6_readWhen 145 = .ok (.iinc 3 1, 3) := by decide +kernel
theorem dX6_readWhen_148 : decode cX6_readWhen 148 = .ok (.goto (-141), 3) := by decide +kernel
theorem dX6_readWhen_151 : decode cX6_readWhen 151 = .ok (.iconst 0, 1) := by decide +kernel
theorem dX6_readWhen_152 : decode cX6_readWhen 152 = .ok (.ireturn, 1) := by decide +kernel
theorem dX6_readNots_0 : decode cX6_readNots 0 = .ok (.iconst 0, 1) := by decide +kernel
theorem dX6_readNots_1 : decode cX6_readNots 1 = .ok (.istore_n 1, 1) := by decide +kernel
theorem dX6_readNots_2 : decode cX6_readNots 2 = .ok (.iload_n 1, 1) := by decide +kernel
theorem dX6_readNots_3 : decode cX6_readNots 3 = .ok (.bipush 8, 2) := by decide +kernel
theorem dX6_readNots_5 : decode cX6_readNots 5 = .ok (.if_icmp .gt 36, 3) := by decide +kernel
theorem dX6_readNots_8 : decode cX6_readNots 8 = .ok (.aload_n 0, 1) := by decide +kernel
theorem dX6_readNots_9 : decode cX6_readNots 9 = .ok (.getfield 46, 3) := by decide +kernel
theorem dX6_readNots_12 : decode cX6_readNots 12 = .ok (.bipush 15, 2) := by decide +kernel
theorem dX6_readNots_14 : decode cX6_readNots 14 = .ok (.if_icmp .ne 27, 3) := by decide +kernel
theorem dX6_readNots_17 : decode cX6_readNots 17 = .ok (.iload_n 1, 1) := by decide +kernel
theorem dX6_readNots_18 : decode cX6_readNots 18 = .ok (.bipush 8, 2) := by decide +kernel
theorem dX6_readNots_20 : decode cX6_readNots 20 = .ok (.if_icmp .ne 11, 3) := by decide +kernel
theorem dX6_readNots_23 : decode cX6_readNots 23 = .ok (.aload_n 0, 1) := by decide +kernel
theorem dX6_readNots_24 : decode cX6_readNots 24 = .ok (.iconst 3, 1) := by decide +kernel
theorem dX6_readNots_25 : decode cX6_readNots 25 = .ok (.invokevirtual 49, 3) := by decide +kernel
theorem dX6_readNots_28 : decode cX6_readNots 28 = .ok (.pop, 1) := by decide +kernel
theorem dX6_readNots_29 : decode cX6_readNots 29 = .ok (.iconst (-1), 1) := by decide +kernel
theorem dX6_readNots_30 : decode cX6_readNots 30 = .ok (.ireturn, 1) := by decide +kernel
theorem dX6_readNots_31 : decode cX6_readNots 31 = .ok (.aload_n 0, 1) := by decide +kernel
theorem dX6_readNots_32 : decode cX6_readNots 32 = .ok (.invokevirtual 68, 3) := by decide +kernel
theorem dX6_readNots_35 : decode cX6_readNots 35 = .ok (.iinc 1 1, 3) := by decide +kernel
theorem dX6_readNots_38 : decode cX6_readNots 38 = .ok (.goto (-36), 3) := by decide +kernel
theorem dX6_readNots_41 : decode cX6_readNots 41 = .ok (.iload_n 1, 1) := by decide +kernel
theorem dX6_readNots_42 : decode cX6_readNots 42 = .ok (.ireturn, 1) := by decide +kernel
theorem dX6_comparison_0 : decode cX6_comparison 0 = .ok (.aload_n 0, 1) := by decide +kernel
theorem dX6_comparison_1 : decode cX6_comparison 1 = .ok (.getfield 46, 3) := by decide +kernel
theorem dX6_comparison_4 : decode cX6_comparison 4 = .ok (.tableswitch 37 60 62 #[28, 31, 34], 28) := by decide +kernel
theorem dX6_comparison_32 : decode cX6_comparison 32 = .ok (.bipush (-14), 2) := by decide +kernel
theorem dX6_comparison_34 : decode cX6_comparison 34 = .ok (.ireturn, 1) := by decide +kernel
theorem dX6_comparison_35 : decode cX6_comparison 35 = .ok (.bipush (-15), 2) := by decide +kernel
theorem dX6_comparison_37 : decode cX6_comparison 37 = .ok (.ireturn, 1) := by decide +kernel
theorem dX6_comparison_38 : decode cX6_comparison 38 = .ok (.bipush (-16), 2) := by decide +kernel
theorem dX6_comparison_40 : decode cX6_comparison 40 = .ok (.ireturn, 1) := by decide +kernel
theorem dX6_comparison_41 : decode cX6_comparison 41 = .ok (.iconst (-1), 1) := by decide +kernel
theorem dX6_comparison_42 : decode cX6_comparison 42 = .ok (.ireturn, 1) := by decide +kernel
theorem dX6_readSum_0 : decode cX6_readSum 0 = .ok (.aload_n 0, 1) := by decide +kernel
theorem dX6_readSum_1 : decode cX6_readSum 1 = .ok (.iload_n 1, 1) := by decide +kernel
theorem dX6_readSum_2 : decode cX6_readSum 2 = .ok (.invokevirtual 123, 3) := by decide +kernel
theorem dX6_readSum_5 : decode cX6_readSum 5 = .ok (.ifCond .ne 5, 3) := by decide +kernel
theorem dX6_readSum_8 : decode cX6_readSum 8 = .ok (.iconst 0, 1) := by decide +kernel
theorem dX6_readSum_9 : decode cX6_readSum 9 = .ok (.ireturn, 1) := by decide +kernel
theorem dX6_readSum_10 : decode cX6_readSum 10 = .ok (.iconst 0, 1) := by decide +kernel
theorem dX6_readSum_11 : decode cX6_readSum 11 = .ok (.istore_n 2, 1) := by decide +kernel
theorem dX6_readSum_12 : decode cX6_readSum 12 = .ok (.iload_n 2, 1) := by decide +kernel
theorem dX6_readSum_13 : decode cX6_readSum 13 = .ok (.sipush 600, 3) := by decide +kernel
theorem dX6_readSum_16 : decode cX6_readSum 16 = .ok (.if_icmp .gt 63, 3) := by decide +kernel
theorem dX6_readSum_19 : decode cX6_readSum 19 = .ok (.aload_n 0, 1) := by decide +kernel
theorem dX6_readSum_20 : decode cX6_readSum 20 = .ok (.getfield 46, 3) := by decide +kernel
theorem dX6_readSum_23 : decode cX6_readSum 23 = .ok (.bipush 43, 2) := by decide +kernel
theorem dX6_readSum_25 : decode cX6_readSum 25 = .ok (.if_icmp .eq 12, 3) := by decide +kernel
theorem dX6_readSum_28 : decode cX6_readSum 28 = .ok (.aload_n 0, 1) := by decide +kernel
theorem dX6_readSum_29 : decode cX6_readSum 29 = .ok (.getfield 46, 3) := by decide +kernel
theorem dX6_readSum_32 : decode cX6_readSum 32 = .ok (.bipush 45, 2) := by decide +kernel
theorem dX6_readSum_34 : decode cX6_readSum 34 = .ok (.if_icmp .ne 45, 3) := by decide +kernel
theorem dX6_readSum_37 : decode cX6_readSum 37 = .ok (.aload_n 0, 1) := by decide +kernel
theorem dX6_readSum_38 : decode cX6_readSum 38 = .ok (.getfield 46, 3) := by decide +kernel
theorem dX6_readSum_41 : decode cX6_readSum 41 = .ok (.bipush 43, 2) := by decide +kernel
theorem dX6_readSum_43 : decode cX6_readSum 43 = .ok (.if_icmp .ne 8, 3) := by decide +kernel
theorem dX6_readSum_46 : decode cX6_readSum 46 = .ok (.bipush (-10), 2) := by decide +kernel
theorem dX6_readSum_48 : decode cX6_readSum 48 = .ok (.goto 5, 3) := by decide +kernel
theorem dX6_readSum_51 : decode cX6_readSum 51 = .ok (.bipush (-11), 2) := by decide +kernel
theorem dX6_readSum_53 : decode cX6_readSum 53 = .ok (.istore_n 3, 1) := by decide +kernel
theorem dX6_readSum_54 : decode cX6_readSum 54 = .ok (.aload_n 0, 1) := by decide +kernel
theorem dX6_readSum_55 : decode cX6_readSum 55 = .ok (.invokevirtual 68, 3) := by decide +kernel
theorem dX6_readSum_58 : decode cX6_readSum 58 = .ok (.aload_n 0, 1) := by decide +kernel
theorem dX6_readSum_59 : decode cX6_readSum 59 = .ok (.iload_n 1, 1) := by decide +kernel
theorem dX6_readSum_60 : decode cX6_readSum 60 = .ok (.invokevirtual 123, 3) := by decide +kernel
theorem dX6_readSum_63 : decode cX6_readSum 63 = .ok (.ifCond .ne 5, 3) := by decide +kernel
theorem dX6_readSum_66 : decode cX6_readSum 66 = .ok (.iconst 0, 1) := by decide +kernel
theorem dX6_readSum_67 : decode cX6_readSum 67 = .ok (.ireturn, 1) := by decide +kernel
theorem dX6_readSum_68 : decode cX6_readSum 68 = .ok (.aload_n 0, 1) := by decide +kernel
theorem dX6_readSum_69 : decode cX6_readSum 69 = .ok (.iload_n 3, 1) := by decide +kernel
theorem dX6_readSum_70 : decode cX6_readSum 70 = .ok (.invokevirtual 109, 3) := by decide +kernel
theorem dX6_readSum_73 : decode cX6_readSum 73 = .ok (.iinc 2 1, 3) := by decide +kernel
theorem dX6_readSum_76 : decode cX6_readSum 76 = .ok (.goto (-64), 3) := by decide +kernel
theorem dX6_readSum_79 : decode cX6_readSum 79 = .ok (.iconst 1, 1) := by decide +kernel
theorem dX6_readSum_80 : decode cX6_readSum 80 = .ok (.ireturn, 1) := by decide +kernel
theorem dX6_readProduct_0 : decode cX6_readProduct 0 = .ok (.aload_n 0, 1) := by decide +kernel
theorem dX6_readProduct_1 : decode cX6_readProduct 1 = .ok (.iload_n 1, 1) := by decide +kernel
theorem dX6_readProduct_2 : decode cX6_readProduct 2 = .ok (.invokevirtual 126, 3) := by decide +kernel
theorem dX6_readProduct_5 : decode cX6_readProduct 5 = .ok (.ifCond .ne 5, 3) := by decide +kernel
theorem dX6_readProduct_8 : decode cX6_readProduct 8 = .ok (.iconst 0, 1) := by decide +kernel
theorem dX6_readProduct_9 : decode cX6_readProduct 9 = .ok (.ireturn, 1) := by decide +kernel
theorem dX6_readProduct_10 : decode cX6_readProduct 10 = .ok (.iconst 0, 1) := by decide +kernel
theorem dX6_readProduct_11 : decode cX6_readProduct 11 = .ok (.istore_n 2, 1) := by decide +kernel
theorem dX6_readProduct_12 : decode cX6_readProduct 12 = .ok (.iload_n 2, 1) := by decide +kernel
theorem dX6_readProduct_13 : decode cX6_readProduct 13 = .ok (.sipush 600, 3) := by decide +kernel
theorem dX6_readProduct_16 : decode cX6_readProduct 16 = .ok (.if_icmp .gt 107, 3) := by decide +kernel
theorem dX6_readProduct_19 : decode cX6_readProduct 19 = .ok (.aload_n 0, 1) := by decide +kernel
theorem dX6_readProduct_20 : decode cX6_readProduct 20 = .ok (.getfield 46, 3) := by decide +kernel
theorem dX6_readProduct_23 : decode cX6_readProduct 23 = .ok (.bipush 42, 2) := by decide +kernel
theorem dX6_readProduct_25 : decode cX6_readProduct 25 = .ok (.if_icmp .eq 12, 3) := by decide +kernel
theorem dX6_readProduct_28 : decode cX6_readProduct 28 = .ok (.aload_n 0, 1) := by decide +kernel
theorem dX6_readProduct_29 : decode cX6_readProduct 29 = .ok (.getfield 46, 3) := by decide +kernel
theorem dX6_readProduct_32 : decode cX6_readProduct 32 = .ok (.bipush 47, 2) := by decide +kernel
theorem dX6_readProduct_34 : decode cX6_readProduct 34 = .ok (.if_icmp .ne 89, 3) := by decide +kernel
theorem dX6_readProduct_37 : decode cX6_readProduct 37 = .ok (.aload_n 0, 1) := by decide +kernel
theorem dX6_readProduct_38 : decode cX6_readProduct 38 = .ok (.getfield 46, 3) := by decide +kernel
theorem dX6_readProduct_41 : decode cX6_readProduct 41 = .ok (.bipush 47, 2) := by decide +kernel
theorem dX6_readProduct_43 : decode cX6_readProduct 43 = .ok (.if_icmp .ne 7, 3) := by decide +kernel
theorem dX6_readProduct_46 : decode cX6_readProduct 46 = .ok (.iconst 1, 1) := by decide +kernel
theorem dX6_readProduct_47 : decode cX6_readProduct 47 = .ok (.goto 4, 3) := by decide +kernel
theorem dX6_readProduct_50 : decode cX6_readProduct 50 = .ok (.iconst 0, 1) := by decide +kernel
theorem dX6_readProduct_51 : decode cX6_readProduct 51 = .ok (.istore_n 3, 1) := by decide +kernel
theorem dX6_readProduct_52 : decode cX6_readProduct 52 = .ok (.aload_n 0, 1) := by decide +kernel
theorem dX6_readProduct_53 : decode cX6_readProduct 53 = .ok (.invokevirtual 68, 3) := by decide +kernel
theorem dX6_readProduct_56 : decode cX6_readProduct 56 = .ok (.iload_n 3, 1) := by decide +kernel
theorem dX6_readProduct_57 : decode cX6_readProduct 57 = .ok (.ifCond .eq 18, 3) := by decide +kernel
theorem dX6_readProduct_60 : decode cX6_readProduct 60 = .ok (.aload_n 0, 1) := by decide +kernel
theorem dX6_readProduct_61 : decode cX6_readProduct 61 = .ok (.getfield 46, 3) := by decide +kernel
theorem dX6_readProduct_64 : decode cX6_readProduct 64 = .ok (.bipush 18, 2) := by decide +kernel
theorem dX6_readProduct_66 : decode cX6_readProduct 66 = .ok (.if_icmp .eq 9, 3) := by decide +kernel
theorem dX6_readProduct_69 : decode cX6_readProduct 69 = .ok (.aload_n 0, 1) := by decide +kernel
theorem dX6_readProduct_70 : decode cX6_readProduct 70 = .ok (.iconst 1, 1) := by decide +kernel
theorem dX6_readProduct_71 : decode cX6_readProduct 71 = .ok (.invokevirtual 49, 3) := by decide +kernel
theorem dX6_readProduct_74 : decode cX6_readProduct 74 = .ok (.ireturn, 1) := by decide +kernel
theorem dX6_readProduct_75 : decode cX6_readProduct 75 = .ok (.iload_n 3, 1) := by decide +kernel
theorem dX6_readProduct_76 : decode cX6_readProduct 76 = .ok (.ifCond .eq 16, 3) := by decide +kernel
theorem dX6_readProduct_79 : decode cX6_readProduct 79 = .ok (.aload_n 0, 1) := by decide +kernel
theorem dX6_readProduct_80 : decode cX6_readProduct 80 = .ok (.invokevirtual 71, 3) := by decide +kernel
theorem dX6_readProduct_83 : decode cX6_readProduct 83 = .ok (.ifCond .ne 9, 3) := by decide +kernel
theorem dX6_readProduct_86 : decode cX6_readProduct 86 = .ok (.aload_n 0, 1) := by decide +kernel
theorem dX6_readProduct_87 : decode cX6_readProduct 87 = .ok (.iconst 2, 1) := by decide +kernel
theorem dX6_readProduct_88 : decode cX6_readProduct 88 = .ok (.invokevirtual 49, 3) := by decide +kernel
theorem dX6_readProduct_91 : decode cX6_readProduct 91 = .ok (.ireturn, 1) := by decide +kernel
theorem dX6_readProduct_92 : decode cX6_readProduct 92 = .ok (.aload_n 0, 1) := by decide +kernel
theorem dX6_readProduct_93 : decode cX6_readProduct 93 = .ok (.iload_n 1, 1) := by decide +kernel
theorem dX6_readProduct_94 : decode cX6_readProduct 94 = .ok (.invokevirtual 126, 3) := by decide +kernel
theorem dX6_readProduct_97 : decode cX6_readProduct 97 = .ok (.ifCond .ne 5, 3) := by decide +kernel
theorem dX6_readProduct_100 : decode cX6_readProduct 100 = .ok (.iconst 0, 1) := by decide +kernel
theorem dX6_readProduct_101 : decode cX6_readProduct 101 = .ok (.ireturn, 1) := by decide +kernel
theorem dX6_readProduct_102 : decode cX6_readProduct 102 = .ok (.aload_n 0, 1) := by decide +kernel
theorem dX6_readProduct_103 : decode cX6_readProduct 103 = .ok (.iload_n 3, 1) := by decide +kernel
theorem dX6_readProduct_104 : decode cX6_readProduct 104 = .ok (.ifCond .eq 8, 3) := by decide +kernel
theorem dX6_readProduct_107 : decode cX6_readProduct 107 = .ok (.bipush (-13), 2) := by decide +kernel
theorem dX6_readProduct_109 : decode cX6_readProduct 109 = .ok (.goto 5, 3) := by decide +kernel
theorem dX6_readProduct_112 : decode cX6_readProduct 112 = .ok (.bipush (-12), 2) := by decide +kernel
theorem dX6_readProduct_114 : decode cX6_readProduct 114 = .ok (.invokevirtual 109, 3) := by decide +kernel
theorem dX6_readProduct_117 : decode cX6_readProduct 117 = .ok (.iinc 2 1, 3) := by decide +kernel
theorem dX6_readProduct_120 : decode cX6_readProduct 120 = .ok (.goto (-108), 3) := by decide +kernel
theorem dX6_readProduct_123 : decode cX6_readProduct 123 = .ok (.iconst 1, 1) := by decide +kernel
theorem dX6_readProduct_124 : decode cX6_readProduct 124 = .ok (.ireturn, 1) := by decide +kernel
theorem dX6_readUnit_0 : decode cX6_readUnit 0 = .ok (.aload_n 0, 1) := by decide +kernel
theorem dX6_readUnit_1 : decode cX6_readUnit 1 = .ok (.getfield 46, 3) := by decide +kernel
theorem dX6_readUnit_4 : decode cX6_readUnit 4 = .ok (.bipush 18, 2) := by decide +kernel
theorem dX6_readUnit_6 : decode cX6_readUnit 6 = .ok (.if_icmp .ne 17, 3) := by decide +kernel
theorem dX6_readUnit_9 : decode cX6_readUnit 9 = .ok (.aload_n 0, 1) := by decide +kernel
theorem dX6_readUnit_10 : decode cX6_readUnit 10 = .ok (.aload_n 0, 1) := by decide +kernel
theorem dX6_readUnit_11 : decode cX6_readUnit 11 = .ok (.invokevirtual 71, 3) := by decide +kernel
theorem dX6_readUnit_14 : decode cX6_readUnit 14 = .ok (.invokevirtual 109, 3) := by decide +kernel
theorem dX6_readUnit_17 : decode cX6_readUnit 17 = .ok (.aload_n 0, 1) := by decide +kernel
theorem dX6_readUnit_18 : decode cX6_readUnit 18 = .ok (.invokevirtual 68, 3) := by decide +kernel
theorem dX6_readUnit_21 : decode cX6_readUnit 21 = .ok (.iconst 1, 1) := by decide +kernel
theorem dX6_readUnit_22 : decode cX6_readUnit 22 = .ok (.ireturn, 1) := by decide +kernel
theorem dX6_readUnit_23 : decode cX6_readUnit 23 = .ok (.aload_n 0, 1) := by decide +kernel
theorem dX6_readUnit_24 : decode cX6_readUnit 24 = .ok (.getfield 46, 3) := by decide +kernel
theorem dX6_readUnit_27 : decode cX6_readUnit 27 = .ok (.bipush 6, 2) := by decide +kernel
theorem dX6_readUnit_29 : decode cX6_readUnit 29 = .ok (.if_icmp .lt 31, 3) := by decide +kernel
theorem dX6_readUnit_32 : decode cX6_readUnit 32 = .ok (.aload_n 0, 1) := by decide +kernel
theorem dX6_readUnit_33 : decode cX6_readUnit 33 = .ok (.getfield 46, 3) := by decide +kernel
theorem dX6_readUnit_36 : decode cX6_readUnit 36 = .ok (.bipush 12, 2) := by decide +kernel
theorem dX6_readUnit_38 : decode cX6_readUnit 38 = .ok (.if_icmp .gt 22, 3) := by decide +kernel
theorem dX6_readUnit_41 : decode cX6_readUnit 41 = .ok (.aload_n 0, 1) := by decide +kernel
theorem dX6_readUnit_42 : decode cX6_readUnit 42 = .ok (.iconst (-1), 1) := by decide +kernel
theorem dX6_readUnit_43 : decode cX6_readUnit 43 = .ok (.aload_n 0, 1) := by decide +kernel
theorem dX6_readUnit_44 : decode cX6_readUnit 44 = .ok (.getfield 46, 3) := by decide +kernel
theorem dX6_readUnit_47 : decode cX6_readUnit 47 = .ok (.bipush 6, 2) := by decide +kernel
theorem dX6_readUnit_49 : decode cX6_readUnit 49 = .ok (.isub, 1) := by decide +kernel
theorem dX6_readUnit_50 : decode cX6_readUnit 50 = .ok (.isub, 1) := by decide +kernel
theorem dX6_readUnit_51 : decode cX6_readUnit 51 = .ok (.invokevirtual 109, 3) := by decide +kernel
theorem dX6_readUnit_54 : decode cX6_readUnit 54 = .ok (.aload_n 0, 1) := by decide +kernel
theorem dX6_readUnit_55 : decode cX6_readUnit 55 = .ok (.invokevirtual 68, 3) := by decide +kernel
theorem dX6_readUnit_58 : decode cX6_readUnit 58 = .ok (.iconst 1, 1) := by decide +kernel
theorem dX6_readUnit_59 : decode cX6_readUnit 59 = .ok (.ireturn, 1) := by decide +kernel
theorem dX6_readUnit_60 : decode cX6_readUnit 60 = .ok (.aload_n 0, 1) := by decide +kernel
theorem dX6_readUnit_61 : decode cX6_readUnit 61 = .ok (.getfield 46, 3) := by decide +kernel
theorem dX6_readUnit_64 : decode cX6_readUnit 64 = .ok (.bipush 40, 2) := by decide +kernel
theorem dX6_readUnit_66 : decode cX6_readUnit 66 = .ok (.if_icmp .eq 9, 3) := by decide +kernel
theorem dX6_readUnit_69 : decode cX6_readUnit 69 = .ok (.aload_n 0, 1) := by decide +kernel
theorem dX6_readUnit_70 : decode cX6_readUnit 70 = .ok (.iconst 1, 1) := by decide +kernel
theorem dX6_readUnit_71 : decode cX6_readUnit 71 = .ok (.invokevirtual 49, 3) := by decide +kernel
theorem dX6_readUnit_74 : decode cX6_readUnit 74 = .ok (.ireturn, 1) := by decide +kernel
theorem dX6_readUnit_75 : decode cX6_readUnit 75 = .ok (.iload_n 1, 1) := by decide +kernel
theorem dX6_readUnit_76 : decode cX6_readUnit 76 = .ok (.bipush 8, 2) := by decide +kernel
theorem dX6_readUnit_78 : decode cX6_readUnit 78 = .ok (.if_icmp .lt 9, 3) := by decide +kernel
theorem dX6_readUnit_81 : decode cX6_readUnit 81 = .ok (.aload_n 0, 1) := by decide +kernel
theorem dX6_readUnit_82 : decode cX6_readUnit 82 = .ok (.iconst 3, 1) := by decide +kernel
theorem dX6_readUnit_83 : decode cX6_readUnit 83 = .ok (.invokevirtual 49, 3) := by decide +kernel
theorem dX6_readUnit_86 : decode cX6_readUnit 86 = .ok (.ireturn, 1) := by decide +kernel
theorem dX6_readUnit_87 : decode cX6_readUnit 87 = .ok (.aload_n 0, 1) := by decide +kernel
theorem dX6_readUnit_88 : decode cX6_readUnit 88 = .ok (.invokevirtual 68, 3) := by decide +kernel
theorem dX6_readUnit_91 : decode cX6_readUnit 91 = .ok (.aload_n 0, 1) := by decide +kernel
theorem dX6_readUnit_92 : decode cX6_readUnit 92 = .ok (.iload_n 1, 1) := by decide +kernel
theorem dX6_readUnit_93 : decode cX6_readUnit 93 = .ok (.iconst 1, 1) := by decide +kernel
theorem dX6_readUnit_94 : decode cX6_readUnit 94 = .ok (.iadd, 1) := by decide +kernel
theorem dX6_readUnit_95 : decode cX6_readUnit 95 = .ok (.invokevirtual 106, 3) := by decide +kernel
theorem dX6_readUnit_98 : decode cX6_readUnit 98 = .ok (.ifCond .ne 5, 3) := by decide +kernel
theorem dX6_readUnit_101 : decode cX6_readUnit 101 = .ok (.iconst 0, 1) := by decide +kernel
theorem dX6_readUnit_102 : decode cX6_readUnit 102 = .ok (.ireturn, 1) := by decide +kernel
theorem dX6_readUnit_103 : decode cX6_readUnit 103 = .ok (.aload_n 0, 1) := by decide +kernel
theorem dX6_readUnit_104 : decode cX6_readUnit 104 = .ok (.getfield 46, 3) := by decide +kernel
theorem dX6_readUnit_107 : decode cX6_readUnit 107 = .ok (.bipush 41, 2) := by decide +kernel
theorem dX6_readUnit_109 : decode cX6_readUnit 109 = .ok (.if_icmp .eq 9, 3) := by decide +kernel
theorem dX6_readUnit_112 : decode cX6_readUnit 112 = .ok (.aload_n 0, 1) := by decide +kernel
theorem dX6_readUnit_113 : decode cX6_readUnit 113 = .ok (.iconst 1, 1) := by decide +kernel
theorem dX6_readUnit_114 : decode cX6_readUnit 114 = .ok (.invokevirtual 49, 3) := by decide +kernel
theorem dX6_readUnit_117 : decode cX6_readUnit 117 = .ok (.ireturn, 1) := by decide +kernel
theorem dX6_readUnit_118 : decode cX6_readUnit 118 = .ok (.aload_n 0, 1) := by decide +kernel
theorem dX6_readUnit_119 : decode cX6_readUnit 119 = .ok (.invokevirtual 68, 3) := by decide +kernel
theorem dX6_readUnit_122 : decode cX6_readUnit 122 = .ok (.iconst 1, 1) := by decide +kernel
theorem dX6_readUnit_123 : decode cX6_readUnit 123 = .ok (.ireturn, 1) := by decide +kernel
theorem dX6_skip_0 : decode cX6_skip 0 = .ok (.aload_n 0, 1) := by decide +kernel
theorem dX6_skip_1 : decode cX6_skip 1 = .ok (.getfield 46, 3) := by decide +kernel
theorem dX6_skip_4 : decode cX6_skip 4 = .ok (.iload_n 1, 1) := by decide +kernel
theorem dX6_skip_5 : decode cX6_skip 5 = .ok (.if_icmp .eq 9, 3) := by decide +kernel
theorem dX6_skip_8 : decode cX6_skip 8 = .ok (.aload_n 0, 1) := by decide +kernel
theorem dX6_skip_9 : decode cX6_skip 9 = .ok (.iconst 1, 1) := by decide +kernel
theorem dX6_skip_10 : decode cX6_skip 10 = .ok (.invokevirtual 49, 3) := by decide +kernel
theorem dX6_skip_13 : decode cX6_skip 13 = .ok (.ireturn, 1) := by decide +kernel
theorem dX6_skip_14 : decode cX6_skip 14 = .ok (.aload_n 0, 1) := by decide +kernel
theorem dX6_skip_15 : decode cX6_skip 15 = .ok (.invokevirtual 68, 3) := by decide +kernel
theorem dX6_skip_18 : decode cX6_skip 18 = .ok (.iconst 1, 1) := by decide +kernel
theorem dX6_skip_19 : decode cX6_skip 19 = .ok (.ireturn, 1) := by decide +kernel
theorem dX6_step_0 : decode cX6_step 0 = .ok (.aload_n 0, 1) := by decide +kernel
theorem dX6_step_1 : decode cX6_step 1 = .ok (.getfield 43, 3) := by decide +kernel
theorem dX6_step_4 : decode cX6_step 4 = .ok (.aload_n 0, 1) := by decide +kernel
theorem dX6_step_5 : decode cX6_step 5 = .ok (.getfield 129, 3) := by decide +kernel
theorem dX6_step_8 : decode cX6_step 8 = .ok (.iconst 1, 1) := by decide +kernel
theorem dX6_step_9 : decode cX6_step 9 = .ok (.isub, 1) := by decide +kernel
theorem dX6_step_10 : decode cX6_step 10 = .ok (.if_icmp .ge 13, 3) := by decide +kernel
theorem dX6_step_13 : decode cX6_step 13 = .ok (.aload_n 0, 1) := by decide +kernel
theorem dX6_step_14 : decode cX6_step 14 = .ok (.dup, 1) := by decide +kernel
theorem dX6_step_15 : decode cX6_step 15 = .ok (.getfield 43, 3) := by decide +kernel
theorem dX6_step_18 : decode cX6_step 18 = .ok (.iconst 1, 1) := by decide +kernel
theorem dX6_step_19 : decode cX6_step 19 = .ok (.iadd, 1) := by decide +kernel
theorem dX6_step_20 : decode cX6_step 20 = .ok (.putfield 43, 3) := by decide +kernel
theorem dX6_step_23 : decode cX6_step 23 = .ok (.aload_n 0, 1) := by decide +kernel
theorem dX6_step_24 : decode cX6_step 24 = .ok (.aload_n 0, 1) := by decide +kernel
theorem dX6_step_25 : decode cX6_step 25 = .ok (.getfield 21, 3) := by decide +kernel
theorem dX6_step_28 : decode cX6_step 28 = .ok (.aload_n 0, 1) := by decide +kernel
theorem dX6_step_29 : decode cX6_step 29 = .ok (.getfield 43, 3) := by decide +kernel
theorem dX6_step_32 : decode cX6_step 32 = .ok (.iaload, 1) := by decide +kernel
theorem dX6_step_33 : decode cX6_step 33 = .ok (.bipush 127, 2) := by decide +kernel
theorem dX6_step_35 : decode cX6_step 35 = .ok (.iand, 1) := by decide +kernel
theorem dX6_step_36 : decode cX6_step 36 = .ok (.putfield 46, 3) := by decide +kernel
theorem dX6_step_39 : decode cX6_step 39 = .ok (.return_, 1) := by decide +kernel
theorem dX6_refuse_0 : decode cX6_refuse 0 = .ok (.aload_n 0, 1) := by decide +kernel
theorem dX6_refuse_1 : decode cX6_refuse 1 = .ok (.iload_n 1, 1) := by decide +kernel
theorem dX6_refuse_2 : decode cX6_refuse 2 = .ok (.putfield 31, 3) := by decide +kernel
theorem dX6_refuse_5 : decode cX6_refuse 5 = .ok (.aload_n 0, 1) := by decide +kernel
theorem dX6_refuse_6 : decode cX6_refuse 6 = .ok (.aload_n 0, 1) := by decide +kernel
theorem dX6_refuse_7 : decode cX6_refuse 7 = .ok (.getfield 21, 3) := by decide +kernel
theorem dX6_refuse_10 : decode cX6_refuse 10 = .ok (.aload_n 0, 1) := by decide +kernel
theorem dX6_refuse_11 : decode cX6_refuse 11 = .ok (.getfield 43, 3) := by decide +kernel
theorem dX6_refuse_14 : decode cX6_refuse 14 = .ok (.iaload, 1) := by decide +kernel
theorem dX6_refuse_15 : decode cX6_refuse 15 = .ok (.bipush 7, 2) := by decide +kernel
theorem dX6_refuse_17 : decode cX6_refuse 17 = .ok (.ishr, 1) := by decide +kernel
theorem dX6_refuse_18 : decode cX6_refuse 18 = .ok (.sipush 1023, 3) := by decide +kernel
theorem dX6_refuse_21 : decode cX6_refuse 21 = .ok (.iand, 1) := by decide +kernel
theorem dX6_refuse_22 : decode cX6_refuse 22 = .ok (.putfield 13, 3) := by decide +kernel
theorem dX6_refuse_25 : decode cX6_refuse 25 = .ok (.iconst 0, 1) := by decide +kernel
theorem dX6_refuse_26 : decode cX6_refuse 26 = .ok (.ireturn, 1) := by decide +kernel
theorem dX6_put_0 : decode cX6_put 0 = .ok (.aload_n 0, 1) := by decide +kernel
theorem dX6_put_1 : decode cX6_put 1 = .ok (.getfield 34, 3) := by decide +kernel
theorem dX6_put_4 : decode cX6_put 4 = .ok (.sipush 3600, 3) := by decide +kernel
theorem dX6_put_7 : decode cX6_put 7 = .ok (.if_icmp .ge 64, 3) := by decide +kernel
theorem dX6_put_10 : decode cX6_put 10 = .ok (.bipush 16, 2) := by decide +kernel
theorem dX6_put_12 : decode cX6_put 12 = .ok (.aload_n 0, 1) := by decide +kernel
theorem dX6_put_13 : decode cX6_put 13 = .ok (.getfield 34, 3) := by decide +kernel
theorem dX6_put_16 : decode cX6_put 16 = .ok (.iconst 4, 1) := by decide +kernel
theorem dX6_put_17 : decode cX6_put 17 = .ok (.irem, 1) := by decide +kernel
theorem dX6_put_18 : decode cX6_put 18 = .ok (.imul, 1) := by decide +kernel
theorem dX6_put_19 : decode cX6_put 19 = .ok (.istore_n 2, 1) := by decide +kernel
theorem dX6_put_20 : decode cX6_put 20 = .ok (.aload_n 0, 1) := by decide +kernel
theorem dX6_put_21 : decode cX6_put 21 = .ok (.getfield 24, 3) := by decide +kernel
theorem dX6_put_24 : decode cX6_put 24 = .ok (.aload_n 0, 1) := by decide +kernel
theorem dX6_put_25 : decode cX6_put 25 = .ok (.getfield 34, 3) := by decide +kernel
theorem dX6_put_28 : decode cX6_put 28 = .ok (.iconst 4, 1) := by decide +kernel
theorem dX6_put_29 : decode cX6_put 29 = .ok (.idiv, 1) := by decide +kernel
theorem dX6_put_30 : decode cX6_put 30 = .ok (.aload_n 0, 1) := by decide +kernel
theorem dX6_put_31 : decode cX6_put 31 = .ok (.getfield 24, 3) := by decide +kernel
theorem dX6_put_34 : decode cX6_put 34 = .ok (.aload_n 0, 1) := by decide +kernel
theorem dX6_put_35 : decode cX6_put 35 = .ok (.getfield 34, 3) := by decide +kernel
theorem dX6_put_38 : decode cX6_put 38 = .ok (.iconst 4, 1) := by decide +kernel
theorem dX6_put_39 : decode cX6_put 39 = .ok (.idiv, 1) := by decide +kernel
theorem dX6_put_40 : decode cX6_put 40 = .ok (.laload, 1) := by decide +kernel
theorem dX6_put_41 : decode cX6_put 41 = .ok (.ldc2_w 132, 3) := by decide +kernel
theorem dX6_put_44 : decode cX6_put 44 = .ok (.iload_n 2, 1) := by decide +kernel
theorem dX6_put_45 : decode cX6_put 45 = .ok (.lshl, 1) := by decide +kernel
theorem dX6_put_46 : decode cX6_put 46 = .ok (.ldc2_w 134, 3) := by decide +kernel
theorem dX6_put_49 : decode cX6_put 49 = .ok (.lxor, 1) := by decide +kernel
theorem dX6_put_50 : decode cX6_put 50 = .ok (.land, 1) := by decide +kernel
theorem dX6_put_51 : decode cX6_put 51 = .ok (.iload_n 1, 1) := by decide +kernel
theorem dX6_put_52 : decode cX6_put 52 = .ok (.i2l, 1) := by decide +kernel
theorem dX6_put_53 : decode cX6_put 53 = .ok (.ldc2_w 132, 3) := by decide +kernel
theorem dX6_put_56 : decode cX6_put 56 = .ok (.land, 1) := by decide +kernel
theorem dX6_put_57 : decode cX6_put 57 = .ok (.iload_n 2, 1) := by decide +kernel
theorem dX6_put_58 : decode cX6_put 58 = .ok (.lshl, 1) := by decide +kernel
theorem dX6_put_59 : decode cX6_put 59 = .ok (.lor, 1) := by decide +kernel
theorem dX6_put_60 : decode cX6_put 60 = .ok (.lastore, 1) := by decide +kernel
theorem dX6_put_61 : decode cX6_put 61 = .ok (.aload_n 0, 1) := by decide +kernel
theorem dX6_put_62 : decode cX6_put 62 = .ok (.dup, 1) := by decide +kernel
theorem dX6_put_63 : decode cX6_put 63 = .ok (.getfield 34, 3) := by decide +kernel
theorem dX6_put_66 : decode cX6_put 66 = .ok (.iconst 1, 1) := by decide +kernel
theorem dX6_put_67 : decode cX6_put 67 = .ok (.iadd, 1) := by decide +kernel
theorem dX6_put_68 : decode cX6_put 68 = .ok (.putfield 34, 3) := by decide +kernel
theorem dX6_put_71 : decode cX6_put 71 = .ok (.return_, 1) := by decide +kernel
theorem dX6_codeAt_0 : decode cX6_codeAt 0 = .ok (.iload_n 1, 1) := by decide +kernel
theorem dX6_codeAt_1 : decode cX6_codeAt 1 = .ok (.ifCond .lt 30, 3) := by decide +kernel
theorem dX6_codeAt_4 : decode cX6_codeAt 4 = .ok (.iload_n 1, 1) := by decide +kernel
theorem dX6_codeAt_5 : decode cX6_codeAt 5 = .ok (.sipush 3600, 3) := by decide +kernel
theorem dX6_codeAt_8 : decode cX6_codeAt 8 = .ok (.if_icmp .ge 23, 3) := by decide +kernel
theorem dX6_codeAt_11 : decode cX6_codeAt 11 = .ok (.aload_n 0, 1) := by decide +kernel
theorem dX6_codeAt_12 : decode cX6_codeAt 12 = .ok (.getfield 24, 3) := by decide +kernel
theorem dX6_codeAt_15 : decode cX6_codeAt 15 = .ok (.iload_n 1, 1) := by decide +kernel
theorem dX6_codeAt_16 : decode cX6_codeAt 16 = .ok (.iconst 4, 1) := by decide +kernel
theorem dX6_codeAt_17 : decode cX6_codeAt 17 = .ok (.idiv, 1) := by decide +kernel
theorem dX6_codeAt_18 : decode cX6_codeAt 18 = .ok (.laload, 1) := by decide +kernel
theorem dX6_codeAt_19 : decode cX6_codeAt 19 = .ok (.bipush 16, 2) := by decide +kernel
theorem dX6_codeAt_21 : decode cX6_codeAt 21 = .ok (.iload_n 1, 1) := by decide +kernel
theorem dX6_codeAt_22 : decode cX6_codeAt 22 = .ok (.iconst 4, 1) := by decide +kernel
theorem dX6_codeAt_23 : decode cX6_codeAt 23 = .ok (.irem, 1) := by decide +kernel
theorem dX6_codeAt_24 : decode cX6_codeAt 24 = .ok (.imul, 1) := by decide +kernel
theorem dX6_codeAt_25 : decode cX6_codeAt 25 = .ok (.lshr, 1) := by decide +kernel
theorem dX6_codeAt_26 : decode cX6_codeAt 26 = .ok (.l2i, 1) := by decide +kernel
theorem dX6_codeAt_27 : decode cX6_codeAt 27 = .ok (.i2s, 1) := by decide +kernel
theorem dX6_codeAt_28 : decode cX6_codeAt 28 = .ok (.goto 5, 3) := by decide +kernel
theorem dX6_codeAt_31 : decode cX6_codeAt 31 = .ok (.bipush (-100), 2) := by decide +kernel
theorem dX6_codeAt_33 : decode cX6_codeAt 33 = .ok (.ireturn, 1) := by decide +kernel
theorem dX6_value_0 : decode cX6_value 0 = .ok (.aload_n 0, 1) := by decide +kernel
theorem dX6_value_1 : decode cX6_value 1 = .ok (.getfield 21, 3) := by decide +kernel
theorem dX6_value_4 : decode cX6_value 4 = .ok (.aload_n 0, 1) := by decide +kernel
theorem dX6_value_5 : decode cX6_value 5 = .ok (.getfield 43, 3) := by decide +kernel
theorem dX6_value_8 : decode cX6_value 8 = .ok (.iaload, 1) := by decide +kernel
theorem dX6_value_9 : decode cX6_value 9 = .ok (.bipush 17, 2) := by decide +kernel
theorem dX6_value_11 : decode cX6_value 11 = .ok (.ishr, 1) := by decide +kernel
theorem dX6_value_12 : decode cX6_value 12 = .ok (.ireturn, 1) := by decide +kernel
theorem dX6_scan_0 : decode cX6_scan 0 = .ok (.aload_n 0, 1) := by decide +kernel
theorem dX6_scan_1 : decode cX6_scan 1 = .ok (.iconst 0, 1) := by decide +kernel
theorem dX6_scan_2 : decode cX6_scan 2 = .ok (.putfield 129, 3) := by decide +kernel
theorem dX6_scan_5 : decode cX6_scan 5 = .ok (.iconst 0, 1) := by decide +kernel
theorem dX6_scan_6 : decode cX6_scan 6 = .ok (.istore_n 1, 1) := by decide +kernel
theorem dX6_scan_7 : decode cX6_scan 7 = .ok (.iload_n 1, 1) := by decide +kernel
theorem dX6_scan_8 : decode cX6_scan 8 = .ok (.aload_n 0, 1) := by decide +kernel
theorem dX6_scan_9 : decode cX6_scan 9 = .ok (.getfield 28, 3) := by decide +kernel
theorem dX6_scan_12 : decode cX6_scan 12 = .ok (.if_icmp .ge 113, 3) := by decide +kernel
theorem dX6_scan_15 : decode cX6_scan 15 = .ok (.aload_n 0, 1) := by decide +kernel
theorem dX6_scan_16 : decode cX6_scan 16 = .ok (.getfield 17, 3) := by decide +kernel
theorem dX6_scan_19 : decode cX6_scan 19 = .ok (.iload_n 1, 1) := by decide +kernel
theorem dX6_scan_20 : decode cX6_scan 20 = .ok (.iaload, 1) := by decide +kernel
theorem dX6_scan_21 : decode cX6_scan 21 = .ok (.istore_n 2, 1) := by decide +kernel
theorem dX6_scan_22 : decode cX6_scan 22 = .ok (.iload_n 2, 1) := by decide +kernel
theorem dX6_scan_23 : decode cX6_scan 23 = .ok (.invokestatic 136, 3) := by decide +kernel
theorem dX6_scan_26 : decode cX6_scan 26 = .ok (.ifCond .eq 29, 3) := by decide +kernel
theorem dX6_scan_29 : decode cX6_scan 29 = .ok (.iload_n 1, 1) := by decide +kernel
theorem dX6_scan_30 : decode cX6_scan 30 = .ok (.ifCond .eq 17, 3) := by decide +kernel
theorem dX6_scan_33 : decode cX6_scan 33 = .ok (.aload_n 0, 1) := by decide +kernel
theorem dX6_scan_34 : decode cX6_scan 34 = .ok (.getfield 17, 3) := by decide +kernel
theorem dX6_scan_37 : decode cX6_scan 37 = .ok (.iload_n 1, 1) := by decide +kernel
theorem dX6_scan_38 : decode cX6_scan 38 = .ok (.iconst 1, 1) := by decide +kernel
theorem dX6_scan_39 : decode cX6_scan 39 = .ok (.isub, 1) := by decide +kernel
theorem dX6_scan_40 : decode cX6_scan 40 = .ok (.iaload, 1) := by decide +kernel
theorem dX6_scan_41 : decode cX6_scan 41 = .ok (.invokestatic 136, 3) := by decide +kernel
theorem dX6_scan_44 : decode cX6_scan 44 = .ok (.ifCond .ne 75, 3) := by decide +kernel
theorem dX6_scan_47 : decode cX6_scan 47 = .ok (.aload_n 0, 1) := by decide +kernel
theorem dX6_scan_48 : decode cX6_scan 48 = .ok (.iload_n 1, 1) := by decide +kernel
theorem dX6_scan_49 : decode cX6_scan 49 = .ok (.invokevirtual 139, 3) := by decide +kernel
theorem dX6_scan_52 : decode cX6_scan 52 = .ok (.goto 67, 3) := by decide +kernel
theorem dX6_scan_55 : decode cX6_scan 55 = .ok (.iload_n 2, 1) := by decide +kernel
theorem dX6_scan_56 : decode cX6_scan 56 = .ok (.invokestatic 142, 3) := by decide +kernel
theorem dX6_scan_59 : decode cX6_scan 59 = .ok (.ifCond .eq 29, 3) := by decide +kernel
theorem dX6_scan_62 : decode cX6_scan 62 = .ok (.iload_n 1, 1) := by decide +kernel
theorem dX6_scan_63 : decode cX6_scan 63 = .ok (.ifCond .eq 17, 3) := by decide +kernel
theorem dX6_scan_66 : decode cX6_scan 66 = .ok (.aload_n 0, 1) := by decide +kernel
theorem dX6_scan_67 : decode cX6_scan 67 = .ok (.getfield 17, 3) := by decide +kernel
theorem dX6_scan_70 : decode cX6_scan 70 = .ok (.iload_n 1, 1) := by decide +kernel
theorem dX6_scan_71 : decode cX6_scan 71 = .ok (.iconst 1, 1) := by decide +kernel
theorem dX6_scan_72 : decode cX6_scan 72 = .ok (.isub, 1) := by decide +kernel
theorem dX6_scan_73 : decode cX6_scan 73 = .ok (.iaload, 1) := by decide +kernel
theorem dX6_scan_74 : decode cX6_scan 74 = .ok (.invokestatic 142, 3) := by decide +kernel
theorem dX6_scan_77 : decode cX6_scan 77 = .ok (.ifCond .ne 42, 3) := by decide +kernel
theorem dX6_scan_80 : decode cX6_scan 80 = .ok (.aload_n 0, 1) := by decide +kernel
theorem dX6_scan_81 : decode cX6_scan 81 = .ok (.iload_n 1, 1) := by decide +kernel
theorem dX6_scan_82 : decode cX6_scan 82 = .ok (.invokevirtual 145, 3) := by decide +kernel
theorem dX6_scan_85 : decode cX6_scan 85 = .ok (.goto 34, 3) := by decide +kernel
theorem dX6_scan_88 : decode cX6_scan 88 = .ok (.iload_n 2, 1) := by decide +kernel
theorem dX6_scan_89 : decode cX6_scan 89 = .ok (.bipush 32, 2) := by decide +kernel
theorem dX6_scan_91 : decode cX6_scan 91 = .ok (.if_icmp .eq 28, 3) := by decide +kernel
theorem dX6_scan_94 : decode cX6_scan 94 = .ok (.iload_n 2, 1) := by decide +kernel
theorem dX6_scan_95 : decode cX6_scan 95 = .ok (.bipush 10, 2) := by decide +kernel
theorem dX6_scan_97 : decode cX6_scan 97 = .ok (.if_icmp .eq 22, 3) := by decide +kernel
theorem dX6_scan_100 : decode cX6_scan 100 = .ok (.aload_n 0, 1) := by decide +kernel
theorem dX6_scan_101 : decode cX6_scan 101 = .ok (.iload_n 2, 1) := by decide +kernel
theorem dX6_scan_102 : decode cX6_scan 102 = .ok (.invokestatic 148, 3) := by decide +kernel
theorem dX6_scan_105 : decode cX6_scan 105 = .ok (.ifCond .eq 7, 3) := by decide +kernel
theorem dX6_scan_108 : decode cX6_scan 108 = .ok (.iload_n 2, 1) := by decide +kernel
theorem dX6_scan_109 : decode cX6_scan 109 = .ok (.goto 5, 3) := by decide +kernel
theorem dX6_scan_112 : decode cX6_scan 112 = .ok (.bipush 20, 2) := by decide +kernel
theorem dX6_scan_114 : decode cX6_scan 114 = .ok (.iload_n 1, 1) := by decide +kernel
theorem dX6_scan_115 : decode cX6_scan 115 = .ok (.iconst 0, 1) := by decide +kernel
theorem dX6_scan_116 : decode cX6_scan 116 = .ok (.invokevirtual 151, 3) := by decide +kernel
theorem dX6_scan_119 : decode cX6_scan 119 = .ok (.iinc 1 1, 3) := by decide +kernel
theorem dX6_scan_122 : decode cX6_scan 122 = .ok (.goto (-115), 3) := by decide +kernel
theorem dX6_scan_125 : decode cX6_scan 125 = .ok (.aload_n 0, 1) := by decide +kernel
theorem dX6_scan_126 : decode cX6_scan 126 = .ok (.bipush 19, 2) := by decide +kernel
theorem dX6_scan_128 : decode cX6_scan 128 = .ok (.aload_n 0, 1) := by decide +kernel
theorem dX6_scan_129 : decode cX6_scan 129 = .ok (.getfield 28, 3) := by decide +kernel
theorem dX6_scan_132 : decode cX6_scan 132 = .ok (.iconst 0, 1) := by decide +kernel
theorem dX6_scan_133 : decode cX6_scan 133 = .ok (.invokevirtual 151, 3) := by decide +kernel
theorem dX6_scan_136 : decode cX6_scan 136 = .ok (.return_, 1) := by decide +kernel
theorem dX6_addToken_0 : decode cX6_addToken 0 = .ok (.aload_n 0, 1) := by decide +kernel
theorem dX6_addToken_1 : decode cX6_addToken 1 = .ok (.getfield 129, 3) := by decide +kernel
theorem dX6_addToken_4 : decode cX6_addToken 4 = .ok (.aload_n 0, 1) := by decide +kernel
theorem dX6_addToken_5 : decode cX6_addToken 5 = .ok (.getfield 21, 3) := by decide +kernel
theorem dX6_addToken_8 : decode cX6_addToken 8 = .ok (.arraylength, 1) := by decide +kernel
theorem dX6_addToken_9 : decode cX6_addToken 9 = .ok (.if_icmp .ge 33, 3) := by decide +kernel
theorem dX6_addToken_12 : decode cX6_addToken 12 = .ok (.aload_n 0, 1) := by decide +kernel
theorem dX6_addToken_13 : decode cX6_addToken 13 = .ok (.getfield 21, 3) := by decide +kernel
theorem dX6_addToken_16 : decode cX6_addToken 16 = .ok (.aload_n 0, 1) := by decide +kernel
theorem dX6_addToken_17 : decode cX6_addToken 17 = .ok (.getfield 129, 3) := by decide +kernel
theorem dX6_addToken_20 : decode cX6_addToken 20 = .ok (.iload_n 3, 1) := by decide +kernel
theorem dX6_addToken_21 : decode cX6_addToken 21 = .ok (.bipush 17, 2) := by decide +kernel
theorem dX6_addToken_23 : decode cX6_addToken 23 = .ok (.ishl, 1) := by decide +kernel
theorem dX6_addToken_24 : decode cX6_addToken 24 = .ok (.iload_n 2, 1) := by decide +kernel
theorem dX6_addToken_25 : decode cX6_addToken 25 = .ok (.bipush 7, 2) := by decide +kernel
theorem dX6_addToken_27 : decode cX6_addToken 27 = .ok (.ishl, 1) := by decide +kernel
theorem dX6_addToken_28 : decode cX6_addToken 28 = .ok (.ior, 1) := by decide +kernel
theorem dX6_addToken_29 : decode cX6_addToken 29 = .ok (.iload_n 1, 1) := by decide +kernel
theorem dX6_addToken_30 : decode cX6_addToken 30 = .ok (.ior, 1) := by decide +kernel
theorem dX6_addToken_31 : decode cX6_addToken 31 = .ok (.iastore, 1) := by decide +kernel
theorem dX6_addToken_32 : decode cX6_addToken 32 = .ok (.aload_n 0, 1) := by decide +kernel
theorem dX6_addToken_33 : decode cX6_addToken 33 = .ok (.dup, 1) := by decide +kernel
theorem dX6_addToken_34 : decode cX6_addToken 34 = .ok (.getfield 129, 3) := by decide +kernel
theorem dX6_addToken_37 : decode cX6_addToken 37 = .ok (.iconst 1, 1) := by decide +kernel
theorem dX6_addToken_38 : decode cX6_addToken 38 = .ok (.iadd, 1) := by decide +kernel
theorem dX6_addToken_39 : decode cX6_addToken 39 = .ok (.putfield 129, 3) := by decide +kernel
theorem dX6_addToken_42 : decode cX6_addToken 42 = .ok (.return_, 1) := by decide +kernel
theorem dX6_scanWord_0 : decode cX6_scanWord 0 = .ok (.lconst 0, 1) := by decide +kernel
theorem dX6_scanWord_1 : decode cX6_scanWord 1 = .ok (.lstore_n 2, 1) := by decide +kernel
theorem dX6_scanWord_2 : decode cX6_scanWord 2 = .ok (.iload_n 1, 1) := by decide +kernel
theorem dX6_scanWord_3 : decode cX6_scanWord 3 = .ok (.istore 4, 2) := by decide +kernel
theorem dX6_scanWord_5 : decode cX6_scanWord 5 = .ok (.iload 4, 2) := by decide +kernel
theorem dX6_scanWord_7 : decode cX6_scanWord 7 = .ok (.aload_n 0, 1) := by decide +kernel
theorem dX6_scanWord_8 : decode cX6_scanWord 8 = .ok (.getfield 28, 3) := by decide +kernel
theorem dX6_scanWord_11 : decode cX6_scanWord 11 = .ok (.if_icmp .ge 51, 3) := by decide +kernel
theorem dX6_scanWord_14 : decode cX6_scanWord 14 = .ok (.aload_n 0, 1) := by decide +kernel
theorem dX6_scanWord_15 : decode cX6_scanWord 15 = .ok (.getfield 17, 3) := by decide +kernel
theorem dX6_scanWord_18 : decode cX6_scanWord 18 = .ok (.iload 4, 2) := by decide +kernel
theorem dX6_scanWord_20 : decode cX6_scanWord 20 = .ok (.iaload, 1) := by decide +kernel
theorem dX6_scanWord_21 : decode cX6_scanWord 21 = .ok (.invokestatic 136, 3) := by decide +kernel
theorem dX6_scanWord_24 : decode cX6_scanWord 24 = .ok (.ifCond .eq 38, 3) := by decide +kernel
theorem dX6_scanWord_27 : decode cX6_scanWord 27 = .ok (.iload 4, 2) := by decide +kernel
theorem dX6_scanWord_29 : decode cX6_scanWord 29 = .ok (.iload_n 1, 1) := by decide +kernel
theorem dX6_scanWord_30 : decode cX6_scanWord 30 = .ok (.isub, 1) := by decide +kernel
theorem dX6_scanWord_31 : decode cX6_scanWord 31 = .ok (.bipush 6, 2) := by decide +kernel
theorem dX6_scanWord_33 : decode cX6_scanWord 33 = .ok (.if_icmp .ge 19, 3) := by decide +kernel
theorem dX6_scanWord_36 : decode cX6_scanWord 36 = .ok (.lload_n 2, 1) := by decide +kernel
theorem dX6_scanWord_37 : decode cX6_scanWord 37 = .ok (.bipush 8, 2) := by decide +kernel
theorem dX6_scanWord_39 : decode cX6_scanWord 39 = .ok (.lshl, 1) := by decide +kernel
theorem dX6_scanWord_40 : decode cX6_scanWord 40 = .ok (.aload_n 0, 1) := by decide +kernel
theorem dX6_scanWord_41 : decode cX6_scanWord 41 = .ok (.getfield 17, 3) := by decide +kernel
theorem dX6_scanWord_44 : decode cX6_scanWord 44 = .ok (.iload 4, 2) := by decide +kernel
theorem dX6_scanWord_46 : decode cX6_scanWord 46 = .ok (.iaload, 1) := by decide +kernel
theorem dX6_scanWord_47 : decode cX6_scanWord 47 = .ok (.i2l, 1) := by decide +kernel
theorem dX6_scanWord_48 : decode cX6_scanWord 48 = .ok (.lor, 1) := by decide +kernel
theorem dX6_scanWord_49 : decode cX6_scanWord 49 = .ok (.goto 6, 3) := by decide +kernel
theorem dX6_scanWord_52 : decode cX6_scanWord 52 = .ok (.ldc2_w 134, 3) := by decide +kernel
theorem dX6_scanWord_55 : decode cX6_scanWord 55 = .ok (.lstore_n 2, 1) := by decide +kernel
theorem dX6_scanWord_56 : decode cX6_scanWord 56 = .ok (.iinc 4 1, 3) := by decide +kernel
theorem dX6_scanWord_59 : decode cX6_scanWord 59 = .ok (.goto (-54), 3) := by decide +kernel
theorem dX6_scanWord_62 : decode cX6_scanWord 62 = .ok (.bipush 20, 2) := by decide +kernel
theorem dX6_scanWord_64 : decode cX6_scanWord 64 = .ok (.istore 4, 2) := by decide +kernel
theorem dX6_scanWord_66 : decode cX6_scanWord 66 = .ok (.iconst 0, 1) := by decide +kernel
theorem dX6_scanWord_67 : decode cX6_scanWord 67 = .ok (.istore 5, 2) := by decide +kernel
theorem dX6_scanWord_69 : decode cX6_scanWord 69 = .ok (.iload 5, 2) := by decide +kernel
theorem dX6_scanWord_71 : decode cX6_scanWord 71 = .ok (.getstatic 155, 3) := by decide +kernel
theorem dX6_scanWord_74 : decode cX6_scanWord 74 = .ok (.arraylength, 1) := by decide +kernel
theorem dX6_scanWord_75 : decode cX6_scanWord 75 = .ok (.if_icmp .ge 24, 3) := by decide +kernel
theorem dX6_scanWord_78 : decode cX6_scanWord 78 = .ok (.getstatic 155, 3) := by decide +kernel
theorem dX6_scanWord_81 : decode cX6_scanWord 81 = .ok (.iload 5, 2) := by decide +kernel
theorem dX6_scanWord_83 : decode cX6_scanWord 83 = .ok (.laload, 1) := by decide +kernel
theorem dX6_scanWord_84 : decode cX6_scanWord 84 = .ok (.lload_n 2, 1) := by decide +kernel
theorem dX6_scanWord_85 : decode cX6_scanWord 85 = .ok (.lcmp, 1) := by decide +kernel
theorem dX6_scanWord_86 : decode cX6_scanWord 86 = .ok (.ifCond .ne 7, 3) := by decide +kernel
theorem dX6_scanWord_89 : decode cX6_scanWord 89 = .ok (.iload 5, 2) := by decide +kernel
theorem dX6_scanWord_91 : decode cX6_scanWord 91 = .ok (.istore 4, 2) := by decide +kernel
theorem dX6_scanWord_93 : decode cX6_scanWord 93 = .ok (.iinc 5 1, 3) := by decide +kernel
theorem dX6_scanWord_96 : decode cX6_scanWord 96 = .ok (.goto (-27), 3) := by decide +kernel
theorem dX6_scanWord_99 : decode cX6_scanWord 99 = .ok (.aload_n 0, 1) := by decide +kernel
theorem dX6_scanWord_100 : decode cX6_scanWord 100 = .ok (.iload 4, 2) := by decide +kernel
theorem dX6_scanWord_102 : decode cX6_scanWord 102 = .ok (.iload_n 1, 1) := by decide +kernel
theorem dX6_scanWord_103 : decode cX6_scanWord 103 = .ok (.iconst 0, 1) := by decide +kernel
theorem dX6_scanWord_104 : decode cX6_scanWord 104 = .ok (.invokevirtual 151, 3) := by decide +kernel
theorem dX6_scanWord_107 : decode cX6_scanWord 107 = .ok (.return_, 1) := by decide +kernel
theorem dX6_scanNumber_0 : decode cX6_scanNumber 0 = .ok (.iconst 0, 1) := by decide +kernel
theorem dX6_scanNumber_1 : decode cX6_scanNumber 1 = .ok (.istore_n 2, 1) := by decide +kernel
theorem dX6_scanNumber_2 : decode cX6_scanNumber 2 = .ok (.iload_n 1, 1) := by decide +kernel
theorem dX6_scanNumber_3 : decode cX6_scanNumber 3 = .ok (.istore_n 3, 1) := by decide +kernel
theorem dX6_scanNumber_4 : decode cX6_scanNumber 4 = .ok (.iload_n 3, 1) := by decide +kernel
theorem dX6_scanNumber_5 : decode cX6_scanNumber 5 = .ok (.aload_n 0, 1) := by decide +kernel
theorem dX6_scanNumber_6 : decode cX6_scanNumber 6 = .ok (.getfield 28, 3) := by decide +kernel
theorem dX6_scanNumber_9 : decode cX6_scanNumber 9 = .ok (.if_icmp .ge 47, 3) := by decide +kernel
theorem dX6_scanNumber_12 : decode cX6_scanNumber 12 = .ok (.aload_n 0, 1) := by decide +kernel
theorem dX6_scanNumber_13 : decode cX6_scanNumber 13 = .ok (.getfield 17, 3) := by decide +kernel
theorem dX6_scanNumber_16 : decode cX6_scanNumber 16 = .ok (.iload_n 3, 1) := by decide +kernel
theorem dX6_scanNumber_17 : decode cX6_scanNumber 17 = .ok (.iaload, 1) := by decide +kernel
theorem dX6_scanNumber_18 : decode cX6_scanNumber 18 = .ok (.invokestatic 142, 3) := by decide +kernel
theorem dX6_scanNumber_21 : decode cX6_scanNumber 21 = .ok (.ifCond .eq 35, 3) := by decide +kernel
theorem dX6_scanNumber_24 : decode cX6_scanNumber 24 = .ok (.iload_n 3, 1) := by decide +kernel
theorem dX6_scanNumber_25 : decode cX6_scanNumber 25 = .ok (.iload_n 1, 1) := by decide +kernel
theorem dX6_scanNumber_26 : decode cX6_scanNumber 26 = .ok (.isub, 1) := by decide +kernel
theorem dX6_scanNumber_27 : decode cX6_scanNumber 27 = .ok (.iconst 4, 1) := by decide +kernel
theorem dX6_scanNumber_28 : decode cX6_scanNumber 28 = .ok (.if_icmp .ge 20, 3) := by decide +kernel
theorem dX6_scanNumber_31 : decode cX6_scanNumber 31 = .ok (.iload_n 2, 1) := by decide +kernel
theorem dX6_scanNumber_32 : decode cX6_scanNumber 32 = .ok (.bipush 10, 2) := by decide +kernel
theorem dX6_scanNumber_34 : decode cX6_scanNumber 34 = .ok (.imul, 1) := by decide +kernel
theorem dX6_scanNumber_35 : decode cX6_scanNumber 35 = .ok (.aload_n 0, 1) := by decide +kernel
theorem dX6_scanNumber_36 : decode cX6_scanNumber 36 = .ok (.getfield 17, 3) := by decide +kernel
theorem dX6_scanNumber_39 : decode cX6_scanNumber 39 = .ok (.iload_n 3, 1) := by decide +kernel
theorem dX6_scanNumber_40 : decode cX6_scanNumber 40 = .ok (.iaload, 1) := by decide +kernel
theorem dX6_scanNumber_41 : decode cX6_scanNumber 41 = .ok (.iadd, 1) := by decide +kernel
theorem dX6_scanNumber_42 : decode cX6_scanNumber 42 = .ok (.bipush 48, 2) := by decide +kernel
theorem dX6_scanNumber_44 : decode cX6_scanNumber 44 = .ok (.isub, 1) := by decide +kernel
theorem dX6_scanNumber_45 : decode cX6_scanNumber 45 = .ok (.goto 4, 3) := by decide +kernel
theorem dX6_scanNumber_48 : decode cX6_scanNumber 48 = .ok (.iconst (-1), 1) := by decide +kernel
theorem dX6_scanNumber_49 : decode cX6_scanNumber 49 = .ok (.istore_n 2, 1) := by decide +kernel
theorem dX6_scanNumber_50 : decode cX6_scanNumber 50 = .ok (.iinc 3 1, 3) := by decide +kernel
theorem dX6_scanNumber_53 : decode cX6_scanNumber 53 = .ok (.goto (-49), 3) := by decide +kernel
theorem dX6_scanNumber_56 : decode cX6_scanNumber 56 = .ok (.aload_n 0, 1) := by decide +kernel
theorem dX6_scanNumber_57 : decode cX6_scanNumber 57 = .ok (.iload_n 2, 1) := by decide +kernel
theorem dX6_scanNumber_58 : decode cX6_scanNumber 58 = .ok (.iconst (-1), 1) := by decide +kernel
theorem dX6_scanNumber_59 : decode cX6_scanNumber 59 = .ok (.if_icmp .ne 8, 3) := by decide +kernel
theorem dX6_scanNumber_62 : decode cX6_scanNumber 62 = .ok (.bipush 20, 2) := by decide +kernel
theorem dX6_scanNumber_64 : decode cX6_scanNumber 64 = .ok (.goto 5, 3) := by decide +kernel
theorem dX6_scanNumber_67 : decode cX6_scanNumber 67 = .ok (.bipush 18, 2) := by decide +kernel
theorem dX6_scanNumber_69 : decode cX6_scanNumber 69 = .ok (.iload_n 1, 1) := by decide +kernel
theorem dX6_scanNumber_70 : decode cX6_scanNumber 70 = .ok (.iload_n 2, 1) := by decide +kernel
theorem dX6_scanNumber_71 : decode cX6_scanNumber 71 = .ok (.iconst 0, 1) := by decide +kernel
theorem dX6_scanNumber_72 : decode cX6_scanNumber 72 = .ok (.invokestatic 158, 3) := by decide +kernel
theorem dX6_scanNumber_75 : decode cX6_scanNumber 75 = .ok (.invokevirtual 151, 3) := by decide +kernel
theorem dX6_scanNumber_78 : decode cX6_scanNumber 78 = .ok (.return_, 1) := by decide +kernel
theorem dX6_isLetter_0 : decode cX6_isLetter 0 = .ok (.iload_n 0, 1) := by decide +kernel
theorem dX6_isLetter_1 : decode cX6_isLetter 1 = .ok (.bipush 97, 2) := by decide +kernel
theorem dX6_isLetter_3 : decode cX6_isLetter 3 = .ok (.if_icmp .lt 9, 3) := by decide +kernel
theorem dX6_isLetter_6 : decode cX6_isLetter 6 = .ok (.iload_n 0, 1) := by decide +kernel
theorem dX6_isLetter_7 : decode cX6_isLetter 7 = .ok (.bipush 122, 2) := by decide +kernel
theorem dX6_isLetter_9 : decode cX6_isLetter 9 = .ok (.if_icmp .le 15, 3) := by decide +kernel
theorem dX6_isLetter_12 : decode cX6_isLetter 12 = .ok (.iload_n 0, 1) := by decide +kernel
theorem dX6_isLetter_13 : decode cX6_isLetter 13 = .ok (.bipush 65, 2) := by decide +kernel
theorem dX6_isLetter_15 : decode cX6_isLetter 15 = .ok (.if_icmp .lt 13, 3) := by decide +kernel
theorem dX6_isLetter_18 : decode cX6_isLetter 18 = .ok (.iload_n 0, 1) := by decide +kernel
theorem dX6_isLetter_19 : decode cX6_isLetter 19 = .ok (.bipush 90, 2) := by decide +kernel
theorem dX6_isLetter_21 : decode cX6_isLetter 21 = .ok (.if_icmp .gt 7, 3) := by decide +kernel
theorem dX6_isLetter_24 : decode cX6_isLetter 24 = .ok (.iconst 1, 1) := by decide +kernel
theorem dX6_isLetter_25 : decode cX6_isLetter 25 = .ok (.goto 4, 3) := by decide +kernel
theorem dX6_isLetter_28 : decode cX6_isLetter 28 = .ok (.iconst 0, 1) := by decide +kernel
theorem dX6_isLetter_29 : decode cX6_isLetter 29 = .ok (.ireturn, 1) := by decide +kernel
theorem dX6_isDigit_0 : decode cX6_isDigit 0 = .ok (.iload_n 0, 1) := by decide +kernel
theorem dX6_isDigit_1 : decode cX6_isDigit 1 = .ok (.bipush 48, 2) := by decide +kernel
theorem dX6_isDigit_3 : decode cX6_isDigit 3 = .ok (.if_icmp .lt 13, 3) := by decide +kernel
theorem dX6_isDigit_6 : decode cX6_isDigit 6 = .ok (.iload_n 0, 1) := by decide +kernel
theorem dX6_isDigit_7 : decode cX6_isDigit 7 = .ok (.bipush 57, 2) := by decide +kernel
theorem dX6_isDigit_9 : decode cX6_isDigit 9 = .ok (.if_icmp .gt 7, 3) := by decide +kernel
theorem dX6_isDigit_12 : decode cX6_isDigit 12 = .ok (.iconst 1, 1) := by decide +kernel
theorem dX6_isDigit_13 : decode cX6_isDigit 13 = .ok (.goto 4, 3) := by decide +kernel
theorem dX6_isDigit_16 : decode cX6_isDigit 16 = .ok (.iconst 0, 1) := by decide +kernel
theorem dX6_isDigit_17 : decode cX6_isDigit 17 = .ok (.ireturn, 1) := by decide +kernel
theorem dX6_isSign_0 : decode cX6_isSign 0 = .ok (.iload_n 0, 1) := by decide +kernel
theorem dX6_isSign_1 : decode cX6_isSign 1 = .ok (.tableswitch 109 40 62 #[107, 107, 107, 107, 109, 107, 109, 107, 109, 109, 109, 109, 109, 109, 109, 109, 109, 109, 109, 107, 107, 107, 107], 107) := by decide +kernel
theorem dX6_isSign_108 : decode cX6_isSign 108 = .ok (.iconst 1, 1) := by decide +kernel
theorem dX6_isSign_109 : decode cX6_isSign 109 = .ok (.ireturn, 1) := by decide +kernel
theorem dX6_isSign_110 : decode cX6_isSign 110 = .ok (.iconst 0, 1) := by decide +kernel
theorem dX6_isSign_111 : decode cX6_isSign 111 = .ok (.ireturn, 1) := by decide +kernel
theorem dX7_init_0 : decode cX7_init 0 = .ok (.aload_n 0, 1) := by decide +kernel
theorem dX7_init_1 : decode cX7_init 1 = .ok (.invokespecial 3, 3) := by decide +kernel
theorem dX7_init_4 : decode cX7_init 4 = .ok (.aload_n 0, 1) := by decide +kernel
theorem dX7_init_5 : decode cX7_init 5 = .ok (.sipush 144, 3) := by decide +kernel
theorem dX7_init_8 : decode cX7_init 8 = .ok (.newarray .int, 2) := by decide +kernel
theorem dX7_init_10 : decode cX7_init 10 = .ok (.putfield 9, 3) := by decide +kernel
theorem dX7_init_13 : decode cX7_init 13 = .ok (.aload_n 0, 1) := by decide +kernel
theorem dX7_init_14 : decode cX7_init 14 = .ok (.sipush 144, 3) := by decide +kernel
theorem dX7_init_17 : decode cX7_init 17 = .ok (.newarray .int, 2) := by decide +kernel
theorem dX7_init_19 : decode cX7_init 19 = .ok (.putfield 15, 3) := by decide +kernel
theorem dX7_init_22 : decode cX7_init 22 = .ok (.aload_n 0, 1) := by decide +kernel
theorem dX7_init_23 : decode cX7_init 23 = .ok (.sipush 144, 3) := by decide +kernel
theorem dX7_init_26 : decode cX7_init 26 = .ok (.newarray .int, 2) := by decide +kernel
theorem dX7_init_28 : decode cX7_init 28 = .ok (.putfield 18, 3) := by decide +kernel
theorem dX7_init_31 : decode cX7_init 31 = .ok (.aload_n 0, 1) := by decide +kernel
theorem dX7_init_32 : decode cX7_init 32 = .ok (.getfield 9, 3) := by decide +kernel
theorem dX7_init_35 : decode cX7_init 35 = .ok (.ldc 21, 2) := by decide +kernel
theorem dX7_init_37 : decode cX7_init 37 = .ok (.invokestatic 22, 3) := by decide +kernel
theorem dX7_init_40 : decode cX7_init 40 = .ok (.iconst 0, 1) := by decide +kernel
theorem dX7_init_41 : decode cX7_init 41 = .ok (.istore_n 1, 1) := by decide +kernel
theorem dX7_init_42 : decode cX7_init 42 = .ok (.iload_n 1, 1) := by decide +kernel
theorem dX7_init_43 : decode cX7_init 43 = .ok (.bipush 12, 2) := by decide +kernel
theorem dX7_init_45 : decode cX7_init 45 = .ok (.if_icmp .ge 21, 3) := by decide +kernel
theorem dX7_init_48 : decode cX7_init 48 = .ok (.aload_n 0, 1) := by decide +kernel
theorem dX7_init_49 : decode cX7_init 49 = .ok (.getfield 9, 3) := by decide +kernel
theorem dX7_init_52 : decode cX7_init 52 = .ok (.bipush 12, 2) := by decide +kernel
theorem dX7_init_54 : decode cX7_init 54 = .ok (.iload_n 1, 1) := by decide +kernel
theorem dX7_init_55 : decode cX7_init 55 = .ok (.imul, 1) := by decide +kernel
theorem dX7_init_56 : decode cX7_init 56 = .ok (.iload_n 1, 1) := by decide +kernel
theorem dX7_init_57 : decode cX7_init 57 = .ok (.iadd, 1) := by decide +kernel
theorem dX7_init_58 : decode cX7_init 58 = .ok (.iconst 0, 1) := by decide +kernel
theorem dX7_init_59 : decode cX7_init 59 = .ok (.iastore, 1) := by decide +kernel
theorem dX7_init_60 : decode cX7_init 60 = .ok (.iinc 1 1, 3) := by decide +kernel
theorem dX7_init_63 : decode cX7_init 63 = .ok (.goto (-21), 3) := by decide +kernel
theorem dX7_init_66 : decode cX7_init 66 = .ok (.aload_n 0, 1) := by decide +kernel
theorem dX7_init_67 : decode cX7_init 67 = .ok (.aload_n 0, 1) := by decide +kernel
theorem dX7_init_68 : decode cX7_init 68 = .ok (.getfield 15, 3) := by decide +kernel
theorem dX7_init_71 : decode cX7_init 71 = .ok (.iconst 0, 1) := by decide +kernel
theorem dX7_init_72 : decode cX7_init 72 = .ok (.invokevirtual 28, 3) := by decide +kernel
theorem dX7_init_75 : decode cX7_init 75 = .ok (.aload_n 0, 1) := by decide +kernel
theorem dX7_init_76 : decode cX7_init 76 = .ok (.aload_n 0, 1) := by decide +kernel
theorem dX7_init_77 : decode cX7_init 77 = .ok (.getfield 18, 3) := by decide +kernel
theorem dX7_init_80 : decode cX7_init 80 = .ok (.iconst 1, 1) := by decide +kernel
theorem dX7_init_81 : decode cX7_init 81 = .ok (.invokevirtual 28, 3) := by decide +kernel
theorem dX7_init_84 : decode cX7_init 84 = .ok (.return_, 1) := by decide +kernel
theorem dX7_has_0 : decode cX7_has 0 = .ok (.iload_n 1, 1) := by decide +kernel
theorem dX7_has_1 : decode cX7_has 1 = .ok (.ifCond .lt 15, 3) := by decide +kernel
theorem dX7_has_4 : decode cX7_has 4 = .ok (.iload_n 1, 1) := by decide +kernel
theorem dX7_has_5 : decode cX7_has 5 = .ok (.aload_n 0, 1) := by decide +kernel
theorem dX7_has_6 : decode cX7_has 6 = .ok (.getfield 31, 3) := by decide +kernel
theorem dX7_has_9 : decode cX7_has 9 = .ok (.if_icmp .ge 7, 3) := by decide +kernel
theorem dX7_has_12 : decode cX7_has 12 = .ok (.iconst 1, 1) := by decide +kernel
theorem dX7_has_13 : decode cX7_has 13 = .ok (.goto 4, 3) := by decide +kernel
theorem dX7_has_16 : decode cX7_has 16 = .ok (.iconst 0, 1) := by decide +kernel
theorem dX7_has_17 : decode cX7_has 17 = .ok (.ireturn, 1) := by decide +kernel
theorem dX7_lay_0 : decode cX7_lay 0 = .ok (.aload_n 0, 1) := by decide +kernel
theorem dX7_lay_1 : decode cX7_lay 1 = .ok (.getfield 9, 3) := by decide +kernel
theorem dX7_lay_4 : decode cX7_lay 4 = .ok (.bipush 12, 2) := by decide +kernel
theorem dX7_lay_6 : decode cX7_lay 6 = .ok (.iload_n 1, 1) := by decide +kernel
theorem dX7_lay_7 : decode cX7_lay 7 = .ok (.imul, 1) := by decide +kernel
theorem dX7_lay_8 : decode cX7_lay 8 = .ok (.iload_n 2, 1) := by decide +kernel
theorem dX7_lay_9 : decode cX7_lay 9 = .ok (.iadd, 1) := by decide +kernel
theorem dX7_lay_10 : decode cX7_lay 10 = .ok (.iload_n 3, 1) := by decide +kernel
theorem dX7_lay_11 : decode cX7_lay 11 = .ok (.iastore, 1) := by decide +kernel
theorem dX7_lay_12 : decode cX7_lay 12 = .ok (.aload_n 0, 1) := by decide +kernel
theorem dX7_lay_13 : decode cX7_lay 13 = .ok (.getfield 9, 3) := by decide +kernel
theorem dX7_lay_16 : decode cX7_lay 16 = .ok (.bipush 12, 2) := by decide +kernel
theorem dX7_lay_18 : decode cX7_lay 18 = .ok (.iload_n 2, 1) := by decide +kernel
theorem dX7_lay_19 : decode cX7_lay 19 = .ok (.imul, 1) := by decide +kernel
theorem dX7_lay_20 : decode cX7_lay 20 = .ok (.iload_n 1, 1) := by decide +kernel
theorem dX7_lay_21 : decode cX7_lay 21 = .ok (.iadd, 1) := by decide +kernel
theorem dX7_lay_22 : decode cX7_lay 22 = .ok (.iload_n 3, 1) := by decide +kernel
theorem dX7_lay_23 : decode cX7_lay 23 = .ok (.iastore, 1) := by decide +kernel
theorem dX7_lay_24 : decode cX7_lay 24 = .ok (.aload_n 0, 1) := by decide +kernel
theorem dX7_lay_25 : decode cX7_lay 25 = .ok (.aload_n 0, 1) := by decide +kernel
theorem dX7_lay_26 : decode cX7_lay 26 = .ok (.getfield 15, 3) := by decide +kernel
theorem dX7_lay_29 : decode cX7_lay 29 = .ok (.iconst 0, 1) := by decide +kernel
theorem dX7_lay_30 : decode cX7_lay 30 = .ok (.invokevirtual 28, 3) := by decide +kernel
theorem dX7_lay_33 : decode cX7_lay 33 = .ok (.aload_n 0, 1) := by decide +kernel
theorem dX7_lay_34 : decode cX7_lay 34 = .ok (.aload_n 0, 1) := by decide +kernel
theorem dX7_lay_35 : decode cX7_lay 35 = .ok (.getfield 18, 3) := by decide +kernel
theorem dX7_lay_38 : decode cX7_lay 38 = .ok (.iconst 1, 1) := by decide +kernel
theorem dX7_lay_39 : decode cX7_lay 39 = .ok (.invokevirtual 28, 3) := by decide +kernel
theorem dX7_lay_42 : decode cX7_lay 42 = .ok (.return_, 1) := by decide +kernel
theorem dX7_between_0 : decode cX7_between 0 = .ok (.aload_n 0, 1) := by decide +kernel
theorem dX7_between_1 : decode cX7_between 1 = .ok (.getfield 15, 3) := by decide +kernel
theorem dX7_between_4 : decode cX7_between 4 = .ok (.bipush 12, 2) := by decide +kernel
theorem dX7_between_6 : decode cX7_between 6 = .ok (.iload_n 1, 1) := by decide +kernel
theorem dX7_between_7 : decode cX7_between 7 = .ok (.imul, 1) := by decide +kernel
theorem dX7_between_8 : decode cX7_between 8 = .ok (.iload_n 2, 1) := by decide +kernel
theorem dX7_between_9 : decode cX7_between 9 = .ok (.iadd, 1) := by decide +kernel
theorem dX7_between_10 : decode cX7_between 10 = .ok (.iaload, 1) := by decide +kernel
theorem dX7_between_11 : decode cX7_between 11 = .ok (.istore_n 3, 1) := by decide +kernel
theorem dX7_between_12 : decode cX7_between 12 = .ok (.iload_n 3, 1) := by decide +kernel
theorem dX7_between_13 : decode cX7_between 13 = .ok (.ldc 21, 2) := by decide +kernel
theorem dX7_between_15 : decode cX7_between 15 = .ok (.if_icmp .lt 7, 3) := by decide +kernel
theorem dX7_between_18 : decode cX7_between 18 = .ok (.iconst (-1), 1) := by decide +kernel
theorem dX7_between_19 : decode cX7_between 19 = .ok (.goto 4, 3) := by decide +kernel
theorem dX7_between_22 : decode cX7_between 22 = .ok (.iload_n 3, 1) := by decide +kernel
theorem dX7_between_23 : decode cX7_between 23 = .ok (.ireturn, 1) := by decide +kernel
theorem dX7_isCross_0 : decode cX7_isCross 0 = .ok (.aload_n 0, 1) := by decide +kernel
theorem dX7_isCross_1 : decode cX7_isCross 1 = .ok (.getfield 15, 3) := by decide +kernel
theorem dX7_isCross_4 : decode cX7_isCross 4 = .ok (.bipush 12, 2) := by decide +kernel
theorem dX7_isCross_6 : decode cX7_isCross 6 = .ok (.iload_n 1, 1) := by decide +kernel
theorem dX7_isCross_7 : decode cX7_isCross 7 = .ok (.imul, 1) := by decide +kernel
theorem dX7_isCross_8 : decode cX7_isCross 8 = .ok (.iload_n 2, 1) := by decide +kernel
theorem dX7_isCross_9 : decode cX7_isCross 9 = .ok (.iadd, 1) := by decide +kernel
theorem dX7_isCross_10 : decode cX7_isCross 10 = .ok (.iaload, 1) := by decide +kernel
theorem dX7_isCross_11 : decode cX7_isCross 11 = .ok (.istore_n 3, 1) := by decide +kernel
theorem dX7_isCross_12 : decode cX7_isCross 12 = .ok (.iload_n 1, 1) := by decide +kernel
theorem dX7_isCross_13 : decode cX7_isCross 13 = .ok (.ifCond .eq 32, 3) := by decide +kernel
theorem dX7_isCross_16 : decode cX7_isCross 16 = .ok (.iload_n 2, 1) := by decide +kernel
theorem dX7_isCross_17 : decode cX7_isCross 17 = .ok (.ifCond .eq 28, 3) := by decide +kernel
theorem dX7_isCross_20 : decode cX7_isCross 20 = .ok (.iload_n 3, 1) := by decide +kernel
theorem dX7_isCross_21 : decode cX7_isCross 21 = .ok (.ldc 21, 2) := by decide +kernel
theorem dX7_isCross_23 : decode cX7_isCross 23 = .ok (.if_icmp .ge 22, 3) := by decide +kernel
theorem dX7_isCross_26 : decode cX7_isCross 26 = .ok (.aload_n 0, 1) := by decide +kernel
theorem dX7_isCross_27 : decode cX7_isCross 27 = .ok (.getfield 18, 3) := by decide +kernel
theorem dX7_isCross_30 : decode cX7_isCross 30 = .ok (.bipush 12, 2) := by decide +kernel
theorem dX7_isCross_32 : decode cX7_isCross 32 = .ok (.iload_n 1, 1) := by decide +kernel
theorem dX7_isCross_33 : decode cX7_isCross 33 = .ok (.imul, 1) := by decide +kernel
theorem dX7_isCross_34 : decode cX7_isCross 34 = .ok (.iload_n 2, 1) := by decide +kernel
theorem dX7_isCross_35 : decode cX7_isCross 35 = .ok (.iadd, 1) := by decide +kernel
theorem dX7_isCross_36 : decode cX7_isCross 36 = .ok (.iaload, 1) := by decide +kernel
theorem dX7_isCross_37 : decode cX7_isCross 37 = .ok (.iload_n 3, 1) := by decide +kernel
theorem dX7_isCross_38 : decode cX7_isCross 38 = .ok (.if_icmp .ne 7, 3) := by decide +kernel
theorem dX7_isCross_41 : decode cX7_isCross 41 = .ok (.iconst 1, 1) := by decide +kernel
theorem dX7_isCross_42 : decode cX7_isCross 42 = .ok (.goto 4, 3) := by decide +kernel
theorem dX7_isCross_45 : decode cX7_isCross 45 = .ok (.iconst 0, 1) := by decide +kernel
theorem dX7_isCross_46 : decode cX7_isCross 46 = .ok (.ireturn, 1) := by decide +kernel
theorem dX7_reckon_0 : decode cX7_reckon 0 = .ok (.aload_n 0, 1) := by decide +kernel
theorem dX7_reckon_1 : decode cX7_reckon 1 = .ok (.getfield 9, 3) := by decide +kernel
theorem dX7_reckon_4 : decode cX7_reckon 4 = .ok (.iconst 0, 1) := by decide +kernel
theorem dX7_reckon_5 : decode cX7_reckon 5 = .ok (.aload_n 1, 1) := by decide +kernel
theorem dX7_reckon_6 : decode cX7_reckon 6 = .ok (.iconst 0, 1) := by decide +kernel
theorem dX7_reckon_7 : decode cX7_reckon 7 = .ok (.sipush 144, 3) := by decide +kernel
theorem dX7_reckon_10 : decode cX7_reckon 10 = .ok (.invokestatic 35, 3) := by decide +kernel
theorem dX7_reckon_13 : decode cX7_reckon 13 = .ok (.iload_n 2, 1) := by decide +kernel
theorem dX7_reckon_14 : decode cX7_reckon 14 = .ok (.istore_n 3, 1) := by decide +kernel
theorem dX7_reckon_15 : decode cX7_reckon 15 = .ok (.iload_n 3, 1) := by decide +kernel
theorem dX7_reckon_16 : decode cX7_reckon 16 = .ok (.bipush 12, 2) := by decide +kernel
theorem dX7_reckon_18 : decode cX7_reckon 18 = .ok (.if_icmp .ge 87, 3) := by decide +kernel
theorem dX7_reckon_21 : decode cX7_reckon 21 = .ok (.iconst 0, 1) := by decide +kernel
theorem dX7_reckon_22 : decode cX7_reckon 22 = .ok (.istore 4, 2) := by decide +kernel
theorem dX7_reckon_24 : decode cX7_reckon 24 = .ok (.iload 4, 2) := by decide +kernel
theorem dX7_reckon_26 : decode cX7_reckon 26 = .ok (.bipush 12, 2) := by decide +kernel
theorem dX7_reckon_28 : decode cX7_reckon 28 = .ok (.if_icmp .ge 71, 3) := by decide +kernel
theorem dX7_reckon_31 : decode cX7_reckon 31 = .ok (.iconst 0, 1) := by decide +kernel
theorem dX7_reckon_32 : decode cX7_reckon 32 = .ok (.istore 5, 2) := by decide +kernel
theorem dX7_reckon_34 : decode cX7_reckon 34 = .ok (.iload 5, 2) := by decide +kernel
theorem dX7_reckon_36 : decode cX7_reckon 36 = .ok (.bipush 12, 2) := by decide +kernel
theorem dX7_reckon_38 : decode cX7_reckon 38 = .ok (.if_icmp .ge 55, 3) := by decide +kernel
theorem dX7_reckon_41 : decode cX7_reckon 41 = .ok (.aload_n 1, 1) := by decide +kernel
theorem dX7_reckon_42 : decode cX7_reckon 42 = .ok (.bipush 12, 2) := by decide +kernel
theorem dX7_reckon_44 : decode cX7_reckon 44 = .ok (.iload 4, 2) := by decide +kernel
theorem dX7_reckon_46 : decode cX7_reckon 46 = .ok (.imul, 1) := by decide +kernel
theorem dX7_reckon_47 : decode cX7_reckon 47 = .ok (.iload_n 3, 1) := by decide +kernel
theorem dX7_reckon_48 : decode cX7_reckon 48 = .ok (.iadd, 1) := by decide +kernel
theorem dX7_reckon_49 : decode cX7_reckon 49 = .ok (.iaload, 1) := by decide +kernel
theorem dX7_reckon_50 : decode cX7_reckon 50 = .ok (.aload_n 1, 1) := by decide +kernel
theorem dX7_reckon_51 : decode cX7_reckon 51 = .ok (.bipush 12, 2) := by decide +kernel
theorem dX7_reckon_53 : decode cX7_reckon 53 = .ok (.iload_n 3, 1) := by decide +kernel
theorem dX7_reckon_54 : decode cX7_reckon 54 = .ok (.imul, 1) := by decide +kernel
theorem dX7_reckon_55 : decode cX7_reckon 55 = .ok (.iload 5, 2) := by decide +kernel
theorem dX7_reckon_57 : decode cX7_reckon 57 = .ok (.iadd, 1) := by decide +kernel
theorem dX7_reckon_58 : decode cX7_reckon 58 = .ok (.iaload, 1) := by decide +kernel
theorem dX7_reckon_59 : decode cX7_reckon 59 = .ok (.iadd, 1) := by decide +kernel
theorem dX7_reckon_60 : decode cX7_reckon 60 = .ok (.istore 6, 2) := by decide +kernel
theorem dX7_reckon_62 : decode cX7_reckon 62 = .ok (.aload_n 1, 1) := by decide +kernel
theorem dX7_reckon_63 : decode cX7_reckon 63 = .ok (.bipush 12, 2) := by decide +kernel
theorem dX7_reckon_65 : decode cX7_reckon 65 = .ok (.iload 4, 2) := by decide +kernel
theorem dX7_reckon_67 : decode cX7_reckon 67 = .ok (.imul, 1) := by decide +kernel
theorem dX7_reckon_68 : decode cX7_reckon 68 = .ok (.iload 5, 2) := by decide +kernel
theorem dX7_reckon_70 : decode cX7_reckon 70 = .ok (.iadd, 1) := by decide +kernel
theorem dX7_reckon_71 : decode cX7_reckon 71 = .ok (.aload_n 1, 1) := by decide +kernel
theorem dX7_reckon_72 : decode cX7_reckon 72 = .ok (.bipush 12, 2) := by decide +kernel
theorem dX7_reckon_74 : decode cX7_reckon 74 = .ok (.iload 4, 2) := by decide +kernel
theorem dX7_reckon_76 : decode cX7_reckon 76 = .ok (.imul, 1) := by decide +kernel
theorem dX7_reckon_77 : decode cX7_reckon 77 = .ok (.iload 5, 2) := by decide +kernel
theorem dX7_reckon_79 : decode cX7_reckon 79 = .ok (.iadd, 1) := by decide +kernel
theorem dX7_reckon_80 : decode cX7_reckon 80 = .ok (.iaload, 1) := by decide +kernel
theorem dX7_reckon_81 : decode cX7_reckon 81 = .ok (.iload 6, 2) := by decide +kernel
theorem dX7_reckon_83 : decode cX7_reckon 83 = .ok (.invokestatic 41, 3) := by decide +kernel
theorem dX7_reckon_86 : decode cX7_reckon 86 = .ok (.iastore, 1) := by decide +kernel
theorem dX7_reckon_87 : decode cX7_reckon 87 = .ok (.iinc 5 1, 3) := by decide +kernel
theorem dX7_reckon_90 : decode cX7_reckon 90 = .ok (.goto (-56), 3) := by decide +kernel
theorem dX7_reckon_93 : decode cX7_reckon 93 = .ok (.iinc 4 1, 3) := by decide +kernel
theorem dX7_reckon_96 : decode cX7_reckon 96 = .ok (.goto (-72), 3) := by decide +kernel
theorem dX7_reckon_99 : decode cX7_reckon 99 = .ok (.iinc 3 1, 3) := by decide +kernel
theorem dX7_reckon_102 : decode cX7_reckon 102 = .ok (.goto (-87), 3) := by decide +kernel
theorem dX7_reckon_105 : decode cX7_reckon 105 = .ok (.return_, 1) := by decide +kernel
theorem dX8_init_0 : decode cX8_init 0 = .ok (.aload_n 0, 1) := by decide +kernel
theorem dX8_init_1 : decode cX8_init 1 = .ok (.invokespecial 3, 3) := by decide +kernel
theorem dX8_init_4 : decode cX8_init 4 = .ok (.aload_n 0, 1) := by decide +kernel
theorem dX8_init_5 : decode cX8_init 5 = .ok (.new 9, 3) := by decide +kernel
theorem dX8_init_8 : decode cX8_init 8 = .ok (.dup, 1) := by decide +kernel
theorem dX8_init_9 : decode cX8_init 9 = .ok (.invokespecial 11, 3) := by decide +kernel
theorem dX8_init_12 : decode cX8_init 12 = .ok (.putfield 12, 3) := by decide +kernel
theorem dX8_init_15 : decode cX8_init 15 = .ok (.aload_n 0, 1) := by decide +kernel
theorem dX8_init_16 : decode cX8_init 16 = .ok (.bipush 6, 2) := by decide +kernel
theorem dX8_init_18 : decode cX8_init 18 = .ok (.anewarray 18, 3) := by decide +kernel
theorem dX8_init_21 : decode cX8_init 21 = .ok (.putfield 20, 3) := by decide +kernel
theorem dX8_init_24 : decode cX8_init 24 = .ok (.aload_n 0, 1) := by decide +kernel
theorem dX8_init_25 : decode cX8_init 25 = .ok (.bipush 7, 2) := by decide +kernel
theorem dX8_init_27 : decode cX8_init 27 = .ok (.newarray .int, 2) := by decide +kernel
theorem dX8_init_29 : decode cX8_init 29 = .ok (.putfield 24, 3) := by decide +kernel
theorem dX8_init_32 : decode cX8_init 32 = .ok (.aload_n 0, 1) := by decide +kernel
theorem dX8_init_33 : decode cX8_init 33 = .ok (.bipush 64, 2) := by decide +kernel
theorem dX8_init_35 : decode cX8_init 35 = .ok (.newarray .int, 2) := by decide +kernel
theorem dX8_init_37 : decode cX8_init 37 = .ok (.putfield 28, 3) := by decide +kernel
theorem dX8_init_40 : decode cX8_init 40 = .ok (.iconst 0, 1) := by decide +kernel
theorem dX8_init_41 : decode cX8_init 41 = .ok (.istore_n 1, 1) := by decide +kernel
theorem dX8_init_42 : decode cX8_init 42 = .ok (.iload_n 1, 1) := by decide +kernel
theorem dX8_init_43 : decode cX8_init 43 = .ok (.bipush 6, 2) := by decide +kernel
theorem dX8_init_45 : decode cX8_init 45 = .ok (.if_icmp .ge 22, 3) := by decide +kernel
theorem dX8_init_48 : decode cX8_init 48 = .ok (.aload_n 0, 1) := by decide +kernel
theorem dX8_init_49 : decode cX8_init 49 = .ok (.getfield 20, 3) := by decide +kernel
theorem dX8_init_52 : decode cX8_init 52 = .ok (.iload_n 1, 1) := by decide +kernel
theorem dX8_init_53 : decode cX8_init 53 = .ok (.new 18, 3) := by decide +kernel
theorem dX8_init_56 : decode cX8_init 56 = .ok (.dup, 1) := by decide +kernel
theorem dX8_init_57 : decode cX8_init 57 = .ok (.invokespecial 31, 3) := by decide +kernel
theorem dX8_init_60 : decode cX8_init 60 = .ok (.aastore, 1) := by decide +kernel
theorem dX8_init_61 : decode cX8_init 61 = .ok (.iinc 1 1, 3) := by decide +kernel
theorem dX8_init_64 : decode cX8_init 64 = .ok (.goto (-22), 3) := by decide +kernel
theorem dX8_init_67 : decode cX8_init 67 = .ok (.return_, 1) := by decide +kernel
theorem dX8_mayBegin_0 : decode cX8_mayBegin 0 = .ok (.aload_n 0, 1) := by decide +kernel
theorem dX8_mayBegin_1 : decode cX8_mayBegin 1 = .ok (.getfield 32, 3) := by decide +kernel
theorem dX8_mayBegin_4 : decode cX8_mayBegin 4 = .ok (.ifCond .le 20, 3) := by decide +kernel
theorem dX8_mayBegin_7 : decode cX8_mayBegin 7 = .ok (.aload_n 0, 1) := by decide +kernel
theorem dX8_mayBegin_8 : decode cX8_mayBegin 8 = .ok (.getfield 20, 3) := by decide +kernel
theorem dX8_mayBegin_11 : decode cX8_mayBegin 11 = .ok (.aload_n 0, 1) := by decide +kernel
theorem dX8_mayBegin_12 : decode cX8_mayBegin 12 = .ok (.getfield 32, 3) := by decide +kernel
theorem dX8_mayBegin_15 : decode cX8_mayBegin 15 = .ok (.iconst 1, 1) := by decide +kernel
theorem dX8_mayBegin_16 : decode cX8_mayBegin 16 = .ok (.isub, 1) := by decide +kernel
theorem dX8_mayBegin_17 : decode cX8_mayBegin 17 = .ok (.aaload, 1) := by decide +kernel
theorem dX8_mayBegin_18 : decode cX8_mayBegin 18 = .ok (.getfield 36, 3) := by decide +kernel
theorem dX8_mayBegin_21 : decode cX8_mayBegin 21 = .ok (.goto 4, 3) := by decide +kernel
theorem dX8_mayBegin_24 : decode cX8_mayBegin 24 = .ok (.iconst 0, 1) := by decide +kernel
theorem dX8_mayBegin_25 : decode cX8_mayBegin 25 = .ok (.istore_n 2, 1) := by decide +kernel
theorem dX8_mayBegin_26 : decode cX8_mayBegin 26 = .ok (.aload_n 0, 1) := by decide +kernel
theorem dX8_mayBegin_27 : decode cX8_mayBegin 27 = .ok (.getfield 32, 3) := by decide +kernel
theorem dX8_mayBegin_30 : decode cX8_mayBegin 30 = .ok (.bipush 6, 2) := by decide +kernel
theorem dX8_mayBegin_32 : decode cX8_mayBegin 32 = .ok (.if_icmp .ge 18, 3) := by decide +kernel
theorem dX8_mayBegin_35 : decode cX8_mayBegin 35 = .ok (.iload_n 1, 1) := by decide +kernel
theorem dX8_mayBegin_36 : decode cX8_mayBegin 36 = .ok (.iload_n 2, 1) := by decide +kernel
theorem dX8_mayBegin_37 : decode cX8_mayBegin 37 = .ok (.if_icmp .lt 13, 3) := by decide +kernel
theorem dX8_mayBegin_40 : decode cX8_mayBegin 40 = .ok (.iload_n 1, 1) := by decide +kernel
theorem dX8_mayBegin_41 : decode cX8_mayBegin 41 = .ok (.bipush 7, 2) := by decide +kernel
theorem dX8_mayBegin_43 : decode cX8_mayBegin 43 = .ok (.if_icmp .ge 7, 3) := by decide +kernel
theorem dX8_mayBegin_46 : decode cX8_mayBegin 46 = .ok (.iconst 1, 1) := by decide +kernel
theorem dX8_mayBegin_47 : decode cX8_mayBegin 47 = .ok (.goto 4, 3) := by decide +kernel
theorem dX8_mayBegin_50 : decode cX8_mayBegin 50 = .ok (.iconst 0, 1) := by decide +kernel
theorem dX8_mayBegin_51 : decode cX8_mayBegin 51 = .ok (.ireturn, 1) := by decide +kernel
theorem dX8_next_0 : decode cX8_next 0 = .ok (.aload_n 0, 1) := by decide +kernel
theorem dX8_next_1 : decode cX8_next 1 = .ok (.getfield 20, 3) := by decide +kernel
theorem dX8_next_4 : decode cX8_next 4 = .ok (.aload_n 0, 1) := by decide +kernel
theorem dX8_next_5 : decode cX8_next 5 = .ok (.getfield 32, 3) := by decide +kernel
theorem dX8_next_8 : decode cX8_next 8 = .ok (.aaload, 1) := by decide +kernel
theorem dX8_next_9 : decode cX8_next 9 = .ok (.iload_n 1, 1) := by decide +kernel
theorem dX8_next_10 : decode cX8_next 10 = .ok (.invokevirtual 39, 3) := by decide +kernel
theorem dX8_next_13 : decode cX8_next 13 = .ok (.aload_n 0, 1) := by decide +kernel
theorem dX8_next_14 : decode cX8_next 14 = .ok (.getfield 20, 3) := by decide +kernel
theorem dX8_next_17 : decode cX8_next 17 = .ok (.aload_n 0, 1) := by decide +kernel
theorem dX8_next_18 : decode cX8_next 18 = .ok (.getfield 32, 3) := by decide +kernel
theorem dX8_next_21 : decode cX8_next 21 = .ok (.aaload, 1) := by decide +kernel
theorem dX8_next_22 : decode cX8_next 22 = .ok (.areturn, 1) := by decide +kernel
theorem dX8_add_0 : decode cX8_add 0 = .ok (.aload_n 0, 1) := by decide +kernel
theorem dX8_add_1 : decode cX8_add 1 = .ok (.dup, 1) := by decide +kernel
theorem dX8_add_2 : decode cX8_add 2 = .ok (.getfield 32, 3) := by decide +kernel
theorem dX8_add_5 : decode cX8_add 5 = .ok (.iconst 1, 1) := by decide +kernel
theorem dX8_add_6 : decode cX8_add 6 = .ok (.iadd, 1) := by decide +kernel
theorem dX8_add_7 : decode cX8_add 7 = .ok (.putfield 32, 3) := by decide +kernel
theorem dX8_add_10 : decode cX8_add 10 = .ok (.aload_n 0, 1) := by decide +kernel
theorem dX8_add_11 : decode cX8_add 11 = .ok (.getfield 32, 3) := by decide +kernel
theorem dX8_add_14 : decode cX8_add 14 = .ok (.iconst 1, 1) := by decide +kernel
theorem dX8_add_15 : decode cX8_add 15 = .ok (.isub, 1) := by decide +kernel
theorem dX8_add_16 : decode cX8_add 16 = .ok (.ireturn, 1) := by decide +kernel
theorem dX8_actOf_0 : decode cX8_actOf 0 = .ok (.iload_n 1, 1) := by decide +kernel
theorem dX8_actOf_1 : decode cX8_actOf 1 = .ok (.ifCond .lt 20, 3) := by decide +kernel
theorem dX8_actOf_4 : decode cX8_actOf 4 = .ok (.iload_n 1, 1) := by decide +kernel
theorem dX8_actOf_5 : decode cX8_actOf 5 = .ok (.aload_n 0, 1) := by decide +kernel
theorem dX8_actOf_6 : decode cX8_actOf 6 = .ok (.getfield 32, 3) := by decide +kernel
theorem dX8_actOf_9 : decode cX8_actOf 9 = .ok (.if_icmp .ge 12, 3) := by decide +kernel
theorem dX8_actOf_12 : decode cX8_actOf 12 = .ok (.aload_n 0, 1) := by decide +kernel
theorem dX8_actOf_13 : decode cX8_actOf 13 = .ok (.getfield 20, 3) := by decide +kernel
theorem dX8_actOf_16 : decode cX8_actOf 16 = .ok (.iload_n 1, 1) := by decide +kernel
theorem dX8_actOf_17 : decode cX8_actOf 17 = .ok (.aaload, 1) := by decide +kernel
theorem dX8_actOf_18 : decode cX8_actOf 18 = .ok (.goto 4, 3) := by decide +kernel
theorem dX8_actOf_21 : decode cX8_actOf 21 = .ok (.aconst_null, 1) := by decide +kernel
theorem dX8_actOf_22 : decode cX8_actOf 22 = .ok (.areturn, 1) := by decide +kernel
theorem dX8_numberOn_0 : decode cX8_numberOn 0 = .ok (.iconst (-1), 1) := by decide +kernel
theorem dX8_numberOn_1 : decode cX8_numberOn 1 = .ok (.istore_n 2, 1) := by decide +kernel
theorem dX8_numberOn_2 : decode cX8_numberOn 2 = .ok (.iconst 0, 1) := by decide +kernel
theorem dX8_numberOn_3 : decode cX8_numberOn 3 = .ok (.istore_n 3, 1) := by decide +kernel
theorem dX8_numberOn_4 : decode cX8_numberOn 4 = .ok (.iload_n 3, 1) := by decide +kernel
theorem dX8_numberOn_5 : decode cX8_numberOn 5 = .ok (.aload_n 0, 1) := by decide +kernel
theorem dX8_numberOn_6 : decode cX8_numberOn 6 = .ok (.getfield 32, 3) := by decide +kernel
theorem dX8_numberOn_9 : decode cX8_numberOn 9 = .ok (.if_icmp .ge 24, 3) := by decide +kernel
theorem dX8_numberOn_12 : decode cX8_numberOn 12 = .ok (.aload_n 0, 1) := by decide +kernel
theorem dX8_numberOn_13 : decode cX8_numberOn 13 = .ok (.getfield 20, 3) := by decide +kernel
theorem dX8_numberOn_16 : decode cX8_numberOn 16 = .ok (.iload_n 3, 1) := by decide +kernel
theorem dX8_numberOn_17 : decode cX8_numberOn 17 = .ok (.aaload, 1) := by decide +kernel
theorem dX8_numberOn_18 : decode cX8_numberOn 18 = .ok (.getfield 36, 3) := by decide +kernel
theorem dX8_numberOn_21 : decode cX8_numberOn 21 = .ok (.iload_n 1, 1) := by decide +kernel
theorem dX8_numberOn_22 : decode cX8_numberOn 22 = .ok (.if_icmp .gt 5, 3) := by decide +kernel
theorem dX8_numberOn_25 : decode cX8_numberOn 25 = .ok (.iload_n 3, 1) := by decide +kernel
theorem dX8_numberOn_26 : decode cX8_numberOn 26 = .ok (.istore_n 2, 1) := by decide +kernel
theorem dX8_numberOn_27 : decode cX8_numberOn 27 = .ok (.iinc 3 1, 3) := by decide +kernel
theorem dX8_numberOn_30 : decode cX8_numberOn 30 = .ok (.goto (-26), 3) := by decide +kernel
theorem dX8_numberOn_33 : decode cX8_numberOn 33 = .ok (.iload_n 2, 1) := by decide +kernel
theorem dX8_numberOn_34 : decode cX8_numberOn 34 = .ok (.ireturn, 1) := by decide +kernel
theorem dX8_price_0 : decode cX8_price 0 = .ok (.aload_n 1, 1) := by decide +kernel
theorem dX8_price_1 : decode cX8_price 1 = .ok (.aload_n 0, 1) := by decide +kernel
theorem dX8_price_2 : decode cX8_price 2 = .ok (.aload_n 1, 1) := by decide +kernel
theorem dX8_price_3 : decode cX8_price 3 = .ok (.invokevirtual 43, 3) := by decide +kernel
theorem dX8_price_6 : decode cX8_price 6 = .ok (.invokevirtual 49, 3) := by decide +kernel
theorem dX8_price_9 : decode cX8_price 9 = .ok (.putfield 53, 3) := by decide +kernel
theorem dX8_price_12 : decode cX8_price 12 = .ok (.aload_n 0, 1) := by decide +kernel
theorem dX8_price_13 : decode cX8_price 13 = .ok (.aload_n 1, 1) := by decide +kernel
theorem dX8_price_14 : decode cX8_price 14 = .ok (.getfield 53, 3) := by decide +kernel
theorem dX8_price_17 : decode cX8_price 17 = .ok (.invokevirtual 56, 3) := by decide +kernel
theorem dX8_price_20 : decode cX8_price 20 = .ok (.astore_n 2, 1) := by decide +kernel
theorem dX8_price_21 : decode cX8_price 21 = .ok (.aload_n 2, 1) := by decide +kernel
theorem dX8_price_22 : decode cX8_price 22 = .ok (.ifnonnull 4, 3) := by decide +kernel
theorem dX8_price_25 : decode cX8_price 25 = .ok (.return_, 1) := by decide +kernel
theorem dX8_price_26 : decode cX8_price 26 = .ok (.aload_n 1, 1) := by decide +kernel
theorem dX8_price_27 : decode cX8_price 27 = .ok (.aload_n 2, 1) := by decide +kernel
theorem dX8_price_28 : decode cX8_price 28 = .ok (.getfield 60, 3) := by decide +kernel
theorem dX8_price_31 : decode cX8_price 31 = .ok (.putfield 63, 3) := by decide +kernel
theorem dX8_price_34 : decode cX8_price 34 = .ok (.aload_n 1, 1) := by decide +kernel
theorem dX8_price_35 : decode cX8_price 35 = .ok (.aload_n 2, 1) := by decide +kernel
theorem dX8_price_36 : decode cX8_price 36 = .ok (.aload_n 1, 1) := by decide +kernel
theorem dX8_price_37 : decode cX8_price 37 = .ok (.invokestatic 66, 3) := by decide +kernel
theorem dX8_price_40 : decode cX8_price 40 = .ok (.putfield 70, 3) := by decide +kernel
theorem dX8_price_43 : decode cX8_price 43 = .ok (.aload_n 1, 1) := by decide +kernel
theorem dX8_price_44 : decode cX8_price 44 = .ok (.aload_n 0, 1) := by decide +kernel
theorem dX8_price_45 : decode cX8_price 45 = .ok (.aload_n 2, 1) := by decide +kernel
theorem dX8_price_46 : decode cX8_price 46 = .ok (.aload_n 1, 1) := by decide +kernel
theorem dX8_price_47 : decode cX8_price 47 = .ok (.invokevirtual 74, 3) := by decide +kernel
theorem dX8_price_50 : decode cX8_price 50 = .ok (.putfield 78, 3) := by decide +kernel
theorem dX8_price_53 : decode cX8_price 53 = .ok (.aload_n 1, 1) := by decide +kernel
theorem dX8_price_54 : decode cX8_price 54 = .ok (.aload_n 1, 1) := by decide +kernel
theorem dX8_price_55 : decode cX8_price 55 = .ok (.getfield 70, 3) := by decide +kernel
theorem dX8_price_58 : decode cX8_price 58 = .ok (.ifCond .eq 7, 3) := by decide +kernel
theorem dX8_price_61 : decode cX8_price 61 = .ok (.iconst (-1), 1) := by decide +kernel
theorem dX8_price_62 : decode cX8_price 62 = .ok (.goto 9, 3) := by decide +kernel
theorem dX8_price_65 : decode cX8_price 65 = .ok (.aload_n 0, 1) := by decide +kernel
theorem dX8_price_66 : decode cX8_price 66 = .ok (.aload_n 2, 1) := by decide +kernel
theorem dX8_price_67 : decode cX8_price 67 = .ok (.aload_n 1, 1) := by decide +kernel
theorem dX8_price_68 : decode cX8_price 68 = .ok (.invokevirtual 81, 3) := by decide +kernel
theorem dX8_price_71 : decode cX8_price 71 = .ok (.putfield 84, 3) := by decide +kernel
theorem dX8_price_74 : decode cX8_price 74 = .ok (.return_, 1) := by decide +kernel
theorem dX8_chargeBy_0 : decode cX8_chargeBy 0 = .ok (.aload_n 1, 1) := by decide +kernel
theorem dX8_chargeBy_1 : decode cX8_chargeBy 1 = .ok (.aload_n 2, 1) := by decide +kernel
theorem dX8_chargeBy_2 : decode cX8_chargeBy 2 = .ok (.invokestatic 66, 3) := by decide +kernel
theorem dX8_chargeBy_5 : decode cX8_chargeBy 5 = .ok (.ifCond .eq 5, 3) := by decide +kernel
theorem dX8_chargeBy_8 : decode cX8_chargeBy 8 = .ok (.iconst 0, 1) := by decide +kernel
theorem dX8_chargeBy_9 : decode cX8_chargeBy 9 = .ok (.ireturn, 1) := by decide +kernel
theorem dX8_chargeBy_10 : decode cX8_chargeBy 10 = .ok (.aload_n 0, 1) := by decide +kernel
theorem dX8_chargeBy_11 : decode cX8_chargeBy 11 = .ok (.aload_n 1, 1) := by decide +kernel
theorem dX8_chargeBy_12 : decode cX8_chargeBy 12 = .ok (.aload_n 2, 1) := by decide +kernel
theorem dX8_chargeBy_13 : decode cX8_chargeBy 13 = .ok (.invokevirtual 81, 3) := by decide +kernel
theorem dX8_chargeBy_16 : decode cX8_chargeBy 16 = .ok (.istore_n 3, 1) := by decide +kernel
theorem dX8_chargeBy_17 : decode cX8_chargeBy 17 = .ok (.iconst 0, 1) := by decide +kernel
theorem dX8_chargeBy_18 : decode cX8_chargeBy 18 = .ok (.istore 4, 2) := by decide +kernel
theorem dX8_chargeBy_20 : decode cX8_chargeBy 20 = .ok (.iload_n 3, 1) := by decide +kernel
theorem dX8_chargeBy_21 : decode cX8_chargeBy 21 = .ok (.iconst (-1), 1) := by decide +kernel
theorem dX8_chargeBy_22 : decode cX8_chargeBy 22 = .ok (.if_icmp .eq 24, 3) := by decide +kernel
theorem dX8_chargeBy_25 : decode cX8_chargeBy 25 = .ok (.aload_n 0, 1) := by decide +kernel
theorem dX8_chargeBy_26 : decode cX8_chargeBy 26 = .ok (.aload_n 1, 1) := by decide +kernel
theorem dX8_chargeBy_27 : decode cX8_chargeBy 27 = .ok (.getfield 87, 3) := by decide +kernel
theorem dX8_chargeBy_30 : decode cX8_chargeBy 30 = .ok (.iload_n 3, 1) := by decide +kernel
theorem dX8_chargeBy_31 : decode cX8_chargeBy 31 = .ok (.iaload, 1) := by decide +kernel
theorem dX8_chargeBy_32 : decode cX8_chargeBy 32 = .ok (.invokevirtual 90, 3) := by decide +kernel
theorem dX8_chargeBy_35 : decode cX8_chargeBy 35 = .ok (.iconst 0, 1) := by decide +kernel
theorem dX8_chargeBy_36 : decode cX8_chargeBy 36 = .ok (.invokestatic 93, 3) := by decide +kernel
theorem dX8_chargeBy_39 : decode cX8_chargeBy 39 = .ok (.ldc 99, 2) := by decide +kernel
theorem dX8_chargeBy_41 : decode cX8_chargeBy 41 = .ok (.invokestatic 100, 3) := by decide +kernel
theorem dX8_chargeBy_44 : decode cX8_chargeBy 44 = .ok (.istore 4, 2) := by decide +kernel
theorem dX8_chargeBy_46 : decode cX8_chargeBy 46 = .ok (.aload_n 2, 1) := by decide +kernel
theorem dX8_chargeBy_47 : decode cX8_chargeBy 47 = .ok (.getfield 103, 3) := by decide +kernel
theorem dX8_chargeBy_50 : decode cX8_chargeBy 50 = .ok (.sipush 1440, 3) := by decide +kernel
theorem dX8_chargeBy_53 : decode cX8_chargeBy 53 = .ok (.irem, 1) := by decide +kernel
theorem dX8_chargeBy_54 : decode cX8_chargeBy 54 = .ok (.aload_n 1, 1) := by decide +kernel
theorem dX8_chargeBy_55 : decode cX8_chargeBy 55 = .ok (.getfield 106, 3) := by decide +kernel
theorem dX8_chargeBy_58 : decode cX8_chargeBy 58 = .ok (.if_icmp .le 12, 3) := by decide +kernel
theorem dX8_chargeBy_61 : decode cX8_chargeBy 61 = .ok (.iload 4, 2) := by decide +kernel
theorem dX8_chargeBy_63 : decode cX8_chargeBy 63 = .ok (.aload_n 1, 1) := by decide +kernel
theorem dX8_chargeBy_64 : decode cX8_chargeBy 64 = .ok (.getfield 109, 3) := by decide +kernel
theorem dX8_chargeBy_67 : decode cX8_chargeBy 67 = .ok (.iadd, 1) := by decide +kernel
theorem dX8_chargeBy_68 : decode cX8_chargeBy 68 = .ok (.istore 4, 2) := by decide +kernel
theorem dX8_chargeBy_70 : decode cX8_chargeBy 70 = .ok (.aload_n 2, 1) := by decide +kernel
theorem dX8_chargeBy_71 : decode cX8_chargeBy 71 = .ok (.getfield 112, 3) := by decide +kernel
theorem dX8_chargeBy_74 : decode cX8_chargeBy 74 = .ok (.iconst 3, 1) := by decide +kernel
theorem dX8_chargeBy_75 : decode cX8_chargeBy 75 = .ok (.if_icmp .ne 12, 3) := by decide +kernel
theorem dX8_chargeBy_78 : decode cX8_chargeBy 78 = .ok (.iload 4, 2) := by decide +kernel
theorem dX8_chargeBy_80 : decode cX8_chargeBy 80 = .ok (.aload_n 1, 1) := by decide +kernel
theorem dX8_chargeBy_81 : decode cX8_chargeBy 81 = .ok (.getfield 115, 3) := by decide +kernel
theorem dX8_chargeBy_84 : decode cX8_chargeBy 84 = .ok (.iadd, 1) := by decide +kernel
theorem dX8_chargeBy_85 : decode cX8_chargeBy 85 = .ok (.istore 4, 2) := by decide +kernel
theorem dX8_chargeBy_87 : decode cX8_chargeBy 87 = .ok (.aload_n 2, 1) := by decide +kernel
theorem dX8_chargeBy_88 : decode cX8_chargeBy 88 = .ok (.getfield 112, 3) := by decide +kernel
theorem dX8_chargeBy_91 : decode cX8_chargeBy 91 = .ok (.iconst 4, 1) := by decide +kernel
theorem dX8_chargeBy_92 : decode cX8_chargeBy 92 = .ok (.if_icmp .ne 12, 3) := by decide +kernel
theorem dX8_chargeBy_95 : decode cX8_chargeBy 95 = .ok (.iload 4, 2) := by decide +kernel
theorem dX8_chargeBy_97 : decode cX8_chargeBy 97 = .ok (.aload_n 1, 1) := by decide +kernel
theorem dX8_chargeBy_98 : decode cX8_chargeBy 98 = .ok (.getfield 118, 3) := by decide +kernel
theorem dX8_chargeBy_101 : decode cX8_chargeBy 101 = .ok (.iadd, 1) := by decide +kernel
theorem dX8_chargeBy_102 : decode cX8_chargeBy 102 = .ok (.istore 4, 2) := by decide +kernel
theorem dX8_chargeBy_104 : decode cX8_chargeBy 104 = .ok (.iload 4, 2) := by decide +kernel
theorem dX8_chargeBy_106 : decode cX8_chargeBy 106 = .ok (.ireturn, 1) := by decide +kernel
theorem dX8_isFree_0 : decode cX8_isFree 0 = .ok (.aload_n 1, 1) := by decide +kernel
theorem dX8_isFree_1 : decode cX8_isFree 1 = .ok (.getfield 112, 3) := by decide +kernel
theorem dX8_isFree_4 : decode cX8_isFree 4 = .ok (.iconst 2, 1) := by decide +kernel
theorem dX8_isFree_5 : decode cX8_isFree 5 = .ok (.if_icmp .ne 18, 3) := by decide +kernel
theorem dX8_isFree_8 : decode cX8_isFree 8 = .ok (.aload_n 1, 1) := by decide +kernel
theorem dX8_isFree_9 : decode cX8_isFree 9 = .ok (.getfield 121, 3) := by decide +kernel
theorem dX8_isFree_12 : decode cX8_isFree 12 = .ok (.aload_n 0, 1) := by decide +kernel
theorem dX8_isFree_13 : decode cX8_isFree 13 = .ok (.getfield 124, 3) := by decide +kernel
theorem dX8_isFree_16 : decode cX8_isFree 16 = .ok (.if_icmp .ge 7, 3) := by decide +kernel
theorem dX8_isFree_19 : decode cX8_isFree 19 = .ok (.iconst 1, 1) := by decide +kernel
theorem dX8_isFree_20 : decode cX8_isFree 20 = .ok (.goto 4, 3) := by decide +kernel
theorem dX8_isFree_23 : decode cX8_isFree 23 = .ok (.iconst 0, 1) := by decide +kernel
theorem dX8_isFree_24 : decode cX8_isFree 24 = .ok (.ireturn, 1) := by decide +kernel
theorem dX8_lineFor_0 : decode cX8_lineFor 0 = .ok (.aload_n 0, 1) := by decide +kernel
theorem dX8_lineFor_1 : decode cX8_lineFor 1 = .ok (.aload_n 2, 1) := by decide +kernel
theorem dX8_lineFor_2 : decode cX8_lineFor 2 = .ok (.invokevirtual 127, 3) := by decide +kernel
theorem dX8_lineFor_5 : decode cX8_lineFor 5 = .ok (.iconst 0, 1) := by decide +kernel
theorem dX8_lineFor_6 : decode cX8_lineFor 6 = .ok (.istore_n 3, 1) := by decide +kernel
theorem dX8_lineFor_7 : decode cX8_lineFor 7 = .ok (.iload_n 3, 1) := by decide +kernel
theorem dX8_lineFor_8 : decode cX8_lineFor 8 = .ok (.aload_n 1, 1) := by decide +kernel
theorem dX8_lineFor_9 : decode cX8_lineFor 9 = .ok (.getfield 131, 3) := by decide +kernel
theorem dX8_lineFor_12 : decode cX8_lineFor 12 = .ok (.if_icmp .ge 34, 3) := by decide +kernel
theorem dX8_lineFor_15 : decode cX8_lineFor 15 = .ok (.aload_n 1, 1) := by decide +kernel
theorem dX8_lineFor_16 : decode cX8_lineFor 16 = .ok (.getfield 134, 3) := by decide +kernel
theorem dX8_lineFor_19 : decode cX8_lineFor 19 = .ok (.iload_n 3, 1) := by decide +kernel
theorem dX8_lineFor_20 : decode cX8_lineFor 20 = .ok (.iaload, 1) := by decide +kernel
theorem dX8_lineFor_21 : decode cX8_lineFor 21 = .ok (.iconst (-1), 1) := by decide +kernel
theorem dX8_lineFor_22 : decode cX8_lineFor 22 = .ok (.if_icmp .eq 16, 3) := by decide +kernel
theorem dX8_lineFor_25 : decode cX8_lineFor 25 = .ok (.aload_n 0, 1) := by decide +kernel
theorem dX8_lineFor_26 : decode cX8_lineFor 26 = .ok (.aload_n 1, 1) := by decide +kernel
theorem dX8_lineFor_27 : decode cX8_lineFor 27 = .ok (.getfield 134, 3) := by decide +kernel
theorem dX8_lineFor_30 : decode cX8_lineFor 30 = .ok (.iload_n 3, 1) := by decide +kernel
theorem dX8_lineFor_31 : decode cX8_lineFor 31 = .ok (.iaload, 1) := by decide +kernel
theorem dX8_lineFor_32 : decode cX8_lineFor 32 = .ok (.invokevirtual 90, 3) := by decide +kernel
theorem dX8_lineFor_35 : decode cX8_lineFor 35 = .ok (.ifCond .eq 5, 3) := by decide +kernel
theorem dX8_lineFor_38 : decode cX8_lineFor 38 = .ok (.iload_n 3, 1) := by decide +kernel
theorem dX8_lineFor_39 : decode cX8_lineFor 39 = .ok (.ireturn, 1) := by decide +kernel
theorem dX8_lineFor_40 : decode cX8_lineFor 40 = .ok (.iinc 3 1, 3) := by decide +kernel
theorem dX8_lineFor_43 : decode cX8_lineFor 43 = .ok (.goto (-36), 3) := by decide +kernel
theorem dX8_lineFor_46 : decode cX8_lineFor 46 = .ok (.iconst (-1), 1) := by decide +kernel
theorem dX8_lineFor_47 : decode cX8_lineFor 47 = .ok (.ireturn, 1) := by decide +kernel
theorem dX8_ask_0 : decode cX8_ask 0 = .ok (.aload_n 0, 1) := by decide +kernel
theorem dX8_ask_1 : decode cX8_ask 1 = .ok (.getfield 24, 3) := by decide +kernel
theorem dX8_ask_4 : decode cX8_ask 4 = .ok (.iconst 0, 1) := by decide +kernel
theorem dX8_ask_5 : decode cX8_ask 5 = .ok (.aload_n 1, 1) := by decide +kernel
theorem dX8_ask_6 : decode cX8_ask 6 = .ok (.getfield 137, 3) := by decide +kernel
theorem dX8_ask_9 : decode cX8_ask 9 = .ok (.iastore, 1) := by decide +kernel
theorem dX8_ask_10 : decode cX8_ask 10 = .ok (.aload_n 0, 1) := by decide +kernel
theorem dX8_ask_11 : decode cX8_ask 11 = .ok (.getfield 24, 3) := by decide +kernel
theorem dX8_ask_14 : decode cX8_ask 14 = .ok (.iconst 1, 1) := by decide +kernel
theorem dX8_ask_15 : decode cX8_ask 15 = .ok (.aload_n 1, 1) := by decide +kernel
theorem dX8_ask_16 : decode cX8_ask 16 = .ok (.getfield 140, 3) := by decide +kernel
theorem dX8_ask_19 : decode cX8_ask 19 = .ok (.iastore, 1) := by decide +kernel
theorem dX8_ask_20 : decode cX8_ask 20 = .ok (.aload_n 0, 1) := by decide +kernel
theorem dX8_ask_21 : decode cX8_ask 21 = .ok (.getfield 24, 3) := by decide +kernel
theorem dX8_ask_24 : decode cX8_ask 24 = .ok (.iconst 2, 1) := by decide +kernel
theorem dX8_ask_25 : decode cX8_ask 25 = .ok (.aload_n 1, 1) := by decide +kernel
theorem dX8_ask_26 : decode cX8_ask 26 = .ok (.getfield 143, 3) := by decide +kernel
theorem dX8_ask_29 : decode cX8_ask 29 = .ok (.iastore, 1) := by decide +kernel
theorem dX8_ask_30 : decode cX8_ask 30 = .ok (.aload_n 0, 1) := by decide +kernel
theorem dX8_ask_31 : decode cX8_ask 31 = .ok (.getfield 24, 3) := by decide +kernel
theorem dX8_ask_34 : decode cX8_ask 34 = .ok (.iconst 3, 1) := by decide +kernel
theorem dX8_ask_35 : decode cX8_ask 35 = .ok (.aload_n 1, 1) := by decide +kernel
theorem dX8_ask_36 : decode cX8_ask 36 = .ok (.getfield 103, 3) := by decide +kernel
theorem dX8_ask_39 : decode cX8_ask 39 = .ok (.sipush 1440, 3) := by decide +kernel
theorem dX8_ask_42 : decode cX8_ask 42 = .ok (.irem, 1) := by decide +kernel
theorem dX8_ask_43 : decode cX8_ask 43 = .ok (.bipush 60, 2) := by decide +kernel
theorem dX8_ask_45 : decode cX8_ask 45 = .ok (.idiv, 1) := by decide +kernel
theorem dX8_ask_46 : decode cX8_ask 46 = .ok (.iastore, 1) := by decide +kernel
theorem dX8_ask_47 : decode cX8_ask 47 = .ok (.aload_n 0, 1) := by decide +kernel
theorem dX8_ask_48 : decode cX8_ask 48 = .ok (.getfield 24, 3) := by decide +kernel
theorem dX8_ask_51 : decode cX8_ask 51 = .ok (.iconst 4, 1) := by decide +kernel
theorem dX8_ask_52 : decode cX8_ask 52 = .ok (.aload_n 1, 1) := by decide +kernel
theorem dX8_ask_53 : decode cX8_ask 53 = .ok (.invokevirtual 43, 3) := by decide +kernel
theorem dX8_ask_56 : decode cX8_ask 56 = .ok (.iastore, 1) := by decide +kernel
theorem dX8_ask_57 : decode cX8_ask 57 = .ok (.aload_n 0, 1) := by decide +kernel
theorem dX8_ask_58 : decode cX8_ask 58 = .ok (.getfield 24, 3) := by decide +kernel
theorem dX8_ask_61 : decode cX8_ask 61 = .ok (.iconst 5, 1) := by decide +kernel
theorem dX8_ask_62 : decode cX8_ask 62 = .ok (.aload_n 1, 1) := by decide +kernel
theorem dX8_ask_63 : decode cX8_ask 63 = .ok (.getfield 112, 3) := by decide +kernel
theorem dX8_ask_66 : decode cX8_ask 66 = .ok (.iastore, 1) := by decide +kernel
theorem dX8_ask_67 : decode cX8_ask 67 = .ok (.aload_n 0, 1) := by decide +kernel
theorem dX8_ask_68 : decode cX8_ask 68 = .ok (.getfield 24, 3) := by decide +kernel
theorem dX8_ask_71 : decode cX8_ask 71 = .ok (.bipush 6, 2) := by decide +kernel
theorem dX8_ask_73 : decode cX8_ask 73 = .ok (.aload_n 1, 1) := by decide +kernel
theorem dX8_ask_74 : decode cX8_ask 74 = .ok (.getfield 146, 3) := by decide +kernel
theorem dX8_ask_77 : decode cX8_ask 77 = .ok (.ifCond .eq 7, 3) := by decide +kernel
theorem dX8_ask_80 : decode cX8_ask 80 = .ok (.iconst 1, 1) := by decide +kernel
theorem dX8_ask_81 : decode cX8_ask 81 = .ok (.goto 4, 3) := by decide +kernel
theorem dX8_ask_84 : decode cX8_ask 84 = .ok (.iconst 0, 1) := by decide +kernel
theorem dX8_ask_85 : decode cX8_ask 85 = .ok (.iastore, 1) := by decide +kernel
theorem dX8_ask_86 : decode cX8_ask 86 = .ok (.return_, 1) := by decide +kernel
theorem dX8_worth_0 : decode cX8_worth 0 = .ok (.iconst 0, 1) := by decide +kernel
theorem dX8_worth_1 : decode cX8_worth 1 = .ok (.istore_n 2, 1) := by decide +kernel
theorem dX8_worth_2 : decode cX8_worth 2 = .ok (.iload_n 1, 1) := by decide +kernel
theorem dX8_worth_3 : decode cX8_worth 3 = .ok (.istore_n 3, 1) := by decide +kernel
theorem dX8_worth_4 : decode cX8_worth 4 = .ok (.iload_n 3, 1) := by decide +kernel
theorem dX8_worth_5 : decode cX8_worth 5 = .ok (.sipush 3600, 3) := by decide +kernel
theorem dX8_worth_8 : decode cX8_worth 8 = .ok (.if_icmp .ge 160, 3) := by decide +kernel
theorem dX8_worth_11 : decode cX8_worth 11 = .ok (.aload_n 0, 1) := by decide +kernel
theorem dX8_worth_12 : decode cX8_worth 12 = .ok (.getfield 12, 3) := by decide +kernel
theorem dX8_worth_15 : decode cX8_worth 15 = .ok (.iload_n 3, 1) := by decide +kernel
theorem dX8_worth_16 : decode cX8_worth 16 = .ok (.invokevirtual 149, 3) := by decide +kernel
theorem dX8_worth_19 : decode cX8_worth 19 = .ok (.bipush (-100), 2) := by decide +kernel
theorem dX8_worth_21 : decode cX8_worth 21 = .ok (.if_icmp .eq 147, 3) := by decide +kernel
theorem dX8_worth_24 : decode cX8_worth 24 = .ok (.aload_n 0, 1) := by decide +kernel
theorem dX8_worth_25 : decode cX8_worth 25 = .ok (.getfield 12, 3) := by decide +kernel
theorem dX8_worth_28 : decode cX8_worth 28 = .ok (.iload_n 3, 1) := by decide +kernel
theorem dX8_worth_29 : decode cX8_worth 29 = .ok (.invokevirtual 149, 3) := by decide +kernel
theorem dX8_worth_32 : decode cX8_worth 32 = .ok (.istore 4, 2) := by decide +kernel
theorem dX8_worth_34 : decode cX8_worth 34 = .ok (.iload 4, 2) := by decide +kernel
theorem dX8_worth_36 : decode cX8_worth 36 = .ok (.bipush (-10), 2) := by decide +kernel
theorem dX8_worth_38 : decode cX8_worth 38 = .ok (.if_icmp .le 57, 3) := by decide +kernel
theorem dX8_worth_41 : decode cX8_worth 41 = .ok (.iload_n 2, 1) := by decide +kernel
theorem dX8_worth_42 : decode cX8_worth 42 = .ok (.aload_n 0, 1) := by decide +kernel
theorem dX8_worth_43 : decode cX8_worth 43 = .ok (.getfield 28, 3) := by decide +kernel
theorem dX8_worth_46 : decode cX8_worth 46 = .ok (.arraylength, 1) := by decide +kernel
theorem dX8_worth_47 : decode cX8_worth 47 = .ok (.if_icmp .ge 15, 3) := by decide +kernel
theorem dX8_worth_50 : decode cX8_worth 50 = .ok (.iconst (-1), 1) := by decide +kernel
theorem dX8_worth_51 : decode cX8_worth 51 = .ok (.iload 4, 2) := by decide +kernel
theorem dX8_worth_53 : decode cX8_worth 53 = .ok (.isub, 1) := by decide +kernel
theorem dX8_worth_54 : decode cX8_worth 54 = .ok (.aload_n 0, 1) := by decide +kernel
theorem dX8_worth_55 : decode cX8_worth 55 = .ok (.getfield 24, 3) := by decide +kernel
theorem dX8_worth_58 : decode cX8_worth 58 = .ok (.arraylength, 1) := by decide +kernel
theorem dX8_worth_59 : decode cX8_worth 59 = .ok (.if_icmp .lt 5, 3) := by decide +kernel
theorem dX8_worth_62 : decode cX8_worth 62 = .ok (.iconst 0, 1) := by decide +kernel
theorem dX8_worth_63 : decode cX8_worth 63 = .ok (.ireturn, 1) := by decide +kernel
theorem dX8_worth_64 : decode cX8_worth 64 = .ok (.aload_n 0, 1) := by decide +kernel
theorem dX8_worth_65 : decode cX8_worth 65 = .ok (.getfield 28, 3) := by decide +kernel
theorem dX8_worth_68 : decode cX8_worth 68 = .ok (.iload_n 2, 1) := by decide +kernel
theorem dX8_worth_69 : decode cX8_worth 69 = .ok (.iload 4, 2) := by decide +kernel
theorem dX8_worth_71 : decode cX8_worth 71 = .ok (.ifCond .lt 8, 3) := by decide +kernel
theorem dX8_worth_74 : decode cX8_worth 74 = .ok (.iload 4, 2) := by decide +kernel
theorem dX8_worth_76 : decode cX8_worth 76 = .ok (.goto 12, 3) := by decide +kernel
theorem dX8_worth_79 : decode cX8_worth 79 = .ok (.aload_n 0, 1) := by decide +kernel
theorem dX8_worth_80 : decode cX8_worth 80 = .ok (.getfield 24, 3) := by decide +kernel
theorem dX8_worth_83 : decode cX8_worth 83 = .ok (.iconst (-1), 1) := by decide +kernel
theorem dX8_worth_84 : decode cX8_worth 84 = .ok (.iload 4, 2) := by decide +kernel
theorem dX8_worth_86 : decode cX8_worth 86 = .ok (.isub, 1) := by decide +kernel
theorem dX8_worth_87 : decode cX8_worth 87 = .ok (.iaload, 1) := by decide +kernel
theorem dX8_worth_88 : decode cX8_worth 88 = .ok (.iastore, 1) := by decide +kernel
theorem dX8_worth_89 : decode cX8_worth 89 = .ok (.iinc 2 1, 3) := by decide +kernel
theorem dX8_worth_92 : decode cX8_worth 92 = .ok (.goto 70, 3) := by decide +kernel
theorem dX8_worth_95 : decode cX8_worth 95 = .ok (.iload 4, 2) := by decide +kernel
theorem dX8_worth_97 : decode cX8_worth 97 = .ok (.bipush (-17), 2) := by decide +kernel
theorem dX8_worth_99 : decode cX8_worth 99 = .ok (.if_icmp .ne 28, 3) := by decide +kernel
theorem dX8_worth_102 : decode cX8_worth 102 = .ok (.iload_n 2, 1) := by decide +kernel
theorem dX8_worth_103 : decode cX8_worth 103 = .ok (.ifCond .le 24, 3) := by decide +kernel
theorem dX8_worth_106 : decode cX8_worth 106 = .ok (.aload_n 0, 1) := by decide +kernel
theorem dX8_worth_107 : decode cX8_worth 107 = .ok (.getfield 28, 3) := by decide +kernel
theorem dX8_worth_110 : decode cX8_worth 110 = .ok (.iload_n 2, 1) := by decide +kernel
theorem dX8_worth_111 : decode cX8_worth 111 = .ok (.iconst 1, 1) := by decide +kernel
theorem dX8_worth_112 : decode cX8_worth 112 = .ok (.isub, 1) := by decide +kernel
theorem dX8_worth_113 : decode cX8_worth 113 = .ok (.iconst 1, 1) := by decide +kernel
theorem dX8_worth_114 : decode cX8_worth 114 = .ok (.aload_n 0, 1) := by decide +kernel
theorem dX8_worth_115 : decode cX8_worth 115 = .ok (.getfield 28, 3) := by decide +kernel
theorem dX8_worth_118 : decode cX8_worth 118 = .ok (.iload_n 2, 1) := by decide +kernel
theorem dX8_worth_119 : decode cX8_worth 119 = .ok (.iconst 1, 1) := by decide +kernel
theorem dX8_worth_120 : decode cX8_worth 120 = .ok (.isub, 1) := by decide +kernel
theorem dX8_worth_121 : decode cX8_worth 121 = .ok (.iaload, 1) := by decide +kernel
theorem dX8_worth_122 : decode cX8_worth 122 = .ok (.isub, 1) := by decide +kernel
theorem dX8_worth_123 : decode cX8_worth 123 = .ok (.iastore, 1) := by decide +kernel
theorem dX8_worth_124 : decode cX8_worth 124 = .ok (.goto 38, 3) := by decide +kernel
theorem dX8_worth_127 : decode cX8_worth 127 = .ok (.iload_n 2, 1) := by decide +kernel
theorem dX8_worth_128 : decode cX8_worth 128 = .ok (.iconst 1, 1) := by decide +kernel
theorem dX8_worth_129 : decode cX8_worth 129 = .ok (.if_icmp .le 33, 3) := by decide +kernel
theorem dX8_worth_132 : decode cX8_worth 132 = .ok (.iinc 2 (-1), 3) := by decide +kernel
theorem dX8_worth_135 : decode cX8_worth 135 = .ok (.aload_n 0, 1) := by decide +kernel
theorem dX8_worth_136 : decode cX8_worth 136 = .ok (.getfield 28, 3) := by decide +kernel
theorem dX8_worth_139 : decode cX8_worth 139 = .ok (.iload_n 2, 1) := by decide +kernel
theorem dX8_worth_140 : decode cX8_worth 140 = .ok (.iconst 1, 1) := by decide +kernel
theorem dX8_worth_141 : decode cX8_worth 141 = .ok (.isub, 1) := by decide +kernel
theorem dX8_worth_142 : decode cX8_worth 142 = .ok (.iload 4, 2) := by decide +kernel
theorem dX8_worth_144 : decode cX8_worth 144 = .ok (.aload_n 0, 1) := by decide +kernel
theorem dX8_worth_145 : decode cX8_worth 145 = .ok (.getfield 28, 3) := by decide +kernel
theorem dX8_worth_148 : decode cX8_worth 148 = .ok (.iload_n 2, 1) := by decide +kernel
theorem dX8_worth_149 : decode cX8_worth 149 = .ok (.iconst 1, 1) := by decide +kernel
theorem dX8_worth_150 : decode cX8_worth 150 = .ok (.isub, 1) := by decide +kernel
theorem dX8_worth_151 : decode cX8_worth 151 = .ok (.iaload, 1) := by decide +kernel
theorem dX8_worth_152 : decode cX8_worth 152 = .ok (.aload_n 0, 1) := by decide +kernel
theorem dX8_worth_153 : decode cX8_worth 153 = .ok (.getfield 28, 3) := by decide +kernel
theorem dX8_worth_156 : decode cX8_worth 156 = .ok (.iload_n 2, 1) := by decide +kernel
theorem dX8_worth_157 : decode cX8_worth 157 = .ok (.iaload, 1) := by decide +kernel
theorem dX8_worth_158 : decode cX8_worth 158 = .ok (.invokestatic 152, 3) := by decide +kernel
theorem dX8_worth_161 : decode cX8_worth 161 = .ok (.iastore, 1) := by decide +kernel
theorem dX8_worth_162 : decode cX8_worth 162 = .ok (.iinc 3 1, 3) := by decide +kernel
theorem dX8_worth_165 : decode cX8_worth 165 = .ok (.goto (-161), 3) := by decide +kernel
theorem dX8_worth_168 : decode cX8_worth 168 = .ok (.iload_n 2, 1) := by decide +kernel
theorem dX8_worth_169 : decode cX8_worth 169 = .ok (.ifCond .le 14, 3) := by decide +kernel
theorem dX8_worth_172 : decode cX8_worth 172 = .ok (.aload_n 0, 1) := by decide +kernel
theorem dX8_worth_173 : decode cX8_worth 173 = .ok (.getfield 28, 3) := by decide +kernel
theorem dX8_worth_176 : decode cX8_worth 176 = .ok (.iload_n 2, 1) := by decide +kernel
theorem dX8_worth_177 : decode cX8_worth 177 = .ok (.iconst 1, 1) := by decide +kernel
theorem dX8_worth_178 : decode cX8_worth 178 = .ok (.isub, 1) := by decide +kernel
theorem dX8_worth_179 : decode cX8_worth 179 = .ok (.iaload, 1) := by decide +kernel
theorem dX8_worth_180 : decode cX8_worth 180 = .ok (.goto 4, 3) := by decide +kernel
theorem dX8_worth_183 : decode cX8_worth 183 = .ok (.iconst 0, 1) := by decide +kernel
theorem dX8_worth_184 : decode cX8_worth 184 = .ok (.ireturn, 1) := by decide +kernel
theorem dX8_joined_0 : decode cX8_joined 0 = .ok (.iload_n 0, 1) := by decide +kernel
theorem dX8_joined_1 : decode cX8_joined 1 = .ok (.tableswitch 120 (-19) (-10) #[116, 112, 120, 101, 90, 79, 67, 63, 59, 55], 55) := by decide +kernel
theorem dX8_joined_56 : decode cX8_joined 56 = .ok (.iload_n 1, 1) := by decide +kernel
theorem dX8_joined_57 : decode cX8_joined 57 = .ok (.iload_n 2, 1) := by decide +kernel
theorem dX8_joined_58 : decode cX8_joined 58 = .ok (.iadd, 1) := by decide +kernel
theorem dX8_joined_59 : decode cX8_joined 59 = .ok (.ireturn, 1) := by decide +kernel
theorem dX8_joined_60 : decode cX8_joined 60 = .ok (.iload_n 1, 1) := by decide +kernel
theorem dX8_joined_61 : decode cX8_joined 61 = .ok (.iload_n 2, 1) := by decide +kernel
theorem dX8_joined_62 : decode cX8_joined 62 = .ok (.isub, 1) := by decide +kernel
theorem dX8_joined_63 : decode cX8_joined 63 = .ok (.ireturn, 1) := by decide +kernel
theorem dX8_joined_64 : decode cX8_joined 64 = .ok (.iload_n 1, 1) := by decide +kernel
theorem dX8_joined_65 : decode cX8_joined 65 = .ok (.iload_n 2, 1) := by decide +kernel
theorem dX8_joined_66 : decode cX8_joined 66 = .ok (.imul, 1) := by decide +kernel
theorem dX8_joined_67 : decode cX8_joined 67 = .ok (.ireturn, 1) := by decide +kernel
theorem dX8_joined_68 : decode cX8_joined 68 = .ok (.iload_n 2, 1) := by decide +kernel
theorem dX8_joined_69 : decode cX8_joined 69 = .ok (.ifCond .ne 7, 3) := by decide +kernel
theorem dX8_joined_72 : decode cX8_joined 72 = .ok (.iconst 0, 1) := by decide +kernel
theorem dX8_joined_73 : decode cX8_joined 73 = .ok (.goto 6, 3) := by decide +kernel
theorem dX8_joined_76 : decode cX8_joined 76 = .ok (.iload_n 1, 1) := by decide +kernel
theorem dX8_joined_77 : decode cX8_joined 77 = .ok (.iload_n 2, 1) := by decide +kernel
theorem dX8_joined_78 : decode cX8_joined 78 = .ok (.idiv, 1) := by decide +kernel
theorem dX8_joined_79 : decode cX8_joined 79 = .ok (.ireturn, 1) := by decide +kernel
theorem dX8_joined_80 : decode cX8_joined 80 = .ok (.iload_n 1, 1) := by decide +kernel
theorem dX8_joined_81 : decode cX8_joined 81 = .ok (.iload_n 2, 1) := by decide +kernel
theorem dX8_joined_82 : decode cX8_joined 82 = .ok (.if_icmp .ge 7, 3) := by decide +kernel
theorem dX8_joined_85 : decode cX8_joined 85 = .ok (.iconst 1, 1) := by decide +kernel
theorem dX8_joined_86 : decode cX8_joined 86 = .ok (.goto 4, 3) := by decide +kernel
theorem dX8_joined_89 : decode cX8_joined 89 = .ok (.iconst 0, 1) := by decide +kernel
theorem dX8_joined_90 : decode cX8_joined 90 = .ok (.ireturn, 1) := by decide +kernel
theorem dX8_joined_91 : decode cX8_joined 91 = .ok (.iload_n 1, 1) := by decide +kernel
theorem dX8_joined_92 : decode cX8_joined 92 = .ok (.iload_n 2, 1) := by decide +kernel
theorem dX8_joined_93 : decode cX8_joined 93 = .ok (.if_icmp .ne 7, 3) := by decide +kernel
theorem dX8_joined_96 : decode cX8_joined 96 = .ok (.iconst 1, 1) := by decide +kernel
theorem dX8_joined_97 : decode cX8_joined 97 = .ok (.goto 4, 3) := by decide +kernel
theorem dX8_joined_100 : decode cX8_joined 100 = .ok (.iconst 0, 1) := by decide +kernel
theorem dX8_joined_101 : decode cX8_joined 101 = .ok (.ireturn, 1) := by decide +kernel
theorem dX8_joined_102 : decode cX8_joined 102 = .ok (.iload_n 1, 1) := by decide +kernel
theorem dX8_joined_103 : decode cX8_joined 103 = .ok (.iload_n 2, 1) := by decide +kernel
theorem dX8_joined_104 : decode cX8_joined 104 = .ok (.if_icmp .le 7, 3) := by decide +kernel
theorem dX8_joined_107 : decode cX8_joined 107 = .ok (.iconst 1, 1) := by decide +kernel
theorem dX8_joined_108 : decode cX8_joined 108 = .ok (.goto 4, 3) := by decide +kernel
theorem dX8_joined_111 : decode cX8_joined 111 = .ok (.iconst 0, 1) := by decide +kernel
theorem dX8_joined_112 : decode cX8_joined 112 = .ok (.ireturn, 1) := by decide +kernel
theorem dX8_joined_113 : decode cX8_joined 113 = .ok (.iload_n 1, 1) := by decide +kernel
theorem dX8_joined_114 : decode cX8_joined 114 = .ok (.iload_n 2, 1) := by decide +kernel
theorem dX8_joined_115 : decode cX8_joined 115 = .ok (.iand, 1) := by decide +kernel
theorem dX8_joined_116 : decode cX8_joined 116 = .ok (.ireturn, 1) := by decide +kernel
theorem dX8_joined_117 : decode cX8_joined 117 = .ok (.iload_n 1, 1) := by decide +kernel
theorem dX8_joined_118 : decode cX8_joined 118 = .ok (.iload_n 2, 1) := by decide +kernel
theorem dX8_joined_119 : decode cX8_joined 119 = .ok (.ior, 1) := by decide +kernel
theorem dX8_joined_120 : decode cX8_joined 120 = .ok (.ireturn, 1) := by decide +kernel
theorem dX8_joined_121 : decode cX8_joined 121 = .ok (.iconst 0, 1) := by decide +kernel
theorem dX8_joined_122 : decode cX8_joined 122 = .ok (.ireturn, 1) := by decide +kernel
theorem dX9_init_0 : decode cX9_init 0 = .ok (.aload_n 0, 1) := by decide +kernel
theorem dX9_init_1 : decode cX9_init 1 = .ok (.invokespecial 3, 3) := by decide +kernel
theorem dX9_init_4 : decode cX9_init 4 = .ok (.aload_n 0, 1) := by decide +kernel
theorem dX9_init_5 : decode cX9_init 5 = .ok (.bipush 10, 2) := by decide +kernel
theorem dX9_init_7 : decode cX9_init 7 = .ok (.newarray .int, 2) := by decide +kernel
theorem dX9_init_9 : decode cX9_init 9 = .ok (.putfield 9, 3) := by decide +kernel
theorem dX9_init_12 : decode cX9_init 12 = .ok (.aload_n 0, 1) := by decide +kernel
theorem dX9_init_13 : decode cX9_init 13 = .ok (.bipush 80, 2) := by decide +kernel
theorem dX9_init_15 : decode cX9_init 15 = .ok (.newarray .int, 2) := by decide +kernel
theorem dX9_init_17 : decode cX9_init 17 = .ok (.putfield 15, 3) := by decide +kernel
theorem dX9_init_20 : decode cX9_init 20 = .ok (.aload_n 0, 1) := by decide +kernel
theorem dX9_init_21 : decode cX9_init 21 = .ok (.bipush 80, 2) := by decide +kernel
theorem dX9_init_23 : decode cX9_init 23 = .ok (.newarray .int, 2) := by decide +kernel
theorem dX9_init_25 : decode cX9_init 25 = .ok (.putfield 18, 3) := by decide +kernel
theorem dX9_init_28 : decode cX9_init 28 = .ok (.aload_n 0, 1) := by decide +kernel
theorem dX9_init_29 : decode cX9_init 29 = .ok (.bipush 80, 2) := by decide +kernel
theorem dX9_init_31 : decode cX9_init 31 = .ok (.newarray .int, 2) := by decide +kernel
theorem dX9_init_33 : decode cX9_init 33 = .ok (.putfield 21, 3) := by decide +kernel
theorem dX9_init_36 : decode cX9_init 36 = .ok (.aload_n 0, 1) := by decide +kernel
theorem dX9_init_37 : decode cX9_init 37 = .ok (.bipush 80, 2) := by decide +kernel
theorem dX9_init_39 : decode cX9_init 39 = .ok (.newarray .boolean, 2) := by decide +kernel
theorem dX9_init_41 : decode cX9_init 41 = .ok (.putfield 24, 3) := by decide +kernel
theorem dX9_init_44 : decode cX9_init 44 = .ok (.aload_n 0, 1) := by decide +kernel
theorem dX9_init_45 : decode cX9_init 45 = .ok (.bipush 70, 2) := by decide +kernel
theorem dX9_init_47 : decode cX9_init 47 = .ok (.newarray .int, 2) := by decide +kernel
theorem dX9_init_49 : decode cX9_init 49 = .ok (.putfield 28, 3) := by decide +kernel
theorem dX9_init_52 : decode cX9_init 52 = .ok (.aload_n 0, 1) := by decide +kernel
theorem dX9_init_53 : decode cX9_init 53 = .ok (.bipush 70, 2) := by decide +kernel
theorem dX9_init_55 : decode cX9_init 55 = .ok (.newarray .int, 2) := by decide +kernel
theorem dX9_init_57 : decode cX9_init 57 = .ok (.putfield 31, 3) := by decide +kernel
theorem dX9_init_60 : decode cX9_init 60 = .ok (.return_, 1) := by decide +kernel
theorem dX9_has_0 : decode cX9_has 0 = .ok (.iload_n 1, 1) := by decide +kernel
theorem dX9_has_1 : decode cX9_has 1 = .ok (.ifCond .lt 15, 3) := by decide +kernel
theorem dX9_has_4 : decode cX9_has 4 = .ok (.iload_n 1, 1) := by decide +kernel
theorem dX9_has_5 : decode cX9_has 5 = .ok (.aload_n 0, 1) := by decide +kernel
theorem dX9_has_6 : decode cX9_has 6 = .ok (.getfield 34, 3) := by decide +kernel
theorem dX9_has_9 : decode cX9_has 9 = .ok (.if_icmp .ge 7, 3) := by decide +kernel
theorem dX9_has_12 : decode cX9_has 12 = .ok (.iconst 1, 1) := by decide +kernel
theorem dX9_has_13 : decode cX9_has 13 = .ok (.goto 4, 3) := by decide +kernel
theorem dX9_has_16 : decode cX9_has 16 = .ok (.iconst 0, 1) := by decide +kernel
theorem dX9_has_17 : decode cX9_has 17 = .ok (.ireturn, 1) := by decide +kernel
theorem dX9_hasRun_0 : decode cX9_hasRun 0 = .ok (.aload_n 0, 1) := by decide +kernel
theorem dX9_hasRun_1 : decode cX9_hasRun 1 = .ok (.iload_n 1, 1) := by decide +kernel
theorem dX9_hasRun_2 : decode cX9_hasRun 2 = .ok (.invokevirtual 38, 3) := by decide +kernel
theorem dX9_hasRun_5 : decode cX9_hasRun 5 = .ok (.ifCond .eq 17, 3) := by decide +kernel
theorem dX9_hasRun_8 : decode cX9_hasRun 8 = .ok (.iload_n 2, 1) := by decide +kernel
theorem dX9_hasRun_9 : decode cX9_hasRun 9 = .ok (.ifCond .lt 13, 3) := by decide +kernel
theorem dX9_hasRun_12 : decode cX9_hasRun 12 = .ok (.iload_n 2, 1) := by decide +kernel
theorem dX9_hasRun_13 : decode cX9_hasRun 13 = .ok (.bipush 7, 2) := by decide +kernel
theorem dX9_hasRun_15 : decode cX9_hasRun 15 = .ok (.if_icmp .ge 7, 3) := by decide +kernel
theorem dX9_hasRun_18 : decode cX9_hasRun 18 = .ok (.iconst 1, 1) := by decide +kernel
theorem dX9_hasRun_19 : decode cX9_hasRun 19 = .ok (.goto 4, 3) := by decide +kernel
theorem dX9_hasRun_22 : decode cX9_hasRun 22 = .ok (.iconst 0, 1) := by decide +kernel
theorem dX9_hasRun_23 : decode cX9_hasRun 23 = .ok (.ireturn, 1) := by decide +kernel
theorem dX9_isMissed_0 : decode cX9_isMissed 0 = .ok (.aload_n 0, 1) := by decide +kernel
theorem dX9_isMissed_1 : decode cX9_isMissed 1 = .ok (.getfield 31, 3) := by decide +kernel
theorem dX9_isMissed_4 : decode cX9_isMissed 4 = .ok (.iload_n 1, 1) := by decide +kernel
theorem dX9_isMissed_5 : decode cX9_isMissed 5 = .ok (.iaload, 1) := by decide +kernel
theorem dX9_isMissed_6 : decode cX9_isMissed 6 = .ok (.iload_n 2, 1) := by decide +kernel
theorem dX9_isMissed_7 : decode cX9_isMissed 7 = .ok (.ishr, 1) := by decide +kernel
theorem dX9_isMissed_8 : decode cX9_isMissed 8 = .ok (.iconst 1, 1) := by decide +kernel
theorem dX9_isMissed_9 : decode cX9_isMissed 9 = .ok (.iand, 1) := by decide +kernel
theorem dX9_isMissed_10 : decode cX9_isMissed 10 = .ok (.iconst 1, 1) := by decide +kernel
theorem dX9_isMissed_11 : decode cX9_isMissed 11 = .ok (.if_icmp .ne 7, 3) := by decide +kernel
theorem dX9_isMissed_14 : decode cX9_isMissed 14 = .ok (.iconst 1, 1) := by decide +kernel
theorem dX9_isMissed_15 : decode cX9_isMissed 15 = .ok (.goto 4, 3) := by decide +kernel
theorem dX9_isMissed_18 : decode cX9_isMissed 18 = .ok (.iconst 0, 1) := by decide +kernel
theorem dX9_isMissed_19 : decode cX9_isMissed 19 = .ok (.ireturn, 1) := by decide +kernel
theorem dX9_add_0 : decode cX9_add 0 = .ok (.aload_n 0, 1) := by decide +kernel
theorem dX9_add_1 : decode cX9_add 1 = .ok (.getfield 9, 3) := by decide +kernel
theorem dX9_add_4 : decode cX9_add 4 = .ok (.iload_n 1, 1) := by decide +kernel
theorem dX9_add_5 : decode cX9_add 5 = .ok (.iaload, 1) := by decide +kernel
theorem dX9_add_6 : decode cX9_add 6 = .ok (.istore 6, 2) := by decide +kernel
theorem dX9_add_8 : decode cX9_add 8 = .ok (.iload 6, 2) := by decide +kernel
theorem dX9_add_10 : decode cX9_add 10 = .ok (.bipush 8, 2) := by decide +kernel
theorem dX9_add_12 : decode cX9_add 12 = .ok (.if_icmp .ge 21, 3) := by decide +kernel
theorem dX9_add_15 : decode cX9_add 15 = .ok (.iload_n 3, 1) := by decide +kernel
theorem dX9_add_16 : decode cX9_add 16 = .ok (.ifCond .lt 17, 3) := by decide +kernel
theorem dX9_add_19 : decode cX9_add 19 = .ok (.iload 4, 2) := by decide +kernel
theorem dX9_add_21 : decode cX9_add 21 = .ok (.iload_n 3, 1) := by decide +kernel
theorem dX9_add_22 : decode cX9_add 22 = .ok (.if_icmp .lt 11, 3) := by decide +kernel
theorem dX9_add_25 : decode cX9_add 25 = .ok (.iload 4, 2) := by decide +kernel
theorem dX9_add_27 : decode cX9_add 27 = .ok (.sipush 2400, 3) := by decide +kernel
theorem dX9_add_30 : decode cX9_add 30 = .ok (.if_icmp .le 5, 3) := by decide +kernel
theorem dX9_add_33 : decode cX9_add 33 = .ok (.iconst (-1), 1) := by decide +kernel
theorem dX9_add_34 : decode cX9_add 34 = .ok (.ireturn, 1) := by decide +kernel
theorem dX9_add_35 : decode cX9_add 35 = .ok (.iload 5, 2) := by decide +kernel
theorem dX9_add_37 : decode cX9_add 37 = .ok (.ifCond .eq 11, 3) := by decide +kernel
theorem dX9_add_40 : decode cX9_add 40 = .ok (.iload_n 3, 1) := by decide +kernel
theorem dX9_add_41 : decode cX9_add 41 = .ok (.iload 4, 2) := by decide +kernel
theorem dX9_add_43 : decode cX9_add 43 = .ok (.if_icmp .eq 5, 3) := by decide +kernel
theorem dX9_add_46 : decode cX9_add 46 = .ok (.iconst (-1), 1) := by decide +kernel
theorem dX9_add_47 : decode cX9_add 47 = .ok (.ireturn, 1) := by decide +kernel
theorem dX9_add_48 : decode cX9_add 48 = .ok (.bipush 8, 2) := by decide +kernel
theorem dX9_add_50 : decode cX9_add 50 = .ok (.iload_n 1, 1) := by decide +kernel
theorem dX9_add_51 : decode cX9_add 51 = .ok (.imul, 1) := by decide +kernel
theorem dX9_add_52 : decode cX9_add 52 = .ok (.iload 6, 2) := by decide +kernel
theorem dX9_add_54 : decode cX9_add 54 = .ok (.iadd, 1) := by decide +kernel
theorem dX9_add_55 : decode cX9_add 55 = .ok (.istore 7, 2) := by decide +kernel
theorem dX9_add_57 : decode cX9_add 57 = .ok (.iload 6, 2) := by decide +kernel
theorem dX9_add_59 : decode cX9_add 59 = .ok (.ifCond .le 31, 3) := by decide +kernel
theorem dX9_add_62 : decode cX9_add 62 = .ok (.aload_n 0, 1) := by decide +kernel
theorem dX9_add_63 : decode cX9_add 63 = .ok (.getfield 15, 3) := by decide +kernel
theorem dX9_add_66 : decode cX9_add 66 = .ok (.iload 7, 2) := by decide +kernel
theorem dX9_add_68 : decode cX9_add 68 = .ok (.iconst 1, 1) := by decide +kernel
theorem dX9_add_69 : decode cX9_add 69 = .ok (.isub, 1) := by decide +kernel
theorem dX9_add_70 : decode cX9_add 70 = .ok (.iaload, 1) := by decide +kernel
theorem dX9_add_71 : decode cX9_add 71 = .ok (.iload_n 2, 1) := by decide +kernel
theorem dX9_add_72 : decode cX9_add 72 = .ok (.if_icmp .eq 16, 3) := by decide +kernel
theorem dX9_add_75 : decode cX9_add 75 = .ok (.iload_n 3, 1) := by decide +kernel
theorem dX9_add_76 : decode cX9_add 76 = .ok (.aload_n 0, 1) := by decide +kernel
theorem dX9_add_77 : decode cX9_add 77 = .ok (.getfield 21, 3) := by decide +kernel
theorem dX9_add_80 : decode cX9_add 80 = .ok (.iload 7, 2) := by decide +kernel
theorem dX9_add_82 : decode cX9_add 82 = .ok (.iconst 1, 1) := by decide +kernel
theorem dX9_add_83 : decode cX9_add 83 = .ok (.isub, 1) := by decide +kernel
theorem dX9_add_84 : decode cX9_add 84 = .ok (.iaload, 1) := by decide +kernel
theorem dX9_add_85 : decode cX9_add 85 = .ok (.if_icmp .gt 5, 3) := by decide +kernel
theorem dX9_add_88 : decode cX9_add 88 = .ok (.iconst (-1), 1) := by decide +kernel
theorem dX9_add_89 : decode cX9_add 89 = .ok (.ireturn, 1) := by decide +kernel
theorem dX9_add_90 : decode cX9_add 90 = .ok (.aload_n 0, 1) := by decide +kernel
theorem dX9_add_91 : decode cX9_add 91 = .ok (.getfield 15, 3) := by decide +kernel
theorem dX9_add_94 : decode cX9_add 94 = .ok (.iload 7, 2) := by decide +kernel
theorem dX9_add_96 : decode cX9_add 96 = .ok (.iload_n 2, 1) := by decide +kernel
theorem dX9_add_97 : decode cX9_add 97 = .ok (.iastore, 1) := by decide +kernel
theorem dX9_add_98 : decode cX9_add 98 = .ok (.aload_n 0, 1) := by decide +kernel
theorem dX9_add_99 : decode cX9_add 99 = .ok (.getfield 18, 3) := by decide +kernel
theorem dX9_add_102 : decode cX9_add 102 = .ok (.iload 7, 2) := by decide +kernel
theorem dX9_add_104 : decode cX9_add 104 = .ok (.iload_n 3, 1) := by decide +kernel
theorem dX9_add_105 : decode cX9_add 105 = .ok (.iastore, 1) := by decide +kernel
theorem dX9_add_106 : decode cX9_add 106 = .ok (.aload_n 0, 1) := by decide +kernel
theorem dX9_add_107 : decode cX9_add 107 = .ok (.getfield 21, 3) := by decide +kernel
theorem dX9_add_110 : decode cX9_add 110 = .ok (.iload 7, 2) := by decide +kernel
theorem dX9_add_112 : decode cX9_add 112 = .ok (.iload 4, 2) := by decide +kernel
theorem dX9_add_114 : decode cX9_add 114 = .ok (.iastore, 1) := by decide +kernel
theorem dX9_add_115 : decode cX9_add 115 = .ok (.aload_n 0, 1) := by decide +kernel
theorem dX9_add_116 : decode cX9_add 116 = .ok (.getfield 24, 3) := by decide +kernel
theorem dX9_add_119 : decode cX9_add 119 = .ok (.iload 7, 2) := by decide +kernel
theorem dX9_add_121 : decode cX9_add 121 = .ok (.iload 5, 2) := by decide +kernel
theorem dX9_add_123 : decode cX9_add 123 = .ok (.bastore, 1) := by decide +kernel
theorem dX9_add_124 : decode cX9_add 124 = .ok (.aload_n 0, 1) := by decide +kernel
theorem dX9_add_125 : decode cX9_add 125 = .ok (.getfield 9, 3) := by decide +kernel
theorem dX9_add_128 : decode cX9_add 128 = .ok (.iload_n 1, 1) := by decide +kernel
theorem dX9_add_129 : decode cX9_add 129 = .ok (.dup2, 1) := by decide +kernel
theorem dX9_add_130 : decode cX9_add 130 = .ok (.iaload, 1) := by decide +kernel
theorem dX9_add_131 : decode cX9_add 131 = .ok (.iconst 1, 1) := by decide +kernel
theorem dX9_add_132 : decode cX9_add 132 = .ok (.iadd, 1) := by decide +kernel
theorem dX9_add_133 : decode cX9_add 133 = .ok (.iastore, 1) := by decide +kernel
theorem dX9_add_134 : decode cX9_add 134 = .ok (.iload 6, 2) := by decide +kernel
theorem dX9_add_136 : decode cX9_add 136 = .ok (.ireturn, 1) := by decide +kernel
theorem dX9_comesAt_0 : decode cX9_comesAt 0 = .ok (.sipush 1440, 3) := by decide +kernel
theorem dX9_comesAt_3 : decode cX9_comesAt 3 = .ok (.iload_n 2, 1) := by decide +kernel
theorem dX9_comesAt_4 : decode cX9_comesAt 4 = .ok (.imul, 1) := by decide +kernel
theorem dX9_comesAt_5 : decode cX9_comesAt 5 = .ok (.aload_n 0, 1) := by decide +kernel
theorem dX9_comesAt_6 : decode cX9_comesAt 6 = .ok (.getfield 18, 3) := by decide +kernel
theorem dX9_comesAt_9 : decode cX9_comesAt 9 = .ok (.bipush 8, 2) := by decide +kernel
theorem dX9_comesAt_11 : decode cX9_comesAt 11 = .ok (.iload_n 1, 1) := by decide +kernel
theorem dX9_comesAt_12 : decode cX9_comesAt 12 = .ok (.imul, 1) := by decide +kernel
theorem dX9_comesAt_13 : decode cX9_comesAt 13 = .ok (.iload_n 3, 1) := by decide +kernel
theorem dX9_comesAt_14 : decode cX9_comesAt 14 = .ok (.iadd, 1) := by decide +kernel
theorem dX9_comesAt_15 : decode cX9_comesAt 15 = .ok (.iaload, 1) := by decide +kernel
theorem dX9_comesAt_16 : decode cX9_comesAt 16 = .ok (.iadd, 1) := by decide +kernel
theorem dX9_comesAt_17 : decode cX9_comesAt 17 = .ok (.aload_n 0, 1) := by decide +kernel
theorem dX9_comesAt_18 : decode cX9_comesAt 18 = .ok (.getfield 28, 3) := by decide +kernel
theorem dX9_comesAt_21 : decode cX9_comesAt 21 = .ok (.bipush 10, 2) := by decide +kernel
theorem dX9_comesAt_23 : decode cX9_comesAt 23 = .ok (.iload_n 2, 1) := by decide +kernel
theorem dX9_comesAt_24 : decode cX9_comesAt 24 = .ok (.imul, 1) := by decide +kernel
theorem dX9_comesAt_25 : decode cX9_comesAt 25 = .ok (.iload_n 1, 1) := by decide +kernel
theorem dX9_comesAt_26 : decode cX9_comesAt 26 = .ok (.iadd, 1) := by decide +kernel
theorem dX9_comesAt_27 : decode cX9_comesAt 27 = .ok (.iaload, 1) := by decide +kernel
theorem dX9_comesAt_28 : decode cX9_comesAt 28 = .ok (.iadd, 1) := by decide +kernel
theorem dX9_comesAt_29 : decode cX9_comesAt 29 = .ok (.ireturn, 1) := by decide +kernel
theorem dX9_goesAt_0 : decode cX9_goesAt 0 = .ok (.sipush 1440, 3) := by decide +kernel
theorem dX9_goesAt_3 : decode cX9_goesAt 3 = .ok (.iload_n 2, 1) := by decide +kernel
theorem dX9_goesAt_4 : decode cX9_goesAt 4 = .ok (.imul, 1) := by decide +kernel
theorem dX9_goesAt_5 : decode cX9_goesAt 5 = .ok (.aload_n 0, 1) := by decide +kernel
theorem dX9_goesAt_6 : decode cX9_goesAt 6 = .ok (.getfield 21, 3) := by decide +kernel
theorem dX9_goesAt_9 : decode cX9_goesAt 9 = .ok (.bipush 8, 2) := by decide +kernel
theorem dX9_goesAt_11 : decode cX9_goesAt 11 = .ok (.iload_n 1, 1) := by decide +kernel
theorem dX9_goesAt_12 : decode cX9_goesAt 12 = .ok (.imul, 1) := by decide +kernel
theorem dX9_goesAt_13 : decode cX9_goesAt 13 = .ok (.iload_n 3, 1) := by decide +kernel
theorem dX9_goesAt_14 : decode cX9_goesAt 14 = .ok (.iadd, 1) := by decide +kernel
theorem dX9_goesAt_15 : decode cX9_goesAt 15 = .ok (.iaload, 1) := by decide +kernel
theorem dX9_goesAt_16 : decode cX9_goesAt 16 = .ok (.iadd, 1) := by decide +kernel
theorem dX9_goesAt_17 : decode cX9_goesAt 17 = .ok (.aload_n 0, 1) := by decide +kernel
theorem dX9_goesAt_18 : decode cX9_goesAt 18 = .ok (.getfield 28, 3) := by decide +kernel
theorem dX9_goesAt_21 : decode cX9_goesAt 21 = .ok (.bipush 10, 2) := by decide +kernel
theorem dX9_goesAt_23 : decode cX9_goesAt 23 = .ok (.iload_n 2, 1) := by decide +kernel
theorem dX9_goesAt_24 : decode cX9_goesAt 24 = .ok (.imul, 1) := by decide +kernel
theorem dX9_goesAt_25 : decode cX9_goesAt 25 = .ok (.iload_n 1, 1) := by decide +kernel
theorem dX9_goesAt_26 : decode cX9_goesAt 26 = .ok (.iadd, 1) := by decide +kernel
theorem dX9_goesAt_27 : decode cX9_goesAt 27 = .ok (.iaload, 1) := by decide +kernel
theorem dX9_goesAt_28 : decode cX9_goesAt 28 = .ok (.iadd, 1) := by decide +kernel
theorem dX9_goesAt_29 : decode cX9_goesAt 29 = .ok (.ireturn, 1) := by decide +kernel
theorem dX9_goneFrom_0 : decode cX9_goneFrom 0 = .ok (.iconst (-1), 1) := by decide +kernel
theorem dX9_goneFrom_1 : decode cX9_goneFrom 1 = .ok (.istore 4, 2) := by decide +kernel
theorem dX9_goneFrom_3 : decode cX9_goneFrom 3 = .ok (.iconst 0, 1) := by decide +kernel
theorem dX9_goneFrom_4 : decode cX9_goneFrom 4 = .ok (.istore 5, 2) := by decide +kernel
theorem dX9_goneFrom_6 : decode cX9_goneFrom 6 = .ok (.iload 5, 2) := by decide +kernel
theorem dX9_goneFrom_8 : decode cX9_goneFrom 8 = .ok (.aload_n 0, 1) := by decide +kernel
theorem dX9_goneFrom_9 : decode cX9_goneFrom 9 = .ok (.getfield 9, 3) := by decide +kernel
theorem dX9_goneFrom_12 : decode cX9_goneFrom 12 = .ok (.iload_n 1, 1) := by decide +kernel
theorem dX9_goneFrom_13 : decode cX9_goneFrom 13 = .ok (.iaload, 1) := by decide +kernel
theorem dX9_goneFrom_14 : decode cX9_goneFrom 14 = .ok (.iconst 1, 1) := by decide +kernel
theorem dX9_goneFrom_15 : decode cX9_goneFrom 15 = .ok (.isub, 1) := by decide +kernel
theorem dX9_goneFrom_16 : decode cX9_goneFrom 16 = .ok (.if_icmp .ge 25, 3) := by decide +kernel
theorem dX9_goneFrom_19 : decode cX9_goneFrom 19 = .ok (.aload_n 0, 1) := by decide +kernel
theorem dX9_goneFrom_20 : decode cX9_goneFrom 20 = .ok (.iload_n 1, 1) := by decide +kernel
theorem dX9_goneFrom_21 : decode cX9_goneFrom 21 = .ok (.iload_n 2, 1) := by decide +kernel
theorem dX9_goneFrom_22 : decode cX9_goneFrom 22 = .ok (.iload 5, 2) := by decide +kernel
theorem dX9_goneFrom_24 : decode cX9_goneFrom 24 = .ok (.invokevirtual 42, 3) := by decide +kernel
theorem dX9_goneFrom_27 : decode cX9_goneFrom 27 = .ok (.iload_n 3, 1) := by decide +kernel
theorem dX9_goneFrom_28 : decode cX9_goneFrom 28 = .ok (.if_icmp .gt 7, 3) := by decide +kernel
theorem dX9_goneFrom_31 : decode cX9_goneFrom 31 = .ok (.iload 5, 2) := by decide +kernel
theorem dX9_goneFrom_33 : decode cX9_goneFrom 33 = .ok (.istore 4, 2) := by decide +kernel
theorem dX9_goneFrom_35 : decode cX9_goneFrom 35 = .ok (.iinc 5 1, 3) := by decide +kernel
theorem dX9_goneFrom_38 : decode cX9_goneFrom 38 = .ok (.goto (-32), 3) := by decide +kernel
theorem dX9_goneFrom_41 : decode cX9_goneFrom 41 = .ok (.iload 4, 2) := by decide +kernel
theorem dX9_goneFrom_43 : decode cX9_goneFrom 43 = .ok (.ireturn, 1) := by decide +kernel
theorem dX10_init_0 : decode cX10_init 0 = .ok (.aload_n 0, 1) := by decide +kernel
theorem dX10_init_1 : decode cX10_init 1 = .ok (.invokespecial 3, 3) := by decide +kernel
theorem dX10_init_4 : decode cX10_init 4 = .ok (.aload_n 0, 1) := by decide +kernel
theorem dX10_init_5 : decode cX10_init 5 = .ok (.sipush 980, 3) := by decide +kernel
theorem dX10_init_8 : decode cX10_init 8 = .ok (.newarray .int, 2) := by decide +kernel
theorem dX10_init_10 : decode cX10_init 10 = .ok (.putfield 11, 3) := by decide +kernel
theorem dX10_init_13 : decode cX10_init 13 = .ok (.aload_n 0, 1) := by decide +kernel
theorem dX10_init_14 : decode cX10_init 14 = .ok (.sipush 560, 3) := by decide +kernel
theorem dX10_init_17 : decode cX10_init 17 = .ok (.newarray .long, 2) := by decide +kernel
theorem dX10_init_19 : decode cX10_init 19 = .ok (.putfield 15, 3) := by decide +kernel
theorem dX10_init_22 : decode cX10_init 22 = .ok (.aload_n 0, 1) := by decide +kernel
theorem dX10_init_23 : decode cX10_init 23 = .ok (.sipush 840, 3) := by decide +kernel
theorem dX10_init_26 : decode cX10_init 26 = .ok (.newarray .long, 2) := by decide +kernel
theorem dX10_init_28 : decode cX10_init 28 = .ok (.putfield 19, 3) := by decide +kernel
theorem dX10_init_31 : decode cX10_init 31 = .ok (.aload_n 0, 1) := by decide +kernel
theorem dX10_init_32 : decode cX10_init 32 = .ok (.sipush 144, 3) := by decide +kernel
theorem dX10_init_35 : decode cX10_init 35 = .ok (.newarray .long, 2) := by decide +kernel
theorem dX10_init_37 : decode cX10_init 37 = .ok (.putfield 22, 3) := by decide +kernel
theorem dX10_init_40 : decode cX10_init 40 = .ok (.aload_n 0, 1) := by decide +kernel
theorem dX10_init_41 : decode cX10_init 41 = .ok (.aload_n 1, 1) := by decide +kernel
theorem dX10_init_42 : decode cX10_init 42 = .ok (.putfield 25, 3) := by decide +kernel
theorem dX10_init_45 : decode cX10_init 45 = .ok (.return_, 1) := by decide +kernel
theorem dX10_minuteOf_0 : decode cX10_minuteOf 0 = .ok (.lload_n 0, 1) := by decide +kernel
theorem dX10_minuteOf_1 : decode cX10_minuteOf 1 = .ok (.bipush 21, 2) := by decide +kernel
theorem dX10_minuteOf_3 : decode cX10_minuteOf 3 = .ok (.lshr, 1) := by decide +kernel
theorem dX10_minuteOf_4 : decode cX10_minuteOf 4 = .ok (.l2i, 1) := by decide +kernel
theorem dX10_minuteOf_5 : decode cX10_minuteOf 5 = .ok (.ireturn, 1) := by decide +kernel
theorem dX10_runsOf_0 : decode cX10_runsOf 0 = .ok (.lload_n 0, 1) := by decide +kernel
theorem dX10_runsOf_1 : decode cX10_runsOf 1 = .ok (.bipush 13, 2) := by decide +kernel
theorem dX10_runsOf_3 : decode cX10_runsOf 3 = .ok (.lshr, 1) := by decide +kernel
theorem dX10_runsOf_4 : decode cX10_runsOf 4 = .ok (.l2i, 1) := by decide +kernel
theorem dX10_runsOf_5 : decode cX10_runsOf 5 = .ok (.sipush 255, 3) := by decide +kernel
theorem dX10_runsOf_8 : decode cX10_runsOf 8 = .ok (.iand, 1) := by decide +kernel
theorem dX10_runsOf_9 : decode cX10_runsOf 9 = .ok (.ireturn, 1) := by decide +kernel
theorem dX10_trainOf_0 : decode cX10_trainOf 0 = .ok (.lload_n 0, 1) := by decide +kernel
theorem dX10_trainOf_1 : decode cX10_trainOf 1 = .ok (.bipush 9, 2) := by decide +kernel
theorem dX10_trainOf_3 : decode cX10_trainOf 3 = .ok (.lshr, 1) := by decide +kernel
theorem dX10_trainOf_4 : decode cX10_trainOf 4 = .ok (.l2i, 1) := by decide +kernel
theorem dX10_trainOf_5 : decode cX10_trainOf 5 = .ok (.bipush 15, 2) := by decide +kernel
theorem dX10_trainOf_7 : decode cX10_trainOf 7 = .ok (.iand, 1) := by decide +kernel
theorem dX10_trainOf_8 : decode cX10_trainOf 8 = .ok (.ireturn, 1) := by decide +kernel
theorem dX10_dayOf_0 : decode cX10_dayOf 0 = .ok (.lload_n 0, 1) := by decide +kernel
theorem dX10_dayOf_1 : decode cX10_dayOf 1 = .ok (.bipush 6, 2) := by decide +kernel
theorem dX10_dayOf_3 : decode cX10_dayOf 3 = .ok (.lshr, 1) := by decide +kernel
theorem dX10_dayOf_4 : decode cX10_dayOf 4 = .ok (.l2i, 1) := by decide +kernel
theorem dX10_dayOf_5 : decode cX10_dayOf 5 = .ok (.bipush 7, 2) := by decide +kernel
theorem dX10_dayOf_7 : decode cX10_dayOf 7 = .ok (.iand, 1) := by decide +kernel
theorem dX10_dayOf_8 : decode cX10_dayOf 8 = .ok (.ireturn, 1) := by decide +kernel
theorem dX10_takenOf_0 : decode cX10_takenOf 0 = .ok (.lload_n 0, 1) := by decide +kernel
theorem dX10_takenOf_1 : decode cX10_takenOf 1 = .ok (.iconst 3, 1) := by decide +kernel
theorem dX10_takenOf_2 : decode cX10_takenOf 2 = .ok (.lshr, 1) := by decide +kernel
theorem dX10_takenOf_3 : decode cX10_takenOf 3 = .ok (.l2i, 1) := by decide +kernel
theorem dX10_takenOf_4 : decode cX10_takenOf 4 = .ok (.bipush 7, 2) := by decide +kernel
theorem dX10_takenOf_6 : decode cX10_takenOf 6 = .ok (.iand, 1) := by decide +kernel
theorem dX10_takenOf_7 : decode cX10_takenOf 7 = .ok (.ireturn, 1) := by decide +kernel
theorem dX10_leftOf_0 : decode cX10_leftOf 0 = .ok (.lload_n 0, 1) := by decide +kernel
theorem dX10_leftOf_1 : decode cX10_leftOf 1 = .ok (.l2i, 1) := by decide +kernel
theorem dX10_leftOf_2 : decode cX10_leftOf 2 = .ok (.bipush 7, 2) := by decide +kernel
theorem dX10_leftOf_4 : decode cX10_leftOf 4 = .ok (.iand, 1) := by decide +kernel
theorem dX10_leftOf_5 : decode cX10_leftOf 5 = .ok (.ireturn, 1) := by decide +kernel
theorem dX10_refresh_0 : decode cX10_refresh 0 = .ok (.aload_n 0, 1) := by decide +kernel
theorem dX10_refresh_1 : decode cX10_refresh 1 = .ok (.getfield 29, 3) := by decide +kernel
theorem dX10_refresh_4 : decode cX10_refresh 4 = .ok (.ifCond .eq 4, 3) := by decide +kernel
theorem dX10_refresh_7 : decode cX10_refresh 7 = .ok (.return_, 1) := by decide +kernel
theorem dX10_refresh_8 : decode cX10_refresh 8 = .ok (.aload_n 0, 1) := by decide +kernel
theorem dX10_refresh_9 : decode cX10_refresh 9 = .ok (.invokevirtual 33, 3) := by decide +kernel
theorem dX10_refresh_12 : decode cX10_refresh 12 = .ok (.aload_n 0, 1) := by decide +kernel
theorem dX10_refresh_13 : decode cX10_refresh 13 = .ok (.invokevirtual 36, 3) := by decide +kernel
theorem dX10_refresh_16 : decode cX10_refresh 16 = .ok (.aload_n 0, 1) := by decide +kernel
theorem dX10_refresh_17 : decode cX10_refresh 17 = .ok (.invokevirtual 39, 3) := by decide +kernel
theorem dX10_refresh_20 : decode cX10_refresh 20 = .ok (.aload_n 0, 1) := by decide +kernel
theorem dX10_refresh_21 : decode cX10_refresh 21 = .ok (.iconst 1, 1) := by decide +kernel
theorem dX10_refresh_22 : decode cX10_refresh 22 = .ok (.putfield 29, 3) := by decide +kernel
theorem dX10_refresh_25 : decode cX10_refresh 25 = .ok (.return_, 1) := by decide +kernel
theorem dX10_keyAt_0 : decode cX10_keyAt 0 = .ok (.iload_n 1, 1) := by decide +kernel
theorem dX10_keyAt_1 : decode cX10_keyAt 1 = .ok (.ifCond .lt 20, 3) := by decide +kernel
theorem dX10_keyAt_4 : decode cX10_keyAt 4 = .ok (.iload_n 1, 1) := by decide +kernel
theorem dX10_keyAt_5 : decode cX10_keyAt 5 = .ok (.aload_n 0, 1) := by decide +kernel
theorem dX10_keyAt_6 : decode cX10_keyAt 6 = .ok (.getfield 42, 3) := by decide +kernel
theorem dX10_keyAt_9 : decode cX10_keyAt 9 = .ok (.if_icmp .ge 12, 3) := by decide +kernel
theorem dX10_keyAt_12 : decode cX10_keyAt 12 = .ok (.aload_n 0, 1) := by decide +kernel
theorem dX10_keyAt_13 : decode cX10_keyAt 13 = .ok (.getfield 11, 3) := by decide +kernel
theorem dX10_keyAt_16 : decode cX10_keyAt 16 = .ok (.iload_n 1, 1) := by decide +kernel
theorem dX10_keyAt_17 : decode cX10_keyAt 17 = .ok (.iaload, 1) := by decide +kernel
theorem dX10_keyAt_18 : decode cX10_keyAt 18 = .ok (.goto 4, 3) := by decide +kernel
theorem dX10_keyAt_21 : decode cX10_keyAt 21 = .ok (.iconst 0, 1) := by decide +kernel
theorem dX10_keyAt_22 : decode cX10_keyAt 22 = .ok (.ireturn, 1) := by decide +kernel
theorem dX10_firstBehind_0 : decode cX10_firstBehind 0 = .ok (.iconst 0, 1) := by decide +kernel
theorem dX10_firstBehind_1 : decode cX10_firstBehind 1 = .ok (.istore_n 2, 1) := by decide +kernel
theorem dX10_firstBehind_2 : decode cX10_firstBehind 2 = .ok (.iload_n 2, 1) := by decide +kernel
theorem dX10_firstBehind_3 : decode cX10_firstBehind 3 = .ok (.aload_n 0, 1) := by decide +kernel
theorem dX10_firstBehind_4 : decode cX10_firstBehind 4 = .ok (.getfield 42, 3) := by decide +kernel

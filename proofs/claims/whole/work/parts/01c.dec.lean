theorem dX7_bad_0 : decode cX7_bad 0 = .ok (.aload_n 0, 1) := by decide +kernel
theorem dX7_bad_1 : decode cX7_bad 1 = .ok (.getfield 1, 3) := by decide +kernel
theorem dX7_bad_4 : decode cX7_bad 4 = .ok (.iconst 0, 1) := by decide +kernel
theorem dX7_bad_5 : decode cX7_bad 5 = .ok (.dup2, 1) := by decide +kernel
theorem dX7_bad_6 : decode cX7_bad 6 = .ok (.iaload, 1) := by decide +kernel
theorem dX7_bad_7 : decode cX7_bad 7 = .ok (.iconst 1, 1) := by decide +kernel
theorem dX7_bad_8 : decode cX7_bad 8 = .ok (.iadd, 1) := by decide +kernel
theorem dX7_bad_9 : decode cX7_bad 9 = .ok (.iastore, 1) := by decide +kernel
theorem dX7_bad_10 : decode cX7_bad 10 = .ok (.bipush (-2), 2) := by decide +kernel
theorem dX7_bad_12 : decode cX7_bad 12 = .ok (.ireturn, 1) := by decide +kernel
theorem dX7_no_0 : decode cX7_no 0 = .ok (.aload_n 0, 1) := by decide +kernel
theorem dX7_no_1 : decode cX7_no 1 = .ok (.getfield 1, 3) := by decide +kernel
theorem dX7_no_4 : decode cX7_no 4 = .ok (.iconst 1, 1) := by decide +kernel
theorem dX7_no_5 : decode cX7_no 5 = .ok (.dup2, 1) := by decide +kernel
theorem dX7_no_6 : decode cX7_no 6 = .ok (.iaload, 1) := by decide +kernel
theorem dX7_no_7 : decode cX7_no 7 = .ok (.iconst 1, 1) := by decide +kernel
theorem dX7_no_8 : decode cX7_no 8 = .ok (.iadd, 1) := by decide +kernel
theorem dX7_no_9 : decode cX7_no 9 = .ok (.iastore, 1) := by decide +kernel
theorem dX7_no_10 : decode cX7_no 10 = .ok (.bipush (-3), 2) := by decide +kernel
theorem dX7_no_12 : decode cX7_no 12 = .ok (.ireturn, 1) := by decide +kernel
theorem dX7_full_0 : decode cX7_full 0 = .ok (.aload_n 0, 1) := by decide +kernel
theorem dX7_full_1 : decode cX7_full 1 = .ok (.getfield 1, 3) := by decide +kernel
theorem dX7_full_4 : decode cX7_full 4 = .ok (.iconst 2, 1) := by decide +kernel
theorem dX7_full_5 : decode cX7_full 5 = .ok (.dup2, 1) := by decide +kernel
theorem dX7_full_6 : decode cX7_full 6 = .ok (.iaload, 1) := by decide +kernel
theorem dX7_full_7 : decode cX7_full 7 = .ok (.iconst 1, 1) := by decide +kernel
theorem dX7_full_8 : decode cX7_full 8 = .ok (.iadd, 1) := by decide +kernel
theorem dX7_full_9 : decode cX7_full 9 = .ok (.iastore, 1) := by decide +kernel
theorem dX7_full_10 : decode cX7_full 10 = .ok (.bipush (-4), 2) := by decide +kernel
theorem dX7_full_12 : decode cX7_full 12 = .ok (.ireturn, 1) := by decide +kernel
theorem dX7_in_0 : decode cX7_in 0 = .ok (.iload_n 0, 1) := by decide +kernel
theorem dX7_in_1 : decode cX7_in 1 = .ok (.iload_n 1, 1) := by decide +kernel
theorem dX7_in_2 : decode cX7_in 2 = .ok (.if_icmp .lt 12, 3) := by decide +kernel
theorem dX7_in_5 : decode cX7_in 5 = .ok (.iload_n 0, 1) := by decide +kernel
theorem dX7_in_6 : decode cX7_in 6 = .ok (.iload_n 2, 1) := by decide +kernel
theorem dX7_in_7 : decode cX7_in 7 = .ok (.if_icmp .gt 7, 3) := by decide +kernel
theorem dX7_in_10 : decode cX7_in 10 = .ok (.iconst 1, 1) := by decide +kernel
theorem dX7_in_11 : decode cX7_in 11 = .ok (.goto 4, 3) := by decide +kernel
theorem dX7_in_14 : decode cX7_in 14 = .ok (.iconst 0, 1) := by decide +kernel
theorem dX7_in_15 : decode cX7_in 15 = .ok (.ireturn, 1) := by decide +kernel
theorem dX7_has_0 : decode cX7_has 0 = .ok (.iload_n 0, 1) := by decide +kernel
theorem dX7_has_1 : decode cX7_has 1 = .ok (.iload_n 1, 1) := by decide +kernel
theorem dX7_has_2 : decode cX7_has 2 = .ok (.ishr, 1) := by decide +kernel
theorem dX7_has_3 : decode cX7_has 3 = .ok (.iconst 1, 1) := by decide +kernel
theorem dX7_has_4 : decode cX7_has 4 = .ok (.iand, 1) := by decide +kernel
theorem dX7_has_5 : decode cX7_has 5 = .ok (.iconst 1, 1) := by decide +kernel
theorem dX7_has_6 : decode cX7_has 6 = .ok (.if_icmp .ne 7, 3) := by decide +kernel
theorem dX7_has_9 : decode cX7_has 9 = .ok (.iconst 1, 1) := by decide +kernel
theorem dX7_has_10 : decode cX7_has 10 = .ok (.goto 4, 3) := by decide +kernel
theorem dX7_has_13 : decode cX7_has 13 = .ok (.iconst 0, 1) := by decide +kernel
theorem dX7_has_14 : decode cX7_has 14 = .ok (.ireturn, 1) := by decide +kernel
theorem dX7_lesser_0 : decode cX7_lesser 0 = .ok (.iload_n 0, 1) := by decide +kernel
theorem dX7_lesser_1 : decode cX7_lesser 1 = .ok (.iload_n 1, 1) := by decide +kernel
theorem dX7_lesser_2 : decode cX7_lesser 2 = .ok (.if_icmp .ge 7, 3) := by decide +kernel
theorem dX7_lesser_5 : decode cX7_lesser 5 = .ok (.iload_n 0, 1) := by decide +kernel
theorem dX7_lesser_6 : decode cX7_lesser 6 = .ok (.goto 4, 3) := by decide +kernel
theorem dX7_lesser_9 : decode cX7_lesser 9 = .ok (.iload_n 1, 1) := by decide +kernel
theorem dX7_lesser_10 : decode cX7_lesser 10 = .ok (.ireturn, 1) := by decide +kernel
theorem dX7_greater_0 : decode cX7_greater 0 = .ok (.iload_n 0, 1) := by decide +kernel
theorem dX7_greater_1 : decode cX7_greater 1 = .ok (.iload_n 1, 1) := by decide +kernel
theorem dX7_greater_2 : decode cX7_greater 2 = .ok (.if_icmp .le 7, 3) := by decide +kernel
theorem dX7_greater_5 : decode cX7_greater 5 = .ok (.iload_n 0, 1) := by decide +kernel
theorem dX7_greater_6 : decode cX7_greater 6 = .ok (.goto 4, 3) := by decide +kernel
theorem dX7_greater_9 : decode cX7_greater 9 = .ok (.iload_n 1, 1) := by decide +kernel
theorem dX7_greater_10 : decode cX7_greater 10 = .ok (.ireturn, 1) := by decide +kernel
theorem dX7_off_0 : decode cX7_off 0 = .ok (.iload_n 0, 1) := by decide +kernel
theorem dX7_off_1 : decode cX7_off 1 = .ok (.iload_n 1, 1) := by decide +kernel
theorem dX7_off_2 : decode cX7_off 2 = .ok (.if_icmp .le 9, 3) := by decide +kernel
theorem dX7_off_5 : decode cX7_off 5 = .ok (.iload_n 0, 1) := by decide +kernel
theorem dX7_off_6 : decode cX7_off 6 = .ok (.iload_n 1, 1) := by decide +kernel
theorem dX7_off_7 : decode cX7_off 7 = .ok (.isub, 1) := by decide +kernel
theorem dX7_off_8 : decode cX7_off 8 = .ok (.goto 6, 3) := by decide +kernel
theorem dX7_off_11 : decode cX7_off 11 = .ok (.iload_n 1, 1) := by decide +kernel
theorem dX7_off_12 : decode cX7_off 12 = .ok (.iload_n 0, 1) := by decide +kernel
theorem dX7_off_13 : decode cX7_off 13 = .ok (.isub, 1) := by decide +kernel
theorem dX7_off_14 : decode cX7_off 14 = .ok (.ireturn, 1) := by decide +kernel
theorem dX7_far_0 : decode cX7_far 0 = .ok (.iload_n 0, 1) := by decide +kernel
theorem dX7_far_1 : decode cX7_far 1 = .ok (.iconst 5, 1) := by decide +kernel
theorem dX7_far_2 : decode cX7_far 2 = .ok (.idiv, 1) := by decide +kernel
theorem dX7_far_3 : decode cX7_far 3 = .ok (.iload_n 1, 1) := by decide +kernel
theorem dX7_far_4 : decode cX7_far 4 = .ok (.iconst 5, 1) := by decide +kernel
theorem dX7_far_5 : decode cX7_far 5 = .ok (.idiv, 1) := by decide +kernel
theorem dX7_far_6 : decode cX7_far 6 = .ok (.invokestatic 7, 3) := by decide +kernel
theorem dX7_far_9 : decode cX7_far 9 = .ok (.iload_n 0, 1) := by decide +kernel
theorem dX7_far_10 : decode cX7_far 10 = .ok (.iconst 5, 1) := by decide +kernel
theorem dX7_far_11 : decode cX7_far 11 = .ok (.irem, 1) := by decide +kernel
theorem dX7_far_12 : decode cX7_far 12 = .ok (.iload_n 1, 1) := by decide +kernel
theorem dX7_far_13 : decode cX7_far 13 = .ok (.iconst 5, 1) := by decide +kernel
theorem dX7_far_14 : decode cX7_far 14 = .ok (.irem, 1) := by decide +kernel
theorem dX7_far_15 : decode cX7_far 15 = .ok (.invokestatic 7, 3) := by decide +kernel
theorem dX7_far_18 : decode cX7_far 18 = .ok (.iadd, 1) := by decide +kernel
theorem dX7_far_19 : decode cX7_far 19 = .ok (.ireturn, 1) := by decide +kernel
theorem dX7_init_0 : decode cX7_init 0 = .ok (.aload_n 0, 1) := by decide +kernel
theorem dX7_init_1 : decode cX7_init 1 = .ok (.invokespecial 11, 3) := by decide +kernel
theorem dX7_init_4 : decode cX7_init 4 = .ok (.aload_n 0, 1) := by decide +kernel
theorem dX7_init_5 : decode cX7_init 5 = .ok (.iconst 3, 1) := by decide +kernel
theorem dX7_init_6 : decode cX7_init 6 = .ok (.newarray .int, 2) := by decide +kernel
theorem dX7_init_8 : decode cX7_init 8 = .ok (.putfield 1, 3) := by decide +kernel
theorem dX7_init_11 : decode cX7_init 11 = .ok (.aload_n 0, 1) := by decide +kernel
theorem dX7_init_12 : decode cX7_init 12 = .ok (.iconst 3, 1) := by decide +kernel
theorem dX7_init_13 : decode cX7_init 13 = .ok (.newarray .int, 2) := by decide +kernel
theorem dX7_init_15 : decode cX7_init 15 = .ok (.putfield 17, 3) := by decide +kernel
theorem dX7_init_18 : decode cX7_init 18 = .ok (.aload_n 0, 1) := by decide +kernel
theorem dX7_init_19 : decode cX7_init 19 = .ok (.iconst 3, 1) := by decide +kernel
theorem dX7_init_20 : decode cX7_init 20 = .ok (.newarray .int, 2) := by decide +kernel
theorem dX7_init_22 : decode cX7_init 22 = .ok (.putfield 20, 3) := by decide +kernel
theorem dX7_init_25 : decode cX7_init 25 = .ok (.aload_n 0, 1) := by decide +kernel
theorem dX7_init_26 : decode cX7_init 26 = .ok (.bipush 7, 2) := by decide +kernel
theorem dX7_init_28 : decode cX7_init 28 = .ok (.newarray .int, 2) := by decide +kernel
theorem dX7_init_30 : decode cX7_init 30 = .ok (.putfield 23, 3) := by decide +kernel
theorem dX7_init_33 : decode cX7_init 33 = .ok (.aload_n 0, 1) := by decide +kernel
theorem dX7_init_34 : decode cX7_init 34 = .ok (.bipush 7, 2) := by decide +kernel
theorem dX7_init_36 : decode cX7_init 36 = .ok (.newarray .int, 2) := by decide +kernel
theorem dX7_init_38 : decode cX7_init 38 = .ok (.putfield 26, 3) := by decide +kernel
theorem dX7_init_41 : decode cX7_init 41 = .ok (.aload_n 0, 1) := by decide +kernel
theorem dX7_init_42 : decode cX7_init 42 = .ok (.bipush 10, 2) := by decide +kernel
theorem dX7_init_44 : decode cX7_init 44 = .ok (.newarray .int, 2) := by decide +kernel
theorem dX7_init_46 : decode cX7_init 46 = .ok (.putfield 29, 3) := by decide +kernel
theorem dX7_init_49 : decode cX7_init 49 = .ok (.aload_n 0, 1) := by decide +kernel
theorem dX7_init_50 : decode cX7_init 50 = .ok (.bipush 18, 2) := by decide +kernel
theorem dX7_init_52 : decode cX7_init 52 = .ok (.newarray .int, 2) := by decide +kernel
theorem dX7_init_54 : decode cX7_init 54 = .ok (.putfield 32, 3) := by decide +kernel
theorem dX7_init_57 : decode cX7_init 57 = .ok (.aload_n 0, 1) := by decide +kernel
theorem dX7_init_58 : decode cX7_init 58 = .ok (.bipush 18, 2) := by decide +kernel
theorem dX7_init_60 : decode cX7_init 60 = .ok (.newarray .int, 2) := by decide +kernel
theorem dX7_init_62 : decode cX7_init 62 = .ok (.putfield 35, 3) := by decide +kernel
theorem dX7_init_65 : decode cX7_init 65 = .ok (.aload_n 0, 1) := by decide +kernel
theorem dX7_init_66 : decode cX7_init 66 = .ok (.sipush 150, 3) := by decide +kernel
theorem dX7_init_69 : decode cX7_init 69 = .ok (.newarray .int, 2) := by decide +kernel
theorem dX7_init_71 : decode cX7_init 71 = .ok (.putfield 38, 3) := by decide +kernel
theorem dX7_init_74 : decode cX7_init 74 = .ok (.aload_n 0, 1) := by decide +kernel
theorem dX7_init_75 : decode cX7_init 75 = .ok (.sipush 170, 3) := by decide +kernel
theorem dX7_init_78 : decode cX7_init 78 = .ok (.newarray .int, 2) := by decide +kernel
theorem dX7_init_80 : decode cX7_init 80 = .ok (.putfield 41, 3) := by decide +kernel
theorem dX7_init_83 : decode cX7_init 83 = .ok (.aload_n 0, 1) := by decide +kernel
theorem dX7_init_84 : decode cX7_init 84 = .ok (.bipush 88, 2) := by decide +kernel
theorem dX7_init_86 : decode cX7_init 86 = .ok (.newarray .int, 2) := by decide +kernel
theorem dX7_init_88 : decode cX7_init 88 = .ok (.putfield 44, 3) := by decide +kernel
theorem dX7_init_91 : decode cX7_init 91 = .ok (.aload_n 0, 1) := by decide +kernel
theorem dX7_init_92 : decode cX7_init 92 = .ok (.bipush 22, 2) := by decide +kernel
theorem dX7_init_94 : decode cX7_init 94 = .ok (.newarray .int, 2) := by decide +kernel
theorem dX7_init_96 : decode cX7_init 96 = .ok (.putfield 47, 3) := by decide +kernel
theorem dX7_init_99 : decode cX7_init 99 = .ok (.aload_n 0, 1) := by decide +kernel
theorem dX7_init_100 : decode cX7_init 100 = .ok (.sipush 275, 3) := by decide +kernel
theorem dX7_init_103 : decode cX7_init 103 = .ok (.newarray .int, 2) := by decide +kernel
theorem dX7_init_105 : decode cX7_init 105 = .ok (.putfield 50, 3) := by decide +kernel
theorem dX7_init_108 : decode cX7_init 108 = .ok (.aload_n 0, 1) := by decide +kernel
theorem dX7_init_109 : decode cX7_init 109 = .ok (.bipush 25, 2) := by decide +kernel
theorem dX7_init_111 : decode cX7_init 111 = .ok (.newarray .int, 2) := by decide +kernel
theorem dX7_init_113 : decode cX7_init 113 = .ok (.putfield 53, 3) := by decide +kernel
theorem dX7_init_116 : decode cX7_init 116 = .ok (.aload_n 0, 1) := by decide +kernel
theorem dX7_init_117 : decode cX7_init 117 = .ok (.lconst 1, 1) := by decide +kernel
theorem dX7_init_118 : decode cX7_init 118 = .ok (.putfield 56, 3) := by decide +kernel
theorem dX7_init_121 : decode cX7_init 121 = .ok (.aload_n 0, 1) := by decide +kernel
theorem dX7_init_122 : decode cX7_init 122 = .ok (.sipush 340, 3) := by decide +kernel
theorem dX7_init_125 : decode cX7_init 125 = .ok (.newarray .int, 2) := by decide +kernel
theorem dX7_init_127 : decode cX7_init 127 = .ok (.putfield 60, 3) := by decide +kernel
theorem dX7_init_130 : decode cX7_init 130 = .ok (.aload_n 0, 1) := by decide +kernel
theorem dX7_init_131 : decode cX7_init 131 = .ok (.iconst 2, 1) := by decide +kernel
theorem dX7_init_132 : decode cX7_init 132 = .ok (.newarray .int, 2) := by decide +kernel
theorem dX7_init_134 : decode cX7_init 134 = .ok (.putfield 63, 3) := by decide +kernel
theorem dX7_init_137 : decode cX7_init 137 = .ok (.aload_n 0, 1) := by decide +kernel
theorem dX7_init_138 : decode cX7_init 138 = .ok (.iconst 0, 1) := by decide +kernel
theorem dX7_init_139 : decode cX7_init 139 = .ok (.invokevirtual 66, 3) := by decide +kernel
theorem dX7_init_142 : decode cX7_init 142 = .ok (.return_, 1) := by decide +kernel
theorem dX7_begin_0 : decode cX7_begin 0 = .ok (.aload_n 0, 1) := by decide +kernel
theorem dX7_begin_1 : decode cX7_begin 1 = .ok (.iconst 0, 1) := by decide +kernel
theorem dX7_begin_2 : decode cX7_begin 2 = .ok (.putfield 70, 3) := by decide +kernel
theorem dX7_begin_5 : decode cX7_begin 5 = .ok (.aload_n 0, 1) := by decide +kernel
theorem dX7_begin_6 : decode cX7_begin 6 = .ok (.iconst 0, 1) := by decide +kernel
theorem dX7_begin_7 : decode cX7_begin 7 = .ok (.putfield 74, 3) := by decide +kernel
theorem dX7_begin_10 : decode cX7_begin 10 = .ok (.aload_n 0, 1) := by decide +kernel
theorem dX7_begin_11 : decode cX7_begin 11 = .ok (.iload_n 1, 1) := by decide +kernel
theorem dX7_begin_12 : decode cX7_begin 12 = .ok (.putfield 77, 3) := by decide +kernel
theorem dX7_begin_15 : decode cX7_begin 15 = .ok (.aload_n 0, 1) := by decide +kernel
theorem dX7_begin_16 : decode cX7_begin 16 = .ok (.iconst 0, 1) := by decide +kernel
theorem dX7_begin_17 : decode cX7_begin 17 = .ok (.putfield 80, 3) := by decide +kernel
theorem dX7_begin_20 : decode cX7_begin 20 = .ok (.aload_n 0, 1) := by decide +kernel
theorem dX7_begin_21 : decode cX7_begin 21 = .ok (.iconst 0, 1) := by decide +kernel
theorem dX7_begin_22 : decode cX7_begin 22 = .ok (.putfield 83, 3) := by decide +kernel
theorem dX7_begin_25 : decode cX7_begin 25 = .ok (.aload_n 0, 1) := by decide +kernel
theorem dX7_begin_26 : decode cX7_begin 26 = .ok (.iconst 0, 1) := by decide +kernel
theorem dX7_begin_27 : decode cX7_begin 27 = .ok (.putfield 86, 3) := by decide +kernel
theorem dX7_begin_30 : decode cX7_begin 30 = .ok (.aload_n 0, 1) := by decide +kernel
theorem dX7_begin_31 : decode cX7_begin 31 = .ok (.iconst 0, 1) := by decide +kernel
theorem dX7_begin_32 : decode cX7_begin 32 = .ok (.putfield 89, 3) := by decide +kernel
theorem dX7_begin_35 : decode cX7_begin 35 = .ok (.aload_n 0, 1) := by decide +kernel
theorem dX7_begin_36 : decode cX7_begin 36 = .ok (.iconst 0, 1) := by decide +kernel
theorem dX7_begin_37 : decode cX7_begin 37 = .ok (.putfield 92, 3) := by decide +kernel
theorem dX7_begin_40 : decode cX7_begin 40 = .ok (.return_, 1) := by decide +kernel
theorem dX7_isCell_0 : decode cX7_isCell 0 = .ok (.iload_n 0, 1) := by decide +kernel
theorem dX7_isCell_1 : decode cX7_isCell 1 = .ok (.iconst 0, 1) := by decide +kernel
theorem dX7_isCell_2 : decode cX7_isCell 2 = .ok (.bipush 24, 2) := by decide +kernel
theorem dX7_isCell_4 : decode cX7_isCell 4 = .ok (.invokestatic 95, 3) := by decide +kernel
theorem dX7_isCell_7 : decode cX7_isCell 7 = .ok (.ireturn, 1) := by decide +kernel
theorem dX7_isWhistle_0 : decode cX7_isWhistle 0 = .ok (.iload_n 1, 1) := by decide +kernel
theorem dX7_isWhistle_1 : decode cX7_isWhistle 1 = .ok (.iconst 0, 1) := by decide +kernel
theorem dX7_isWhistle_2 : decode cX7_isWhistle 2 = .ok (.aload_n 0, 1) := by decide +kernel
theorem dX7_isWhistle_3 : decode cX7_isWhistle 3 = .ok (.getfield 70, 3) := by decide +kernel
theorem dX7_isWhistle_6 : decode cX7_isWhistle 6 = .ok (.iconst 1, 1) := by decide +kernel
theorem dX7_isWhistle_7 : decode cX7_isWhistle 7 = .ok (.isub, 1) := by decide +kernel
theorem dX7_isWhistle_8 : decode cX7_isWhistle 8 = .ok (.invokestatic 95, 3) := by decide +kernel
theorem dX7_isWhistle_11 : decode cX7_isWhistle 11 = .ok (.ireturn, 1) := by decide +kernel
theorem dX7_isSheep_0 : decode cX7_isSheep 0 = .ok (.iload_n 1, 1) := by decide +kernel
theorem dX7_isSheep_1 : decode cX7_isSheep 1 = .ok (.iconst 0, 1) := by decide +kernel
theorem dX7_isSheep_2 : decode cX7_isSheep 2 = .ok (.aload_n 0, 1) := by decide +kernel
theorem dX7_isSheep_3 : decode cX7_isSheep 3 = .ok (.getfield 74, 3) := by decide +kernel
theorem dX7_isSheep_6 : decode cX7_isSheep 6 = .ok (.iconst 1, 1) := by decide +kernel
theorem dX7_isSheep_7 : decode cX7_isSheep 7 = .ok (.isub, 1) := by decide +kernel
theorem dX7_isSheep_8 : decode cX7_isSheep 8 = .ok (.invokestatic 95, 3) := by decide +kernel
theorem dX7_isSheep_11 : decode cX7_isSheep 11 = .ok (.ireturn, 1) := by decide +kernel
theorem dX7_isCall_0 : decode cX7_isCall 0 = .ok (.iload_n 0, 1) := by decide +kernel
theorem dX7_isCall_1 : decode cX7_isCall 1 = .ok (.iconst 0, 1) := by decide +kernel
theorem dX7_isCall_2 : decode cX7_isCall 2 = .ok (.iconst 4, 1) := by decide +kernel
theorem dX7_isCall_3 : decode cX7_isCall 3 = .ok (.invokestatic 95, 3) := by decide +kernel
theorem dX7_isCall_6 : decode cX7_isCall 6 = .ok (.ireturn, 1) := by decide +kernel
theorem dX7_fell_0 : decode cX7_fell 0 = .ok (.iload_n 1, 1) := by decide +kernel
theorem dX7_fell_1 : decode cX7_fell 1 = .ok (.invokestatic 99, 3) := by decide +kernel
theorem dX7_fell_4 : decode cX7_fell 4 = .ok (.ifCond .ne 8, 3) := by decide +kernel
theorem dX7_fell_7 : decode cX7_fell 7 = .ok (.aload_n 0, 1) := by decide +kernel
theorem dX7_fell_8 : decode cX7_fell 8 = .ok (.invokevirtual 103, 3) := by decide +kernel
theorem dX7_fell_11 : decode cX7_fell 11 = .ok (.ireturn, 1) := by decide +kernel
theorem dX7_fell_12 : decode cX7_fell 12 = .ok (.aload_n 0, 1) := by decide +kernel
theorem dX7_fell_13 : decode cX7_fell 13 = .ok (.getfield 74, 3) := by decide +kernel
theorem dX7_fell_16 : decode cX7_fell 16 = .ok (.istore_n 2, 1) := by decide +kernel
theorem dX7_fell_17 : decode cX7_fell 17 = .ok (.aload_n 0, 1) := by decide +kernel
theorem dX7_fell_18 : decode cX7_fell 18 = .ok (.iload_n 1, 1) := by decide +kernel
theorem dX7_fell_19 : decode cX7_fell 19 = .ok (.invokevirtual 66, 3) := by decide +kernel
theorem dX7_fell_22 : decode cX7_fell 22 = .ok (.iload_n 2, 1) := by decide +kernel
theorem dX7_fell_23 : decode cX7_fell 23 = .ok (.ireturn, 1) := by decide +kernel
theorem dX7_addWhistle_0 : decode cX7_addWhistle 0 = .ok (.aload_n 0, 1) := by decide +kernel
theorem dX7_addWhistle_1 : decode cX7_addWhistle 1 = .ok (.getfield 17, 3) := by decide +kernel
theorem dX7_addWhistle_4 : decode cX7_addWhistle 4 = .ok (.aload_n 0, 1) := by decide +kernel
theorem dX7_addWhistle_5 : decode cX7_addWhistle 5 = .ok (.getfield 70, 3) := by decide +kernel
theorem dX7_addWhistle_8 : decode cX7_addWhistle 8 = .ok (.iload_n 1, 1) := by decide +kernel
theorem dX7_addWhistle_9 : decode cX7_addWhistle 9 = .ok (.iastore, 1) := by decide +kernel
theorem dX7_addWhistle_10 : decode cX7_addWhistle 10 = .ok (.aload_n 0, 1) := by decide +kernel
theorem dX7_addWhistle_11 : decode cX7_addWhistle 11 = .ok (.getfield 20, 3) := by decide +kernel
theorem dX7_addWhistle_14 : decode cX7_addWhistle 14 = .ok (.aload_n 0, 1) := by decide +kernel
theorem dX7_addWhistle_15 : decode cX7_addWhistle 15 = .ok (.getfield 70, 3) := by decide +kernel
theorem dX7_addWhistle_18 : decode cX7_addWhistle 18 = .ok (.iload_n 2, 1) := by decide +kernel
theorem dX7_addWhistle_19 : decode cX7_addWhistle 19 = .ok (.iastore, 1) := by decide +kernel
theorem dX7_addWhistle_20 : decode cX7_addWhistle 20 = .ok (.aload_n 0, 1) := by decide +kernel
theorem dX7_addWhistle_21 : decode cX7_addWhistle 21 = .ok (.dup, 1) := by decide +kernel
theorem dX7_addWhistle_22 : decode cX7_addWhistle 22 = .ok (.getfield 70, 3) := by decide +kernel
theorem dX7_addWhistle_25 : decode cX7_addWhistle 25 = .ok (.iconst 1, 1) := by decide +kernel
theorem dX7_addWhistle_26 : decode cX7_addWhistle 26 = .ok (.iadd, 1) := by decide +kernel
theorem dX7_addWhistle_27 : decode cX7_addWhistle 27 = .ok (.putfield 70, 3) := by decide +kernel
theorem dX7_addWhistle_30 : decode cX7_addWhistle 30 = .ok (.aload_n 0, 1) := by decide +kernel
theorem dX7_addWhistle_31 : decode cX7_addWhistle 31 = .ok (.iconst 0, 1) := by decide +kernel
theorem dX7_addWhistle_32 : decode cX7_addWhistle 32 = .ok (.putfield 92, 3) := by decide +kernel
theorem dX7_addWhistle_35 : decode cX7_addWhistle 35 = .ok (.aload_n 0, 1) := by decide +kernel
theorem dX7_addWhistle_36 : decode cX7_addWhistle 36 = .ok (.getfield 70, 3) := by decide +kernel
theorem dX7_addWhistle_39 : decode cX7_addWhistle 39 = .ok (.iconst 1, 1) := by decide +kernel
theorem dX7_addWhistle_40 : decode cX7_addWhistle 40 = .ok (.isub, 1) := by decide +kernel
theorem dX7_addWhistle_41 : decode cX7_addWhistle 41 = .ok (.ireturn, 1) := by decide +kernel
theorem dX7_whistle_0 : decode cX7_whistle 0 = .ok (.iload_n 1, 1) := by decide +kernel
theorem dX7_whistle_1 : decode cX7_whistle 1 = .ok (.iconst 0, 1) := by decide +kernel
theorem dX7_whistle_2 : decode cX7_whistle 2 = .ok (.iconst 5, 1) := by decide +kernel
theorem dX7_whistle_3 : decode cX7_whistle 3 = .ok (.invokestatic 95, 3) := by decide +kernel
theorem dX7_whistle_6 : decode cX7_whistle 6 = .ok (.ifCond .eq 10, 3) := by decide +kernel
theorem dX7_whistle_9 : decode cX7_whistle 9 = .ok (.iload_n 2, 1) := by decide +kernel
theorem dX7_whistle_10 : decode cX7_whistle 10 = .ok (.invokestatic 99, 3) := by decide +kernel
theorem dX7_whistle_13 : decode cX7_whistle 13 = .ok (.ifCond .ne 8, 3) := by decide +kernel
theorem dX7_whistle_16 : decode cX7_whistle 16 = .ok (.aload_n 0, 1) := by decide +kernel
theorem dX7_whistle_17 : decode cX7_whistle 17 = .ok (.invokevirtual 103, 3) := by decide +kernel
theorem dX7_whistle_20 : decode cX7_whistle 20 = .ok (.ireturn, 1) := by decide +kernel
theorem dX7_whistle_21 : decode cX7_whistle 21 = .ok (.aload_n 0, 1) := by decide +kernel
theorem dX7_whistle_22 : decode cX7_whistle 22 = .ok (.getfield 70, 3) := by decide +kernel
theorem dX7_whistle_25 : decode cX7_whistle 25 = .ok (.iconst 3, 1) := by decide +kernel
theorem dX7_whistle_26 : decode cX7_whistle 26 = .ok (.if_icmp .ne 10, 3) := by decide +kernel
theorem dX7_whistle_29 : decode cX7_whistle 29 = .ok (.aload_n 0, 1) := by decide +kernel
theorem dX7_whistle_30 : decode cX7_whistle 30 = .ok (.invokevirtual 107, 3) := by decide +kernel
theorem dX7_whistle_33 : decode cX7_whistle 33 = .ok (.goto 9, 3) := by decide +kernel
theorem dX7_whistle_36 : decode cX7_whistle 36 = .ok (.aload_n 0, 1) := by decide +kernel
theorem dX7_whistle_37 : decode cX7_whistle 37 = .ok (.iload_n 1, 1) := by decide +kernel
theorem dX7_whistle_38 : decode cX7_whistle 38 = .ok (.iload_n 2, 1) := by decide +kernel
theorem dX7_whistle_39 : decode cX7_whistle 39 = .ok (.invokevirtual 110, 3) := by decide +kernel
theorem dX7_whistle_42 : decode cX7_whistle 42 = .ok (.ireturn, 1) := by decide +kernel
theorem dX7_addSheep_0 : decode cX7_addSheep 0 = .ok (.aload_n 0, 1) := by decide +kernel
theorem dX7_addSheep_1 : decode cX7_addSheep 1 = .ok (.getfield 23, 3) := by decide +kernel
theorem dX7_addSheep_4 : decode cX7_addSheep 4 = .ok (.aload_n 0, 1) := by decide +kernel
theorem dX7_addSheep_5 : decode cX7_addSheep 5 = .ok (.getfield 74, 3) := by decide +kernel
theorem dX7_addSheep_8 : decode cX7_addSheep 8 = .ok (.iload_n 1, 1) := by decide +kernel
theorem dX7_addSheep_9 : decode cX7_addSheep 9 = .ok (.iastore, 1) := by decide +kernel
theorem dX7_addSheep_10 : decode cX7_addSheep 10 = .ok (.aload_n 0, 1) := by decide +kernel
theorem dX7_addSheep_11 : decode cX7_addSheep 11 = .ok (.getfield 26, 3) := by decide +kernel
theorem dX7_addSheep_14 : decode cX7_addSheep 14 = .ok (.aload_n 0, 1) := by decide +kernel
theorem dX7_addSheep_15 : decode cX7_addSheep 15 = .ok (.getfield 74, 3) := by decide +kernel
theorem dX7_addSheep_18 : decode cX7_addSheep 18 = .ok (.iload_n 2, 1) := by decide +kernel
theorem dX7_addSheep_19 : decode cX7_addSheep 19 = .ok (.iastore, 1) := by decide +kernel
theorem dX7_addSheep_20 : decode cX7_addSheep 20 = .ok (.aload_n 0, 1) := by decide +kernel
theorem dX7_addSheep_21 : decode cX7_addSheep 21 = .ok (.dup, 1) := by decide +kernel
theorem dX7_addSheep_22 : decode cX7_addSheep 22 = .ok (.getfield 74, 3) := by decide +kernel
theorem dX7_addSheep_25 : decode cX7_addSheep 25 = .ok (.iconst 1, 1) := by decide +kernel
theorem dX7_addSheep_26 : decode cX7_addSheep 26 = .ok (.iadd, 1) := by decide +kernel
theorem dX7_addSheep_27 : decode cX7_addSheep 27 = .ok (.putfield 74, 3) := by decide +kernel
theorem dX7_addSheep_30 : decode cX7_addSheep 30 = .ok (.aload_n 0, 1) := by decide +kernel
theorem dX7_addSheep_31 : decode cX7_addSheep 31 = .ok (.iconst 0, 1) := by decide +kernel
theorem dX7_addSheep_32 : decode cX7_addSheep 32 = .ok (.putfield 92, 3) := by decide +kernel
theorem dX7_addSheep_35 : decode cX7_addSheep 35 = .ok (.aload_n 0, 1) := by decide +kernel
theorem dX7_addSheep_36 : decode cX7_addSheep 36 = .ok (.getfield 74, 3) := by decide +kernel
theorem dX7_addSheep_39 : decode cX7_addSheep 39 = .ok (.iconst 1, 1) := by decide +kernel
theorem dX7_addSheep_40 : decode cX7_addSheep 40 = .ok (.isub, 1) := by decide +kernel
theorem dX7_addSheep_41 : decode cX7_addSheep 41 = .ok (.ireturn, 1) := by decide +kernel
theorem dX7_sheep_0 : decode cX7_sheep 0 = .ok (.iload_n 1, 1) := by decide +kernel
theorem dX7_sheep_1 : decode cX7_sheep 1 = .ok (.iconst 0, 1) := by decide +kernel
theorem dX7_sheep_2 : decode cX7_sheep 2 = .ok (.iconst 5, 1) := by decide +kernel
theorem dX7_sheep_3 : decode cX7_sheep 3 = .ok (.invokestatic 95, 3) := by decide +kernel
theorem dX7_sheep_6 : decode cX7_sheep 6 = .ok (.ifCond .eq 10, 3) := by decide +kernel
theorem dX7_sheep_9 : decode cX7_sheep 9 = .ok (.iload_n 2, 1) := by decide +kernel
theorem dX7_sheep_10 : decode cX7_sheep 10 = .ok (.invokestatic 99, 3) := by decide +kernel
theorem dX7_sheep_13 : decode cX7_sheep 13 = .ok (.ifCond .ne 8, 3) := by decide +kernel
theorem dX7_sheep_16 : decode cX7_sheep 16 = .ok (.aload_n 0, 1) := by decide +kernel
theorem dX7_sheep_17 : decode cX7_sheep 17 = .ok (.invokevirtual 103, 3) := by decide +kernel
theorem dX7_sheep_20 : decode cX7_sheep 20 = .ok (.ireturn, 1) := by decide +kernel
theorem dX7_sheep_21 : decode cX7_sheep 21 = .ok (.aload_n 0, 1) := by decide +kernel
theorem dX7_sheep_22 : decode cX7_sheep 22 = .ok (.getfield 74, 3) := by decide +kernel
theorem dX7_sheep_25 : decode cX7_sheep 25 = .ok (.bipush 7, 2) := by decide +kernel
theorem dX7_sheep_27 : decode cX7_sheep 27 = .ok (.if_icmp .ne 10, 3) := by decide +kernel
theorem dX7_sheep_30 : decode cX7_sheep 30 = .ok (.aload_n 0, 1) := by decide +kernel
theorem dX7_sheep_31 : decode cX7_sheep 31 = .ok (.invokevirtual 107, 3) := by decide +kernel
theorem dX7_sheep_34 : decode cX7_sheep 34 = .ok (.goto 9, 3) := by decide +kernel
theorem dX7_sheep_37 : decode cX7_sheep 37 = .ok (.aload_n 0, 1) := by decide +kernel
theorem dX7_sheep_38 : decode cX7_sheep 38 = .ok (.iload_n 1, 1) := by decide +kernel
theorem dX7_sheep_39 : decode cX7_sheep 39 = .ok (.iload_n 2, 1) := by decide +kernel
theorem dX7_sheep_40 : decode cX7_sheep 40 = .ok (.invokevirtual 113, 3) := by decide +kernel
theorem dX7_sheep_43 : decode cX7_sheep 43 = .ok (.ireturn, 1) := by decide +kernel
theorem dX7_fold_0 : decode cX7_fold 0 = .ok (.iload_n 1, 1) := by decide +kernel
theorem dX7_fold_1 : decode cX7_fold 1 = .ok (.invokestatic 99, 3) := by decide +kernel
theorem dX7_fold_4 : decode cX7_fold 4 = .ok (.ifCond .ne 8, 3) := by decide +kernel
theorem dX7_fold_7 : decode cX7_fold 7 = .ok (.aload_n 0, 1) := by decide +kernel
theorem dX7_fold_8 : decode cX7_fold 8 = .ok (.invokevirtual 103, 3) := by decide +kernel
theorem dX7_fold_11 : decode cX7_fold 11 = .ok (.ireturn, 1) := by decide +kernel
theorem dX7_fold_12 : decode cX7_fold 12 = .ok (.aload_n 0, 1) := by decide +kernel
theorem dX7_fold_13 : decode cX7_fold 13 = .ok (.getfield 77, 3) := by decide +kernel
theorem dX7_fold_16 : decode cX7_fold 16 = .ok (.iload_n 1, 1) := by decide +kernel
theorem dX7_fold_17 : decode cX7_fold 17 = .ok (.if_icmp .ne 8, 3) := by decide +kernel
theorem dX7_fold_20 : decode cX7_fold 20 = .ok (.aload_n 0, 1) := by decide +kernel
theorem dX7_fold_21 : decode cX7_fold 21 = .ok (.invokevirtual 116, 3) := by decide +kernel
theorem dX7_fold_24 : decode cX7_fold 24 = .ok (.ireturn, 1) := by decide +kernel
theorem dX7_fold_25 : decode cX7_fold 25 = .ok (.aload_n 0, 1) := by decide +kernel
theorem dX7_fold_26 : decode cX7_fold 26 = .ok (.getfield 77, 3) := by decide +kernel
theorem dX7_fold_29 : decode cX7_fold 29 = .ok (.istore_n 2, 1) := by decide +kernel
theorem dX7_fold_30 : decode cX7_fold 30 = .ok (.aload_n 0, 1) := by decide +kernel
theorem dX7_fold_31 : decode cX7_fold 31 = .ok (.iload_n 1, 1) := by decide +kernel
theorem dX7_fold_32 : decode cX7_fold 32 = .ok (.putfield 77, 3) := by decide +kernel
theorem dX7_fold_35 : decode cX7_fold 35 = .ok (.aload_n 0, 1) := by decide +kernel
theorem dX7_fold_36 : decode cX7_fold 36 = .ok (.iconst 0, 1) := by decide +kernel
theorem dX7_fold_37 : decode cX7_fold 37 = .ok (.putfield 92, 3) := by decide +kernel
theorem dX7_fold_40 : decode cX7_fold 40 = .ok (.iload_n 2, 1) := by decide +kernel
theorem dX7_fold_41 : decode cX7_fold 41 = .ok (.ireturn, 1) := by decide +kernel
theorem dX7_type_0 : decode cX7_type 0 = .ok (.iload_n 1, 1) := by decide +kernel
theorem dX7_type_1 : decode cX7_type 1 = .ok (.iconst 0, 1) := by decide +kernel
theorem dX7_type_2 : decode cX7_type 2 = .ok (.bipush 127, 2) := by decide +kernel
theorem dX7_type_4 : decode cX7_type 4 = .ok (.invokestatic 95, 3) := by decide +kernel
theorem dX7_type_7 : decode cX7_type 7 = .ok (.ifCond .ne 8, 3) := by decide +kernel
theorem dX7_type_10 : decode cX7_type 10 = .ok (.aload_n 0, 1) := by decide +kernel
theorem dX7_type_11 : decode cX7_type 11 = .ok (.invokevirtual 103, 3) := by decide +kernel
theorem dX7_type_14 : decode cX7_type 14 = .ok (.ireturn, 1) := by decide +kernel
theorem dX7_type_15 : decode cX7_type 15 = .ok (.aload_n 0, 1) := by decide +kernel
theorem dX7_type_16 : decode cX7_type 16 = .ok (.getfield 119, 3) := by decide +kernel
theorem dX7_type_19 : decode cX7_type 19 = .ok (.sipush 150, 3) := by decide +kernel
theorem dX7_type_22 : decode cX7_type 22 = .ok (.if_icmp .ne 8, 3) := by decide +kernel
theorem dX7_type_25 : decode cX7_type 25 = .ok (.aload_n 0, 1) := by decide +kernel
theorem dX7_type_26 : decode cX7_type 26 = .ok (.invokevirtual 107, 3) := by decide +kernel
theorem dX7_type_29 : decode cX7_type 29 = .ok (.ireturn, 1) := by decide +kernel
theorem dX7_type_30 : decode cX7_type 30 = .ok (.aload_n 0, 1) := by decide +kernel
theorem dX7_type_31 : decode cX7_type 31 = .ok (.getfield 38, 3) := by decide +kernel
theorem dX7_type_34 : decode cX7_type 34 = .ok (.aload_n 0, 1) := by decide +kernel
theorem dX7_type_35 : decode cX7_type 35 = .ok (.getfield 119, 3) := by decide +kernel
theorem dX7_type_38 : decode cX7_type 38 = .ok (.iload_n 1, 1) := by decide +kernel
theorem dX7_type_39 : decode cX7_type 39 = .ok (.iastore, 1) := by decide +kernel
theorem dX7_type_40 : decode cX7_type 40 = .ok (.aload_n 0, 1) := by decide +kernel
theorem dX7_type_41 : decode cX7_type 41 = .ok (.dup, 1) := by decide +kernel
theorem dX7_type_42 : decode cX7_type 42 = .ok (.getfield 119, 3) := by decide +kernel
theorem dX7_type_45 : decode cX7_type 45 = .ok (.iconst 1, 1) := by decide +kernel
theorem dX7_type_46 : decode cX7_type 46 = .ok (.iadd, 1) := by decide +kernel
theorem dX7_type_47 : decode cX7_type 47 = .ok (.putfield 119, 3) := by decide +kernel
theorem dX7_type_50 : decode cX7_type 50 = .ok (.aload_n 0, 1) := by decide +kernel
theorem dX7_type_51 : decode cX7_type 51 = .ok (.getfield 119, 3) := by decide +kernel
theorem dX7_type_54 : decode cX7_type 54 = .ok (.ireturn, 1) := by decide +kernel
theorem dX7_clear_0 : decode cX7_clear 0 = .ok (.aload_n 0, 1) := by decide +kernel
theorem dX7_clear_1 : decode cX7_clear 1 = .ok (.getfield 119, 3) := by decide +kernel
theorem dX7_clear_4 : decode cX7_clear 4 = .ok (.istore_n 1, 1) := by decide +kernel
theorem dX7_clear_5 : decode cX7_clear 5 = .ok (.aload_n 0, 1) := by decide +kernel
theorem dX7_clear_6 : decode cX7_clear 6 = .ok (.iconst 0, 1) := by decide +kernel
theorem dX7_clear_7 : decode cX7_clear 7 = .ok (.putfield 119, 3) := by decide +kernel
theorem dX7_clear_10 : decode cX7_clear 10 = .ok (.iload_n 1, 1) := by decide +kernel
theorem dX7_clear_11 : decode cX7_clear 11 = .ok (.ireturn, 1) := by decide +kernel
theorem dX7_here_0 : decode cX7_here 0 = .ok (.aload_n 0, 1) := by decide +kernel
theorem dX7_here_1 : decode cX7_here 1 = .ok (.getfield 122, 3) := by decide +kernel
theorem dX7_here_4 : decode cX7_here 4 = .ok (.aload_n 0, 1) := by decide +kernel
theorem dX7_here_5 : decode cX7_here 5 = .ok (.getfield 119, 3) := by decide +kernel
theorem dX7_here_8 : decode cX7_here 8 = .ok (.if_icmp .ge 15, 3) := by decide +kernel
theorem dX7_here_11 : decode cX7_here 11 = .ok (.aload_n 0, 1) := by decide +kernel
theorem dX7_here_12 : decode cX7_here 12 = .ok (.getfield 38, 3) := by decide +kernel
theorem dX7_here_15 : decode cX7_here 15 = .ok (.aload_n 0, 1) := by decide +kernel
theorem dX7_here_16 : decode cX7_here 16 = .ok (.getfield 122, 3) := by decide +kernel
theorem dX7_here_19 : decode cX7_here 19 = .ok (.iaload, 1) := by decide +kernel
theorem dX7_here_20 : decode cX7_here 20 = .ok (.goto 4, 3) := by decide +kernel
theorem dX7_here_23 : decode cX7_here 23 = .ok (.iconst (-1), 1) := by decide +kernel
theorem dX7_here_24 : decode cX7_here 24 = .ok (.ireturn, 1) := by decide +kernel
theorem dX7_skip_0 : decode cX7_skip 0 = .ok (.aload_n 0, 1) := by decide +kernel
theorem dX7_skip_1 : decode cX7_skip 1 = .ok (.invokevirtual 125, 3) := by decide +kernel
theorem dX7_skip_4 : decode cX7_skip 4 = .ok (.bipush 32, 2) := by decide +kernel
theorem dX7_skip_6 : decode cX7_skip 6 = .ok (.if_icmp .ne 16, 3) := by decide +kernel
theorem dX7_skip_9 : decode cX7_skip 9 = .ok (.aload_n 0, 1) := by decide +kernel
theorem dX7_skip_10 : decode cX7_skip 10 = .ok (.dup, 1) := by decide +kernel
theorem dX7_skip_11 : decode cX7_skip 11 = .ok (.getfield 122, 3) := by decide +kernel
theorem dX7_skip_14 : decode cX7_skip 14 = .ok (.iconst 1, 1) := by decide +kernel
theorem dX7_skip_15 : decode cX7_skip 15 = .ok (.iadd, 1) := by decide +kernel
theorem dX7_skip_16 : decode cX7_skip 16 = .ok (.putfield 122, 3) := by decide +kernel
theorem dX7_skip_19 : decode cX7_skip 19 = .ok (.goto (-19), 3) := by decide +kernel
theorem dX7_skip_22 : decode cX7_skip 22 = .ok (.return_, 1) := by decide +kernel
theorem dX7_isLetter_0 : decode cX7_isLetter 0 = .ok (.iload_n 0, 1) := by decide +kernel
theorem dX7_isLetter_1 : decode cX7_isLetter 1 = .ok (.bipush 97, 2) := by decide +kernel
theorem dX7_isLetter_3 : decode cX7_isLetter 3 = .ok (.bipush 122, 2) := by decide +kernel
theorem dX7_isLetter_5 : decode cX7_isLetter 5 = .ok (.invokestatic 95, 3) := by decide +kernel
theorem dX7_isLetter_8 : decode cX7_isLetter 8 = .ok (.ireturn, 1) := by decide +kernel
theorem dX7_isFigure_0 : decode cX7_isFigure 0 = .ok (.iload_n 0, 1) := by decide +kernel
theorem dX7_isFigure_1 : decode cX7_isFigure 1 = .ok (.bipush 48, 2) := by decide +kernel
theorem dX7_isFigure_3 : decode cX7_isFigure 3 = .ok (.bipush 57, 2) := by decide +kernel
theorem dX7_isFigure_5 : decode cX7_isFigure 5 = .ok (.invokestatic 95, 3) := by decide +kernel
theorem dX7_isFigure_8 : decode cX7_isFigure 8 = .ok (.ireturn, 1) := by decide +kernel
theorem dX7_wordSize_0 : decode cX7_wordSize 0 = .ok (.iconst 0, 1) := by decide +kernel
theorem dX7_wordSize_1 : decode cX7_wordSize 1 = .ok (.istore_n 1, 1) := by decide +kernel
theorem dX7_wordSize_2 : decode cX7_wordSize 2 = .ok (.aload_n 0, 1) := by decide +kernel
theorem dX7_wordSize_3 : decode cX7_wordSize 3 = .ok (.getfield 122, 3) := by decide +kernel
theorem dX7_wordSize_6 : decode cX7_wordSize 6 = .ok (.iload_n 1, 1) := by decide +kernel
theorem dX7_wordSize_7 : decode cX7_wordSize 7 = .ok (.iadd, 1) := by decide +kernel
theorem dX7_wordSize_8 : decode cX7_wordSize 8 = .ok (.aload_n 0, 1) := by decide +kernel
theorem dX7_wordSize_9 : decode cX7_wordSize 9 = .ok (.getfield 119, 3) := by decide +kernel
theorem dX7_wordSize_12 : decode cX7_wordSize 12 = .ok (.if_icmp .ge 26, 3) := by decide +kernel
theorem dX7_wordSize_15 : decode cX7_wordSize 15 = .ok (.aload_n 0, 1) := by decide +kernel
theorem dX7_wordSize_16 : decode cX7_wordSize 16 = .ok (.getfield 38, 3) := by decide +kernel
theorem dX7_wordSize_19 : decode cX7_wordSize 19 = .ok (.aload_n 0, 1) := by decide +kernel
theorem dX7_wordSize_20 : decode cX7_wordSize 20 = .ok (.getfield 122, 3) := by decide +kernel
theorem dX7_wordSize_23 : decode cX7_wordSize 23 = .ok (.iload_n 1, 1) := by decide +kernel
theorem dX7_wordSize_24 : decode cX7_wordSize 24 = .ok (.iadd, 1) := by decide +kernel
theorem dX7_wordSize_25 : decode cX7_wordSize 25 = .ok (.iaload, 1) := by decide +kernel
theorem dX7_wordSize_26 : decode cX7_wordSize 26 = .ok (.invokestatic 128, 3) := by decide +kernel
theorem dX7_wordSize_29 : decode cX7_wordSize 29 = .ok (.ifCond .eq 9, 3) := by decide +kernel
theorem dX7_wordSize_32 : decode cX7_wordSize 32 = .ok (.iinc 1 1, 3) := by decide +kernel
theorem dX7_wordSize_35 : decode cX7_wordSize 35 = .ok (.goto (-33), 3) := by decide +kernel
theorem dX7_wordSize_38 : decode cX7_wordSize 38 = .ok (.iload_n 1, 1) := by decide +kernel
theorem dX7_wordSize_39 : decode cX7_wordSize 39 = .ok (.ireturn, 1) := by decide +kernel
theorem dX7_letter_0 : decode cX7_letter 0 = .ok (.aload_n 0, 1) := by decide +kernel
theorem dX7_letter_1 : decode cX7_letter 1 = .ok (.getfield 38, 3) := by decide +kernel
theorem dX7_letter_4 : decode cX7_letter 4 = .ok (.aload_n 0, 1) := by decide +kernel
theorem dX7_letter_5 : decode cX7_letter 5 = .ok (.getfield 122, 3) := by decide +kernel
theorem dX7_letter_8 : decode cX7_letter 8 = .ok (.iload_n 1, 1) := by decide +kernel
theorem dX7_letter_9 : decode cX7_letter 9 = .ok (.iadd, 1) := by decide +kernel
theorem dX7_letter_10 : decode cX7_letter 10 = .ok (.iaload, 1) := by decide +kernel
theorem dX7_letter_11 : decode cX7_letter 11 = .ok (.ireturn, 1) := by decide +kernel
theorem dX7_wordHere_0 : decode cX7_wordHere 0 = .ok (.aload_n 0, 1) := by decide +kernel
theorem dX7_wordHere_1 : decode cX7_wordHere 1 = .ok (.invokevirtual 131, 3) := by decide +kernel
theorem dX7_wordHere_4 : decode cX7_wordHere 4 = .ok (.istore_n 1, 1) := by decide +kernel
theorem dX7_wordHere_5 : decode cX7_wordHere 5 = .ok (.iload_n 1, 1) := by decide +kernel
theorem dX7_wordHere_6 : decode cX7_wordHere 6 = .ok (.iconst 4, 1) := by decide +kernel
theorem dX7_wordHere_7 : decode cX7_wordHere 7 = .ok (.if_icmp .ne 91, 3) := by decide +kernel
theorem dX7_wordHere_10 : decode cX7_wordHere 10 = .ok (.aload_n 0, 1) := by decide +kernel
theorem dX7_wordHere_11 : decode cX7_wordHere 11 = .ok (.iconst 0, 1) := by decide +kernel
theorem dX7_wordHere_12 : decode cX7_wordHere 12 = .ok (.invokevirtual 134, 3) := by decide +kernel
theorem dX7_wordHere_15 : decode cX7_wordHere 15 = .ok (.bipush 102, 2) := by decide +kernel
theorem dX7_wordHere_17 : decode cX7_wordHere 17 = .ok (.if_icmp .ne 35, 3) := by decide +kernel
theorem dX7_wordHere_20 : decode cX7_wordHere 20 = .ok (.aload_n 0, 1) := by decide +kernel
theorem dX7_wordHere_21 : decode cX7_wordHere 21 = .ok (.iconst 1, 1) := by decide +kernel
theorem dX7_wordHere_22 : decode cX7_wordHere 22 = .ok (.invokevirtual 134, 3) := by decide +kernel
theorem dX7_wordHere_25 : decode cX7_wordHere 25 = .ok (.bipush 101, 2) := by decide +kernel
theorem dX7_wordHere_27 : decode cX7_wordHere 27 = .ok (.if_icmp .ne 25, 3) := by decide +kernel
theorem dX7_wordHere_30 : decode cX7_wordHere 30 = .ok (.aload_n 0, 1) := by decide +kernel
theorem dX7_wordHere_31 : decode cX7_wordHere 31 = .ok (.iconst 2, 1) := by decide +kernel
theorem dX7_wordHere_32 : decode cX7_wordHere 32 = .ok (.invokevirtual 134, 3) := by decide +kernel
theorem dX7_wordHere_35 : decode cX7_wordHere 35 = .ok (.bipush 108, 2) := by decide +kernel
theorem dX7_wordHere_37 : decode cX7_wordHere 37 = .ok (.if_icmp .ne 15, 3) := by decide +kernel
theorem dX7_wordHere_40 : decode cX7_wordHere 40 = .ok (.aload_n 0, 1) := by decide +kernel
theorem dX7_wordHere_41 : decode cX7_wordHere 41 = .ok (.iconst 3, 1) := by decide +kernel
theorem dX7_wordHere_42 : decode cX7_wordHere 42 = .ok (.invokevirtual 134, 3) := by decide +kernel
theorem dX7_wordHere_45 : decode cX7_wordHere 45 = .ok (.bipush 108, 2) := by decide +kernel
theorem dX7_wordHere_47 : decode cX7_wordHere 47 = .ok (.if_icmp .ne 5, 3) := by decide +kernel
theorem dX7_wordHere_50 : decode cX7_wordHere 50 = .ok (.iconst 0, 1) := by decide +kernel
theorem dX7_wordHere_51 : decode cX7_wordHere 51 = .ok (.ireturn, 1) := by decide +kernel
theorem dX7_wordHere_52 : decode cX7_wordHere 52 = .ok (.aload_n 0, 1) := by decide +kernel
theorem dX7_wordHere_53 : decode cX7_wordHere 53 = .ok (.iconst 0, 1) := by decide +kernel
theorem dX7_wordHere_54 : decode cX7_wordHere 54 = .ok (.invokevirtual 134, 3) := by decide +kernel
theorem dX7_wordHere_57 : decode cX7_wordHere 57 = .ok (.bipush 99, 2) := by decide +kernel
theorem dX7_wordHere_59 : decode cX7_wordHere 59 = .ok (.if_icmp .ne 37, 3) := by decide +kernel
theorem dX7_wordHere_62 : decode cX7_wordHere 62 = .ok (.aload_n 0, 1) := by decide +kernel
theorem dX7_wordHere_63 : decode cX7_wordHere 63 = .ok (.iconst 1, 1) := by decide +kernel
theorem dX7_wordHere_64 : decode cX7_wordHere 64 = .ok (.invokevirtual 134, 3) := by decide +kernel
theorem dX7_wordHere_67 : decode cX7_wordHere 67 = .ok (.bipush 97, 2) := by decide +kernel
theorem dX7_wordHere_69 : decode cX7_wordHere 69 = .ok (.if_icmp .ne 27, 3) := by decide +kernel
theorem dX7_wordHere_72 : decode cX7_wordHere 72 = .ok (.aload_n 0, 1) := by decide +kernel
theorem dX7_wordHere_73 : decode cX7_wordHere 73 = .ok (.iconst 2, 1) := by decide +kernel
theorem dX7_wordHere_74 : decode cX7_wordHere 74 = .ok (.invokevirtual 134, 3) := by decide +kernel
theorem dX7_wordHere_77 : decode cX7_wordHere 77 = .ok (.bipush 108, 2) := by decide +kernel
theorem dX7_wordHere_79 : decode cX7_wordHere 79 = .ok (.if_icmp .ne 17, 3) := by decide +kernel
theorem dX7_wordHere_82 : decode cX7_wordHere 82 = .ok (.aload_n 0, 1) := by decide +kernel
theorem dX7_wordHere_83 : decode cX7_wordHere 83 = .ok (.iconst 3, 1) := by decide +kernel
theorem dX7_wordHere_84 : decode cX7_wordHere 84 = .ok (.invokevirtual 134, 3) := by decide +kernel
theorem dX7_wordHere_87 : decode cX7_wordHere 87 = .ok (.bipush 108, 2) := by decide +kernel
theorem dX7_wordHere_89 : decode cX7_wordHere 89 = .ok (.if_icmp .ne 7, 3) := by decide +kernel
theorem dX7_wordHere_92 : decode cX7_wordHere 92 = .ok (.iconst 3, 1) := by decide +kernel
theorem dX7_wordHere_93 : decode cX7_wordHere 93 = .ok (.goto 4, 3) := by decide +kernel
theorem dX7_wordHere_96 : decode cX7_wordHere 96 = .ok (.iconst (-1), 1) := by decide +kernel
theorem dX7_wordHere_97 : decode cX7_wordHere 97 = .ok (.ireturn, 1) := by decide +kernel
theorem dX7_wordHere_98 : decode cX7_wordHere 98 = .ok (.iload_n 1, 1) := by decide +kernel
theorem dX7_wordHere_99 : decode cX7_wordHere 99 = .ok (.iconst 5, 1) := by decide +kernel
theorem dX7_wordHere_100 : decode cX7_wordHere 100 = .ok (.if_icmp .ne 111, 3) := by decide +kernel
theorem dX7_wordHere_103 : decode cX7_wordHere 103 = .ok (.aload_n 0, 1) := by decide +kernel
theorem dX7_wordHere_104 : decode cX7_wordHere 104 = .ok (.iconst 0, 1) := by decide +kernel
theorem dX7_wordHere_105 : decode cX7_wordHere 105 = .ok (.invokevirtual 134, 3) := by decide +kernel
theorem dX7_wordHere_108 : decode cX7_wordHere 108 = .ok (.bipush 115, 2) := by decide +kernel
theorem dX7_wordHere_110 : decode cX7_wordHere 110 = .ok (.if_icmp .ne 45, 3) := by decide +kernel
theorem dX7_wordHere_113 : decode cX7_wordHere 113 = .ok (.aload_n 0, 1) := by decide +kernel
theorem dX7_wordHere_114 : decode cX7_wordHere 114 = .ok (.iconst 1, 1) := by decide +kernel
theorem dX7_wordHere_115 : decode cX7_wordHere 115 = .ok (.invokevirtual 134, 3) := by decide +kernel
theorem dX7_wordHere_118 : decode cX7_wordHere 118 = .ok (.bipush 104, 2) := by decide +kernel
theorem dX7_wordHere_120 : decode cX7_wordHere 120 = .ok (.if_icmp .ne 35, 3) := by decide +kernel
theorem dX7_wordHere_123 : decode cX7_wordHere 123 = .ok (.aload_n 0, 1) := by decide +kernel
theorem dX7_wordHere_124 : decode cX7_wordHere 124 = .ok (.iconst 2, 1) := by decide +kernel
theorem dX7_wordHere_125 : decode cX7_wordHere 125 = .ok (.invokevirtual 134, 3) := by decide +kernel
theorem dX7_wordHere_128 : decode cX7_wordHere 128 = .ok (.bipush 101, 2) := by decide +kernel
theorem dX7_wordHere_130 : decode cX7_wordHere 130 = .ok (.if_icmp .ne 25, 3) := by decide +kernel
theorem dX7_wordHere_133 : decode cX7_wordHere 133 = .ok (.aload_n 0, 1) := by decide +kernel
theorem dX7_wordHere_134 : decode cX7_wordHere 134 = .ok (.iconst 3, 1) := by decide +kernel
theorem dX7_wordHere_135 : decode cX7_wordHere 135 = .ok (.invokevirtual 134, 3) := by decide +kernel
theorem dX7_wordHere_138 : decode cX7_wordHere 138 = .ok (.bipush 101, 2) := by decide +kernel
theorem dX7_wordHere_140 : decode cX7_wordHere 140 = .ok (.if_icmp .ne 15, 3) := by decide +kernel
theorem dX7_wordHere_143 : decode cX7_wordHere 143 = .ok (.aload_n 0, 1) := by decide +kernel
theorem dX7_wordHere_144 : decode cX7_wordHere 144 = .ok (.iconst 4, 1) := by decide +kernel
theorem dX7_wordHere_145 : decode cX7_wordHere 145 = .ok (.invokevirtual 134, 3) := by decide +kernel
theorem dX7_wordHere_148 : decode cX7_wordHere 148 = .ok (.bipush 112, 2) := by decide +kernel
theorem dX7_wordHere_150 : decode cX7_wordHere 150 = .ok (.if_icmp .ne 5, 3) := by decide +kernel
theorem dX7_wordHere_153 : decode cX7_wordHere 153 = .ok (.iconst 2, 1) := by decide +kernel
theorem dX7_wordHere_154 : decode cX7_wordHere 154 = .ok (.ireturn, 1) := by decide +kernel
theorem dX7_wordHere_155 : decode cX7_wordHere 155 = .ok (.aload_n 0, 1) := by decide +kernel
theorem dX7_wordHere_156 : decode cX7_wordHere 156 = .ok (.iconst 0, 1) := by decide +kernel
theorem dX7_wordHere_157 : decode cX7_wordHere 157 = .ok (.invokevirtual 134, 3) := by decide +kernel
theorem dX7_wordHere_160 : decode cX7_wordHere 160 = .ok (.bipush 115, 2) := by decide +kernel
theorem dX7_wordHere_162 : decode cX7_wordHere 162 = .ok (.if_icmp .ne 47, 3) := by decide +kernel
theorem dX7_wordHere_165 : decode cX7_wordHere 165 = .ok (.aload_n 0, 1) := by decide +kernel
theorem dX7_wordHere_166 : decode cX7_wordHere 166 = .ok (.iconst 1, 1) := by decide +kernel
theorem dX7_wordHere_167 : decode cX7_wordHere 167 = .ok (.invokevirtual 134, 3) := by decide +kernel
theorem dX7_wordHere_170 : decode cX7_wordHere 170 = .ok (.bipush 116, 2) := by decide +kernel
theorem dX7_wordHere_172 : decode cX7_wordHere 172 = .ok (.if_icmp .ne 37, 3) := by decide +kernel
theorem dX7_wordHere_175 : decode cX7_wordHere 175 = .ok (.aload_n 0, 1) := by decide +kernel
theorem dX7_wordHere_176 : decode cX7_wordHere 176 = .ok (.iconst 2, 1) := by decide +kernel
theorem dX7_wordHere_177 : decode cX7_wordHere 177 = .ok (.invokevirtual 134, 3) := by decide +kernel
theorem dX7_wordHere_180 : decode cX7_wordHere 180 = .ok (.bipush 101, 2) := by decide +kernel
theorem dX7_wordHere_182 : decode cX7_wordHere 182 = .ok (.if_icmp .ne 27, 3) := by decide +kernel
theorem dX7_wordHere_185 : decode cX7_wordHere 185 = .ok (.aload_n 0, 1) := by decide +kernel
theorem dX7_wordHere_186 : decode cX7_wordHere 186 = .ok (.iconst 3, 1) := by decide +kernel
theorem dX7_wordHere_187 : decode cX7_wordHere 187 = .ok (.invokevirtual 134, 3) := by decide +kernel
theorem dX7_wordHere_190 : decode cX7_wordHere 190 = .ok (.bipush 112, 2) := by decide +kernel
theorem dX7_wordHere_192 : decode cX7_wordHere 192 = .ok (.if_icmp .ne 17, 3) := by decide +kernel
theorem dX7_wordHere_195 : decode cX7_wordHere 195 = .ok (.aload_n 0, 1) := by decide +kernel
theorem dX7_wordHere_196 : decode cX7_wordHere 196 = .ok (.iconst 4, 1) := by decide +kernel
theorem dX7_wordHere_197 : decode cX7_wordHere 197 = .ok (.invokevirtual 134, 3) := by decide +kernel
theorem dX7_wordHere_200 : decode cX7_wordHere 200 = .ok (.bipush 115, 2) := by decide +kernel
theorem dX7_wordHere_202 : decode cX7_wordHere 202 = .ok (.if_icmp .ne 7, 3) := by decide +kernel
theorem dX7_wordHere_205 : decode cX7_wordHere 205 = .ok (.iconst 4, 1) := by decide +kernel
theorem dX7_wordHere_206 : decode cX7_wordHere 206 = .ok (.goto 4, 3) := by decide +kernel
theorem dX7_wordHere_209 : decode cX7_wordHere 209 = .ok (.iconst (-1), 1) := by decide +kernel
theorem dX7_wordHere_210 : decode cX7_wordHere 210 = .ok (.ireturn, 1) := by decide +kernel
theorem dX7_wordHere_211 : decode cX7_wordHere 211 = .ok (.iload_n 1, 1) := by decide +kernel
theorem dX7_wordHere_212 : decode cX7_wordHere 212 = .ok (.bipush 7, 2) := by decide +kernel
theorem dX7_wordHere_214 : decode cX7_wordHere 214 = .ok (.if_icmp .eq 5, 3) := by decide +kernel
theorem dX7_wordHere_217 : decode cX7_wordHere 217 = .ok (.iconst (-1), 1) := by decide +kernel
theorem dX7_wordHere_218 : decode cX7_wordHere 218 = .ok (.ireturn, 1) := by decide +kernel
theorem dX7_wordHere_219 : decode cX7_wordHere 219 = .ok (.aload_n 0, 1) := by decide +kernel
theorem dX7_wordHere_220 : decode cX7_wordHere 220 = .ok (.iconst 0, 1) := by decide +kernel
theorem dX7_wordHere_221 : decode cX7_wordHere 221 = .ok (.invokevirtual 134, 3) := by decide +kernel
theorem dX7_wordHere_224 : decode cX7_wordHere 224 = .ok (.bipush 119, 2) := by decide +kernel
theorem dX7_wordHere_226 : decode cX7_wordHere 226 = .ok (.if_icmp .ne 37, 3) := by decide +kernel
theorem dX7_wordHere_229 : decode cX7_wordHere 229 = .ok (.aload_n 0, 1) := by decide +kernel
theorem dX7_wordHere_230 : decode cX7_wordHere 230 = .ok (.iconst 1, 1) := by decide +kernel
theorem dX7_wordHere_231 : decode cX7_wordHere 231 = .ok (.invokevirtual 134, 3) := by decide +kernel
theorem dX7_wordHere_234 : decode cX7_wordHere 234 = .ok (.bipush 104, 2) := by decide +kernel
theorem dX7_wordHere_236 : decode cX7_wordHere 236 = .ok (.if_icmp .ne 27, 3) := by decide +kernel
theorem dX7_wordHere_239 : decode cX7_wordHere 239 = .ok (.aload_n 0, 1) := by decide +kernel
theorem dX7_wordHere_240 : decode cX7_wordHere 240 = .ok (.iconst 2, 1) := by decide +kernel
theorem dX7_wordHere_241 : decode cX7_wordHere 241 = .ok (.invokevirtual 134, 3) := by decide +kernel
theorem dX7_wordHere_244 : decode cX7_wordHere 244 = .ok (.bipush 105, 2) := by decide +kernel
theorem dX7_wordHere_246 : decode cX7_wordHere 246 = .ok (.if_icmp .ne 17, 3) := by decide +kernel
theorem dX7_wordHere_249 : decode cX7_wordHere 249 = .ok (.aload_n 0, 1) := by decide +kernel
theorem dX7_wordHere_250 : decode cX7_wordHere 250 = .ok (.iconst 3, 1) := by decide +kernel
theorem dX7_wordHere_251 : decode cX7_wordHere 251 = .ok (.invokevirtual 134, 3) := by decide +kernel
theorem dX7_wordHere_254 : decode cX7_wordHere 254 = .ok (.bipush 115, 2) := by decide +kernel
theorem dX7_wordHere_256 : decode cX7_wordHere 256 = .ok (.if_icmp .ne 7, 3) := by decide +kernel
theorem dX7_wordHere_259 : decode cX7_wordHere 259 = .ok (.iconst 1, 1) := by decide +kernel
theorem dX7_wordHere_260 : decode cX7_wordHere 260 = .ok (.goto 4, 3) := by decide +kernel
theorem dX7_wordHere_263 : decode cX7_wordHere 263 = .ok (.iconst 0, 1) := by decide +kernel
theorem dX7_wordHere_264 : decode cX7_wordHere 264 = .ok (.istore_n 2, 1) := by decide +kernel
theorem dX7_wordHere_265 : decode cX7_wordHere 265 = .ok (.iload_n 2, 1) := by decide +kernel
theorem dX7_wordHere_266 : decode cX7_wordHere 266 = .ok (.ifCond .eq 38, 3) := by decide +kernel
theorem dX7_wordHere_269 : decode cX7_wordHere 269 = .ok (.aload_n 0, 1) := by decide +kernel
theorem dX7_wordHere_270 : decode cX7_wordHere 270 = .ok (.iconst 4, 1) := by decide +kernel
theorem dX7_wordHere_271 : decode cX7_wordHere 271 = .ok (.invokevirtual 134, 3) := by decide +kernel
theorem dX7_wordHere_274 : decode cX7_wordHere 274 = .ok (.bipush 116, 2) := by decide +kernel
theorem dX7_wordHere_276 : decode cX7_wordHere 276 = .ok (.if_icmp .ne 28, 3) := by decide +kernel
theorem dX7_wordHere_279 : decode cX7_wordHere 279 = .ok (.aload_n 0, 1) := by decide +kernel
theorem dX7_wordHere_280 : decode cX7_wordHere 280 = .ok (.iconst 5, 1) := by decide +kernel
theorem dX7_wordHere_281 : decode cX7_wordHere 281 = .ok (.invokevirtual 134, 3) := by decide +kernel
theorem dX7_wordHere_284 : decode cX7_wordHere 284 = .ok (.bipush 108, 2) := by decide +kernel
theorem dX7_wordHere_286 : decode cX7_wordHere 286 = .ok (.if_icmp .ne 18, 3) := by decide +kernel
theorem dX7_wordHere_289 : decode cX7_wordHere 289 = .ok (.aload_n 0, 1) := by decide +kernel
theorem dX7_wordHere_290 : decode cX7_wordHere 290 = .ok (.bipush 6, 2) := by decide +kernel
theorem dX7_wordHere_292 : decode cX7_wordHere 292 = .ok (.invokevirtual 134, 3) := by decide +kernel
theorem dX7_wordHere_295 : decode cX7_wordHere 295 = .ok (.bipush 101, 2) := by decide +kernel
theorem dX7_wordHere_297 : decode cX7_wordHere 297 = .ok (.if_icmp .ne 7, 3) := by decide +kernel
theorem dX7_wordHere_300 : decode cX7_wordHere 300 = .ok (.iconst 1, 1) := by decide +kernel
theorem dX7_wordHere_301 : decode cX7_wordHere 301 = .ok (.goto 4, 3) := by decide +kernel
theorem dX7_wordHere_304 : decode cX7_wordHere 304 = .ok (.iconst (-1), 1) := by decide +kernel
theorem dX7_wordHere_305 : decode cX7_wordHere 305 = .ok (.ireturn, 1) := by decide +kernel
theorem dX7_number_0 : decode cX7_number 0 = .ok (.aload_n 0, 1) := by decide +kernel
theorem dX7_number_1 : decode cX7_number 1 = .ok (.invokevirtual 138, 3) := by decide +kernel
theorem dX7_number_4 : decode cX7_number 4 = .ok (.iconst 0, 1) := by decide +kernel
theorem dX7_number_5 : decode cX7_number 5 = .ok (.istore_n 3, 1) := by decide +kernel
theorem dX7_number_6 : decode cX7_number 6 = .ok (.iconst 0, 1) := by decide +kernel
theorem dX7_number_7 : decode cX7_number 7 = .ok (.istore 4, 2) := by decide +kernel
theorem dX7_number_9 : decode cX7_number 9 = .ok (.aload_n 0, 1) := by decide +kernel
theorem dX7_number_10 : decode cX7_number 10 = .ok (.getfield 122, 3) := by decide +kernel
theorem dX7_number_13 : decode cX7_number 13 = .ok (.iload_n 3, 1) := by decide +kernel
theorem dX7_number_14 : decode cX7_number 14 = .ok (.iadd, 1) := by decide +kernel
theorem dX7_number_15 : decode cX7_number 15 = .ok (.aload_n 0, 1) := by decide +kernel
theorem dX7_number_16 : decode cX7_number 16 = .ok (.getfield 119, 3) := by decide +kernel
theorem dX7_number_19 : decode cX7_number 19 = .ok (.if_icmp .ge 58, 3) := by decide +kernel
theorem dX7_number_22 : decode cX7_number 22 = .ok (.aload_n 0, 1) := by decide +kernel
theorem dX7_number_23 : decode cX7_number 23 = .ok (.getfield 38, 3) := by decide +kernel
theorem dX7_number_26 : decode cX7_number 26 = .ok (.aload_n 0, 1) := by decide +kernel
theorem dX7_number_27 : decode cX7_number 27 = .ok (.getfield 122, 3) := by decide +kernel
theorem dX7_number_30 : decode cX7_number 30 = .ok (.iload_n 3, 1) := by decide +kernel
theorem dX7_number_31 : decode cX7_number 31 = .ok (.iadd, 1) := by decide +kernel
theorem dX7_number_32 : decode cX7_number 32 = .ok (.iaload, 1) := by decide +kernel
theorem dX7_number_33 : decode cX7_number 33 = .ok (.invokestatic 141, 3) := by decide +kernel
theorem dX7_number_36 : decode cX7_number 36 = .ok (.ifCond .eq 41, 3) := by decide +kernel
theorem dX7_number_39 : decode cX7_number 39 = .ok (.iload_n 3, 1) := by decide +kernel
theorem dX7_number_40 : decode cX7_number 40 = .ok (.iconst 2, 1) := by decide +kernel
theorem dX7_number_41 : decode cX7_number 41 = .ok (.if_icmp .ge 26, 3) := by decide +kernel
theorem dX7_number_44 : decode cX7_number 44 = .ok (.bipush 10, 2) := by decide +kernel
theorem dX7_number_46 : decode cX7_number 46 = .ok (.iload 4, 2) := by decide +kernel
theorem dX7_number_48 : decode cX7_number 48 = .ok (.imul, 1) := by decide +kernel
theorem dX7_number_49 : decode cX7_number 49 = .ok (.aload_n 0, 1) := by decide +kernel
theorem dX7_number_50 : decode cX7_number 50 = .ok (.getfield 38, 3) := by decide +kernel
theorem dX7_number_53 : decode cX7_number 53 = .ok (.aload_n 0, 1) := by decide +kernel
theorem dX7_number_54 : decode cX7_number 54 = .ok (.getfield 122, 3) := by decide +kernel
theorem dX7_number_57 : decode cX7_number 57 = .ok (.iload_n 3, 1) := by decide +kernel
theorem dX7_number_58 : decode cX7_number 58 = .ok (.iadd, 1) := by decide +kernel
theorem dX7_number_59 : decode cX7_number 59 = .ok (.iaload, 1) := by decide +kernel
theorem dX7_number_60 : decode cX7_number 60 = .ok (.iadd, 1) := by decide +kernel
theorem dX7_number_61 : decode cX7_number 61 = .ok (.bipush 48, 2) := by decide +kernel
theorem dX7_number_63 : decode cX7_number 63 = .ok (.isub, 1) := by decide +kernel
theorem dX7_number_64 : decode cX7_number 64 = .ok (.goto 5, 3) := by decide +kernel
theorem dX7_number_67 : decode cX7_number 67 = .ok (.iload 4, 2) := by decide +kernel
theorem dX7_number_69 : decode cX7_number 69 = .ok (.istore 4, 2) := by decide +kernel
theorem dX7_number_71 : decode cX7_number 71 = .ok (.iinc 3 1, 3) := by decide +kernel
theorem dX7_number_74 : decode cX7_number 74 = .ok (.goto (-65), 3) := by decide +kernel
theorem dX7_number_77 : decode cX7_number 77 = .ok (.iload_n 3, 1) := by decide +kernel
theorem dX7_number_78 : decode cX7_number 78 = .ok (.iconst 1, 1) := by decide +kernel
theorem dX7_number_79 : decode cX7_number 79 = .ok (.iconst 2, 1) := by decide +kernel
theorem dX7_number_80 : decode cX7_number 80 = .ok (.invokestatic 95, 3) := by decide +kernel
theorem dX7_number_83 : decode cX7_number 83 = .ok (.ifCond .eq 13, 3) := by decide +kernel
theorem dX7_number_86 : decode cX7_number 86 = .ok (.iload 4, 2) := by decide +kernel
theorem dX7_number_88 : decode cX7_number 88 = .ok (.iload_n 1, 1) := by decide +kernel
theorem dX7_number_89 : decode cX7_number 89 = .ok (.iload_n 2, 1) := by decide +kernel
theorem dX7_number_90 : decode cX7_number 90 = .ok (.invokestatic 95, 3) := by decide +kernel
theorem dX7_number_93 : decode cX7_number 93 = .ok (.ifCond .ne 5, 3) := by decide +kernel
theorem dX7_number_96 : decode cX7_number 96 = .ok (.iconst 0, 1) := by decide +kernel
theorem dX7_number_97 : decode cX7_number 97 = .ok (.ireturn, 1) := by decide +kernel
theorem dX7_number_98 : decode cX7_number 98 = .ok (.aload_n 0, 1) := by decide +kernel
theorem dX7_number_99 : decode cX7_number 99 = .ok (.iload 4, 2) := by decide +kernel
theorem dX7_number_101 : decode cX7_number 101 = .ok (.putfield 144, 3) := by decide +kernel
theorem dX7_number_104 : decode cX7_number 104 = .ok (.aload_n 0, 1) := by decide +kernel
theorem dX7_number_105 : decode cX7_number 105 = .ok (.dup, 1) := by decide +kernel
theorem dX7_number_106 : decode cX7_number 106 = .ok (.getfield 122, 3) := by decide +kernel
theorem dX7_number_109 : decode cX7_number 109 = .ok (.iload_n 3, 1) := by decide +kernel
theorem dX7_number_110 : decode cX7_number 110 = .ok (.iadd, 1) := by decide +kernel
theorem dX7_number_111 : decode cX7_number 111 = .ok (.putfield 122, 3) := by decide +kernel
theorem dX7_number_114 : decode cX7_number 114 = .ok (.iconst 1, 1) := by decide +kernel
theorem dX7_number_115 : decode cX7_number 115 = .ok (.ireturn, 1) := by decide +kernel
theorem dX7_ends_0 : decode cX7_ends 0 = .ok (.aload_n 0, 1) := by decide +kernel
theorem dX7_ends_1 : decode cX7_ends 1 = .ok (.invokevirtual 138, 3) := by decide +kernel
theorem dX7_ends_4 : decode cX7_ends 4 = .ok (.aload_n 0, 1) := by decide +kernel
theorem dX7_ends_5 : decode cX7_ends 5 = .ok (.invokevirtual 125, 3) := by decide +kernel
theorem dX7_ends_8 : decode cX7_ends 8 = .ok (.bipush 59, 2) := by decide +kernel
theorem dX7_ends_10 : decode cX7_ends 10 = .ok (.if_icmp .eq 5, 3) := by decide +kernel
theorem dX7_ends_13 : decode cX7_ends 13 = .ok (.iconst 0, 1) := by decide +kernel
theorem dX7_ends_14 : decode cX7_ends 14 = .ok (.ireturn, 1) := by decide +kernel
theorem dX7_ends_15 : decode cX7_ends 15 = .ok (.aload_n 0, 1) := by decide +kernel
theorem dX7_ends_16 : decode cX7_ends 16 = .ok (.dup, 1) := by decide +kernel
theorem dX7_ends_17 : decode cX7_ends 17 = .ok (.getfield 122, 3) := by decide +kernel
theorem dX7_ends_20 : decode cX7_ends 20 = .ok (.iconst 1, 1) := by decide +kernel
theorem dX7_ends_21 : decode cX7_ends 21 = .ok (.iadd, 1) := by decide +kernel
theorem dX7_ends_22 : decode cX7_ends 22 = .ok (.putfield 122, 3) := by decide +kernel
theorem dX7_ends_25 : decode cX7_ends 25 = .ok (.iconst 1, 1) := by decide +kernel
theorem dX7_ends_26 : decode cX7_ends 26 = .ok (.ireturn, 1) := by decide +kernel
theorem dX7_readsOne_0 : decode cX7_readsOne 0 = .ok (.aload_n 0, 1) := by decide +kernel
theorem dX7_readsOne_1 : decode cX7_readsOne 1 = .ok (.iconst 0, 1) := by decide +kernel
theorem dX7_readsOne_2 : decode cX7_readsOne 2 = .ok (.iload_n 1, 1) := by decide +kernel
theorem dX7_readsOne_3 : decode cX7_readsOne 3 = .ok (.ifCond .eq 7, 3) := by decide +kernel
theorem dX7_readsOne_6 : decode cX7_readsOne 6 = .ok (.iconst 5, 1) := by decide +kernel
theorem dX7_readsOne_7 : decode cX7_readsOne 7 = .ok (.goto 4, 3) := by decide +kernel
theorem dX7_readsOne_10 : decode cX7_readsOne 10 = .ok (.iconst 5, 1) := by decide +kernel
theorem dX7_readsOne_11 : decode cX7_readsOne 11 = .ok (.invokevirtual 147, 3) := by decide +kernel
theorem dX7_readsOne_14 : decode cX7_readsOne 14 = .ok (.ifCond .ne 5, 3) := by decide +kernel
theorem dX7_readsOne_17 : decode cX7_readsOne 17 = .ok (.iconst 0, 1) := by decide +kernel
theorem dX7_readsOne_18 : decode cX7_readsOne 18 = .ok (.ireturn, 1) := by decide +kernel
theorem dX7_readsOne_19 : decode cX7_readsOne 19 = .ok (.aload_n 0, 1) := by decide +kernel
theorem dX7_readsOne_20 : decode cX7_readsOne 20 = .ok (.getfield 144, 3) := by decide +kernel
theorem dX7_readsOne_23 : decode cX7_readsOne 23 = .ok (.istore_n 2, 1) := by decide +kernel
theorem dX7_readsOne_24 : decode cX7_readsOne 24 = .ok (.aload_n 0, 1) := by decide +kernel
theorem dX7_readsOne_25 : decode cX7_readsOne 25 = .ok (.iconst 0, 1) := by decide +kernel
theorem dX7_readsOne_26 : decode cX7_readsOne 26 = .ok (.bipush 24, 2) := by decide +kernel
theorem dX7_readsOne_28 : decode cX7_readsOne 28 = .ok (.invokevirtual 147, 3) := by decide +kernel
theorem dX7_readsOne_31 : decode cX7_readsOne 31 = .ok (.ifCond .ne 5, 3) := by decide +kernel
theorem dX7_readsOne_34 : decode cX7_readsOne 34 = .ok (.iconst 0, 1) := by decide +kernel
theorem dX7_readsOne_35 : decode cX7_readsOne 35 = .ok (.ireturn, 1) := by decide +kernel
theorem dX7_readsOne_36 : decode cX7_readsOne 36 = .ok (.aload_n 0, 1) := by decide +kernel
theorem dX7_readsOne_37 : decode cX7_readsOne 37 = .ok (.getfield 144, 3) := by decide +kernel
theorem dX7_readsOne_40 : decode cX7_readsOne 40 = .ok (.istore_n 3, 1) := by decide +kernel
theorem dX7_readsOne_41 : decode cX7_readsOne 41 = .ok (.aload_n 0, 1) := by decide +kernel
theorem dX7_readsOne_42 : decode cX7_readsOne 42 = .ok (.invokevirtual 151, 3) := by decide +kernel
theorem dX7_readsOne_45 : decode cX7_readsOne 45 = .ok (.ifCond .ne 5, 3) := by decide +kernel
theorem dX7_readsOne_48 : decode cX7_readsOne 48 = .ok (.iconst 0, 1) := by decide +kernel
theorem dX7_readsOne_49 : decode cX7_readsOne 49 = .ok (.ireturn, 1) := by decide +kernel
theorem dX7_readsOne_50 : decode cX7_readsOne 50 = .ok (.iload_n 1, 1) := by decide +kernel
theorem dX7_readsOne_51 : decode cX7_readsOne 51 = .ok (.ifCond .eq 13, 3) := by decide +kernel
theorem dX7_readsOne_54 : decode cX7_readsOne 54 = .ok (.aload_n 0, 1) := by decide +kernel
theorem dX7_readsOne_55 : decode cX7_readsOne 55 = .ok (.iload_n 2, 1) := by decide +kernel
theorem dX7_readsOne_56 : decode cX7_readsOne 56 = .ok (.iload_n 3, 1) := by decide +kernel
theorem dX7_readsOne_57 : decode cX7_readsOne 57 = .ok (.invokevirtual 113, 3) := by decide +kernel
theorem dX7_readsOne_60 : decode cX7_readsOne 60 = .ok (.pop, 1) := by decide +kernel
theorem dX7_readsOne_61 : decode cX7_readsOne 61 = .ok (.goto 10, 3) := by decide +kernel
theorem dX7_readsOne_64 : decode cX7_readsOne 64 = .ok (.aload_n 0, 1) := by decide +kernel
theorem dX7_readsOne_65 : decode cX7_readsOne 65 = .ok (.iload_n 2, 1) := by decide +kernel
theorem dX7_readsOne_66 : decode cX7_readsOne 66 = .ok (.iload_n 3, 1) := by decide +kernel
theorem dX7_readsOne_67 : decode cX7_readsOne 67 = .ok (.invokevirtual 110, 3) := by decide +kernel
theorem dX7_readsOne_70 : decode cX7_readsOne 70 = .ok (.pop, 1) := by decide +kernel
theorem dX7_readsOne_71 : decode cX7_readsOne 71 = .ok (.iconst 1, 1) := by decide +kernel
theorem dX7_readsOne_72 : decode cX7_readsOne 72 = .ok (.ireturn, 1) := by decide +kernel
theorem dX7_readsCall_0 : decode cX7_readsCall 0 = .ok (.aload_n 0, 1) := by decide +kernel
theorem dX7_readsCall_1 : decode cX7_readsCall 1 = .ok (.iconst 0, 1) := by decide +kernel
theorem dX7_readsCall_2 : decode cX7_readsCall 2 = .ok (.aload_n 0, 1) := by decide +kernel
theorem dX7_readsCall_3 : decode cX7_readsCall 3 = .ok (.getfield 70, 3) := by decide +kernel
theorem dX7_readsCall_6 : decode cX7_readsCall 6 = .ok (.iconst 1, 1) := by decide +kernel
theorem dX7_readsCall_7 : decode cX7_readsCall 7 = .ok (.isub, 1) := by decide +kernel
theorem dX7_readsCall_8 : decode cX7_readsCall 8 = .ok (.invokevirtual 147, 3) := by decide +kernel
theorem dX7_readsCall_11 : decode cX7_readsCall 11 = .ok (.ifCond .ne 5, 3) := by decide +kernel
theorem dX7_readsCall_14 : decode cX7_readsCall 14 = .ok (.iconst 0, 1) := by decide +kernel
theorem dX7_readsCall_15 : decode cX7_readsCall 15 = .ok (.ireturn, 1) := by decide +kernel
theorem dX7_readsCall_16 : decode cX7_readsCall 16 = .ok (.aload_n 0, 1) := by decide +kernel
theorem dX7_readsCall_17 : decode cX7_readsCall 17 = .ok (.getfield 144, 3) := by decide +kernel
theorem dX7_readsCall_20 : decode cX7_readsCall 20 = .ok (.istore_n 1, 1) := by decide +kernel
theorem dX7_readsCall_21 : decode cX7_readsCall 21 = .ok (.aload_n 0, 1) := by decide +kernel
theorem dX7_readsCall_22 : decode cX7_readsCall 22 = .ok (.iconst 0, 1) := by decide +kernel
theorem dX7_readsCall_23 : decode cX7_readsCall 23 = .ok (.iconst 4, 1) := by decide +kernel
theorem dX7_readsCall_24 : decode cX7_readsCall 24 = .ok (.invokevirtual 147, 3) := by decide +kernel
theorem dX7_readsCall_27 : decode cX7_readsCall 27 = .ok (.ifCond .ne 5, 3) := by decide +kernel
theorem dX7_readsCall_30 : decode cX7_readsCall 30 = .ok (.iconst 0, 1) := by decide +kernel
theorem dX7_readsCall_31 : decode cX7_readsCall 31 = .ok (.ireturn, 1) := by decide +kernel
theorem dX7_readsCall_32 : decode cX7_readsCall 32 = .ok (.aload_n 0, 1) := by decide +kernel
theorem dX7_readsCall_33 : decode cX7_readsCall 33 = .ok (.iload_n 1, 1) := by decide +kernel
theorem dX7_readsCall_34 : decode cX7_readsCall 34 = .ok (.aload_n 0, 1) := by decide +kernel
theorem dX7_readsCall_35 : decode cX7_readsCall 35 = .ok (.getfield 144, 3) := by decide +kernel
theorem dX7_readsCall_38 : decode cX7_readsCall 38 = .ok (.invokevirtual 155, 3) := by decide +kernel
theorem dX7_readsCall_41 : decode cX7_readsCall 41 = .ok (.pop, 1) := by decide +kernel
theorem dX7_readsCall_42 : decode cX7_readsCall 42 = .ok (.aload_n 0, 1) := by decide +kernel
theorem dX7_readsCall_43 : decode cX7_readsCall 43 = .ok (.invokevirtual 151, 3) := by decide +kernel
theorem dX7_readsCall_46 : decode cX7_readsCall 46 = .ok (.ireturn, 1) := by decide +kernel
theorem dX7_readsSteps_0 : decode cX7_readsSteps 0 = .ok (.aload_n 0, 1) := by decide +kernel
theorem dX7_readsSteps_1 : decode cX7_readsSteps 1 = .ok (.iconst 1, 1) := by decide +kernel
theorem dX7_readsSteps_2 : decode cX7_readsSteps 2 = .ok (.bipush 99, 2) := by decide +kernel
theorem dX7_readsSteps_4 : decode cX7_readsSteps 4 = .ok (.invokevirtual 147, 3) := by decide +kernel
theorem dX7_readsSteps_7 : decode cX7_readsSteps 7 = .ok (.ifCond .ne 5, 3) := by decide +kernel
theorem dX7_readsSteps_10 : decode cX7_readsSteps 10 = .ok (.iconst 0, 1) := by decide +kernel
theorem dX7_readsSteps_11 : decode cX7_readsSteps 11 = .ok (.ireturn, 1) := by decide +kernel
theorem dX7_readsSteps_12 : decode cX7_readsSteps 12 = .ok (.aload_n 0, 1) := by decide +kernel
theorem dX7_readsSteps_13 : decode cX7_readsSteps 13 = .ok (.sipush 9999, 3) := by decide +kernel
theorem dX7_readsSteps_16 : decode cX7_readsSteps 16 = .ok (.aload_n 0, 1) := by decide +kernel
theorem dX7_readsSteps_17 : decode cX7_readsSteps 17 = .ok (.getfield 80, 3) := by decide +kernel
theorem dX7_readsSteps_20 : decode cX7_readsSteps 20 = .ok (.aload_n 0, 1) := by decide +kernel
theorem dX7_readsSteps_21 : decode cX7_readsSteps 21 = .ok (.getfield 144, 3) := by decide +kernel
theorem dX7_readsSteps_24 : decode cX7_readsSteps 24 = .ok (.iadd, 1) := by decide +kernel
theorem dX7_readsSteps_25 : decode cX7_readsSteps 25 = .ok (.invokestatic 158, 3) := by decide +kernel
theorem dX7_readsSteps_28 : decode cX7_readsSteps 28 = .ok (.putfield 80, 3) := by decide +kernel
theorem dX7_readsSteps_31 : decode cX7_readsSteps 31 = .ok (.aload_n 0, 1) := by decide +kernel
theorem dX7_readsSteps_32 : decode cX7_readsSteps 32 = .ok (.invokevirtual 151, 3) := by decide +kernel
theorem dX7_readsSteps_35 : decode cX7_readsSteps 35 = .ok (.ireturn, 1) := by decide +kernel
theorem dX7_readsItem_0 : decode cX7_readsItem 0 = .ok (.aload_n 0, 1) := by decide +kernel
theorem dX7_readsItem_1 : decode cX7_readsItem 1 = .ok (.invokevirtual 161, 3) := by decide +kernel
theorem dX7_readsItem_4 : decode cX7_readsItem 4 = .ok (.istore_n 1, 1) := by decide +kernel
theorem dX7_readsItem_5 : decode cX7_readsItem 5 = .ok (.iload_n 1, 1) := by decide +kernel
theorem dX7_readsItem_6 : decode cX7_readsItem 6 = .ok (.iconst 1, 1) := by decide +kernel
theorem dX7_readsItem_7 : decode cX7_readsItem 7 = .ok (.if_icmp .lt 30, 3) := by decide +kernel
theorem dX7_readsItem_10 : decode cX7_readsItem 10 = .ok (.iload_n 1, 1) := by decide +kernel
theorem dX7_readsItem_11 : decode cX7_readsItem 11 = .ok (.iconst 1, 1) := by decide +kernel
theorem dX7_readsItem_12 : decode cX7_readsItem 12 = .ok (.if_icmp .ne 11, 3) := by decide +kernel
theorem dX7_readsItem_15 : decode cX7_readsItem 15 = .ok (.aload_n 0, 1) := by decide +kernel
theorem dX7_readsItem_16 : decode cX7_readsItem 16 = .ok (.getfield 70, 3) := by decide +kernel
theorem dX7_readsItem_19 : decode cX7_readsItem 19 = .ok (.iconst 3, 1) := by decide +kernel
theorem dX7_readsItem_20 : decode cX7_readsItem 20 = .ok (.if_icmp .eq 17, 3) := by decide +kernel
theorem dX7_readsItem_23 : decode cX7_readsItem 23 = .ok (.iload_n 1, 1) := by decide +kernel
theorem dX7_readsItem_24 : decode cX7_readsItem 24 = .ok (.iconst 2, 1) := by decide +kernel
theorem dX7_readsItem_25 : decode cX7_readsItem 25 = .ok (.if_icmp .ne 14, 3) := by decide +kernel
theorem dX7_readsItem_28 : decode cX7_readsItem 28 = .ok (.aload_n 0, 1) := by decide +kernel
theorem dX7_readsItem_29 : decode cX7_readsItem 29 = .ok (.getfield 74, 3) := by decide +kernel
theorem dX7_readsItem_32 : decode cX7_readsItem 32 = .ok (.bipush 7, 2) := by decide +kernel
theorem dX7_readsItem_34 : decode cX7_readsItem 34 = .ok (.if_icmp .ne 5, 3) := by decide +kernel
theorem dX7_readsItem_37 : decode cX7_readsItem 37 = .ok (.iconst 0, 1) := by decide +kernel
theorem dX7_readsItem_38 : decode cX7_readsItem 38 = .ok (.ireturn, 1) := by decide +kernel
theorem dX7_readsItem_39 : decode cX7_readsItem 39 = .ok (.aload_n 0, 1) := by decide +kernel
theorem dX7_readsItem_40 : decode cX7_readsItem 40 = .ok (.dup, 1) := by decide +kernel
theorem dX7_readsItem_41 : decode cX7_readsItem 41 = .ok (.getfield 122, 3) := by decide +kernel
theorem dX7_readsItem_44 : decode cX7_readsItem 44 = .ok (.aload_n 0, 1) := by decide +kernel
theorem dX7_readsItem_45 : decode cX7_readsItem 45 = .ok (.invokevirtual 131, 3) := by decide +kernel
theorem dX7_readsItem_48 : decode cX7_readsItem 48 = .ok (.iadd, 1) := by decide +kernel
theorem dX7_readsItem_49 : decode cX7_readsItem 49 = .ok (.putfield 122, 3) := by decide +kernel
theorem dX7_readsItem_52 : decode cX7_readsItem 52 = .ok (.iload_n 1, 1) := by decide +kernel
theorem dX7_readsItem_53 : decode cX7_readsItem 53 = .ok (.iconst 3, 1) := by decide +kernel
theorem dX7_readsItem_54 : decode cX7_readsItem 54 = .ok (.if_icmp .ne 10, 3) := by decide +kernel
theorem dX7_readsItem_57 : decode cX7_readsItem 57 = .ok (.aload_n 0, 1) := by decide +kernel
theorem dX7_readsItem_58 : decode cX7_readsItem 58 = .ok (.invokevirtual 164, 3) := by decide +kernel
theorem dX7_readsItem_61 : decode cX7_readsItem 61 = .ok (.goto 29, 3) := by decide +kernel
theorem dX7_readsItem_64 : decode cX7_readsItem 64 = .ok (.iload_n 1, 1) := by decide +kernel
theorem dX7_readsItem_65 : decode cX7_readsItem 65 = .ok (.iconst 4, 1) := by decide +kernel
theorem dX7_readsItem_66 : decode cX7_readsItem 66 = .ok (.if_icmp .ne 10, 3) := by decide +kernel
theorem dX7_readsItem_69 : decode cX7_readsItem 69 = .ok (.aload_n 0, 1) := by decide +kernel
theorem dX7_readsItem_70 : decode cX7_readsItem 70 = .ok (.invokevirtual 167, 3) := by decide +kernel
theorem dX7_readsItem_73 : decode cX7_readsItem 73 = .ok (.goto 17, 3) := by decide +kernel
theorem dX7_readsItem_76 : decode cX7_readsItem 76 = .ok (.aload_n 0, 1) := by decide +kernel
theorem dX7_readsItem_77 : decode cX7_readsItem 77 = .ok (.iload_n 1, 1) := by decide +kernel
theorem dX7_readsItem_78 : decode cX7_readsItem 78 = .ok (.iconst 2, 1) := by decide +kernel
theorem dX7_readsItem_79 : decode cX7_readsItem 79 = .ok (.if_icmp .ne 7, 3) := by decide +kernel
theorem dX7_readsItem_82 : decode cX7_readsItem 82 = .ok (.iconst 1, 1) := by decide +kernel
theorem dX7_readsItem_83 : decode cX7_readsItem 83 = .ok (.goto 4, 3) := by decide +kernel
theorem dX7_readsItem_86 : decode cX7_readsItem 86 = .ok (.iconst 0, 1) := by decide +kernel
theorem dX7_readsItem_87 : decode cX7_readsItem 87 = .ok (.invokevirtual 170, 3) := by decide +kernel
theorem dX7_readsItem_90 : decode cX7_readsItem 90 = .ok (.ireturn, 1) := by decide +kernel
theorem dX7_readsFirst_0 : decode cX7_readsFirst 0 = .ok (.aload_n 0, 1) := by decide +kernel
theorem dX7_readsFirst_1 : decode cX7_readsFirst 1 = .ok (.invokevirtual 138, 3) := by decide +kernel
theorem dX7_readsFirst_4 : decode cX7_readsFirst 4 = .ok (.aload_n 0, 1) := by decide +kernel
theorem dX7_readsFirst_5 : decode cX7_readsFirst 5 = .ok (.invokevirtual 161, 3) := by decide +kernel
theorem dX7_readsFirst_8 : decode cX7_readsFirst 8 = .ok (.ifCond .eq 5, 3) := by decide +kernel
theorem dX7_readsFirst_11 : decode cX7_readsFirst 11 = .ok (.iconst 0, 1) := by decide +kernel
theorem dX7_readsFirst_12 : decode cX7_readsFirst 12 = .ok (.ireturn, 1) := by decide +kernel
theorem dX7_readsFirst_13 : decode cX7_readsFirst 13 = .ok (.aload_n 0, 1) := by decide +kernel
theorem dX7_readsFirst_14 : decode cX7_readsFirst 14 = .ok (.dup, 1) := by decide +kernel
theorem dX7_readsFirst_15 : decode cX7_readsFirst 15 = .ok (.getfield 122, 3) := by decide +kernel
theorem dX7_readsFirst_18 : decode cX7_readsFirst 18 = .ok (.iconst 4, 1) := by decide +kernel
theorem dX7_readsFirst_19 : decode cX7_readsFirst 19 = .ok (.iadd, 1) := by decide +kernel
theorem dX7_readsFirst_20 : decode cX7_readsFirst 20 = .ok (.putfield 122, 3) := by decide +kernel
theorem dX7_readsFirst_23 : decode cX7_readsFirst 23 = .ok (.aload_n 0, 1) := by decide +kernel
theorem dX7_readsFirst_24 : decode cX7_readsFirst 24 = .ok (.iconst 0, 1) := by decide +kernel
theorem dX7_readsFirst_25 : decode cX7_readsFirst 25 = .ok (.bipush 24, 2) := by decide +kernel
theorem dX7_readsFirst_27 : decode cX7_readsFirst 27 = .ok (.invokevirtual 147, 3) := by decide +kernel
theorem dX7_readsFirst_30 : decode cX7_readsFirst 30 = .ok (.ifCond .ne 5, 3) := by decide +kernel
theorem dX7_readsFirst_33 : decode cX7_readsFirst 33 = .ok (.iconst 0, 1) := by decide +kernel
theorem dX7_readsFirst_34 : decode cX7_readsFirst 34 = .ok (.ireturn, 1) := by decide +kernel
theorem dX7_readsFirst_35 : decode cX7_readsFirst 35 = .ok (.aload_n 0, 1) := by decide +kernel
theorem dX7_readsFirst_36 : decode cX7_readsFirst 36 = .ok (.aload_n 0, 1) := by decide +kernel
theorem dX7_readsFirst_37 : decode cX7_readsFirst 37 = .ok (.getfield 144, 3) := by decide +kernel
theorem dX7_readsFirst_40 : decode cX7_readsFirst 40 = .ok (.invokevirtual 66, 3) := by decide +kernel
theorem dX7_readsFirst_43 : decode cX7_readsFirst 43 = .ok (.aload_n 0, 1) := by decide +kernel
theorem dX7_readsFirst_44 : decode cX7_readsFirst 44 = .ok (.invokevirtual 151, 3) := by decide +kernel
theorem dX7_readsFirst_47 : decode cX7_readsFirst 47 = .ok (.ireturn, 1) := by decide +kernel
theorem dX7_readsFell_0 : decode cX7_readsFell 0 = .ok (.aload_n 0, 1) := by decide +kernel
theorem dX7_readsFell_1 : decode cX7_readsFell 1 = .ok (.iconst 0, 1) := by decide +kernel
theorem dX7_readsFell_2 : decode cX7_readsFell 2 = .ok (.putfield 122, 3) := by decide +kernel
theorem dX7_readsFell_5 : decode cX7_readsFell 5 = .ok (.aload_n 0, 1) := by decide +kernel
theorem dX7_readsFell_6 : decode cX7_readsFell 6 = .ok (.invokevirtual 174, 3) := by decide +kernel
theorem dX7_readsFell_9 : decode cX7_readsFell 9 = .ok (.ifCond .ne 5, 3) := by decide +kernel
theorem dX7_readsFell_12 : decode cX7_readsFell 12 = .ok (.iconst (-1), 1) := by decide +kernel
theorem dX7_readsFell_13 : decode cX7_readsFell 13 = .ok (.ireturn, 1) := by decide +kernel
theorem dX7_readsFell_14 : decode cX7_readsFell 14 = .ok (.iconst 1, 1) := by decide +kernel
theorem dX7_readsFell_15 : decode cX7_readsFell 15 = .ok (.istore_n 1, 1) := by decide +kernel
theorem dX7_readsFell_16 : decode cX7_readsFell 16 = .ok (.aload_n 0, 1) := by decide +kernel
theorem dX7_readsFell_17 : decode cX7_readsFell 17 = .ok (.invokevirtual 138, 3) := by decide +kernel
theorem dX7_readsFell_20 : decode cX7_readsFell 20 = .ok (.aload_n 0, 1) := by decide +kernel
theorem dX7_readsFell_21 : decode cX7_readsFell 21 = .ok (.getfield 122, 3) := by decide +kernel
theorem dX7_readsFell_24 : decode cX7_readsFell 24 = .ok (.aload_n 0, 1) := by decide +kernel
theorem dX7_readsFell_25 : decode cX7_readsFell 25 = .ok (.getfield 119, 3) := by decide +kernel
theorem dX7_readsFell_28 : decode cX7_readsFell 28 = .ok (.if_icmp .ge 22, 3) := by decide +kernel
theorem dX7_readsFell_31 : decode cX7_readsFell 31 = .ok (.aload_n 0, 1) := by decide +kernel
theorem dX7_readsFell_32 : decode cX7_readsFell 32 = .ok (.invokevirtual 177, 3) := by decide +kernel
theorem dX7_readsFell_35 : decode cX7_readsFell 35 = .ok (.ifCond .ne 5, 3) := by decide +kernel
theorem dX7_readsFell_38 : decode cX7_readsFell 38 = .ok (.iconst (-1), 1) := by decide +kernel
theorem dX7_readsFell_39 : decode cX7_readsFell 39 = .ok (.ireturn, 1) := by decide +kernel
theorem dX7_readsFell_40 : decode cX7_readsFell 40 = .ok (.iinc 1 1, 3) := by decide +kernel
theorem dX7_readsFell_43 : decode cX7_readsFell 43 = .ok (.aload_n 0, 1) := by decide +kernel
theorem dX7_readsFell_44 : decode cX7_readsFell 44 = .ok (.invokevirtual 138, 3) := by decide +kernel
theorem dX7_readsFell_47 : decode cX7_readsFell 47 = .ok (.goto (-27), 3) := by decide +kernel
theorem dX7_readsFell_50 : decode cX7_readsFell 50 = .ok (.iload_n 1, 1) := by decide +kernel
theorem dX7_readsFell_51 : decode cX7_readsFell 51 = .ok (.ireturn, 1) := by decide +kernel
theorem dX7_read_0 : decode cX7_read 0 = .ok (.aload_n 0, 1) := by decide +kernel
theorem dX7_read_1 : decode cX7_read 1 = .ok (.aload_n 0, 1) := by decide +kernel
theorem dX7_read_2 : decode cX7_read 2 = .ok (.getfield 41, 3) := by decide +kernel
theorem dX7_read_5 : decode cX7_read 5 = .ok (.iconst 0, 1) := by decide +kernel
theorem dX7_read_6 : decode cX7_read 6 = .ok (.invokevirtual 180, 3) := by decide +kernel
theorem dX7_read_9 : decode cX7_read 9 = .ok (.aload_n 0, 1) := by decide +kernel
theorem dX7_read_10 : decode cX7_read 10 = .ok (.invokevirtual 184, 3) := by decide +kernel
theorem dX7_read_13 : decode cX7_read 13 = .ok (.istore_n 1, 1) := by decide +kernel
theorem dX7_read_14 : decode cX7_read 14 = .ok (.iload_n 1, 1) := by decide +kernel
theorem dX7_read_15 : decode cX7_read 15 = .ok (.ifCond .ge 20, 3) := by decide +kernel
theorem dX7_read_18 : decode cX7_read 18 = .ok (.aload_n 0, 1) := by decide +kernel
theorem dX7_read_19 : decode cX7_read 19 = .ok (.aload_n 0, 1) := by decide +kernel
theorem dX7_read_20 : decode cX7_read 20 = .ok (.getfield 41, 3) := by decide +kernel
theorem dX7_read_23 : decode cX7_read 23 = .ok (.iconst 0, 1) := by decide +kernel
theorem dX7_read_24 : decode cX7_read 24 = .ok (.invokevirtual 187, 3) := by decide +kernel
theorem dX7_read_27 : decode cX7_read 27 = .ok (.bipush (-10), 2) := by decide +kernel
theorem dX7_read_29 : decode cX7_read 29 = .ok (.aload_n 0, 1) := by decide +kernel
theorem dX7_read_30 : decode cX7_read 30 = .ok (.getfield 122, 3) := by decide +kernel
theorem dX7_read_33 : decode cX7_read 33 = .ok (.isub, 1) := by decide +kernel
theorem dX7_read_34 : decode cX7_read 34 = .ok (.ireturn, 1) := by decide +kernel
theorem dX7_read_35 : decode cX7_read 35 = .ok (.aload_n 0, 1) := by decide +kernel
theorem dX7_read_36 : decode cX7_read 36 = .ok (.iconst 0, 1) := by decide +kernel
theorem dX7_read_37 : decode cX7_read 37 = .ok (.putfield 92, 3) := by decide +kernel
theorem dX7_read_40 : decode cX7_read 40 = .ok (.iload_n 1, 1) := by decide +kernel
theorem dX7_read_41 : decode cX7_read 41 = .ok (.ireturn, 1) := by decide +kernel
theorem dX7_goesBy_0 : decode cX7_goesBy 0 = .ok (.iload_n 1, 1) := by decide +kernel
theorem dX7_goesBy_1 : decode cX7_goesBy 1 = .ok (.iconst 3, 1) := by decide +kernel
theorem dX7_goesBy_2 : decode cX7_goesBy 2 = .ok (.irem, 1) := by decide +kernel
theorem dX7_goesBy_3 : decode cX7_goesBy 3 = .ok (.ifCond .ne 7, 3) := by decide +kernel
theorem dX7_goesBy_6 : decode cX7_goesBy 6 = .ok (.iconst 0, 1) := by decide +kernel
theorem dX7_goesBy_7 : decode cX7_goesBy 7 = .ok (.goto 4, 3) := by decide +kernel
theorem dX7_goesBy_10 : decode cX7_goesBy 10 = .ok (.iconst 1, 1) := by decide +kernel
theorem dX7_goesBy_11 : decode cX7_goesBy 11 = .ok (.istore_n 2, 1) := by decide +kernel
theorem dX7_goesBy_12 : decode cX7_goesBy 12 = .ok (.iload_n 0, 1) := by decide +kernel
theorem dX7_goesBy_13 : decode cX7_goesBy 13 = .ok (.tableswitch 71 1 5 #[35, 37, 39, 51, 57], 35) := by decide +kernel
theorem dX7_goesBy_48 : decode cX7_goesBy 48 = .ok (.iconst 2, 1) := by decide +kernel
theorem dX7_goesBy_49 : decode cX7_goesBy 49 = .ok (.ireturn, 1) := by decide +kernel
theorem dX7_goesBy_50 : decode cX7_goesBy 50 = .ok (.iload_n 2, 1) := by decide +kernel
theorem dX7_goesBy_51 : decode cX7_goesBy 51 = .ok (.ireturn, 1) := by decide +kernel
theorem dX7_goesBy_52 : decode cX7_goesBy 52 = .ok (.iload_n 1, 1) := by decide +kernel
theorem dX7_goesBy_53 : decode cX7_goesBy 53 = .ok (.iconst 5, 1) := by decide +kernel
theorem dX7_goesBy_54 : decode cX7_goesBy 54 = .ok (.irem, 1) := by decide +kernel
theorem dX7_goesBy_55 : decode cX7_goesBy 55 = .ok (.ifCond .ne 7, 3) := by decide +kernel
theorem dX7_goesBy_58 : decode cX7_goesBy 58 = .ok (.iconst 4, 1) := by decide +kernel
theorem dX7_goesBy_59 : decode cX7_goesBy 59 = .ok (.goto 4, 3) := by decide +kernel
theorem dX7_goesBy_62 : decode cX7_goesBy 62 = .ok (.iconst 2, 1) := by decide +kernel
theorem dX7_goesBy_63 : decode cX7_goesBy 63 = .ok (.ireturn, 1) := by decide +kernel
theorem dX7_goesBy_64 : decode cX7_goesBy 64 = .ok (.iconst 1, 1) := by decide +kernel
theorem dX7_goesBy_65 : decode cX7_goesBy 65 = .ok (.iload_n 1, 1) := by decide +kernel
theorem dX7_goesBy_66 : decode cX7_goesBy 66 = .ok (.iconst 2, 1) := by decide +kernel
theorem dX7_goesBy_67 : decode cX7_goesBy 67 = .ok (.irem, 1) := by decide +kernel
theorem dX7_goesBy_68 : decode cX7_goesBy 68 = .ok (.iadd, 1) := by decide +kernel
theorem dX7_goesBy_69 : decode cX7_goesBy 69 = .ok (.ireturn, 1) := by decide +kernel
theorem dX7_goesBy_70 : decode cX7_goesBy 70 = .ok (.iload_n 1, 1) := by decide +kernel
theorem dX7_goesBy_71 : decode cX7_goesBy 71 = .ok (.bipush 20, 2) := by decide +kernel
theorem dX7_goesBy_73 : decode cX7_goesBy 73 = .ok (.if_icmp .lt 9, 3) := by decide +kernel
theorem dX7_goesBy_76 : decode cX7_goesBy 76 = .ok (.iload_n 2, 1) := by decide +kernel
theorem dX7_goesBy_77 : decode cX7_goesBy 77 = .ok (.iconst 1, 1) := by decide +kernel
theorem dX7_goesBy_78 : decode cX7_goesBy 78 = .ok (.iadd, 1) := by decide +kernel
theorem dX7_goesBy_79 : decode cX7_goesBy 79 = .ok (.goto 4, 3) := by decide +kernel
theorem dX7_goesBy_82 : decode cX7_goesBy 82 = .ok (.iload_n 2, 1) := by decide +kernel
theorem dX7_goesBy_83 : decode cX7_goesBy 83 = .ok (.ireturn, 1) := by decide +kernel
theorem dX7_goesBy_84 : decode cX7_goesBy 84 = .ok (.iconst 1, 1) := by decide +kernel
theorem dX7_goesBy_85 : decode cX7_goesBy 85 = .ok (.ireturn, 1) := by decide +kernel
theorem dX7_givesBy_0 : decode cX7_givesBy 0 = .ok (.iload_n 1, 1) := by decide +kernel
theorem dX7_givesBy_1 : decode cX7_givesBy 1 = .ok (.iconst 1, 1) := by decide +kernel
theorem dX7_givesBy_2 : decode cX7_givesBy 2 = .ok (.if_icmp .gt 7, 3) := by decide +kernel
theorem dX7_givesBy_5 : decode cX7_givesBy 5 = .ok (.iconst 1, 1) := by decide +kernel
theorem dX7_givesBy_6 : decode cX7_givesBy 6 = .ok (.goto 4, 3) := by decide +kernel
theorem dX7_givesBy_9 : decode cX7_givesBy 9 = .ok (.iconst 0, 1) := by decide +kernel
theorem dX7_givesBy_10 : decode cX7_givesBy 10 = .ok (.istore_n 2, 1) := by decide +kernel
theorem dX7_givesBy_11 : decode cX7_givesBy 11 = .ok (.iload_n 1, 1) := by decide +kernel
theorem dX7_givesBy_12 : decode cX7_givesBy 12 = .ok (.ifCond .ne 9, 3) := by decide +kernel
theorem dX7_givesBy_15 : decode cX7_givesBy 15 = .ok (.iload_n 2, 1) := by decide +kernel
theorem dX7_givesBy_16 : decode cX7_givesBy 16 = .ok (.iconst 2, 1) := by decide +kernel
theorem dX7_givesBy_17 : decode cX7_givesBy 17 = .ok (.iadd, 1) := by decide +kernel
theorem dX7_givesBy_18 : decode cX7_givesBy 18 = .ok (.goto 4, 3) := by decide +kernel
theorem dX7_givesBy_21 : decode cX7_givesBy 21 = .ok (.iload_n 2, 1) := by decide +kernel
theorem dX7_givesBy_22 : decode cX7_givesBy 22 = .ok (.istore_n 3, 1) := by decide +kernel
theorem dX7_givesBy_23 : decode cX7_givesBy 23 = .ok (.iload_n 1, 1) := by decide +kernel
theorem dX7_givesBy_24 : decode cX7_givesBy 24 = .ok (.iconst 2, 1) := by decide +kernel
theorem dX7_givesBy_25 : decode cX7_givesBy 25 = .ok (.if_icmp .gt 9, 3) := by decide +kernel
theorem dX7_givesBy_28 : decode cX7_givesBy 28 = .ok (.iload_n 2, 1) := by decide +kernel
theorem dX7_givesBy_29 : decode cX7_givesBy 29 = .ok (.iconst 1, 1) := by decide +kernel
theorem dX7_givesBy_30 : decode cX7_givesBy 30 = .ok (.iadd, 1) := by decide +kernel
theorem dX7_givesBy_31 : decode cX7_givesBy 31 = .ok (.goto 4, 3) := by decide +kernel
theorem dX7_givesBy_34 : decode cX7_givesBy 34 = .ok (.iload_n 2, 1) := by decide +kernel
theorem dX7_givesBy_35 : decode cX7_givesBy 35 = .ok (.istore 4, 2) := by decide +kernel
theorem dX7_givesBy_37 : decode cX7_givesBy 37 = .ok (.iload_n 0, 1) := by decide +kernel
theorem dX7_givesBy_38 : decode cX7_givesBy 38 = .ok (.tableswitch 73 1 5 #[34, 36, 46, 61, 64], 34) := by decide +kernel
theorem dX7_givesBy_72 : decode cX7_givesBy 72 = .ok (.iload_n 3, 1) := by decide +kernel
theorem dX7_givesBy_73 : decode cX7_givesBy 73 = .ok (.ireturn, 1) := by decide +kernel
theorem dX7_givesBy_74 : decode cX7_givesBy 74 = .ok (.iload_n 1, 1) := by decide +kernel
theorem dX7_givesBy_75 : decode cX7_givesBy 75 = .ok (.ifCond .ne 7, 3) := by decide +kernel
theorem dX7_givesBy_78 : decode cX7_givesBy 78 = .ok (.iload_n 2, 1) := by decide +kernel
theorem dX7_givesBy_79 : decode cX7_givesBy 79 = .ok (.goto 4, 3) := by decide +kernel
theorem dX7_givesBy_82 : decode cX7_givesBy 82 = .ok (.iconst 0, 1) := by decide +kernel
theorem dX7_givesBy_83 : decode cX7_givesBy 83 = .ok (.ireturn, 1) := by decide +kernel
theorem dX7_givesBy_84 : decode cX7_givesBy 84 = .ok (.iload_n 1, 1) := by decide +kernel
theorem dX7_givesBy_85 : decode cX7_givesBy 85 = .ok (.iconst 3, 1) := by decide +kernel
theorem dX7_givesBy_86 : decode cX7_givesBy 86 = .ok (.if_icmp .gt 11, 3) := by decide +kernel
theorem dX7_givesBy_89 : decode cX7_givesBy 89 = .ok (.iconst 1, 1) := by decide +kernel
theorem dX7_givesBy_90 : decode cX7_givesBy 90 = .ok (.iload_n 3, 1) := by decide +kernel
theorem dX7_givesBy_91 : decode cX7_givesBy 91 = .ok (.invokestatic 190, 3) := by decide +kernel
theorem dX7_givesBy_94 : decode cX7_givesBy 94 = .ok (.goto 4, 3) := by decide +kernel
theorem dX7_givesBy_97 : decode cX7_givesBy 97 = .ok (.iload_n 3, 1) := by decide +kernel
theorem dX7_givesBy_98 : decode cX7_givesBy 98 = .ok (.ireturn, 1) := by decide +kernel
theorem dX7_givesBy_99 : decode cX7_givesBy 99 = .ok (.iload 4, 2) := by decide +kernel
theorem dX7_givesBy_101 : decode cX7_givesBy 101 = .ok (.ireturn, 1) := by decide +kernel
theorem dX7_givesBy_102 : decode cX7_givesBy 102 = .ok (.iconst 3, 1) := by decide +kernel
theorem dX7_givesBy_103 : decode cX7_givesBy 103 = .ok (.iconst 2, 1) := by decide +kernel
theorem dX7_givesBy_104 : decode cX7_givesBy 104 = .ok (.iload 4, 2) := by decide +kernel
theorem dX7_givesBy_106 : decode cX7_givesBy 106 = .ok (.imul, 1) := by decide +kernel
theorem dX7_givesBy_107 : decode cX7_givesBy 107 = .ok (.invokestatic 158, 3) := by decide +kernel
theorem dX7_givesBy_110 : decode cX7_givesBy 110 = .ok (.ireturn, 1) := by decide +kernel
theorem dX7_givesBy_111 : decode cX7_givesBy 111 = .ok (.iload_n 2, 1) := by decide +kernel
theorem dX7_givesBy_112 : decode cX7_givesBy 112 = .ok (.ireturn, 1) := by decide +kernel
theorem dX7_clip_0 : decode cX7_clip 0 = .ok (.iload_n 0, 1) := by decide +kernel
theorem dX7_clip_1 : decode cX7_clip 1 = .ok (.ifCond .ge 7, 3) := by decide +kernel
theorem dX7_clip_4 : decode cX7_clip 4 = .ok (.iconst 0, 1) := by decide +kernel
theorem dX7_clip_5 : decode cX7_clip 5 = .ok (.goto 13, 3) := by decide +kernel
theorem dX7_clip_8 : decode cX7_clip 8 = .ok (.iload_n 0, 1) := by decide +kernel
theorem dX7_clip_9 : decode cX7_clip 9 = .ok (.iconst 5, 1) := by decide +kernel
theorem dX7_clip_10 : decode cX7_clip 10 = .ok (.if_icmp .lt 7, 3) := by decide +kernel
theorem dX7_clip_13 : decode cX7_clip 13 = .ok (.iconst 4, 1) := by decide +kernel
theorem dX7_clip_14 : decode cX7_clip 14 = .ok (.goto 4, 3) := by decide +kernel
theorem dX7_clip_17 : decode cX7_clip 17 = .ok (.iload_n 0, 1) := by decide +kernel
theorem dX7_clip_18 : decode cX7_clip 18 = .ok (.ireturn, 1) := by decide +kernel
theorem dX7_moved_0 : decode cX7_moved 0 = .ok (.iload_n 0, 1) := by decide +kernel
theorem dX7_moved_1 : decode cX7_moved 1 = .ok (.iconst 5, 1) := by decide +kernel
theorem dX7_moved_2 : decode cX7_moved 2 = .ok (.idiv, 1) := by decide +kernel
theorem dX7_moved_3 : decode cX7_moved 3 = .ok (.iload_n 1, 1) := by decide +kernel
theorem dX7_moved_4 : decode cX7_moved 4 = .ok (.ifCond .ne 8, 3) := by decide +kernel
theorem dX7_moved_7 : decode cX7_moved 7 = .ok (.iload_n 2, 1) := by decide +kernel
theorem dX7_moved_8 : decode cX7_moved 8 = .ok (.ineg, 1) := by decide +kernel
theorem dX7_moved_9 : decode cX7_moved 9 = .ok (.goto 13, 3) := by decide +kernel
theorem dX7_moved_12 : decode cX7_moved 12 = .ok (.iload_n 1, 1) := by decide +kernel
theorem dX7_moved_13 : decode cX7_moved 13 = .ok (.iconst 2, 1) := by decide +kernel
theorem dX7_moved_14 : decode cX7_moved 14 = .ok (.if_icmp .ne 7, 3) := by decide +kernel
theorem dX7_moved_17 : decode cX7_moved 17 = .ok (.iload_n 2, 1) := by decide +kernel
theorem dX7_moved_18 : decode cX7_moved 18 = .ok (.goto 4, 3) := by decide +kernel
theorem dX7_moved_21 : decode cX7_moved 21 = .ok (.iconst 0, 1) := by decide +kernel
theorem dX7_moved_22 : decode cX7_moved 22 = .ok (.iadd, 1) := by decide +kernel
theorem dX7_moved_23 : decode cX7_moved 23 = .ok (.istore_n 3, 1) := by decide +kernel
theorem dX7_moved_24 : decode cX7_moved 24 = .ok (.iload_n 0, 1) := by decide +kernel
theorem dX7_moved_25 : decode cX7_moved 25 = .ok (.iconst 5, 1) := by decide +kernel
theorem dX7_moved_26 : decode cX7_moved 26 = .ok (.irem, 1) := by decide +kernel
theorem dX7_moved_27 : decode cX7_moved 27 = .ok (.iload_n 1, 1) := by decide +kernel
theorem dX7_moved_28 : decode cX7_moved 28 = .ok (.iconst 1, 1) := by decide +kernel
theorem dX7_moved_29 : decode cX7_moved 29 = .ok (.if_icmp .ne 7, 3) := by decide +kernel
theorem dX7_moved_32 : decode cX7_moved 32 = .ok (.iload_n 2, 1) := by decide +kernel
theorem dX7_moved_33 : decode cX7_moved 33 = .ok (.goto 14, 3) := by decide +kernel
theorem dX7_moved_36 : decode cX7_moved 36 = .ok (.iload_n 1, 1) := by decide +kernel
theorem dX7_moved_37 : decode cX7_moved 37 = .ok (.iconst 3, 1) := by decide +kernel
theorem dX7_moved_38 : decode cX7_moved 38 = .ok (.if_icmp .ne 8, 3) := by decide +kernel
theorem dX7_moved_41 : decode cX7_moved 41 = .ok (.iload_n 2, 1) := by decide +kernel
theorem dX7_moved_42 : decode cX7_moved 42 = .ok (.ineg, 1) := by decide +kernel
theorem dX7_moved_43 : decode cX7_moved 43 = .ok (.goto 4, 3) := by decide +kernel
theorem dX7_moved_46 : decode cX7_moved 46 = .ok (.iconst 0, 1) := by decide +kernel
theorem dX7_moved_47 : decode cX7_moved 47 = .ok (.iadd, 1) := by decide +kernel
theorem dX7_moved_48 : decode cX7_moved 48 = .ok (.istore 4, 2) := by decide +kernel
theorem dX7_moved_50 : decode cX7_moved 50 = .ok (.iconst 5, 1) := by decide +kernel
theorem dX7_moved_51 : decode cX7_moved 51 = .ok (.iload_n 3, 1) := by decide +kernel
theorem dX7_moved_52 : decode cX7_moved 52 = .ok (.invokestatic 193, 3) := by decide +kernel
theorem dX7_moved_55 : decode cX7_moved 55 = .ok (.imul, 1) := by decide +kernel
theorem dX7_moved_56 : decode cX7_moved 56 = .ok (.iload 4, 2) := by decide +kernel
theorem dX7_moved_58 : decode cX7_moved 58 = .ok (.invokestatic 193, 3) := by decide +kernel
theorem dX7_moved_61 : decode cX7_moved 61 = .ok (.iadd, 1) := by decide +kernel
theorem dX7_moved_62 : decode cX7_moved 62 = .ok (.ireturn, 1) := by decide +kernel
theorem dX7_whistleThen_0 : decode cX7_whistleThen 0 = .ok (.iload_n 3, 1) := by decide +kernel
theorem dX7_whistleThen_1 : decode cX7_whistleThen 1 = .ok (.iconst 4, 1) := by decide +kernel
theorem dX7_whistleThen_2 : decode cX7_whistleThen 2 = .ok (.if_icmp .ne 7, 3) := by decide +kernel
theorem dX7_whistleThen_5 : decode cX7_whistleThen 5 = .ok (.iload_n 2, 1) := by decide +kernel
theorem dX7_whistleThen_6 : decode cX7_whistleThen 6 = .ok (.goto 19, 3) := by decide +kernel
theorem dX7_whistleThen_9 : decode cX7_whistleThen 9 = .ok (.iload_n 2, 1) := by decide +kernel
theorem dX7_whistleThen_10 : decode cX7_whistleThen 10 = .ok (.iload_n 3, 1) := by decide +kernel
theorem dX7_whistleThen_11 : decode cX7_whistleThen 11 = .ok (.aload_n 0, 1) := by decide +kernel
theorem dX7_whistleThen_12 : decode cX7_whistleThen 12 = .ok (.getfield 17, 3) := by decide +kernel
theorem dX7_whistleThen_15 : decode cX7_whistleThen 15 = .ok (.iload_n 1, 1) := by decide +kernel
theorem dX7_whistleThen_16 : decode cX7_whistleThen 16 = .ok (.iaload, 1) := by decide +kernel
theorem dX7_whistleThen_17 : decode cX7_whistleThen 17 = .ok (.iload 4, 2) := by decide +kernel
theorem dX7_whistleThen_19 : decode cX7_whistleThen 19 = .ok (.invokestatic 196, 3) := by decide +kernel
theorem dX7_whistleThen_22 : decode cX7_whistleThen 22 = .ok (.invokestatic 199, 3) := by decide +kernel
theorem dX7_whistleThen_25 : decode cX7_whistleThen 25 = .ok (.ireturn, 1) := by decide +kernel
theorem dX7_sheepThen_0 : decode cX7_sheepThen 0 = .ok (.aload_n 0, 1) := by decide +kernel
theorem dX7_sheepThen_1 : decode cX7_sheepThen 1 = .ok (.getfield 23, 3) := by decide +kernel
theorem dX7_sheepThen_4 : decode cX7_sheepThen 4 = .ok (.iload_n 1, 1) := by decide +kernel
theorem dX7_sheepThen_5 : decode cX7_sheepThen 5 = .ok (.iaload, 1) := by decide +kernel
theorem dX7_sheepThen_6 : decode cX7_sheepThen 6 = .ok (.iload_n 2, 1) := by decide +kernel
theorem dX7_sheepThen_7 : decode cX7_sheepThen 7 = .ok (.iload_n 3, 1) := by decide +kernel
theorem dX7_sheepThen_8 : decode cX7_sheepThen 8 = .ok (.invokestatic 203, 3) := by decide +kernel
theorem dX7_sheepThen_11 : decode cX7_sheepThen 11 = .ok (.invokestatic 206, 3) := by decide +kernel
theorem dX7_sheepThen_14 : decode cX7_sheepThen 14 = .ok (.istore 4, 2) := by decide +kernel
theorem dX7_sheepThen_16 : decode cX7_sheepThen 16 = .ok (.iload_n 2, 1) := by decide +kernel
theorem dX7_sheepThen_17 : decode cX7_sheepThen 17 = .ok (.iconst 5, 1) := by decide +kernel
theorem dX7_sheepThen_18 : decode cX7_sheepThen 18 = .ok (.idiv, 1) := by decide +kernel
theorem dX7_sheepThen_19 : decode cX7_sheepThen 19 = .ok (.iload_n 3, 1) := by decide +kernel
theorem dX7_sheepThen_20 : decode cX7_sheepThen 20 = .ok (.iconst 5, 1) := by decide +kernel
theorem dX7_sheepThen_21 : decode cX7_sheepThen 21 = .ok (.idiv, 1) := by decide +kernel
theorem dX7_sheepThen_22 : decode cX7_sheepThen 22 = .ok (.isub, 1) := by decide +kernel
theorem dX7_sheepThen_23 : decode cX7_sheepThen 23 = .ok (.istore 5, 2) := by decide +kernel
theorem dX7_sheepThen_25 : decode cX7_sheepThen 25 = .ok (.iload_n 2, 1) := by decide +kernel
theorem dX7_sheepThen_26 : decode cX7_sheepThen 26 = .ok (.iconst 5, 1) := by decide +kernel
theorem dX7_sheepThen_27 : decode cX7_sheepThen 27 = .ok (.irem, 1) := by decide +kernel
theorem dX7_sheepThen_28 : decode cX7_sheepThen 28 = .ok (.iload_n 3, 1) := by decide +kernel
theorem dX7_sheepThen_29 : decode cX7_sheepThen 29 = .ok (.iconst 5, 1) := by decide +kernel
theorem dX7_sheepThen_30 : decode cX7_sheepThen 30 = .ok (.irem, 1) := by decide +kernel
theorem dX7_sheepThen_31 : decode cX7_sheepThen 31 = .ok (.isub, 1) := by decide +kernel
theorem dX7_sheepThen_32 : decode cX7_sheepThen 32 = .ok (.istore 6, 2) := by decide +kernel
theorem dX7_sheepThen_34 : decode cX7_sheepThen 34 = .ok (.iload 5, 2) := by decide +kernel
theorem dX7_sheepThen_36 : decode cX7_sheepThen 36 = .ok (.iconst 0, 1) := by decide +kernel
theorem dX7_sheepThen_37 : decode cX7_sheepThen 37 = .ok (.invokestatic 7, 3) := by decide +kernel
theorem dX7_sheepThen_40 : decode cX7_sheepThen 40 = .ok (.istore 7, 2) := by decide +kernel
theorem dX7_sheepThen_42 : decode cX7_sheepThen 42 = .ok (.iload 7, 2) := by decide +kernel
theorem dX7_sheepThen_44 : decode cX7_sheepThen 44 = .ok (.iconst 1, 1) := by decide +kernel
theorem dX7_sheepThen_45 : decode cX7_sheepThen 45 = .ok (.if_icmp .lt 18, 3) := by decide +kernel
theorem dX7_sheepThen_48 : decode cX7_sheepThen 48 = .ok (.iload 7, 2) := by decide +kernel
theorem dX7_sheepThen_50 : decode cX7_sheepThen 50 = .ok (.iload 6, 2) := by decide +kernel
theorem dX7_sheepThen_52 : decode cX7_sheepThen 52 = .ok (.iconst 0, 1) := by decide +kernel
theorem dX7_sheepThen_53 : decode cX7_sheepThen 53 = .ok (.invokestatic 7, 3) := by decide +kernel
theorem dX7_sheepThen_56 : decode cX7_sheepThen 56 = .ok (.if_icmp .lt 7, 3) := by decide +kernel
theorem dX7_sheepThen_59 : decode cX7_sheepThen 59 = .ok (.iconst 1, 1) := by decide +kernel
theorem dX7_sheepThen_60 : decode cX7_sheepThen 60 = .ok (.goto 4, 3) := by decide +kernel
theorem dX7_sheepThen_63 : decode cX7_sheepThen 63 = .ok (.iconst 0, 1) := by decide +kernel
theorem dX7_sheepThen_64 : decode cX7_sheepThen 64 = .ok (.istore 8, 2) := by decide +kernel
theorem dX7_sheepThen_66 : decode cX7_sheepThen 66 = .ok (.iload_n 2, 1) := by decide +kernel
theorem dX7_sheepThen_67 : decode cX7_sheepThen 67 = .ok (.iload 8, 2) := by decide +kernel
theorem dX7_sheepThen_69 : decode cX7_sheepThen 69 = .ok (.ifCond .eq 16, 3) := by decide +kernel
theorem dX7_sheepThen_72 : decode cX7_sheepThen 72 = .ok (.iload 5, 2) := by decide +kernel
theorem dX7_sheepThen_74 : decode cX7_sheepThen 74 = .ok (.ifCond .le 7, 3) := by decide +kernel
theorem dX7_sheepThen_77 : decode cX7_sheepThen 77 = .ok (.iconst 2, 1) := by decide +kernel
theorem dX7_sheepThen_78 : decode cX7_sheepThen 78 = .ok (.goto 17, 3) := by decide +kernel
theorem dX7_sheepThen_81 : decode cX7_sheepThen 81 = .ok (.iconst 0, 1) := by decide +kernel
theorem dX7_sheepThen_82 : decode cX7_sheepThen 82 = .ok (.goto 13, 3) := by decide +kernel
theorem dX7_sheepThen_85 : decode cX7_sheepThen 85 = .ok (.iload 6, 2) := by decide +kernel
theorem dX7_sheepThen_87 : decode cX7_sheepThen 87 = .ok (.ifCond .lt 7, 3) := by decide +kernel
theorem dX7_sheepThen_90 : decode cX7_sheepThen 90 = .ok (.iconst 1, 1) := by decide +kernel
theorem dX7_sheepThen_91 : decode cX7_sheepThen 91 = .ok (.goto 4, 3) := by decide +kernel
theorem dX7_sheepThen_94 : decode cX7_sheepThen 94 = .ok (.iconst 3, 1) := by decide +kernel
theorem dX7_sheepThen_95 : decode cX7_sheepThen 95 = .ok (.iload 4, 2) := by decide +kernel
theorem dX7_sheepThen_97 : decode cX7_sheepThen 97 = .ok (.invokestatic 199, 3) := by decide +kernel
theorem dX7_sheepThen_100 : decode cX7_sheepThen 100 = .ok (.ireturn, 1) := by decide +kernel
theorem dX7_foldedIn_0 : decode cX7_foldedIn 0 = .ok (.iconst 0, 1) := by decide +kernel
theorem dX7_foldedIn_1 : decode cX7_foldedIn 1 = .ok (.istore_n 1, 1) := by decide +kernel
theorem dX7_foldedIn_2 : decode cX7_foldedIn 2 = .ok (.iconst 0, 1) := by decide +kernel
theorem dX7_foldedIn_3 : decode cX7_foldedIn 3 = .ok (.istore_n 2, 1) := by decide +kernel
theorem dX7_foldedIn_4 : decode cX7_foldedIn 4 = .ok (.iload_n 2, 1) := by decide +kernel
theorem dX7_foldedIn_5 : decode cX7_foldedIn 5 = .ok (.aload_n 0, 1) := by decide +kernel
theorem dX7_foldedIn_6 : decode cX7_foldedIn 6 = .ok (.getfield 74, 3) := by decide +kernel
theorem dX7_foldedIn_9 : decode cX7_foldedIn 9 = .ok (.if_icmp .ge 32, 3) := by decide +kernel
theorem dX7_foldedIn_12 : decode cX7_foldedIn 12 = .ok (.iload_n 1, 1) := by decide +kernel
theorem dX7_foldedIn_13 : decode cX7_foldedIn 13 = .ok (.aload_n 0, 1) := by decide +kernel
theorem dX7_foldedIn_14 : decode cX7_foldedIn 14 = .ok (.getfield 26, 3) := by decide +kernel
theorem dX7_foldedIn_17 : decode cX7_foldedIn 17 = .ok (.iload_n 2, 1) := by decide +kernel
theorem dX7_foldedIn_18 : decode cX7_foldedIn 18 = .ok (.iaload, 1) := by decide +kernel
theorem dX7_foldedIn_19 : decode cX7_foldedIn 19 = .ok (.aload_n 0, 1) := by decide +kernel
theorem dX7_foldedIn_20 : decode cX7_foldedIn 20 = .ok (.getfield 77, 3) := by decide +kernel
theorem dX7_foldedIn_23 : decode cX7_foldedIn 23 = .ok (.if_icmp .ne 9, 3) := by decide +kernel
theorem dX7_foldedIn_26 : decode cX7_foldedIn 26 = .ok (.iconst 1, 1) := by decide +kernel
theorem dX7_foldedIn_27 : decode cX7_foldedIn 27 = .ok (.iload_n 2, 1) := by decide +kernel
theorem dX7_foldedIn_28 : decode cX7_foldedIn 28 = .ok (.ishl, 1) := by decide +kernel
theorem dX7_foldedIn_29 : decode cX7_foldedIn 29 = .ok (.goto 4, 3) := by decide +kernel
theorem dX7_foldedIn_32 : decode cX7_foldedIn 32 = .ok (.iconst 0, 1) := by decide +kernel
theorem dX7_foldedIn_33 : decode cX7_foldedIn 33 = .ok (.ior, 1) := by decide +kernel
theorem dX7_foldedIn_34 : decode cX7_foldedIn 34 = .ok (.istore_n 1, 1) := by decide +kernel
theorem dX7_foldedIn_35 : decode cX7_foldedIn 35 = .ok (.iinc 2 1, 3) := by decide +kernel
theorem dX7_foldedIn_38 : decode cX7_foldedIn 38 = .ok (.goto (-34), 3) := by decide +kernel
theorem dX7_foldedIn_41 : decode cX7_foldedIn 41 = .ok (.iload_n 1, 1) := by decide +kernel
theorem dX7_foldedIn_42 : decode cX7_foldedIn 42 = .ok (.ireturn, 1) := by decide +kernel
theorem dX7_foldedMany_0 : decode cX7_foldedMany 0 = .ok (.iconst 0, 1) := by decide +kernel
theorem dX7_foldedMany_1 : decode cX7_foldedMany 1 = .ok (.istore_n 1, 1) := by decide +kernel
theorem dX7_foldedMany_2 : decode cX7_foldedMany 2 = .ok (.iconst 0, 1) := by decide +kernel
theorem dX7_foldedMany_3 : decode cX7_foldedMany 3 = .ok (.istore_n 2, 1) := by decide +kernel
theorem dX7_foldedMany_4 : decode cX7_foldedMany 4 = .ok (.iload_n 2, 1) := by decide +kernel
theorem dX7_foldedMany_5 : decode cX7_foldedMany 5 = .ok (.aload_n 0, 1) := by decide +kernel
theorem dX7_foldedMany_6 : decode cX7_foldedMany 6 = .ok (.getfield 74, 3) := by decide +kernel
theorem dX7_foldedMany_9 : decode cX7_foldedMany 9 = .ok (.if_icmp .ge 30, 3) := by decide +kernel
theorem dX7_foldedMany_12 : decode cX7_foldedMany 12 = .ok (.iload_n 1, 1) := by decide +kernel
theorem dX7_foldedMany_13 : decode cX7_foldedMany 13 = .ok (.aload_n 0, 1) := by decide +kernel
theorem dX7_foldedMany_14 : decode cX7_foldedMany 14 = .ok (.getfield 26, 3) := by decide +kernel
theorem dX7_foldedMany_17 : decode cX7_foldedMany 17 = .ok (.iload_n 2, 1) := by decide +kernel
theorem dX7_foldedMany_18 : decode cX7_foldedMany 18 = .ok (.iaload, 1) := by decide +kernel
theorem dX7_foldedMany_19 : decode cX7_foldedMany 19 = .ok (.aload_n 0, 1) := by decide +kernel
theorem dX7_foldedMany_20 : decode cX7_foldedMany 20 = .ok (.getfield 77, 3) := by decide +kernel
theorem dX7_foldedMany_23 : decode cX7_foldedMany 23 = .ok (.if_icmp .ne 7, 3) := by decide +kernel
theorem dX7_foldedMany_26 : decode cX7_foldedMany 26 = .ok (.iconst 1, 1) := by decide +kernel
theorem dX7_foldedMany_27 : decode cX7_foldedMany 27 = .ok (.goto 4, 3) := by decide +kernel
theorem dX7_foldedMany_30 : decode cX7_foldedMany 30 = .ok (.iconst 0, 1) := by decide +kernel
theorem dX7_foldedMany_31 : decode cX7_foldedMany 31 = .ok (.iadd, 1) := by decide +kernel
theorem dX7_foldedMany_32 : decode cX7_foldedMany 32 = .ok (.istore_n 1, 1) := by decide +kernel
theorem dX7_foldedMany_33 : decode cX7_foldedMany 33 = .ok (.iinc 2 1, 3) := by decide +kernel
theorem dX7_foldedMany_36 : decode cX7_foldedMany 36 = .ok (.goto (-32), 3) := by decide +kernel
theorem dX7_foldedMany_39 : decode cX7_foldedMany 39 = .ok (.iload_n 1, 1) := by decide +kernel
theorem dX7_foldedMany_40 : decode cX7_foldedMany 40 = .ok (.ireturn, 1) := by decide +kernel
theorem dX7_comes_0 : decode cX7_comes 0 = .ok (.aload_n 0, 1) := by decide +kernel
theorem dX7_comes_1 : decode cX7_comes 1 = .ok (.getfield 20, 3) := by decide +kernel
theorem dX7_comes_4 : decode cX7_comes 4 = .ok (.iload_n 1, 1) := by decide +kernel
theorem dX7_comes_5 : decode cX7_comes 5 = .ok (.aload_n 0, 1) := by decide +kernel
theorem dX7_comes_6 : decode cX7_comes 6 = .ok (.iload_n 1, 1) := by decide +kernel
theorem dX7_comes_7 : decode cX7_comes 7 = .ok (.aload_n 0, 1) := by decide +kernel
theorem dX7_comes_8 : decode cX7_comes 8 = .ok (.getfield 20, 3) := by decide +kernel
theorem dX7_comes_11 : decode cX7_comes 11 = .ok (.iload_n 1, 1) := by decide +kernel
theorem dX7_comes_12 : decode cX7_comes 12 = .ok (.iaload, 1) := by decide +kernel
theorem dX7_comes_13 : decode cX7_comes 13 = .ok (.iload_n 2, 1) := by decide +kernel
theorem dX7_comes_14 : decode cX7_comes 14 = .ok (.aload_n 0, 1) := by decide +kernel
theorem dX7_comes_15 : decode cX7_comes 15 = .ok (.getfield 80, 3) := by decide +kernel
theorem dX7_comes_18 : decode cX7_comes 18 = .ok (.invokevirtual 209, 3) := by decide +kernel
theorem dX7_comes_21 : decode cX7_comes 21 = .ok (.iastore, 1) := by decide +kernel
theorem dX7_comes_22 : decode cX7_comes 22 = .ok (.iconst 0, 1) := by decide +kernel
theorem dX7_comes_23 : decode cX7_comes 23 = .ok (.istore_n 3, 1) := by decide +kernel
theorem dX7_comes_24 : decode cX7_comes 24 = .ok (.iconst 0, 1) := by decide +kernel
theorem dX7_comes_25 : decode cX7_comes 25 = .ok (.istore 4, 2) := by decide +kernel
theorem dX7_comes_27 : decode cX7_comes 27 = .ok (.iload 4, 2) := by decide +kernel
theorem dX7_comes_29 : decode cX7_comes 29 = .ok (.aload_n 0, 1) := by decide +kernel
theorem dX7_comes_30 : decode cX7_comes 30 = .ok (.getfield 74, 3) := by decide +kernel
theorem dX7_comes_33 : decode cX7_comes 33 = .ok (.if_icmp .ge 59, 3) := by decide +kernel
theorem dX7_comes_36 : decode cX7_comes 36 = .ok (.aload_n 0, 1) := by decide +kernel
theorem dX7_comes_37 : decode cX7_comes 37 = .ok (.iload 4, 2) := by decide +kernel
theorem dX7_comes_39 : decode cX7_comes 39 = .ok (.aload_n 0, 1) := by decide +kernel
theorem dX7_comes_40 : decode cX7_comes 40 = .ok (.getfield 26, 3) := by decide +kernel
theorem dX7_comes_43 : decode cX7_comes 43 = .ok (.iload 4, 2) := by decide +kernel
theorem dX7_comes_45 : decode cX7_comes 45 = .ok (.iaload, 1) := by decide +kernel
theorem dX7_comes_46 : decode cX7_comes 46 = .ok (.aload_n 0, 1) := by decide +kernel
theorem dX7_comes_47 : decode cX7_comes 47 = .ok (.getfield 20, 3) := by decide +kernel
theorem dX7_comes_50 : decode cX7_comes 50 = .ok (.iload_n 1, 1) := by decide +kernel
theorem dX7_comes_51 : decode cX7_comes 51 = .ok (.iaload, 1) := by decide +kernel
theorem dX7_comes_52 : decode cX7_comes 52 = .ok (.invokevirtual 213, 3) := by decide +kernel
theorem dX7_comes_55 : decode cX7_comes 55 = .ok (.istore 5, 2) := by decide +kernel
theorem dX7_comes_57 : decode cX7_comes 57 = .ok (.iload_n 3, 1) := by decide +kernel
theorem dX7_comes_58 : decode cX7_comes 58 = .ok (.iload 5, 2) := by decide +kernel
theorem dX7_comes_60 : decode cX7_comes 60 = .ok (.aload_n 0, 1) := by decide +kernel
theorem dX7_comes_61 : decode cX7_comes 61 = .ok (.getfield 26, 3) := by decide +kernel
theorem dX7_comes_64 : decode cX7_comes 64 = .ok (.iload 4, 2) := by decide +kernel
theorem dX7_comes_66 : decode cX7_comes 66 = .ok (.iaload, 1) := by decide +kernel
theorem dX7_comes_67 : decode cX7_comes 67 = .ok (.if_icmp .ne 7, 3) := by decide +kernel
theorem dX7_comes_70 : decode cX7_comes 70 = .ok (.iconst 0, 1) := by decide +kernel
theorem dX7_comes_71 : decode cX7_comes 71 = .ok (.goto 4, 3) := by decide +kernel
theorem dX7_comes_74 : decode cX7_comes 74 = .ok (.iconst 1, 1) := by decide +kernel
theorem dX7_comes_75 : decode cX7_comes 75 = .ok (.iadd, 1) := by decide +kernel
theorem dX7_comes_76 : decode cX7_comes 76 = .ok (.istore_n 3, 1) := by decide +kernel
theorem dX7_comes_77 : decode cX7_comes 77 = .ok (.aload_n 0, 1) := by decide +kernel
theorem dX7_comes_78 : decode cX7_comes 78 = .ok (.getfield 26, 3) := by decide +kernel
theorem dX7_comes_81 : decode cX7_comes 81 = .ok (.iload 4, 2) := by decide +kernel
theorem dX7_comes_83 : decode cX7_comes 83 = .ok (.iload 5, 2) := by decide +kernel
theorem dX7_comes_85 : decode cX7_comes 85 = .ok (.iastore, 1) := by decide +kernel
theorem dX7_comes_86 : decode cX7_comes 86 = .ok (.iinc 4 1, 3) := by decide +kernel
theorem dX7_comes_89 : decode cX7_comes 89 = .ok (.goto (-62), 3) := by decide +kernel
theorem dX7_comes_92 : decode cX7_comes 92 = .ok (.aload_n 0, 1) := by decide +kernel
theorem dX7_comes_93 : decode cX7_comes 93 = .ok (.dup, 1) := by decide +kernel
theorem dX7_comes_94 : decode cX7_comes 94 = .ok (.getfield 80, 3) := by decide +kernel
theorem dX7_comes_97 : decode cX7_comes 97 = .ok (.iconst 1, 1) := by decide +kernel
theorem dX7_comes_98 : decode cX7_comes 98 = .ok (.iadd, 1) := by decide +kernel
theorem dX7_comes_99 : decode cX7_comes 99 = .ok (.putfield 80, 3) := by decide +kernel
theorem dX7_comes_102 : decode cX7_comes 102 = .ok (.iload_n 3, 1) := by decide +kernel
theorem dX7_comes_103 : decode cX7_comes 103 = .ok (.ireturn, 1) := by decide +kernel
theorem dX7_lays_0 : decode cX7_lays 0 = .ok (.aload_n 1, 1) := by decide +kernel
theorem dX7_lays_1 : decode cX7_lays 1 = .ok (.iload_n 2, 1) := by decide +kernel
theorem dX7_lays_2 : decode cX7_lays 2 = .ok (.aload_n 0, 1) := by decide +kernel
theorem dX7_lays_3 : decode cX7_lays 3 = .ok (.getfield 80, 3) := by decide +kernel
theorem dX7_lays_6 : decode cX7_lays 6 = .ok (.iastore, 1) := by decide +kernel
theorem dX7_lays_7 : decode cX7_lays 7 = .ok (.iconst 0, 1) := by decide +kernel
theorem dX7_lays_8 : decode cX7_lays 8 = .ok (.istore_n 3, 1) := by decide +kernel
theorem dX7_lays_9 : decode cX7_lays 9 = .ok (.iload_n 3, 1) := by decide +kernel
theorem dX7_lays_10 : decode cX7_lays 10 = .ok (.iconst 3, 1) := by decide +kernel
theorem dX7_lays_11 : decode cX7_lays 11 = .ok (.if_icmp .ge 22, 3) := by decide +kernel
theorem dX7_lays_14 : decode cX7_lays 14 = .ok (.aload_n 1, 1) := by decide +kernel
theorem dX7_lays_15 : decode cX7_lays 15 = .ok (.iload_n 2, 1) := by decide +kernel
theorem dX7_lays_16 : decode cX7_lays 16 = .ok (.iconst 1, 1) := by decide +kernel
theorem dX7_lays_17 : decode cX7_lays 17 = .ok (.iadd, 1) := by decide +kernel
theorem dX7_lays_18 : decode cX7_lays 18 = .ok (.iload_n 3, 1) := by decide +kernel
theorem dX7_lays_19 : decode cX7_lays 19 = .ok (.iadd, 1) := by decide +kernel
theorem dX7_lays_20 : decode cX7_lays 20 = .ok (.aload_n 0, 1) := by decide +kernel
theorem dX7_lays_21 : decode cX7_lays 21 = .ok (.getfield 20, 3) := by decide +kernel
theorem dX7_lays_24 : decode cX7_lays 24 = .ok (.iload_n 3, 1) := by decide +kernel
theorem dX7_lays_25 : decode cX7_lays 25 = .ok (.iaload, 1) := by decide +kernel
theorem dX7_lays_26 : decode cX7_lays 26 = .ok (.iastore, 1) := by decide +kernel
theorem dX7_lays_27 : decode cX7_lays 27 = .ok (.iinc 3 1, 3) := by decide +kernel
theorem dX7_lays_30 : decode cX7_lays 30 = .ok (.goto (-21), 3) := by decide +kernel
theorem dX7_lays_33 : decode cX7_lays 33 = .ok (.iconst 0, 1) := by decide +kernel
theorem dX7_lays_34 : decode cX7_lays 34 = .ok (.istore_n 3, 1) := by decide +kernel
theorem dX7_lays_35 : decode cX7_lays 35 = .ok (.iload_n 3, 1) := by decide +kernel
theorem dX7_lays_36 : decode cX7_lays 36 = .ok (.bipush 7, 2) := by decide +kernel
theorem dX7_lays_38 : decode cX7_lays 38 = .ok (.if_icmp .ge 22, 3) := by decide +kernel
theorem dX7_lays_41 : decode cX7_lays 41 = .ok (.aload_n 1, 1) := by decide +kernel
theorem dX7_lays_42 : decode cX7_lays 42 = .ok (.iload_n 2, 1) := by decide +kernel
theorem dX7_lays_43 : decode cX7_lays 43 = .ok (.iconst 4, 1) := by decide +kernel
theorem dX7_lays_44 : decode cX7_lays 44 = .ok (.iadd, 1) := by decide +kernel
theorem dX7_lays_45 : decode cX7_lays 45 = .ok (.iload_n 3, 1) := by decide +kernel
theorem dX7_lays_46 : decode cX7_lays 46 = .ok (.iadd, 1) := by decide +kernel
theorem dX7_lays_47 : decode cX7_lays 47 = .ok (.aload_n 0, 1) := by decide +kernel
theorem dX7_lays_48 : decode cX7_lays 48 = .ok (.getfield 26, 3) := by decide +kernel
theorem dX7_lays_51 : decode cX7_lays 51 = .ok (.iload_n 3, 1) := by decide +kernel
theorem dX7_lays_52 : decode cX7_lays 52 = .ok (.iaload, 1) := by decide +kernel
theorem dX7_lays_53 : decode cX7_lays 53 = .ok (.iastore, 1) := by decide +kernel
theorem dX7_lays_54 : decode cX7_lays 54 = .ok (.iinc 3 1, 3) := by decide +kernel
theorem dX7_lays_57 : decode cX7_lays 57 = .ok (.goto (-22), 3) := by decide +kernel
theorem dX7_lays_60 : decode cX7_lays 60 = .ok (.return_, 1) := by decide +kernel
theorem dX7_takes_0 : decode cX7_takes 0 = .ok (.aload_n 0, 1) := by decide +kernel
theorem dX7_takes_1 : decode cX7_takes 1 = .ok (.aload_n 1, 1) := by decide +kernel
theorem dX7_takes_2 : decode cX7_takes 2 = .ok (.iload_n 2, 1) := by decide +kernel
theorem dX7_takes_3 : decode cX7_takes 3 = .ok (.iaload, 1) := by decide +kernel
theorem dX7_takes_4 : decode cX7_takes 4 = .ok (.putfield 80, 3) := by decide +kernel
theorem dX7_takes_7 : decode cX7_takes 7 = .ok (.iconst 0, 1) := by decide +kernel
theorem dX7_takes_8 : decode cX7_takes 8 = .ok (.istore_n 3, 1) := by decide +kernel
theorem dX7_takes_9 : decode cX7_takes 9 = .ok (.iload_n 3, 1) := by decide +kernel
theorem dX7_takes_10 : decode cX7_takes 10 = .ok (.iconst 3, 1) := by decide +kernel
theorem dX7_takes_11 : decode cX7_takes 11 = .ok (.if_icmp .ge 22, 3) := by decide +kernel
theorem dX7_takes_14 : decode cX7_takes 14 = .ok (.aload_n 0, 1) := by decide +kernel
theorem dX7_takes_15 : decode cX7_takes 15 = .ok (.getfield 20, 3) := by decide +kernel
theorem dX7_takes_18 : decode cX7_takes 18 = .ok (.iload_n 3, 1) := by decide +kernel
theorem dX7_takes_19 : decode cX7_takes 19 = .ok (.aload_n 1, 1) := by decide +kernel
theorem dX7_takes_20 : decode cX7_takes 20 = .ok (.iload_n 2, 1) := by decide +kernel
theorem dX7_takes_21 : decode cX7_takes 21 = .ok (.iconst 1, 1) := by decide +kernel
theorem dX7_takes_22 : decode cX7_takes 22 = .ok (.iadd, 1) := by decide +kernel
theorem dX7_takes_23 : decode cX7_takes 23 = .ok (.iload_n 3, 1) := by decide +kernel
theorem dX7_takes_24 : decode cX7_takes 24 = .ok (.iadd, 1) := by decide +kernel
theorem dX7_takes_25 : decode cX7_takes 25 = .ok (.iaload, 1) := by decide +kernel
theorem dX7_takes_26 : decode cX7_takes 26 = .ok (.iastore, 1) := by decide +kernel
theorem dX7_takes_27 : decode cX7_takes 27 = .ok (.iinc 3 1, 3) := by decide +kernel
theorem dX7_takes_30 : decode cX7_takes 30 = .ok (.goto (-21), 3) := by decide +kernel
theorem dX7_takes_33 : decode cX7_takes 33 = .ok (.iconst 0, 1) := by decide +kernel
theorem dX7_takes_34 : decode cX7_takes 34 = .ok (.istore_n 3, 1) := by decide +kernel
theorem dX7_takes_35 : decode cX7_takes 35 = .ok (.iload_n 3, 1) := by decide +kernel
theorem dX7_takes_36 : decode cX7_takes 36 = .ok (.bipush 7, 2) := by decide +kernel
theorem dX7_takes_38 : decode cX7_takes 38 = .ok (.if_icmp .ge 22, 3) := by decide +kernel
theorem dX7_takes_41 : decode cX7_takes 41 = .ok (.aload_n 0, 1) := by decide +kernel
theorem dX7_takes_42 : decode cX7_takes 42 = .ok (.getfield 26, 3) := by decide +kernel
theorem dX7_takes_45 : decode cX7_takes 45 = .ok (.iload_n 3, 1) := by decide +kernel
theorem dX7_takes_46 : decode cX7_takes 46 = .ok (.aload_n 1, 1) := by decide +kernel
theorem dX7_takes_47 : decode cX7_takes 47 = .ok (.iload_n 2, 1) := by decide +kernel
theorem dX7_takes_48 : decode cX7_takes 48 = .ok (.iconst 4, 1) := by decide +kernel
theorem dX7_takes_49 : decode cX7_takes 49 = .ok (.iadd, 1) := by decide +kernel
theorem dX7_takes_50 : decode cX7_takes 50 = .ok (.iload_n 3, 1) := by decide +kernel
theorem dX7_takes_51 : decode cX7_takes 51 = .ok (.iadd, 1) := by decide +kernel
theorem dX7_takes_52 : decode cX7_takes 52 = .ok (.iaload, 1) := by decide +kernel
theorem dX7_takes_53 : decode cX7_takes 53 = .ok (.iastore, 1) := by decide +kernel
theorem dX7_takes_54 : decode cX7_takes 54 = .ok (.iinc 3 1, 3) := by decide +kernel
theorem dX7_takes_57 : decode cX7_takes 57 = .ok (.goto (-22), 3) := by decide +kernel
theorem dX7_takes_60 : decode cX7_takes 60 = .ok (.return_, 1) := by decide +kernel
theorem dX7_notes_0 : decode cX7_notes 0 = .ok (.aload_n 0, 1) := by decide +kernel
theorem dX7_notes_1 : decode cX7_notes 1 = .ok (.getfield 92, 3) := by decide +kernel
theorem dX7_notes_4 : decode cX7_notes 4 = .ok (.bipush 8, 2) := by decide +kernel
theorem dX7_notes_6 : decode cX7_notes 6 = .ok (.if_icmp .ne 42, 3) := by decide +kernel
theorem dX7_notes_9 : decode cX7_notes 9 = .ok (.iconst 0, 1) := by decide +kernel
theorem dX7_notes_10 : decode cX7_notes 10 = .ok (.istore_n 1, 1) := by decide +kernel
theorem dX7_notes_11 : decode cX7_notes 11 = .ok (.iload_n 1, 1) := by decide +kernel
theorem dX7_notes_12 : decode cX7_notes 12 = .ok (.bipush 77, 2) := by decide +kernel
theorem dX7_notes_14 : decode cX7_notes 14 = .ok (.if_icmp .ge 24, 3) := by decide +kernel
theorem dX7_notes_17 : decode cX7_notes 17 = .ok (.aload_n 0, 1) := by decide +kernel
theorem dX7_notes_18 : decode cX7_notes 18 = .ok (.getfield 44, 3) := by decide +kernel
theorem dX7_notes_21 : decode cX7_notes 21 = .ok (.iload_n 1, 1) := by decide +kernel
theorem dX7_notes_22 : decode cX7_notes 22 = .ok (.aload_n 0, 1) := by decide +kernel
theorem dX7_notes_23 : decode cX7_notes 23 = .ok (.getfield 44, 3) := by decide +kernel
theorem dX7_notes_26 : decode cX7_notes 26 = .ok (.iload_n 1, 1) := by decide +kernel
theorem dX7_notes_27 : decode cX7_notes 27 = .ok (.bipush 11, 2) := by decide +kernel
theorem dX7_notes_29 : decode cX7_notes 29 = .ok (.iadd, 1) := by decide +kernel
theorem dX7_notes_30 : decode cX7_notes 30 = .ok (.iaload, 1) := by decide +kernel
theorem dX7_notes_31 : decode cX7_notes 31 = .ok (.iastore, 1) := by decide +kernel
theorem dX7_notes_32 : decode cX7_notes 32 = .ok (.iinc 1 1, 3) := by decide +kernel
theorem dX7_notes_35 : decode cX7_notes 35 = .ok (.goto (-24), 3) := by decide +kernel
theorem dX7_notes_38 : decode cX7_notes 38 = .ok (.aload_n 0, 1) := by decide +kernel
theorem dX7_notes_39 : decode cX7_notes 39 = .ok (.dup, 1) := by decide +kernel
theorem dX7_notes_40 : decode cX7_notes 40 = .ok (.getfield 92, 3) := by decide +kernel
theorem dX7_notes_43 : decode cX7_notes 43 = .ok (.iconst 1, 1) := by decide +kernel
theorem dX7_notes_44 : decode cX7_notes 44 = .ok (.isub, 1) := by decide +kernel
theorem dX7_notes_45 : decode cX7_notes 45 = .ok (.putfield 92, 3) := by decide +kernel
theorem dX7_notes_48 : decode cX7_notes 48 = .ok (.aload_n 0, 1) := by decide +kernel
theorem dX7_notes_49 : decode cX7_notes 49 = .ok (.aload_n 0, 1) := by decide +kernel
theorem dX7_notes_50 : decode cX7_notes 50 = .ok (.getfield 44, 3) := by decide +kernel
theorem dX7_notes_53 : decode cX7_notes 53 = .ok (.bipush 11, 2) := by decide +kernel
theorem dX7_notes_55 : decode cX7_notes 55 = .ok (.aload_n 0, 1) := by decide +kernel
theorem dX7_notes_56 : decode cX7_notes 56 = .ok (.getfield 92, 3) := by decide +kernel
theorem dX7_notes_59 : decode cX7_notes 59 = .ok (.imul, 1) := by decide +kernel
theorem dX7_notes_60 : decode cX7_notes 60 = .ok (.invokevirtual 216, 3) := by decide +kernel
theorem dX7_notes_63 : decode cX7_notes 63 = .ok (.aload_n 0, 1) := by decide +kernel
theorem dX7_notes_64 : decode cX7_notes 64 = .ok (.dup, 1) := by decide +kernel
theorem dX7_notes_65 : decode cX7_notes 65 = .ok (.getfield 92, 3) := by decide +kernel
theorem dX7_notes_68 : decode cX7_notes 68 = .ok (.iconst 1, 1) := by decide +kernel
theorem dX7_notes_69 : decode cX7_notes 69 = .ok (.iadd, 1) := by decide +kernel
theorem dX7_notes_70 : decode cX7_notes 70 = .ok (.putfield 92, 3) := by decide +kernel
theorem dX7_notes_73 : decode cX7_notes 73 = .ok (.return_, 1) := by decide +kernel
theorem dX7_calls_0 : decode cX7_calls 0 = .ok (.aload_n 0, 1) := by decide +kernel
theorem dX7_calls_1 : decode cX7_calls 1 = .ok (.iload_n 1, 1) := by decide +kernel
theorem dX7_calls_2 : decode cX7_calls 2 = .ok (.invokevirtual 219, 3) := by decide +kernel
theorem dX7_calls_5 : decode cX7_calls 5 = .ok (.ifCond .eq 10, 3) := by decide +kernel
theorem dX7_calls_8 : decode cX7_calls 8 = .ok (.iload_n 2, 1) := by decide +kernel
theorem dX7_calls_9 : decode cX7_calls 9 = .ok (.invokestatic 222, 3) := by decide +kernel
theorem dX7_calls_12 : decode cX7_calls 12 = .ok (.ifCond .ne 8, 3) := by decide +kernel
theorem dX7_calls_15 : decode cX7_calls 15 = .ok (.aload_n 0, 1) := by decide +kernel
theorem dX7_calls_16 : decode cX7_calls 16 = .ok (.invokevirtual 103, 3) := by decide +kernel
theorem dX7_calls_19 : decode cX7_calls 19 = .ok (.ireturn, 1) := by decide +kernel
theorem dX7_calls_20 : decode cX7_calls 20 = .ok (.aload_n 0, 1) := by decide +kernel
theorem dX7_calls_21 : decode cX7_calls 21 = .ok (.getfield 80, 3) := by decide +kernel
theorem dX7_calls_24 : decode cX7_calls 24 = .ok (.sipush 9999, 3) := by decide +kernel
theorem dX7_calls_27 : decode cX7_calls 27 = .ok (.if_icmp .ne 8, 3) := by decide +kernel
theorem dX7_calls_30 : decode cX7_calls 30 = .ok (.aload_n 0, 1) := by decide +kernel
theorem dX7_calls_31 : decode cX7_calls 31 = .ok (.invokevirtual 116, 3) := by decide +kernel
theorem dX7_calls_34 : decode cX7_calls 34 = .ok (.ireturn, 1) := by decide +kernel
theorem dX7_calls_35 : decode cX7_calls 35 = .ok (.aload_n 0, 1) := by decide +kernel
theorem dX7_calls_36 : decode cX7_calls 36 = .ok (.invokevirtual 225, 3) := by decide +kernel
theorem dX7_calls_39 : decode cX7_calls 39 = .ok (.aload_n 0, 1) := by decide +kernel
theorem dX7_calls_40 : decode cX7_calls 40 = .ok (.iload_n 1, 1) := by decide +kernel
theorem dX7_calls_41 : decode cX7_calls 41 = .ok (.iload_n 2, 1) := by decide +kernel
theorem dX7_calls_42 : decode cX7_calls 42 = .ok (.invokevirtual 155, 3) := by decide +kernel
theorem dX7_calls_45 : decode cX7_calls 45 = .ok (.ireturn, 1) := by decide +kernel
theorem dX7_steps_0 : decode cX7_steps 0 = .ok (.iload_n 1, 1) := by decide +kernel
theorem dX7_steps_1 : decode cX7_steps 1 = .ok (.iconst 1, 1) := by decide +kernel
theorem dX7_steps_2 : decode cX7_steps 2 = .ok (.bipush 99, 2) := by decide +kernel
theorem dX7_steps_4 : decode cX7_steps 4 = .ok (.invokestatic 95, 3) := by decide +kernel
theorem dX7_steps_7 : decode cX7_steps 7 = .ok (.ifCond .ne 8, 3) := by decide +kernel
theorem dX7_steps_10 : decode cX7_steps 10 = .ok (.aload_n 0, 1) := by decide +kernel
theorem dX7_steps_11 : decode cX7_steps 11 = .ok (.invokevirtual 103, 3) := by decide +kernel
theorem dX7_steps_14 : decode cX7_steps 14 = .ok (.ireturn, 1) := by decide +kernel
theorem dX7_steps_15 : decode cX7_steps 15 = .ok (.aload_n 0, 1) := by decide +kernel
theorem dX7_steps_16 : decode cX7_steps 16 = .ok (.invokevirtual 225, 3) := by decide +kernel
theorem dX7_steps_19 : decode cX7_steps 19 = .ok (.aload_n 0, 1) := by decide +kernel
theorem dX7_steps_20 : decode cX7_steps 20 = .ok (.sipush 9999, 3) := by decide +kernel
theorem dX7_steps_23 : decode cX7_steps 23 = .ok (.aload_n 0, 1) := by decide +kernel
theorem dX7_steps_24 : decode cX7_steps 24 = .ok (.getfield 80, 3) := by decide +kernel
theorem dX7_steps_27 : decode cX7_steps 27 = .ok (.iload_n 1, 1) := by decide +kernel
theorem dX7_steps_28 : decode cX7_steps 28 = .ok (.iadd, 1) := by decide +kernel
theorem dX7_steps_29 : decode cX7_steps 29 = .ok (.invokestatic 158, 3) := by decide +kernel
theorem dX7_steps_32 : decode cX7_steps 32 = .ok (.putfield 80, 3) := by decide +kernel
theorem dX7_steps_35 : decode cX7_steps 35 = .ok (.aload_n 0, 1) := by decide +kernel
theorem dX7_steps_36 : decode cX7_steps 36 = .ok (.getfield 80, 3) := by decide +kernel
theorem dX7_steps_39 : decode cX7_steps 39 = .ok (.ireturn, 1) := by decide +kernel
theorem dX7_undo_0 : decode cX7_undo 0 = .ok (.aload_n 0, 1) := by decide +kernel
theorem dX7_undo_1 : decode cX7_undo 1 = .ok (.getfield 92, 3) := by decide +kernel
theorem dX7_undo_4 : decode cX7_undo 4 = .ok (.ifCond .ne 8, 3) := by decide +kernel
theorem dX7_undo_7 : decode cX7_undo 7 = .ok (.aload_n 0, 1) := by decide +kernel
theorem dX7_undo_8 : decode cX7_undo 8 = .ok (.invokevirtual 116, 3) := by decide +kernel
theorem dX7_undo_11 : decode cX7_undo 11 = .ok (.ireturn, 1) := by decide +kernel
theorem dX7_undo_12 : decode cX7_undo 12 = .ok (.aload_n 0, 1) := by decide +kernel
theorem dX7_undo_13 : decode cX7_undo 13 = .ok (.dup, 1) := by decide +kernel
theorem dX7_undo_14 : decode cX7_undo 14 = .ok (.getfield 92, 3) := by decide +kernel
theorem dX7_undo_17 : decode cX7_undo 17 = .ok (.iconst 1, 1) := by decide +kernel
theorem dX7_undo_18 : decode cX7_undo 18 = .ok (.isub, 1) := by decide +kernel
theorem dX7_undo_19 : decode cX7_undo 19 = .ok (.putfield 92, 3) := by decide +kernel
theorem dX7_undo_22 : decode cX7_undo 22 = .ok (.aload_n 0, 1) := by decide +kernel
theorem dX7_undo_23 : decode cX7_undo 23 = .ok (.aload_n 0, 1) := by decide +kernel
theorem dX7_undo_24 : decode cX7_undo 24 = .ok (.getfield 44, 3) := by decide +kernel
theorem dX7_undo_27 : decode cX7_undo 27 = .ok (.bipush 11, 2) := by decide +kernel
theorem dX7_undo_29 : decode cX7_undo 29 = .ok (.aload_n 0, 1) := by decide +kernel
theorem dX7_undo_30 : decode cX7_undo 30 = .ok (.getfield 92, 3) := by decide +kernel
theorem dX7_undo_33 : decode cX7_undo 33 = .ok (.imul, 1) := by decide +kernel
theorem dX7_undo_34 : decode cX7_undo 34 = .ok (.invokevirtual 228, 3) := by decide +kernel
theorem dX7_undo_37 : decode cX7_undo 37 = .ok (.aload_n 0, 1) := by decide +kernel
theorem dX7_undo_38 : decode cX7_undo 38 = .ok (.getfield 80, 3) := by decide +kernel
theorem dX7_undo_41 : decode cX7_undo 41 = .ok (.ireturn, 1) := by decide +kernel
theorem dX7_of_0 : decode cX7_of 0 = .ok (.aload_n 0, 1) := by decide +kernel
theorem dX7_of_1 : decode cX7_of 1 = .ok (.iload_n 1, 1) := by decide +kernel
theorem dX7_of_2 : decode cX7_of 2 = .ok (.invokevirtual 219, 3) := by decide +kernel
theorem dX7_of_5 : decode cX7_of 5 = .ok (.ifCond .eq 12, 3) := by decide +kernel
theorem dX7_of_8 : decode cX7_of 8 = .ok (.iload_n 2, 1) := by decide +kernel
theorem dX7_of_9 : decode cX7_of 9 = .ok (.iconst 0, 1) := by decide +kernel
theorem dX7_of_10 : decode cX7_of 10 = .ok (.iconst 2, 1) := by decide +kernel
theorem dX7_of_11 : decode cX7_of 11 = .ok (.invokestatic 95, 3) := by decide +kernel
theorem dX7_of_14 : decode cX7_of 14 = .ok (.ifCond .ne 8, 3) := by decide +kernel
theorem dX7_of_17 : decode cX7_of 17 = .ok (.aload_n 0, 1) := by decide +kernel
theorem dX7_of_18 : decode cX7_of 18 = .ok (.invokevirtual 103, 3) := by decide +kernel
theorem dX7_of_21 : decode cX7_of 21 = .ok (.ireturn, 1) := by decide +kernel
theorem dX7_of_22 : decode cX7_of 22 = .ok (.iload_n 2, 1) := by decide +kernel
theorem dX7_of_23 : decode cX7_of 23 = .ok (.ifCond .ne 12, 3) := by decide +kernel
theorem dX7_of_26 : decode cX7_of 26 = .ok (.aload_n 0, 1) := by decide +kernel
theorem dX7_of_27 : decode cX7_of 27 = .ok (.getfield 17, 3) := by decide +kernel
theorem dX7_of_30 : decode cX7_of 30 = .ok (.iload_n 1, 1) := by decide +kernel
theorem dX7_of_31 : decode cX7_of 31 = .ok (.iaload, 1) := by decide +kernel
theorem dX7_of_32 : decode cX7_of 32 = .ok (.goto 30, 3) := by decide +kernel
theorem dX7_of_35 : decode cX7_of 35 = .ok (.iload_n 2, 1) := by decide +kernel
theorem dX7_of_36 : decode cX7_of 36 = .ok (.iconst 1, 1) := by decide +kernel
theorem dX7_of_37 : decode cX7_of 37 = .ok (.if_icmp .ne 12, 3) := by decide +kernel
theorem dX7_of_40 : decode cX7_of 40 = .ok (.aload_n 0, 1) := by decide +kernel
theorem dX7_of_41 : decode cX7_of 41 = .ok (.getfield 20, 3) := by decide +kernel
theorem dX7_of_44 : decode cX7_of 44 = .ok (.iload_n 1, 1) := by decide +kernel
theorem dX7_of_45 : decode cX7_of 45 = .ok (.iaload, 1) := by decide +kernel
theorem dX7_of_46 : decode cX7_of 46 = .ok (.goto 16, 3) := by decide +kernel
theorem dX7_of_49 : decode cX7_of 49 = .ok (.aload_n 0, 1) := by decide +kernel
theorem dX7_of_50 : decode cX7_of 50 = .ok (.getfield 17, 3) := by decide +kernel
theorem dX7_of_53 : decode cX7_of 53 = .ok (.iload_n 1, 1) := by decide +kernel
theorem dX7_of_54 : decode cX7_of 54 = .ok (.iaload, 1) := by decide +kernel
theorem dX7_of_55 : decode cX7_of 55 = .ok (.aload_n 0, 1) := by decide +kernel
theorem dX7_of_56 : decode cX7_of 56 = .ok (.getfield 80, 3) := by decide +kernel
theorem dX7_of_59 : decode cX7_of 59 = .ok (.invokestatic 196, 3) := by decide +kernel
theorem dX7_of_62 : decode cX7_of 62 = .ok (.ireturn, 1) := by decide +kernel
theorem dX7_about_0 : decode cX7_about 0 = .ok (.aload_n 0, 1) := by decide +kernel
theorem dX7_about_1 : decode cX7_about 1 = .ok (.iload_n 1, 1) := by decide +kernel
theorem dX7_about_2 : decode cX7_about 2 = .ok (.invokevirtual 231, 3) := by decide +kernel
theorem dX7_about_5 : decode cX7_about 5 = .ok (.ifCond .eq 12, 3) := by decide +kernel
theorem dX7_about_8 : decode cX7_about 8 = .ok (.iload_n 2, 1) := by decide +kernel
theorem dX7_about_9 : decode cX7_about 9 = .ok (.iconst 0, 1) := by decide +kernel
theorem dX7_about_10 : decode cX7_about 10 = .ok (.iconst 2, 1) := by decide +kernel
theorem dX7_about_11 : decode cX7_about 11 = .ok (.invokestatic 95, 3) := by decide +kernel
theorem dX7_about_14 : decode cX7_about 14 = .ok (.ifCond .ne 8, 3) := by decide +kernel
theorem dX7_about_17 : decode cX7_about 17 = .ok (.aload_n 0, 1) := by decide +kernel
theorem dX7_about_18 : decode cX7_about 18 = .ok (.invokevirtual 103, 3) := by decide +kernel
theorem dX7_about_21 : decode cX7_about 21 = .ok (.ireturn, 1) := by decide +kernel
theorem dX7_about_22 : decode cX7_about 22 = .ok (.iload_n 2, 1) := by decide +kernel
theorem dX7_about_23 : decode cX7_about 23 = .ok (.ifCond .ne 12, 3) := by decide +kernel
theorem dX7_about_26 : decode cX7_about 26 = .ok (.aload_n 0, 1) := by decide +kernel
theorem dX7_about_27 : decode cX7_about 27 = .ok (.getfield 23, 3) := by decide +kernel
theorem dX7_about_30 : decode cX7_about 30 = .ok (.iload_n 1, 1) := by decide +kernel
theorem dX7_about_31 : decode cX7_about 31 = .ok (.iaload, 1) := by decide +kernel
theorem dX7_about_32 : decode cX7_about 32 = .ok (.goto 30, 3) := by decide +kernel
theorem dX7_about_35 : decode cX7_about 35 = .ok (.iload_n 2, 1) := by decide +kernel
theorem dX7_about_36 : decode cX7_about 36 = .ok (.iconst 1, 1) := by decide +kernel
theorem dX7_about_37 : decode cX7_about 37 = .ok (.if_icmp .ne 12, 3) := by decide +kernel
theorem dX7_about_40 : decode cX7_about 40 = .ok (.aload_n 0, 1) := by decide +kernel
theorem dX7_about_41 : decode cX7_about 41 = .ok (.getfield 26, 3) := by decide +kernel
theorem dX7_about_44 : decode cX7_about 44 = .ok (.iload_n 1, 1) := by decide +kernel
theorem dX7_about_45 : decode cX7_about 45 = .ok (.iaload, 1) := by decide +kernel
theorem dX7_about_46 : decode cX7_about 46 = .ok (.goto 16, 3) := by decide +kernel
theorem dX7_about_49 : decode cX7_about 49 = .ok (.aload_n 0, 1) := by decide +kernel
theorem dX7_about_50 : decode cX7_about 50 = .ok (.getfield 26, 3) := by decide +kernel
theorem dX7_about_53 : decode cX7_about 53 = .ok (.iload_n 1, 1) := by decide +kernel
theorem dX7_about_54 : decode cX7_about 54 = .ok (.iaload, 1) := by decide +kernel
theorem dX7_about_55 : decode cX7_about 55 = .ok (.aload_n 0, 1) := by decide +kernel
theorem dX7_about_56 : decode cX7_about 56 = .ok (.getfield 77, 3) := by decide +kernel
theorem dX7_about_59 : decode cX7_about 59 = .ok (.invokestatic 203, 3) := by decide +kernel
theorem dX7_about_62 : decode cX7_about 62 = .ok (.ireturn, 1) := by decide +kernel
theorem dX7_goes_0 : decode cX7_goes 0 = .ok (.aload_n 0, 1) := by decide +kernel
theorem dX7_goes_1 : decode cX7_goes 1 = .ok (.iload_n 1, 1) := by decide +kernel
theorem dX7_goes_2 : decode cX7_goes 2 = .ok (.invokevirtual 219, 3) := by decide +kernel
theorem dX7_goes_5 : decode cX7_goes 5 = .ok (.ifCond .eq 29, 3) := by decide +kernel
theorem dX7_goes_8 : decode cX7_goes 8 = .ok (.iload_n 2, 1) := by decide +kernel
theorem dX7_goes_9 : decode cX7_goes 9 = .ok (.invokestatic 222, 3) := by decide +kernel
theorem dX7_goes_12 : decode cX7_goes 12 = .ok (.ifCond .eq 22, 3) := by decide +kernel
theorem dX7_goes_15 : decode cX7_goes 15 = .ok (.aload_n 0, 1) := by decide +kernel
theorem dX7_goes_16 : decode cX7_goes 16 = .ok (.iload_n 1, 1) := by decide +kernel
theorem dX7_goes_17 : decode cX7_goes 17 = .ok (.aload_n 0, 1) := by decide +kernel
theorem dX7_goes_18 : decode cX7_goes 18 = .ok (.getfield 20, 3) := by decide +kernel
theorem dX7_goes_21 : decode cX7_goes 21 = .ok (.iload_n 1, 1) := by decide +kernel
theorem dX7_goes_22 : decode cX7_goes 22 = .ok (.iaload, 1) := by decide +kernel
theorem dX7_goes_23 : decode cX7_goes 23 = .ok (.iload_n 2, 1) := by decide +kernel
theorem dX7_goes_24 : decode cX7_goes 24 = .ok (.aload_n 0, 1) := by decide +kernel
theorem dX7_goes_25 : decode cX7_goes 25 = .ok (.getfield 80, 3) := by decide +kernel
theorem dX7_goes_28 : decode cX7_goes 28 = .ok (.invokevirtual 209, 3) := by decide +kernel
theorem dX7_goes_31 : decode cX7_goes 31 = .ok (.goto 7, 3) := by decide +kernel
theorem dX7_goes_34 : decode cX7_goes 34 = .ok (.aload_n 0, 1) := by decide +kernel
theorem dX7_goes_35 : decode cX7_goes 35 = .ok (.invokevirtual 103, 3) := by decide +kernel
theorem dX7_goes_38 : decode cX7_goes 38 = .ok (.ireturn, 1) := by decide +kernel
theorem dX7_givesTo_0 : decode cX7_givesTo 0 = .ok (.aload_n 0, 1) := by decide +kernel
theorem dX7_givesTo_1 : decode cX7_givesTo 1 = .ok (.iload_n 1, 1) := by decide +kernel
theorem dX7_givesTo_2 : decode cX7_givesTo 2 = .ok (.aload_n 0, 1) := by decide +kernel
theorem dX7_givesTo_3 : decode cX7_givesTo 3 = .ok (.getfield 26, 3) := by decide +kernel
theorem dX7_givesTo_6 : decode cX7_givesTo 6 = .ok (.iload_n 1, 1) := by decide +kernel
theorem dX7_givesTo_7 : decode cX7_givesTo 7 = .ok (.iaload, 1) := by decide +kernel
theorem dX7_givesTo_8 : decode cX7_givesTo 8 = .ok (.aload_n 0, 1) := by decide +kernel
theorem dX7_givesTo_9 : decode cX7_givesTo 9 = .ok (.iload_n 2, 1) := by decide +kernel
theorem dX7_givesTo_10 : decode cX7_givesTo 10 = .ok (.aload_n 0, 1) := by decide +kernel
theorem dX7_givesTo_11 : decode cX7_givesTo 11 = .ok (.getfield 20, 3) := by decide +kernel
theorem dX7_givesTo_14 : decode cX7_givesTo 14 = .ok (.iload_n 2, 1) := by decide +kernel
theorem dX7_givesTo_15 : decode cX7_givesTo 15 = .ok (.iaload, 1) := by decide +kernel
theorem dX7_givesTo_16 : decode cX7_givesTo 16 = .ok (.iload_n 3, 1) := by decide +kernel
theorem dX7_givesTo_17 : decode cX7_givesTo 17 = .ok (.aload_n 0, 1) := by decide +kernel
theorem dX7_givesTo_18 : decode cX7_givesTo 18 = .ok (.getfield 80, 3) := by decide +kernel
theorem dX7_givesTo_21 : decode cX7_givesTo 21 = .ok (.invokevirtual 209, 3) := by decide +kernel
theorem dX7_givesTo_24 : decode cX7_givesTo 24 = .ok (.invokevirtual 213, 3) := by decide +kernel
theorem dX7_givesTo_27 : decode cX7_givesTo 27 = .ok (.ireturn, 1) := by decide +kernel
theorem dX7_gives_0 : decode cX7_gives 0 = .ok (.aload_n 0, 1) := by decide +kernel
theorem dX7_gives_1 : decode cX7_gives 1 = .ok (.iload_n 1, 1) := by decide +kernel
theorem dX7_gives_2 : decode cX7_gives 2 = .ok (.invokevirtual 231, 3) := by decide +kernel
theorem dX7_gives_5 : decode cX7_gives 5 = .ok (.ifCond .eq 28, 3) := by decide +kernel
theorem dX7_gives_8 : decode cX7_gives 8 = .ok (.aload_n 0, 1) := by decide +kernel
theorem dX7_gives_9 : decode cX7_gives 9 = .ok (.iload_n 2, 1) := by decide +kernel
theorem dX7_gives_10 : decode cX7_gives 10 = .ok (.invokevirtual 219, 3) := by decide +kernel
theorem dX7_gives_13 : decode cX7_gives 13 = .ok (.ifCond .eq 20, 3) := by decide +kernel
theorem dX7_gives_16 : decode cX7_gives 16 = .ok (.iload_n 3, 1) := by decide +kernel
theorem dX7_gives_17 : decode cX7_gives 17 = .ok (.invokestatic 222, 3) := by decide +kernel
theorem dX7_gives_20 : decode cX7_gives 20 = .ok (.ifCond .eq 13, 3) := by decide +kernel
theorem dX7_gives_23 : decode cX7_gives 23 = .ok (.aload_n 0, 1) := by decide +kernel
theorem dX7_gives_24 : decode cX7_gives 24 = .ok (.iload_n 1, 1) := by decide +kernel
theorem dX7_gives_25 : decode cX7_gives 25 = .ok (.iload_n 2, 1) := by decide +kernel
theorem dX7_gives_26 : decode cX7_gives 26 = .ok (.iload_n 3, 1) := by decide +kernel
theorem dX7_gives_27 : decode cX7_gives 27 = .ok (.invokevirtual 234, 3) := by decide +kernel
theorem dX7_gives_30 : decode cX7_gives 30 = .ok (.goto 7, 3) := by decide +kernel
theorem dX7_gives_33 : decode cX7_gives 33 = .ok (.aload_n 0, 1) := by decide +kernel
theorem dX7_gives_34 : decode cX7_gives 34 = .ok (.invokevirtual 103, 3) := by decide +kernel
theorem dX7_gives_37 : decode cX7_gives 37 = .ok (.ireturn, 1) := by decide +kernel
theorem dX7_folded_0 : decode cX7_folded 0 = .ok (.aload_n 0, 1) := by decide +kernel
theorem dX7_folded_1 : decode cX7_folded 1 = .ok (.invokevirtual 237, 3) := by decide +kernel
theorem dX7_folded_4 : decode cX7_folded 4 = .ok (.ireturn, 1) := by decide +kernel
theorem dX7_isGood_0 : decode cX7_isGood 0 = .ok (.aload_n 0, 1) := by decide +kernel
theorem dX7_isGood_1 : decode cX7_isGood 1 = .ok (.iload_n 2, 1) := by decide +kernel
theorem dX7_isGood_2 : decode cX7_isGood 2 = .ok (.iload 4, 2) := by decide +kernel
theorem dX7_isGood_4 : decode cX7_isGood 4 = .ok (.iload 6, 2) := by decide +kernel
theorem dX7_isGood_6 : decode cX7_isGood 6 = .ok (.aload_n 0, 1) := by decide +kernel
theorem dX7_isGood_7 : decode cX7_isGood 7 = .ok (.getfield 80, 3) := by decide +kernel
theorem dX7_isGood_10 : decode cX7_isGood 10 = .ok (.iload_n 3, 1) := by decide +kernel
theorem dX7_isGood_11 : decode cX7_isGood 11 = .ok (.iadd, 1) := by decide +kernel
theorem dX7_isGood_12 : decode cX7_isGood 12 = .ok (.invokevirtual 209, 3) := by decide +kernel
theorem dX7_isGood_15 : decode cX7_isGood 15 = .ok (.istore 7, 2) := by decide +kernel
theorem dX7_isGood_17 : decode cX7_isGood 17 = .ok (.aload_n 0, 1) := by decide +kernel
theorem dX7_isGood_18 : decode cX7_isGood 18 = .ok (.getfield 50, 3) := by decide +kernel
theorem dX7_isGood_21 : decode cX7_isGood 21 = .ok (.bipush 25, 2) := by decide +kernel
theorem dX7_isGood_23 : decode cX7_isGood 23 = .ok (.iload_n 3, 1) := by decide +kernel
theorem dX7_isGood_24 : decode cX7_isGood 24 = .ok (.iconst 1, 1) := by decide +kernel
theorem dX7_isGood_25 : decode cX7_isGood 25 = .ok (.iadd, 1) := by decide +kernel
theorem dX7_isGood_26 : decode cX7_isGood 26 = .ok (.imul, 1) := by decide +kernel
theorem dX7_isGood_27 : decode cX7_isGood 27 = .ok (.iload 7, 2) := by decide +kernel
theorem dX7_isGood_29 : decode cX7_isGood 29 = .ok (.iadd, 1) := by decide +kernel
theorem dX7_isGood_30 : decode cX7_isGood 30 = .ok (.iaload, 1) := by decide +kernel
theorem dX7_isGood_31 : decode cX7_isGood 31 = .ok (.aload_n 0, 1) := by decide +kernel
theorem dX7_isGood_32 : decode cX7_isGood 32 = .ok (.iload_n 1, 1) := by decide +kernel
theorem dX7_isGood_33 : decode cX7_isGood 33 = .ok (.iload 5, 2) := by decide +kernel
theorem dX7_isGood_35 : decode cX7_isGood 35 = .ok (.iload 7, 2) := by decide +kernel
theorem dX7_isGood_37 : decode cX7_isGood 37 = .ok (.invokevirtual 213, 3) := by decide +kernel
theorem dX7_isGood_40 : decode cX7_isGood 40 = .ok (.invokestatic 240, 3) := by decide +kernel
theorem dX7_isGood_43 : decode cX7_isGood 43 = .ok (.ireturn, 1) := by decide +kernel
theorem dX7_setGood_0 : decode cX7_setGood 0 = .ok (.iconst 0, 1) := by decide +kernel
theorem dX7_setGood_1 : decode cX7_setGood 1 = .ok (.istore 5, 2) := by decide +kernel
theorem dX7_setGood_3 : decode cX7_setGood 3 = .ok (.iload 5, 2) := by decide +kernel
theorem dX7_setGood_5 : decode cX7_setGood 5 = .ok (.bipush 25, 2) := by decide +kernel
theorem dX7_setGood_7 : decode cX7_setGood 7 = .ok (.if_icmp .ge 25, 3) := by decide +kernel
theorem dX7_setGood_10 : decode cX7_setGood 10 = .ok (.aload_n 0, 1) := by decide +kernel
theorem dX7_setGood_11 : decode cX7_setGood 11 = .ok (.getfield 50, 3) := by decide +kernel
theorem dX7_setGood_14 : decode cX7_setGood 14 = .ok (.bipush 25, 2) := by decide +kernel
theorem dX7_setGood_16 : decode cX7_setGood 16 = .ok (.iload 4, 2) := by decide +kernel
theorem dX7_setGood_18 : decode cX7_setGood 18 = .ok (.imul, 1) := by decide +kernel
theorem dX7_setGood_19 : decode cX7_setGood 19 = .ok (.iload 5, 2) := by decide +kernel
theorem dX7_setGood_21 : decode cX7_setGood 21 = .ok (.iadd, 1) := by decide +kernel
theorem dX7_setGood_22 : decode cX7_setGood 22 = .ok (.iconst 1, 1) := by decide +kernel
theorem dX7_setGood_23 : decode cX7_setGood 23 = .ok (.iload_n 3, 1) := by decide +kernel
theorem dX7_setGood_24 : decode cX7_setGood 24 = .ok (.ishl, 1) := by decide +kernel
theorem dX7_setGood_25 : decode cX7_setGood 25 = .ok (.iastore, 1) := by decide +kernel
theorem dX7_setGood_26 : decode cX7_setGood 26 = .ok (.iinc 5 1, 3) := by decide +kernel
theorem dX7_setGood_29 : decode cX7_setGood 29 = .ok (.goto (-26), 3) := by decide +kernel
theorem dX7_setGood_32 : decode cX7_setGood 32 = .ok (.iload 4, 2) := by decide +kernel
theorem dX7_setGood_34 : decode cX7_setGood 34 = .ok (.iconst 1, 1) := by decide +kernel
theorem dX7_setGood_35 : decode cX7_setGood 35 = .ok (.isub, 1) := by decide +kernel
theorem dX7_setGood_36 : decode cX7_setGood 36 = .ok (.istore 5, 2) := by decide +kernel
theorem dX7_setGood_38 : decode cX7_setGood 38 = .ok (.iload 5, 2) := by decide +kernel
theorem dX7_setGood_40 : decode cX7_setGood 40 = .ok (.ifCond .lt 116, 3) := by decide +kernel
theorem dX7_setGood_43 : decode cX7_setGood 43 = .ok (.iconst 0, 1) := by decide +kernel
theorem dX7_setGood_44 : decode cX7_setGood 44 = .ok (.istore 6, 2) := by decide +kernel
theorem dX7_setGood_46 : decode cX7_setGood 46 = .ok (.iload 6, 2) := by decide +kernel
theorem dX7_setGood_48 : decode cX7_setGood 48 = .ok (.bipush 25, 2) := by decide +kernel
theorem dX7_setGood_50 : decode cX7_setGood 50 = .ok (.if_icmp .ge 100, 3) := by decide +kernel
theorem dX7_setGood_53 : decode cX7_setGood 53 = .ok (.iconst 0, 1) := by decide +kernel
theorem dX7_setGood_54 : decode cX7_setGood 54 = .ok (.istore 7, 2) := by decide +kernel
theorem dX7_setGood_56 : decode cX7_setGood 56 = .ok (.iconst 0, 1) := by decide +kernel
theorem dX7_setGood_57 : decode cX7_setGood 57 = .ok (.istore 8, 2) := by decide +kernel
theorem dX7_setGood_59 : decode cX7_setGood 59 = .ok (.iload 8, 2) := by decide +kernel
theorem dX7_setGood_61 : decode cX7_setGood 61 = .ok (.bipush 25, 2) := by decide +kernel
theorem dX7_setGood_63 : decode cX7_setGood 63 = .ok (.if_icmp .ge 66, 3) := by decide +kernel
theorem dX7_setGood_66 : decode cX7_setGood 66 = .ok (.iconst 0, 1) := by decide +kernel
theorem dX7_setGood_67 : decode cX7_setGood 67 = .ok (.istore 9, 2) := by decide +kernel
theorem dX7_setGood_69 : decode cX7_setGood 69 = .ok (.iconst 0, 1) := by decide +kernel
theorem dX7_setGood_70 : decode cX7_setGood 70 = .ok (.istore 10, 2) := by decide +kernel
theorem dX7_setGood_72 : decode cX7_setGood 72 = .ok (.iload 10, 2) := by decide +kernel
theorem dX7_setGood_74 : decode cX7_setGood 74 = .ok (.iconst 5, 1) := by decide +kernel
theorem dX7_setGood_75 : decode cX7_setGood 75 = .ok (.if_icmp .ge 30, 3) := by decide +kernel
theorem dX7_setGood_78 : decode cX7_setGood 78 = .ok (.iload 9, 2) := by decide +kernel
theorem dX7_setGood_80 : decode cX7_setGood 80 = .ok (.ifCond .ne 25, 3) := by decide +kernel
theorem dX7_setGood_83 : decode cX7_setGood 83 = .ok (.aload_n 0, 1) := by decide +kernel
theorem dX7_setGood_84 : decode cX7_setGood 84 = .ok (.iload_n 1, 1) := by decide +kernel
theorem dX7_setGood_85 : decode cX7_setGood 85 = .ok (.iload_n 2, 1) := by decide +kernel
theorem dX7_setGood_86 : decode cX7_setGood 86 = .ok (.iload 5, 2) := by decide +kernel
theorem dX7_setGood_88 : decode cX7_setGood 88 = .ok (.iload 6, 2) := by decide +kernel
theorem dX7_setGood_90 : decode cX7_setGood 90 = .ok (.iload 8, 2) := by decide +kernel
theorem dX7_setGood_92 : decode cX7_setGood 92 = .ok (.iload 10, 2) := by decide +kernel
theorem dX7_setGood_94 : decode cX7_setGood 94 = .ok (.invokevirtual 243, 3) := by decide +kernel
theorem dX7_setGood_97 : decode cX7_setGood 97 = .ok (.istore 9, 2) := by decide +kernel
theorem dX7_setGood_99 : decode cX7_setGood 99 = .ok (.iinc 10 1, 3) := by decide +kernel
theorem dX7_setGood_102 : decode cX7_setGood 102 = .ok (.goto (-30), 3) := by decide +kernel
theorem dX7_setGood_105 : decode cX7_setGood 105 = .ok (.iload 7, 2) := by decide +kernel
theorem dX7_setGood_107 : decode cX7_setGood 107 = .ok (.iload 9, 2) := by decide +kernel
theorem dX7_setGood_109 : decode cX7_setGood 109 = .ok (.ifCond .eq 10, 3) := by decide +kernel
theorem dX7_setGood_112 : decode cX7_setGood 112 = .ok (.iconst 1, 1) := by decide +kernel
theorem dX7_setGood_113 : decode cX7_setGood 113 = .ok (.iload 8, 2) := by decide +kernel
theorem dX7_setGood_115 : decode cX7_setGood 115 = .ok (.ishl, 1) := by decide +kernel
theorem dX7_setGood_116 : decode cX7_setGood 116 = .ok (.goto 4, 3) := by decide +kernel
theorem dX7_setGood_119 : decode cX7_setGood 119 = .ok (.iconst 0, 1) := by decide +kernel
theorem dX7_setGood_120 : decode cX7_setGood 120 = .ok (.ior, 1) := by decide +kernel
theorem dX7_setGood_121 : decode cX7_setGood 121 = .ok (.istore 7, 2) := by decide +kernel
theorem dX7_setGood_123 : decode cX7_setGood 123 = .ok (.iinc 8 1, 3) := by decide +kernel
theorem dX7_setGood_126 : decode cX7_setGood 126 = .ok (.goto (-67), 3) := by decide +kernel
theorem dX7_setGood_129 : decode cX7_setGood 129 = .ok (.aload_n 0, 1) := by decide +kernel
theorem dX7_setGood_130 : decode cX7_setGood 130 = .ok (.getfield 50, 3) := by decide +kernel
theorem dX7_setGood_133 : decode cX7_setGood 133 = .ok (.bipush 25, 2) := by decide +kernel
theorem dX7_setGood_135 : decode cX7_setGood 135 = .ok (.iload 5, 2) := by decide +kernel
theorem dX7_setGood_137 : decode cX7_setGood 137 = .ok (.imul, 1) := by decide +kernel
theorem dX7_setGood_138 : decode cX7_setGood 138 = .ok (.iload 6, 2) := by decide +kernel
theorem dX7_setGood_140 : decode cX7_setGood 140 = .ok (.iadd, 1) := by decide +kernel
theorem dX7_setGood_141 : decode cX7_setGood 141 = .ok (.iload 7, 2) := by decide +kernel
theorem dX7_setGood_143 : decode cX7_setGood 143 = .ok (.iastore, 1) := by decide +kernel
theorem dX7_setGood_144 : decode cX7_setGood 144 = .ok (.iinc 6 1, 3) := by decide +kernel
theorem dX7_setGood_147 : decode cX7_setGood 147 = .ok (.goto (-101), 3) := by decide +kernel
theorem dX7_setGood_150 : decode cX7_setGood 150 = .ok (.iinc 5 (-1), 3) := by decide +kernel
theorem dX7_setGood_153 : decode cX7_setGood 153 = .ok (.goto (-115), 3) := by decide +kernel
theorem dX7_setGood_156 : decode cX7_setGood 156 = .ok (.return_, 1) := by decide +kernel
theorem dX7_drive_0 : decode cX7_drive 0 = .ok (.aload_n 0, 1) := by decide +kernel
theorem dX7_drive_1 : decode cX7_drive 1 = .ok (.iload_n 1, 1) := by decide +kernel
theorem dX7_drive_2 : decode cX7_drive 2 = .ok (.invokevirtual 231, 3) := by decide +kernel
theorem dX7_drive_5 : decode cX7_drive 5 = .ok (.ifCond .eq 31, 3) := by decide +kernel
theorem dX7_drive_8 : decode cX7_drive 8 = .ok (.aload_n 0, 1) := by decide +kernel
theorem dX7_drive_9 : decode cX7_drive 9 = .ok (.iload_n 2, 1) := by decide +kernel
theorem dX7_drive_10 : decode cX7_drive 10 = .ok (.invokevirtual 219, 3) := by decide +kernel
theorem dX7_drive_13 : decode cX7_drive 13 = .ok (.ifCond .eq 23, 3) := by decide +kernel
theorem dX7_drive_16 : decode cX7_drive 16 = .ok (.iload_n 3, 1) := by decide +kernel
theorem dX7_drive_17 : decode cX7_drive 17 = .ok (.invokestatic 99, 3) := by decide +kernel
theorem dX7_drive_20 : decode cX7_drive 20 = .ok (.ifCond .eq 16, 3) := by decide +kernel
theorem dX7_drive_23 : decode cX7_drive 23 = .ok (.iload 4, 2) := by decide +kernel
theorem dX7_drive_25 : decode cX7_drive 25 = .ok (.iconst (-1), 1) := by decide +kernel
theorem dX7_drive_26 : decode cX7_drive 26 = .ok (.if_icmp .eq 10, 3) := by decide +kernel
theorem dX7_drive_29 : decode cX7_drive 29 = .ok (.iload 4, 2) := by decide +kernel
theorem dX7_drive_31 : decode cX7_drive 31 = .ok (.bipush (-2), 2) := by decide +kernel
theorem dX7_drive_33 : decode cX7_drive 33 = .ok (.if_icmp .ge 11, 3) := by decide +kernel
theorem dX7_drive_36 : decode cX7_drive 36 = .ok (.aload_n 0, 1) := by decide +kernel
theorem dX7_drive_37 : decode cX7_drive 37 = .ok (.invokevirtual 103, 3) := by decide +kernel
theorem dX7_drive_40 : decode cX7_drive 40 = .ok (.pop, 1) := by decide +kernel
theorem dX7_drive_41 : decode cX7_drive 41 = .ok (.bipush (-10), 2) := by decide +kernel
theorem dX7_drive_43 : decode cX7_drive 43 = .ok (.ireturn, 1) := by decide +kernel
theorem dX7_drive_44 : decode cX7_drive 44 = .ok (.iconst 0, 1) := by decide +kernel
theorem dX7_drive_45 : decode cX7_drive 45 = .ok (.istore 5, 2) := by decide +kernel
theorem dX7_drive_47 : decode cX7_drive 47 = .ok (.aload_n 0, 1) := by decide +kernel
theorem dX7_drive_48 : decode cX7_drive 48 = .ok (.iload_n 1, 1) := by decide +kernel
theorem dX7_drive_49 : decode cX7_drive 49 = .ok (.iload_n 2, 1) := by decide +kernel
theorem dX7_drive_50 : decode cX7_drive 50 = .ok (.iload_n 3, 1) := by decide +kernel
theorem dX7_drive_51 : decode cX7_drive 51 = .ok (.iconst 0, 1) := by decide +kernel
theorem dX7_drive_52 : decode cX7_drive 52 = .ok (.invokevirtual 247, 3) := by decide +kernel
theorem dX7_drive_55 : decode cX7_drive 55 = .ok (.iload 5, 2) := by decide +kernel
theorem dX7_drive_57 : decode cX7_drive 57 = .ok (.bipush 10, 2) := by decide +kernel
theorem dX7_drive_59 : decode cX7_drive 59 = .ok (.if_icmp .ge 41, 3) := by decide +kernel
theorem dX7_drive_62 : decode cX7_drive 62 = .ok (.aload_n 0, 1) := by decide +kernel
theorem dX7_drive_63 : decode cX7_drive 63 = .ok (.getfield 50, 3) := by decide +kernel
theorem dX7_drive_66 : decode cX7_drive 66 = .ok (.aload_n 0, 1) := by decide +kernel
theorem dX7_drive_67 : decode cX7_drive 67 = .ok (.getfield 20, 3) := by decide +kernel
theorem dX7_drive_70 : decode cX7_drive 70 = .ok (.iload_n 2, 1) := by decide +kernel
theorem dX7_drive_71 : decode cX7_drive 71 = .ok (.iaload, 1) := by decide +kernel
theorem dX7_drive_72 : decode cX7_drive 72 = .ok (.iaload, 1) := by decide +kernel
theorem dX7_drive_73 : decode cX7_drive 73 = .ok (.aload_n 0, 1) := by decide +kernel
theorem dX7_drive_74 : decode cX7_drive 74 = .ok (.getfield 26, 3) := by decide +kernel
theorem dX7_drive_77 : decode cX7_drive 77 = .ok (.iload_n 1, 1) := by decide +kernel
theorem dX7_drive_78 : decode cX7_drive 78 = .ok (.iaload, 1) := by decide +kernel
theorem dX7_drive_79 : decode cX7_drive 79 = .ok (.invokestatic 240, 3) := by decide +kernel
theorem dX7_drive_82 : decode cX7_drive 82 = .ok (.ifCond .ne 18, 3) := by decide +kernel
theorem dX7_drive_85 : decode cX7_drive 85 = .ok (.iinc 5 1, 3) := by decide +kernel
theorem dX7_drive_88 : decode cX7_drive 88 = .ok (.aload_n 0, 1) := by decide +kernel
theorem dX7_drive_89 : decode cX7_drive 89 = .ok (.iload_n 1, 1) := by decide +kernel
theorem dX7_drive_90 : decode cX7_drive 90 = .ok (.iload_n 2, 1) := by decide +kernel
theorem dX7_drive_91 : decode cX7_drive 91 = .ok (.iload_n 3, 1) := by decide +kernel
theorem dX7_drive_92 : decode cX7_drive 92 = .ok (.iload 5, 2) := by decide +kernel
theorem dX7_drive_94 : decode cX7_drive 94 = .ok (.invokevirtual 247, 3) := by decide +kernel
theorem dX7_drive_97 : decode cX7_drive 97 = .ok (.goto (-42), 3) := by decide +kernel
theorem dX7_drive_100 : decode cX7_drive 100 = .ok (.aload_n 0, 1) := by decide +kernel
theorem dX7_drive_101 : decode cX7_drive 101 = .ok (.getfield 50, 3) := by decide +kernel
theorem dX7_drive_104 : decode cX7_drive 104 = .ok (.aload_n 0, 1) := by decide +kernel
theorem dX7_drive_105 : decode cX7_drive 105 = .ok (.getfield 20, 3) := by decide +kernel
theorem dX7_drive_108 : decode cX7_drive 108 = .ok (.iload_n 2, 1) := by decide +kernel
theorem dX7_drive_109 : decode cX7_drive 109 = .ok (.iaload, 1) := by decide +kernel
theorem dX7_drive_110 : decode cX7_drive 110 = .ok (.iaload, 1) := by decide +kernel
theorem dX7_drive_111 : decode cX7_drive 111 = .ok (.aload_n 0, 1) := by decide +kernel
theorem dX7_drive_112 : decode cX7_drive 112 = .ok (.getfield 26, 3) := by decide +kernel
theorem dX7_drive_115 : decode cX7_drive 115 = .ok (.iload_n 1, 1) := by decide +kernel
theorem dX7_drive_116 : decode cX7_drive 116 = .ok (.iaload, 1) := by decide +kernel
theorem dX7_drive_117 : decode cX7_drive 117 = .ok (.invokestatic 240, 3) := by decide +kernel
theorem dX7_drive_120 : decode cX7_drive 120 = .ok (.ifCond .ne 6, 3) := by decide +kernel
theorem dX7_drive_123 : decode cX7_drive 123 = .ok (.bipush (-6), 2) := by decide +kernel
theorem dX7_drive_125 : decode cX7_drive 125 = .ok (.ireturn, 1) := by decide +kernel
theorem dX7_drive_126 : decode cX7_drive 126 = .ok (.iload 4, 2) := by decide +kernel
theorem dX7_drive_128 : decode cX7_drive 128 = .ok (.ifCond .lt 10, 3) := by decide +kernel
theorem dX7_drive_131 : decode cX7_drive 131 = .ok (.iload 4, 2) := by decide +kernel
theorem dX7_drive_133 : decode cX7_drive 133 = .ok (.iload 5, 2) := by decide +kernel
theorem dX7_drive_135 : decode cX7_drive 135 = .ok (.if_icmp .lt 16, 3) := by decide +kernel
theorem dX7_drive_138 : decode cX7_drive 138 = .ok (.iload 4, 2) := by decide +kernel
theorem dX7_drive_140 : decode cX7_drive 140 = .ok (.ifCond .ge 8, 3) := by decide +kernel
theorem dX7_drive_143 : decode cX7_drive 143 = .ok (.iload 5, 2) := by decide +kernel
theorem dX7_drive_145 : decode cX7_drive 145 = .ok (.goto 5, 3) := by decide +kernel
theorem dX7_drive_148 : decode cX7_drive 148 = .ok (.bipush (-5), 2) := by decide +kernel
theorem dX7_drive_150 : decode cX7_drive 150 = .ok (.ireturn, 1) := by decide +kernel
theorem dX7_drive_151 : decode cX7_drive 151 = .ok (.aload_n 0, 1) := by decide +kernel
theorem dX7_drive_152 : decode cX7_drive 152 = .ok (.getfield 20, 3) := by decide +kernel
theorem dX7_drive_155 : decode cX7_drive 155 = .ok (.iload_n 2, 1) := by decide +kernel
theorem dX7_drive_156 : decode cX7_drive 156 = .ok (.iaload, 1) := by decide +kernel
theorem dX7_drive_157 : decode cX7_drive 157 = .ok (.istore 6, 2) := by decide +kernel
theorem dX7_drive_159 : decode cX7_drive 159 = .ok (.aload_n 0, 1) := by decide +kernel
theorem dX7_drive_160 : decode cX7_drive 160 = .ok (.getfield 26, 3) := by decide +kernel
theorem dX7_drive_163 : decode cX7_drive 163 = .ok (.iload_n 1, 1) := by decide +kernel
theorem dX7_drive_164 : decode cX7_drive 164 = .ok (.iaload, 1) := by decide +kernel
theorem dX7_drive_165 : decode cX7_drive 165 = .ok (.istore 7, 2) := by decide +kernel
theorem dX7_drive_167 : decode cX7_drive 167 = .ok (.iconst 0, 1) := by decide +kernel
theorem dX7_drive_168 : decode cX7_drive 168 = .ok (.istore 8, 2) := by decide +kernel
theorem dX7_drive_170 : decode cX7_drive 170 = .ok (.iconst 0, 1) := by decide +kernel
theorem dX7_drive_171 : decode cX7_drive 171 = .ok (.istore 9, 2) := by decide +kernel
theorem dX7_drive_173 : decode cX7_drive 173 = .ok (.iload 9, 2) := by decide +kernel
theorem dX7_drive_175 : decode cX7_drive 175 = .ok (.iload 4, 2) := by decide +kernel
theorem dX7_drive_177 : decode cX7_drive 177 = .ok (.if_icmp .gt 64, 3) := by decide +kernel
theorem dX7_drive_180 : decode cX7_drive 180 = .ok (.iconst 0, 1) := by decide +kernel
theorem dX7_drive_181 : decode cX7_drive 181 = .ok (.istore 8, 2) := by decide +kernel
theorem dX7_drive_183 : decode cX7_drive 183 = .ok (.aload_n 0, 1) := by decide +kernel
theorem dX7_drive_184 : decode cX7_drive 184 = .ok (.iload_n 1, 1) := by decide +kernel
theorem dX7_drive_185 : decode cX7_drive 185 = .ok (.iload_n 2, 1) := by decide +kernel
theorem dX7_drive_186 : decode cX7_drive 186 = .ok (.iload 9, 2) := by decide +kernel
theorem dX7_drive_188 : decode cX7_drive 188 = .ok (.iload 6, 2) := by decide +kernel
theorem dX7_drive_190 : decode cX7_drive 190 = .ok (.iload 7, 2) := by decide +kernel
theorem dX7_drive_192 : decode cX7_drive 192 = .ok (.iload 8, 2) := by decide +kernel
theorem dX7_drive_194 : decode cX7_drive 194 = .ok (.invokevirtual 243, 3) := by decide +kernel
theorem dX7_drive_197 : decode cX7_drive 197 = .ok (.ifCond .ne 9, 3) := by decide +kernel
theorem dX7_drive_200 : decode cX7_drive 200 = .ok (.iinc 8 1, 3) := by decide +kernel
theorem dX7_drive_203 : decode cX7_drive 203 = .ok (.goto (-20), 3) := by decide +kernel
theorem dX7_drive_206 : decode cX7_drive 206 = .ok (.aload_n 0, 1) := by decide +kernel
theorem dX7_drive_207 : decode cX7_drive 207 = .ok (.iload_n 2, 1) := by decide +kernel
theorem dX7_drive_208 : decode cX7_drive 208 = .ok (.iload 6, 2) := by decide +kernel
theorem dX7_drive_210 : decode cX7_drive 210 = .ok (.iload 8, 2) := by decide +kernel
theorem dX7_drive_212 : decode cX7_drive 212 = .ok (.aload_n 0, 1) := by decide +kernel
theorem dX7_drive_213 : decode cX7_drive 213 = .ok (.getfield 80, 3) := by decide +kernel
theorem dX7_drive_216 : decode cX7_drive 216 = .ok (.iload 9, 2) := by decide +kernel
theorem dX7_drive_218 : decode cX7_drive 218 = .ok (.iadd, 1) := by decide +kernel
theorem dX7_drive_219 : decode cX7_drive 219 = .ok (.invokevirtual 209, 3) := by decide +kernel
theorem dX7_drive_222 : decode cX7_drive 222 = .ok (.istore 6, 2) := by decide +kernel
theorem dX7_drive_224 : decode cX7_drive 224 = .ok (.aload_n 0, 1) := by decide +kernel
theorem dX7_drive_225 : decode cX7_drive 225 = .ok (.iload_n 1, 1) := by decide +kernel
theorem dX7_drive_226 : decode cX7_drive 226 = .ok (.iload 7, 2) := by decide +kernel
theorem dX7_drive_228 : decode cX7_drive 228 = .ok (.iload 6, 2) := by decide +kernel
theorem dX7_drive_230 : decode cX7_drive 230 = .ok (.invokevirtual 213, 3) := by decide +kernel
theorem dX7_drive_233 : decode cX7_drive 233 = .ok (.istore 7, 2) := by decide +kernel
theorem dX7_drive_235 : decode cX7_drive 235 = .ok (.iinc 9 1, 3) := by decide +kernel
theorem dX7_drive_238 : decode cX7_drive 238 = .ok (.goto (-65), 3) := by decide +kernel
theorem dX7_drive_241 : decode cX7_drive 241 = .ok (.iload 8, 2) := by decide +kernel
theorem dX7_drive_243 : decode cX7_drive 243 = .ok (.ireturn, 1) := by decide +kernel
theorem dX7_near_0 : decode cX7_near 0 = .ok (.aload_n 0, 1) := by decide +kernel
theorem dX7_near_1 : decode cX7_near 1 = .ok (.iload_n 1, 1) := by decide +kernel
theorem dX7_near_2 : decode cX7_near 2 = .ok (.invokevirtual 219, 3) := by decide +kernel
theorem dX7_near_5 : decode cX7_near 5 = .ok (.ifCond .eq 12, 3) := by decide +kernel
theorem dX7_near_8 : decode cX7_near 8 = .ok (.iload_n 2, 1) := by decide +kernel
theorem dX7_near_9 : decode cX7_near 9 = .ok (.iconst 0, 1) := by decide +kernel
theorem dX7_near_10 : decode cX7_near 10 = .ok (.iconst 1, 1) := by decide +kernel
theorem dX7_near_11 : decode cX7_near 11 = .ok (.invokestatic 95, 3) := by decide +kernel
theorem dX7_near_14 : decode cX7_near 14 = .ok (.ifCond .ne 8, 3) := by decide +kernel
theorem dX7_near_17 : decode cX7_near 17 = .ok (.aload_n 0, 1) := by decide +kernel
theorem dX7_near_18 : decode cX7_near 18 = .ok (.invokevirtual 103, 3) := by decide +kernel
theorem dX7_near_21 : decode cX7_near 21 = .ok (.ireturn, 1) := by decide +kernel
theorem dX7_near_22 : decode cX7_near 22 = .ok (.iconst (-1), 1) := by decide +kernel
theorem dX7_near_23 : decode cX7_near 23 = .ok (.istore_n 3, 1) := by decide +kernel
theorem dX7_near_24 : decode cX7_near 24 = .ok (.ldc 251, 2) := by decide +kernel
theorem dX7_near_26 : decode cX7_near 26 = .ok (.istore 4, 2) := by decide +kernel
theorem dX7_near_28 : decode cX7_near 28 = .ok (.iconst 0, 1) := by decide +kernel
theorem dX7_near_29 : decode cX7_near 29 = .ok (.istore 5, 2) := by decide +kernel
theorem dX7_near_31 : decode cX7_near 31 = .ok (.iload 5, 2) := by decide +kernel
theorem dX7_near_33 : decode cX7_near 33 = .ok (.iconst 5, 1) := by decide +kernel
theorem dX7_near_34 : decode cX7_near 34 = .ok (.if_icmp .ge 74, 3) := by decide +kernel
theorem dX7_near_37 : decode cX7_near 37 = .ok (.iconst 0, 1) := by decide +kernel
theorem dX7_near_38 : decode cX7_near 38 = .ok (.istore 6, 2) := by decide +kernel
theorem dX7_near_40 : decode cX7_near 40 = .ok (.iconst 0, 1) := by decide +kernel
theorem dX7_near_41 : decode cX7_near 41 = .ok (.istore 7, 2) := by decide +kernel
theorem dX7_near_43 : decode cX7_near 43 = .ok (.iload 7, 2) := by decide +kernel
theorem dX7_near_45 : decode cX7_near 45 = .ok (.aload_n 0, 1) := by decide +kernel
theorem dX7_near_46 : decode cX7_near 46 = .ok (.getfield 74, 3) := by decide +kernel
theorem dX7_near_49 : decode cX7_near 49 = .ok (.if_icmp .ge 30, 3) := by decide +kernel
theorem dX7_near_52 : decode cX7_near 52 = .ok (.iload 6, 2) := by decide +kernel
theorem dX7_near_54 : decode cX7_near 54 = .ok (.aload_n 0, 1) := by decide +kernel
theorem dX7_near_55 : decode cX7_near 55 = .ok (.iload 7, 2) := by decide +kernel
theorem dX7_near_57 : decode cX7_near 57 = .ok (.iload_n 1, 1) := by decide +kernel
theorem dX7_near_58 : decode cX7_near 58 = .ok (.iload 5, 2) := by decide +kernel
theorem dX7_near_60 : decode cX7_near 60 = .ok (.invokevirtual 234, 3) := by decide +kernel
theorem dX7_near_63 : decode cX7_near 63 = .ok (.aload_n 0, 1) := by decide +kernel
theorem dX7_near_64 : decode cX7_near 64 = .ok (.getfield 77, 3) := by decide +kernel
theorem dX7_near_67 : decode cX7_near 67 = .ok (.invokestatic 203, 3) := by decide +kernel
theorem dX7_near_70 : decode cX7_near 70 = .ok (.iadd, 1) := by decide +kernel
theorem dX7_near_71 : decode cX7_near 71 = .ok (.istore 6, 2) := by decide +kernel
theorem dX7_near_73 : decode cX7_near 73 = .ok (.iinc 7 1, 3) := by decide +kernel
theorem dX7_near_76 : decode cX7_near 76 = .ok (.goto (-33), 3) := by decide +kernel
theorem dX7_near_79 : decode cX7_near 79 = .ok (.iload 6, 2) := by decide +kernel
theorem dX7_near_81 : decode cX7_near 81 = .ok (.iload 4, 2) := by decide +kernel
theorem dX7_near_83 : decode cX7_near 83 = .ok (.if_icmp .ge 8, 3) := by decide +kernel
theorem dX7_near_86 : decode cX7_near 86 = .ok (.iload 5, 2) := by decide +kernel
theorem dX7_near_88 : decode cX7_near 88 = .ok (.goto 4, 3) := by decide +kernel
theorem dX7_near_91 : decode cX7_near 91 = .ok (.iload_n 3, 1) := by decide +kernel
theorem dX7_near_92 : decode cX7_near 92 = .ok (.istore_n 3, 1) := by decide +kernel
theorem dX7_near_93 : decode cX7_near 93 = .ok (.iload 4, 2) := by decide +kernel
theorem dX7_near_95 : decode cX7_near 95 = .ok (.iload 6, 2) := by decide +kernel
theorem dX7_near_97 : decode cX7_near 97 = .ok (.invokestatic 158, 3) := by decide +kernel
theorem dX7_near_100 : decode cX7_near 100 = .ok (.istore 4, 2) := by decide +kernel
theorem dX7_near_102 : decode cX7_near 102 = .ok (.iinc 5 1, 3) := by decide +kernel
theorem dX7_near_105 : decode cX7_near 105 = .ok (.goto (-74), 3) := by decide +kernel
theorem dX7_near_108 : decode cX7_near 108 = .ok (.iload_n 2, 1) := by decide +kernel
theorem dX7_near_109 : decode cX7_near 109 = .ok (.ifCond .ne 7, 3) := by decide +kernel
theorem dX7_near_112 : decode cX7_near 112 = .ok (.iload_n 3, 1) := by decide +kernel
theorem dX7_near_113 : decode cX7_near 113 = .ok (.goto 5, 3) := by decide +kernel
theorem dX7_near_116 : decode cX7_near 116 = .ok (.iload 4, 2) := by decide +kernel
theorem dX7_near_118 : decode cX7_near 118 = .ok (.ireturn, 1) := by decide +kernel
theorem dX7_gather_0 : decode cX7_gather 0 = .ok (.aload_n 0, 1) := by decide +kernel
theorem dX7_gather_1 : decode cX7_gather 1 = .ok (.iload_n 1, 1) := by decide +kernel
theorem dX7_gather_2 : decode cX7_gather 2 = .ok (.invokevirtual 219, 3) := by decide +kernel
theorem dX7_gather_5 : decode cX7_gather 5 = .ok (.ifCond .eq 12, 3) := by decide +kernel
theorem dX7_gather_8 : decode cX7_gather 8 = .ok (.iload_n 2, 1) := by decide +kernel
theorem dX7_gather_9 : decode cX7_gather 9 = .ok (.iconst 0, 1) := by decide +kernel
theorem dX7_gather_10 : decode cX7_gather 10 = .ok (.iconst 1, 1) := by decide +kernel
theorem dX7_gather_11 : decode cX7_gather 11 = .ok (.invokestatic 95, 3) := by decide +kernel
theorem dX7_gather_14 : decode cX7_gather 14 = .ok (.ifCond .ne 8, 3) := by decide +kernel
theorem dX7_gather_17 : decode cX7_gather 17 = .ok (.aload_n 0, 1) := by decide +kernel
theorem dX7_gather_18 : decode cX7_gather 18 = .ok (.invokevirtual 103, 3) := by decide +kernel
theorem dX7_gather_21 : decode cX7_gather 21 = .ok (.ireturn, 1) := by decide +kernel
theorem dX7_gather_22 : decode cX7_gather 22 = .ok (.iconst (-1), 1) := by decide +kernel
theorem dX7_gather_23 : decode cX7_gather 23 = .ok (.istore_n 3, 1) := by decide +kernel
theorem dX7_gather_24 : decode cX7_gather 24 = .ok (.iconst (-1), 1) := by decide +kernel
theorem dX7_gather_25 : decode cX7_gather 25 = .ok (.istore 4, 2) := by decide +kernel
theorem dX7_gather_27 : decode cX7_gather 27 = .ok (.iconst 0, 1) := by decide +kernel
theorem dX7_gather_28 : decode cX7_gather 28 = .ok (.istore 5, 2) := by decide +kernel
theorem dX7_gather_30 : decode cX7_gather 30 = .ok (.iload 5, 2) := by decide +kernel
theorem dX7_gather_32 : decode cX7_gather 32 = .ok (.bipush 125, 2) := by decide +kernel
theorem dX7_gather_34 : decode cX7_gather 34 = .ok (.if_icmp .ge 110, 3) := by decide +kernel
theorem dX7_gather_37 : decode cX7_gather 37 = .ok (.aload_n 0, 1) := by decide +kernel
theorem dX7_gather_38 : decode cX7_gather 38 = .ok (.aload_n 0, 1) := by decide +kernel
theorem dX7_gather_39 : decode cX7_gather 39 = .ok (.getfield 47, 3) := by decide +kernel
theorem dX7_gather_42 : decode cX7_gather 42 = .ok (.iconst 0, 1) := by decide +kernel
theorem dX7_gather_43 : decode cX7_gather 43 = .ok (.invokevirtual 216, 3) := by decide +kernel
theorem dX7_gather_46 : decode cX7_gather 46 = .ok (.aload_n 0, 1) := by decide +kernel
theorem dX7_gather_47 : decode cX7_gather 47 = .ok (.iload_n 1, 1) := by decide +kernel
theorem dX7_gather_48 : decode cX7_gather 48 = .ok (.iload 5, 2) := by decide +kernel
theorem dX7_gather_50 : decode cX7_gather 50 = .ok (.bipush 25, 2) := by decide +kernel
theorem dX7_gather_52 : decode cX7_gather 52 = .ok (.idiv, 1) := by decide +kernel
theorem dX7_gather_53 : decode cX7_gather 53 = .ok (.invokevirtual 155, 3) := by decide +kernel
theorem dX7_gather_56 : decode cX7_gather 56 = .ok (.pop, 1) := by decide +kernel
theorem dX7_gather_57 : decode cX7_gather 57 = .ok (.aload_n 0, 1) := by decide +kernel
theorem dX7_gather_58 : decode cX7_gather 58 = .ok (.iload_n 1, 1) := by decide +kernel
theorem dX7_gather_59 : decode cX7_gather 59 = .ok (.iload 5, 2) := by decide +kernel
theorem dX7_gather_61 : decode cX7_gather 61 = .ok (.iconst 5, 1) := by decide +kernel
theorem dX7_gather_62 : decode cX7_gather 62 = .ok (.idiv, 1) := by decide +kernel
theorem dX7_gather_63 : decode cX7_gather 63 = .ok (.iconst 5, 1) := by decide +kernel
theorem dX7_gather_64 : decode cX7_gather 64 = .ok (.irem, 1) := by decide +kernel
theorem dX7_gather_65 : decode cX7_gather 65 = .ok (.invokevirtual 155, 3) := by decide +kernel
theorem dX7_gather_68 : decode cX7_gather 68 = .ok (.pop, 1) := by decide +kernel
theorem dX7_gather_69 : decode cX7_gather 69 = .ok (.aload_n 0, 1) := by decide +kernel
theorem dX7_gather_70 : decode cX7_gather 70 = .ok (.iload_n 1, 1) := by decide +kernel
theorem dX7_gather_71 : decode cX7_gather 71 = .ok (.iload 5, 2) := by decide +kernel
theorem dX7_gather_73 : decode cX7_gather 73 = .ok (.iconst 5, 1) := by decide +kernel
theorem dX7_gather_74 : decode cX7_gather 74 = .ok (.irem, 1) := by decide +kernel
theorem dX7_gather_75 : decode cX7_gather 75 = .ok (.invokevirtual 155, 3) := by decide +kernel
theorem dX7_gather_78 : decode cX7_gather 78 = .ok (.pop, 1) := by decide +kernel
theorem dX7_gather_79 : decode cX7_gather 79 = .ok (.aload_n 0, 1) := by decide +kernel
theorem dX7_gather_80 : decode cX7_gather 80 = .ok (.invokevirtual 252, 3) := by decide +kernel
theorem dX7_gather_83 : decode cX7_gather 83 = .ok (.istore 6, 2) := by decide +kernel
theorem dX7_gather_85 : decode cX7_gather 85 = .ok (.aload_n 0, 1) := by decide +kernel
theorem dX7_gather_86 : decode cX7_gather 86 = .ok (.aload_n 0, 1) := by decide +kernel
theorem dX7_gather_87 : decode cX7_gather 87 = .ok (.getfield 47, 3) := by decide +kernel
theorem dX7_gather_90 : decode cX7_gather 90 = .ok (.iconst 0, 1) := by decide +kernel
theorem dX7_gather_91 : decode cX7_gather 91 = .ok (.invokevirtual 228, 3) := by decide +kernel
theorem dX7_gather_94 : decode cX7_gather 94 = .ok (.iload 6, 2) := by decide +kernel
theorem dX7_gather_96 : decode cX7_gather 96 = .ok (.iload 4, 2) := by decide +kernel
theorem dX7_gather_98 : decode cX7_gather 98 = .ok (.if_icmp .le 29, 3) := by decide +kernel
theorem dX7_gather_101 : decode cX7_gather 101 = .ok (.bipush 100, 2) := by decide +kernel
theorem dX7_gather_103 : decode cX7_gather 103 = .ok (.iload 5, 2) := by decide +kernel
theorem dX7_gather_105 : decode cX7_gather 105 = .ok (.bipush 25, 2) := by decide +kernel
theorem dX7_gather_107 : decode cX7_gather 107 = .ok (.idiv, 1) := by decide +kernel
theorem dX7_gather_108 : decode cX7_gather 108 = .ok (.imul, 1) := by decide +kernel
theorem dX7_gather_109 : decode cX7_gather 109 = .ok (.bipush 10, 2) := by decide +kernel
theorem dX7_gather_111 : decode cX7_gather 111 = .ok (.iload 5, 2) := by decide +kernel
theorem dX7_gather_113 : decode cX7_gather 113 = .ok (.iconst 5, 1) := by decide +kernel
theorem dX7_gather_114 : decode cX7_gather 114 = .ok (.idiv, 1) := by decide +kernel
theorem dX7_gather_115 : decode cX7_gather 115 = .ok (.iconst 5, 1) := by decide +kernel
theorem dX7_gather_116 : decode cX7_gather 116 = .ok (.irem, 1) := by decide +kernel
theorem dX7_gather_117 : decode cX7_gather 117 = .ok (.imul, 1) := by decide +kernel
theorem dX7_gather_118 : decode cX7_gather 118 = .ok (.iadd, 1) := by decide +kernel
theorem dX7_gather_119 : decode cX7_gather 119 = .ok (.iload 5, 2) := by decide +kernel
theorem dX7_gather_121 : decode cX7_gather 121 = .ok (.iconst 5, 1) := by decide +kernel
theorem dX7_gather_122 : decode cX7_gather 122 = .ok (.irem, 1) := by decide +kernel
theorem dX7_gather_123 : decode cX7_gather 123 = .ok (.iadd, 1) := by decide +kernel
theorem dX7_gather_124 : decode cX7_gather 124 = .ok (.goto 4, 3) := by decide +kernel
theorem dX7_gather_127 : decode cX7_gather 127 = .ok (.iload_n 3, 1) := by decide +kernel
theorem dX7_gather_128 : decode cX7_gather 128 = .ok (.istore_n 3, 1) := by decide +kernel
theorem dX7_gather_129 : decode cX7_gather 129 = .ok (.iload 4, 2) := by decide +kernel
theorem dX7_gather_131 : decode cX7_gather 131 = .ok (.iload 6, 2) := by decide +kernel
theorem dX7_gather_133 : decode cX7_gather 133 = .ok (.invokestatic 190, 3) := by decide +kernel
theorem dX7_gather_136 : decode cX7_gather 136 = .ok (.istore 4, 2) := by decide +kernel
theorem dX7_gather_138 : decode cX7_gather 138 = .ok (.iinc 5 1, 3) := by decide +kernel
theorem dX7_gather_141 : decode cX7_gather 141 = .ok (.goto (-111), 3) := by decide +kernel
theorem dX7_gather_144 : decode cX7_gather 144 = .ok (.iload_n 2, 1) := by decide +kernel
theorem dX7_gather_145 : decode cX7_gather 145 = .ok (.ifCond .ne 8, 3) := by decide +kernel
theorem dX7_gather_148 : decode cX7_gather 148 = .ok (.iload 4, 2) := by decide +kernel
theorem dX7_gather_150 : decode cX7_gather 150 = .ok (.goto 4, 3) := by decide +kernel
theorem dX7_gather_153 : decode cX7_gather 153 = .ok (.iload_n 3, 1) := by decide +kernel
theorem dX7_gather_154 : decode cX7_gather 154 = .ok (.ireturn, 1) := by decide +kernel
theorem dX7_seen_0 : decode cX7_seen 0 = .ok (.aload_n 0, 1) := by decide +kernel
theorem dX7_seen_1 : decode cX7_seen 1 = .ok (.iload_n 1, 1) := by decide +kernel
theorem dX7_seen_2 : decode cX7_seen 2 = .ok (.invokevirtual 231, 3) := by decide +kernel
theorem dX7_seen_5 : decode cX7_seen 5 = .ok (.ifCond .eq 10, 3) := by decide +kernel
theorem dX7_seen_8 : decode cX7_seen 8 = .ok (.iload_n 2, 1) := by decide +kernel
theorem dX7_seen_9 : decode cX7_seen 9 = .ok (.invokestatic 99, 3) := by decide +kernel
theorem dX7_seen_12 : decode cX7_seen 12 = .ok (.ifCond .ne 8, 3) := by decide +kernel
theorem dX7_seen_15 : decode cX7_seen 15 = .ok (.aload_n 0, 1) := by decide +kernel
theorem dX7_seen_16 : decode cX7_seen 16 = .ok (.invokevirtual 103, 3) := by decide +kernel
theorem dX7_seen_19 : decode cX7_seen 19 = .ok (.ireturn, 1) := by decide +kernel
theorem dX7_seen_20 : decode cX7_seen 20 = .ok (.aload_n 0, 1) := by decide +kernel
theorem dX7_seen_21 : decode cX7_seen 21 = .ok (.getfield 83, 3) := by decide +kernel
theorem dX7_seen_24 : decode cX7_seen 24 = .ok (.iconst 5, 1) := by decide +kernel
theorem dX7_seen_25 : decode cX7_seen 25 = .ok (.if_icmp .ne 8, 3) := by decide +kernel
theorem dX7_seen_28 : decode cX7_seen 28 = .ok (.aload_n 0, 1) := by decide +kernel
theorem dX7_seen_29 : decode cX7_seen 29 = .ok (.invokevirtual 107, 3) := by decide +kernel
theorem dX7_seen_32 : decode cX7_seen 32 = .ok (.ireturn, 1) := by decide +kernel
theorem dX7_seen_33 : decode cX7_seen 33 = .ok (.aload_n 0, 1) := by decide +kernel
theorem dX7_seen_34 : decode cX7_seen 34 = .ok (.getfield 29, 3) := by decide +kernel
theorem dX7_seen_37 : decode cX7_seen 37 = .ok (.iconst 2, 1) := by decide +kernel
theorem dX7_seen_38 : decode cX7_seen 38 = .ok (.aload_n 0, 1) := by decide +kernel
theorem dX7_seen_39 : decode cX7_seen 39 = .ok (.getfield 83, 3) := by decide +kernel
theorem dX7_seen_42 : decode cX7_seen 42 = .ok (.imul, 1) := by decide +kernel
theorem dX7_seen_43 : decode cX7_seen 43 = .ok (.iload_n 1, 1) := by decide +kernel
theorem dX7_seen_44 : decode cX7_seen 44 = .ok (.iastore, 1) := by decide +kernel
theorem dX7_seen_45 : decode cX7_seen 45 = .ok (.aload_n 0, 1) := by decide +kernel
theorem dX7_seen_46 : decode cX7_seen 46 = .ok (.getfield 29, 3) := by decide +kernel
theorem dX7_seen_49 : decode cX7_seen 49 = .ok (.iconst 2, 1) := by decide +kernel
theorem dX7_seen_50 : decode cX7_seen 50 = .ok (.aload_n 0, 1) := by decide +kernel
theorem dX7_seen_51 : decode cX7_seen 51 = .ok (.getfield 83, 3) := by decide +kernel
theorem dX7_seen_54 : decode cX7_seen 54 = .ok (.imul, 1) := by decide +kernel
theorem dX7_seen_55 : decode cX7_seen 55 = .ok (.iconst 1, 1) := by decide +kernel
theorem dX7_seen_56 : decode cX7_seen 56 = .ok (.iadd, 1) := by decide +kernel
theorem dX7_seen_57 : decode cX7_seen 57 = .ok (.iload_n 2, 1) := by decide +kernel
theorem dX7_seen_58 : decode cX7_seen 58 = .ok (.iastore, 1) := by decide +kernel
theorem dX7_seen_59 : decode cX7_seen 59 = .ok (.aload_n 0, 1) := by decide +kernel
theorem dX7_seen_60 : decode cX7_seen 60 = .ok (.dup, 1) := by decide +kernel
theorem dX7_seen_61 : decode cX7_seen 61 = .ok (.getfield 83, 3) := by decide +kernel
theorem dX7_seen_64 : decode cX7_seen 64 = .ok (.iconst 1, 1) := by decide +kernel
theorem dX7_seen_65 : decode cX7_seen 65 = .ok (.iadd, 1) := by decide +kernel
theorem dX7_seen_66 : decode cX7_seen 66 = .ok (.putfield 83, 3) := by decide +kernel
theorem dX7_seen_69 : decode cX7_seen 69 = .ok (.aload_n 0, 1) := by decide +kernel
theorem dX7_seen_70 : decode cX7_seen 70 = .ok (.getfield 83, 3) := by decide +kernel
theorem dX7_seen_73 : decode cX7_seen 73 = .ok (.ireturn, 1) := by decide +kernel
theorem dX7_callsBy_0 : decode cX7_callsBy 0 = .ok (.iconst 0, 1) := by decide +kernel
theorem dX7_callsBy_1 : decode cX7_callsBy 1 = .ok (.istore_n 2, 1) := by decide +kernel
theorem dX7_callsBy_2 : decode cX7_callsBy 2 = .ok (.iconst 0, 1) := by decide +kernel
theorem dX7_callsBy_3 : decode cX7_callsBy 3 = .ok (.istore_n 3, 1) := by decide +kernel
theorem dX7_callsBy_4 : decode cX7_callsBy 4 = .ok (.iload_n 3, 1) := by decide +kernel
theorem dX7_callsBy_5 : decode cX7_callsBy 5 = .ok (.iconst 5, 1) := by decide +kernel
theorem dX7_callsBy_6 : decode cX7_callsBy 6 = .ok (.if_icmp .ge 84, 3) := by decide +kernel
theorem dX7_callsBy_9 : decode cX7_callsBy 9 = .ok (.iconst 1, 1) := by decide +kernel
theorem dX7_callsBy_10 : decode cX7_callsBy 10 = .ok (.istore 4, 2) := by decide +kernel
theorem dX7_callsBy_12 : decode cX7_callsBy 12 = .ok (.iconst 0, 1) := by decide +kernel
theorem dX7_callsBy_13 : decode cX7_callsBy 13 = .ok (.istore 5, 2) := by decide +kernel
theorem dX7_callsBy_15 : decode cX7_callsBy 15 = .ok (.iload 5, 2) := by decide +kernel
theorem dX7_callsBy_17 : decode cX7_callsBy 17 = .ok (.iconst 2, 1) := by decide +kernel
theorem dX7_callsBy_18 : decode cX7_callsBy 18 = .ok (.aload_n 0, 1) := by decide +kernel
theorem dX7_callsBy_19 : decode cX7_callsBy 19 = .ok (.getfield 83, 3) := by decide +kernel
theorem dX7_callsBy_22 : decode cX7_callsBy 22 = .ok (.imul, 1) := by decide +kernel
theorem dX7_callsBy_23 : decode cX7_callsBy 23 = .ok (.if_icmp .ge 46, 3) := by decide +kernel
theorem dX7_callsBy_26 : decode cX7_callsBy 26 = .ok (.iload 4, 2) := by decide +kernel
theorem dX7_callsBy_28 : decode cX7_callsBy 28 = .ok (.ifCond .eq 32, 3) := by decide +kernel
theorem dX7_callsBy_31 : decode cX7_callsBy 31 = .ok (.aload_n 0, 1) := by decide +kernel
theorem dX7_callsBy_32 : decode cX7_callsBy 32 = .ok (.aload_n 0, 1) := by decide +kernel
theorem dX7_callsBy_33 : decode cX7_callsBy 33 = .ok (.getfield 29, 3) := by decide +kernel
theorem dX7_callsBy_36 : decode cX7_callsBy 36 = .ok (.iload 5, 2) := by decide +kernel
theorem dX7_callsBy_38 : decode cX7_callsBy 38 = .ok (.iaload, 1) := by decide +kernel
theorem dX7_callsBy_39 : decode cX7_callsBy 39 = .ok (.iload_n 1, 1) := by decide +kernel
theorem dX7_callsBy_40 : decode cX7_callsBy 40 = .ok (.iload_n 3, 1) := by decide +kernel
theorem dX7_callsBy_41 : decode cX7_callsBy 41 = .ok (.invokevirtual 234, 3) := by decide +kernel
theorem dX7_callsBy_44 : decode cX7_callsBy 44 = .ok (.aload_n 0, 1) := by decide +kernel
theorem dX7_callsBy_45 : decode cX7_callsBy 45 = .ok (.getfield 29, 3) := by decide +kernel
theorem dX7_callsBy_48 : decode cX7_callsBy 48 = .ok (.iload 5, 2) := by decide +kernel
theorem dX7_callsBy_50 : decode cX7_callsBy 50 = .ok (.iconst 1, 1) := by decide +kernel
theorem dX7_callsBy_51 : decode cX7_callsBy 51 = .ok (.iadd, 1) := by decide +kernel
theorem dX7_callsBy_52 : decode cX7_callsBy 52 = .ok (.iaload, 1) := by decide +kernel
theorem dX7_callsBy_53 : decode cX7_callsBy 53 = .ok (.if_icmp .ne 7, 3) := by decide +kernel
theorem dX7_callsBy_56 : decode cX7_callsBy 56 = .ok (.iconst 1, 1) := by decide +kernel
theorem dX7_callsBy_57 : decode cX7_callsBy 57 = .ok (.goto 4, 3) := by decide +kernel
theorem dX7_callsBy_60 : decode cX7_callsBy 60 = .ok (.iconst 0, 1) := by decide +kernel
theorem dX7_callsBy_61 : decode cX7_callsBy 61 = .ok (.istore 4, 2) := by decide +kernel
theorem dX7_callsBy_63 : decode cX7_callsBy 63 = .ok (.iinc 5 2, 3) := by decide +kernel
theorem dX7_callsBy_66 : decode cX7_callsBy 66 = .ok (.goto (-51), 3) := by decide +kernel
theorem dX7_callsBy_69 : decode cX7_callsBy 69 = .ok (.iload_n 2, 1) := by decide +kernel
theorem dX7_callsBy_70 : decode cX7_callsBy 70 = .ok (.iload 4, 2) := by decide +kernel
theorem dX7_callsBy_72 : decode cX7_callsBy 72 = .ok (.ifCond .eq 9, 3) := by decide +kernel
theorem dX7_callsBy_75 : decode cX7_callsBy 75 = .ok (.iconst 1, 1) := by decide +kernel
theorem dX7_callsBy_76 : decode cX7_callsBy 76 = .ok (.iload_n 3, 1) := by decide +kernel
theorem dX7_callsBy_77 : decode cX7_callsBy 77 = .ok (.ishl, 1) := by decide +kernel
theorem dX7_callsBy_78 : decode cX7_callsBy 78 = .ok (.goto 4, 3) := by decide +kernel
theorem dX7_callsBy_81 : decode cX7_callsBy 81 = .ok (.iconst 0, 1) := by decide +kernel
theorem dX7_callsBy_82 : decode cX7_callsBy 82 = .ok (.ior, 1) := by decide +kernel
theorem dX7_callsBy_83 : decode cX7_callsBy 83 = .ok (.istore_n 2, 1) := by decide +kernel
theorem dX7_callsBy_84 : decode cX7_callsBy 84 = .ok (.iinc 3 1, 3) := by decide +kernel
theorem dX7_callsBy_87 : decode cX7_callsBy 87 = .ok (.goto (-83), 3) := by decide +kernel
theorem dX7_callsBy_90 : decode cX7_callsBy 90 = .ok (.iload_n 2, 1) := by decide +kernel
theorem dX7_callsBy_91 : decode cX7_callsBy 91 = .ok (.ireturn, 1) := by decide +kernel
theorem dX7_which_0 : decode cX7_which 0 = .ok (.aload_n 0, 1) := by decide +kernel
theorem dX7_which_1 : decode cX7_which 1 = .ok (.iload_n 1, 1) := by decide +kernel
theorem dX7_which_2 : decode cX7_which 2 = .ok (.invokevirtual 219, 3) := by decide +kernel
theorem dX7_which_5 : decode cX7_which 5 = .ok (.ifCond .eq 11, 3) := by decide +kernel
theorem dX7_which_8 : decode cX7_which 8 = .ok (.aload_n 0, 1) := by decide +kernel
theorem dX7_which_9 : decode cX7_which 9 = .ok (.iload_n 1, 1) := by decide +kernel
theorem dX7_which_10 : decode cX7_which 10 = .ok (.invokevirtual 255, 3) := by decide +kernel
theorem dX7_which_13 : decode cX7_which 13 = .ok (.goto 7, 3) := by decide +kernel
theorem dX7_which_16 : decode cX7_which 16 = .ok (.aload_n 0, 1) := by decide +kernel
theorem dX7_which_17 : decode cX7_which 17 = .ok (.invokevirtual 103, 3) := by decide +kernel
theorem dX7_which_20 : decode cX7_which 20 = .ok (.ireturn, 1) := by decide +kernel
theorem dX7_whose_0 : decode cX7_whose 0 = .ok (.iload_n 1, 1) := by decide +kernel
theorem dX7_whose_1 : decode cX7_whose 1 = .ok (.iconst (-1), 1) := by decide +kernel
theorem dX7_whose_2 : decode cX7_whose 2 = .ok (.if_icmp .ge 11, 3) := by decide +kernel
theorem dX7_whose_5 : decode cX7_whose 5 = .ok (.aload_n 0, 1) := by decide +kernel
theorem dX7_whose_6 : decode cX7_whose 6 = .ok (.invokevirtual 103, 3) := by decide +kernel
theorem dX7_whose_9 : decode cX7_whose 9 = .ok (.pop, 1) := by decide +kernel
theorem dX7_whose_10 : decode cX7_whose 10 = .ok (.bipush (-10), 2) := by decide +kernel
theorem dX7_whose_12 : decode cX7_whose 12 = .ok (.ireturn, 1) := by decide +kernel
theorem dX7_whose_13 : decode cX7_whose 13 = .ok (.iconst 0, 1) := by decide +kernel
theorem dX7_whose_14 : decode cX7_whose 14 = .ok (.istore_n 2, 1) := by decide +kernel
theorem dX7_whose_15 : decode cX7_whose 15 = .ok (.bipush (-5), 2) := by decide +kernel
theorem dX7_whose_17 : decode cX7_whose 17 = .ok (.istore_n 3, 1) := by decide +kernel
theorem dX7_whose_18 : decode cX7_whose 18 = .ok (.iconst 0, 1) := by decide +kernel
theorem dX7_whose_19 : decode cX7_whose 19 = .ok (.istore 4, 2) := by decide +kernel
theorem dX7_whose_21 : decode cX7_whose 21 = .ok (.iload 4, 2) := by decide +kernel
theorem dX7_whose_23 : decode cX7_whose 23 = .ok (.aload_n 0, 1) := by decide +kernel
theorem dX7_whose_24 : decode cX7_whose 24 = .ok (.getfield 70, 3) := by decide +kernel
theorem dX7_whose_27 : decode cX7_whose 27 = .ok (.if_icmp .ge 59, 3) := by decide +kernel
theorem dX7_whose_30 : decode cX7_whose 30 = .ok (.iconst 0, 1) := by decide +kernel
theorem dX7_whose_31 : decode cX7_whose 31 = .ok (.istore 5, 2) := by decide +kernel
theorem dX7_whose_33 : decode cX7_whose 33 = .ok (.iload 5, 2) := by decide +kernel
theorem dX7_whose_35 : decode cX7_whose 35 = .ok (.iconst 5, 1) := by decide +kernel
theorem dX7_whose_36 : decode cX7_whose 36 = .ok (.if_icmp .ge 44, 3) := by decide +kernel
theorem dX7_whose_39 : decode cX7_whose 39 = .ok (.aload_n 0, 1) := by decide +kernel
theorem dX7_whose_40 : decode cX7_whose 40 = .ok (.iload 4, 2) := by decide +kernel
theorem dX7_whose_42 : decode cX7_whose 42 = .ok (.invokevirtual 255, 3) := by decide +kernel
theorem dX7_whose_45 : decode cX7_whose 45 = .ok (.iload 5, 2) := by decide +kernel
theorem dX7_whose_47 : decode cX7_whose 47 = .ok (.invokestatic 240, 3) := by decide +kernel
theorem dX7_whose_50 : decode cX7_whose 50 = .ok (.ifCond .eq 24, 3) := by decide +kernel
theorem dX7_whose_53 : decode cX7_whose 53 = .ok (.iload_n 2, 1) := by decide +kernel
theorem dX7_whose_54 : decode cX7_whose 54 = .ok (.iload_n 1, 1) := by decide +kernel
theorem dX7_whose_55 : decode cX7_whose 55 = .ok (.if_icmp .ne 14, 3) := by decide +kernel
theorem dX7_whose_58 : decode cX7_whose 58 = .ok (.bipush 10, 2) := by decide +kernel
theorem dX7_whose_60 : decode cX7_whose 60 = .ok (.iload 4, 2) := by decide +kernel
theorem dX7_whose_62 : decode cX7_whose 62 = .ok (.imul, 1) := by decide +kernel
theorem dX7_whose_63 : decode cX7_whose 63 = .ok (.iload 5, 2) := by decide +kernel
theorem dX7_whose_65 : decode cX7_whose 65 = .ok (.iadd, 1) := by decide +kernel
theorem dX7_whose_66 : decode cX7_whose 66 = .ok (.goto 4, 3) := by decide +kernel
theorem dX7_whose_69 : decode cX7_whose 69 = .ok (.iload_n 3, 1) := by decide +kernel
theorem dX7_whose_70 : decode cX7_whose 70 = .ok (.istore_n 3, 1) := by decide +kernel
theorem dX7_whose_71 : decode cX7_whose 71 = .ok (.iinc 2 1, 3) := by decide +kernel
theorem dX7_whose_74 : decode cX7_whose 74 = .ok (.iinc 5 1, 3) := by decide +kernel
theorem dX7_whose_77 : decode cX7_whose 77 = .ok (.goto (-44), 3) := by decide +kernel
theorem dX7_whose_80 : decode cX7_whose 80 = .ok (.iinc 4 1, 3) := by decide +kernel
theorem dX7_whose_83 : decode cX7_whose 83 = .ok (.goto (-62), 3) := by decide +kernel
theorem dX7_whose_86 : decode cX7_whose 86 = .ok (.iload_n 1, 1) := by decide +kernel
theorem dX7_whose_87 : decode cX7_whose 87 = .ok (.iconst (-1), 1) := by decide +kernel
theorem dX7_whose_88 : decode cX7_whose 88 = .ok (.if_icmp .ne 7, 3) := by decide +kernel
theorem dX7_whose_91 : decode cX7_whose 91 = .ok (.iload_n 2, 1) := by decide +kernel
theorem dX7_whose_92 : decode cX7_whose 92 = .ok (.goto 4, 3) := by decide +kernel
theorem dX7_whose_95 : decode cX7_whose 95 = .ok (.iload_n 3, 1) := by decide +kernel
theorem dX7_whose_96 : decode cX7_whose 96 = .ok (.ireturn, 1) := by decide +kernel
theorem dX7_tell_0 : decode cX7_tell 0 = .ok (.aload_n 0, 1) := by decide +kernel
theorem dX7_tell_1 : decode cX7_tell 1 = .ok (.iload_n 1, 1) := by decide +kernel
theorem dX7_tell_2 : decode cX7_tell 2 = .ok (.invokevirtual 219, 3) := by decide +kernel
theorem dX7_tell_5 : decode cX7_tell 5 = .ok (.ifCond .ne 8, 3) := by decide +kernel
theorem dX7_tell_8 : decode cX7_tell 8 = .ok (.aload_n 0, 1) := by decide +kernel
theorem dX7_tell_9 : decode cX7_tell 9 = .ok (.invokevirtual 103, 3) := by decide +kernel
theorem dX7_tell_12 : decode cX7_tell 12 = .ok (.ireturn, 1) := by decide +kernel
theorem dX7_tell_13 : decode cX7_tell 13 = .ok (.aload_n 0, 1) := by decide +kernel
theorem dX7_tell_14 : decode cX7_tell 14 = .ok (.iload_n 1, 1) := by decide +kernel
theorem dX7_tell_15 : decode cX7_tell 15 = .ok (.invokevirtual 255, 3) := by decide +kernel
theorem dX7_tell_18 : decode cX7_tell 18 = .ok (.istore_n 2, 1) := by decide +kernel
theorem dX7_tell_19 : decode cX7_tell 19 = .ok (.iconst (-1), 1) := by decide +kernel
theorem dX7_tell_20 : decode cX7_tell 20 = .ok (.istore_n 3, 1) := by decide +kernel
theorem dX7_tell_21 : decode cX7_tell 21 = .ok (.ldc 251, 2) := by decide +kernel
theorem dX7_tell_23 : decode cX7_tell 23 = .ok (.istore 4, 2) := by decide +kernel
theorem dX7_tell_25 : decode cX7_tell 25 = .ok (.iconst 0, 1) := by decide +kernel
theorem dX7_tell_26 : decode cX7_tell 26 = .ok (.istore 5, 2) := by decide +kernel
theorem dX7_tell_28 : decode cX7_tell 28 = .ok (.iload 5, 2) := by decide +kernel
theorem dX7_tell_30 : decode cX7_tell 30 = .ok (.aload_n 0, 1) := by decide +kernel
theorem dX7_tell_31 : decode cX7_tell 31 = .ok (.getfield 74, 3) := by decide +kernel
theorem dX7_tell_34 : decode cX7_tell 34 = .ok (.if_icmp .ge 130, 3) := by decide +kernel
theorem dX7_tell_37 : decode cX7_tell 37 = .ok (.iload_n 2, 1) := by decide +kernel
theorem dX7_tell_38 : decode cX7_tell 38 = .ok (.ifCond .eq 126, 3) := by decide +kernel
theorem dX7_tell_41 : decode cX7_tell 41 = .ok (.iconst 0, 1) := by decide +kernel
theorem dX7_tell_42 : decode cX7_tell 42 = .ok (.istore 6, 2) := by decide +kernel
theorem dX7_tell_44 : decode cX7_tell 44 = .ok (.iconst 0, 1) := by decide +kernel
theorem dX7_tell_45 : decode cX7_tell 45 = .ok (.istore 7, 2) := by decide +kernel
theorem dX7_tell_47 : decode cX7_tell 47 = .ok (.iload 7, 2) := by decide +kernel
theorem dX7_tell_49 : decode cX7_tell 49 = .ok (.iconst 5, 1) := by decide +kernel
theorem dX7_tell_50 : decode cX7_tell 50 = .ok (.if_icmp .ge 85, 3) := by decide +kernel
theorem dX7_tell_53 : decode cX7_tell 53 = .ok (.iconst 0, 1) := by decide +kernel
theorem dX7_tell_54 : decode cX7_tell 54 = .ok (.istore 8, 2) := by decide +kernel
theorem dX7_tell_56 : decode cX7_tell 56 = .ok (.iconst 0, 1) := by decide +kernel
theorem dX7_tell_57 : decode cX7_tell 57 = .ok (.istore 9, 2) := by decide +kernel
theorem dX7_tell_59 : decode cX7_tell 59 = .ok (.iload 9, 2) := by decide +kernel
theorem dX7_tell_61 : decode cX7_tell 61 = .ok (.iconst 5, 1) := by decide +kernel
theorem dX7_tell_62 : decode cX7_tell 62 = .ok (.if_icmp .ge 58, 3) := by decide +kernel
theorem dX7_tell_65 : decode cX7_tell 65 = .ok (.iload 8, 2) := by decide +kernel
theorem dX7_tell_67 : decode cX7_tell 67 = .ok (.iload_n 2, 1) := by decide +kernel
theorem dX7_tell_68 : decode cX7_tell 68 = .ok (.iload 7, 2) := by decide +kernel
theorem dX7_tell_70 : decode cX7_tell 70 = .ok (.invokestatic 240, 3) := by decide +kernel
theorem dX7_tell_73 : decode cX7_tell 73 = .ok (.ifCond .eq 37, 3) := by decide +kernel
theorem dX7_tell_76 : decode cX7_tell 76 = .ok (.iload_n 2, 1) := by decide +kernel
theorem dX7_tell_77 : decode cX7_tell 77 = .ok (.iload 9, 2) := by decide +kernel
theorem dX7_tell_79 : decode cX7_tell 79 = .ok (.invokestatic 240, 3) := by decide +kernel
theorem dX7_tell_82 : decode cX7_tell 82 = .ok (.ifCond .eq 28, 3) := by decide +kernel
theorem dX7_tell_85 : decode cX7_tell 85 = .ok (.aload_n 0, 1) := by decide +kernel
theorem dX7_tell_86 : decode cX7_tell 86 = .ok (.iload 5, 2) := by decide +kernel
theorem dX7_tell_88 : decode cX7_tell 88 = .ok (.iload_n 1, 1) := by decide +kernel
theorem dX7_tell_89 : decode cX7_tell 89 = .ok (.iload 7, 2) := by decide +kernel
theorem dX7_tell_91 : decode cX7_tell 91 = .ok (.invokevirtual 234, 3) := by decide +kernel
theorem dX7_tell_94 : decode cX7_tell 94 = .ok (.aload_n 0, 1) := by decide +kernel
theorem dX7_tell_95 : decode cX7_tell 95 = .ok (.iload 5, 2) := by decide +kernel
theorem dX7_tell_97 : decode cX7_tell 97 = .ok (.iload_n 1, 1) := by decide +kernel
theorem dX7_tell_98 : decode cX7_tell 98 = .ok (.iload 9, 2) := by decide +kernel
theorem dX7_tell_100 : decode cX7_tell 100 = .ok (.invokevirtual 234, 3) := by decide +kernel
theorem dX7_tell_103 : decode cX7_tell 103 = .ok (.if_icmp .ne 7, 3) := by decide +kernel
theorem dX7_tell_106 : decode cX7_tell 106 = .ok (.iconst 1, 1) := by decide +kernel
theorem dX7_tell_107 : decode cX7_tell 107 = .ok (.goto 4, 3) := by decide +kernel
theorem dX7_tell_110 : decode cX7_tell 110 = .ok (.iconst 0, 1) := by decide +kernel
theorem dX7_tell_111 : decode cX7_tell 111 = .ok (.iadd, 1) := by decide +kernel
theorem dX7_tell_112 : decode cX7_tell 112 = .ok (.istore 8, 2) := by decide +kernel
theorem dX7_tell_114 : decode cX7_tell 114 = .ok (.iinc 9 1, 3) := by decide +kernel
theorem dX7_tell_117 : decode cX7_tell 117 = .ok (.goto (-58), 3) := by decide +kernel
theorem dX7_tell_120 : decode cX7_tell 120 = .ok (.iload 6, 2) := by decide +kernel
theorem dX7_tell_122 : decode cX7_tell 122 = .ok (.iload 8, 2) := by decide +kernel
theorem dX7_tell_124 : decode cX7_tell 124 = .ok (.invokestatic 190, 3) := by decide +kernel
theorem dX7_tell_127 : decode cX7_tell 127 = .ok (.istore 6, 2) := by decide +kernel
theorem dX7_tell_129 : decode cX7_tell 129 = .ok (.iinc 7 1, 3) := by decide +kernel
theorem dX7_tell_132 : decode cX7_tell 132 = .ok (.goto (-85), 3) := by decide +kernel
theorem dX7_tell_135 : decode cX7_tell 135 = .ok (.iload 6, 2) := by decide +kernel
theorem dX7_tell_137 : decode cX7_tell 137 = .ok (.iload 4, 2) := by decide +kernel
theorem dX7_tell_139 : decode cX7_tell 139 = .ok (.if_icmp .ge 8, 3) := by decide +kernel
theorem dX7_tell_142 : decode cX7_tell 142 = .ok (.iload 5, 2) := by decide +kernel
theorem dX7_tell_144 : decode cX7_tell 144 = .ok (.goto 4, 3) := by decide +kernel
theorem dX7_tell_147 : decode cX7_tell 147 = .ok (.iload_n 3, 1) := by decide +kernel
theorem dX7_tell_148 : decode cX7_tell 148 = .ok (.istore_n 3, 1) := by decide +kernel
theorem dX7_tell_149 : decode cX7_tell 149 = .ok (.iload 4, 2) := by decide +kernel
theorem dX7_tell_151 : decode cX7_tell 151 = .ok (.iload 6, 2) := by decide +kernel
theorem dX7_tell_153 : decode cX7_tell 153 = .ok (.invokestatic 158, 3) := by decide +kernel
theorem dX7_tell_156 : decode cX7_tell 156 = .ok (.istore 4, 2) := by decide +kernel
theorem dX7_tell_158 : decode cX7_tell 158 = .ok (.iinc 5 1, 3) := by decide +kernel
theorem dX7_tell_161 : decode cX7_tell 161 = .ok (.goto (-133), 3) := by decide +kernel
theorem dX7_tell_164 : decode cX7_tell 164 = .ok (.iload_n 3, 1) := by decide +kernel
theorem dX7_tell_165 : decode cX7_tell 165 = .ok (.ireturn, 1) := by decide +kernel
theorem dX7_note_0 : decode cX7_note 0 = .ok (.aload_n 0, 1) := by decide +kernel
theorem dX7_note_1 : decode cX7_note 1 = .ok (.iload_n 1, 1) := by decide +kernel
theorem dX7_note_2 : decode cX7_note 2 = .ok (.invokevirtual 219, 3) := by decide +kernel
theorem dX7_note_5 : decode cX7_note 5 = .ok (.ifCond .eq 23, 3) := by decide +kernel
theorem dX7_note_8 : decode cX7_note 8 = .ok (.iload_n 2, 1) := by decide +kernel
theorem dX7_note_9 : decode cX7_note 9 = .ok (.iconst 0, 1) := by decide +kernel
theorem dX7_note_10 : decode cX7_note 10 = .ok (.bipush 99, 2) := by decide +kernel
theorem dX7_note_12 : decode cX7_note 12 = .ok (.invokestatic 95, 3) := by decide +kernel
theorem dX7_note_15 : decode cX7_note 15 = .ok (.ifCond .eq 13, 3) := by decide +kernel
theorem dX7_note_18 : decode cX7_note 18 = .ok (.iload_n 3, 1) := by decide +kernel
theorem dX7_note_19 : decode cX7_note 19 = .ok (.iconst 0, 1) := by decide +kernel
theorem dX7_note_20 : decode cX7_note 20 = .ok (.bipush 20, 2) := by decide +kernel
theorem dX7_note_22 : decode cX7_note 22 = .ok (.invokestatic 95, 3) := by decide +kernel
theorem dX7_note_25 : decode cX7_note 25 = .ok (.ifCond .ne 8, 3) := by decide +kernel
theorem dX7_note_28 : decode cX7_note 28 = .ok (.aload_n 0, 1) := by decide +kernel
theorem dX7_note_29 : decode cX7_note 29 = .ok (.invokevirtual 103, 3) := by decide +kernel
theorem dX7_note_32 : decode cX7_note 32 = .ok (.ireturn, 1) := by decide +kernel
theorem dX7_note_33 : decode cX7_note 33 = .ok (.aload_n 0, 1) := by decide +kernel
theorem dX7_note_34 : decode cX7_note 34 = .ok (.getfield 86, 3) := by decide +kernel
theorem dX7_note_37 : decode cX7_note 37 = .ok (.bipush 6, 2) := by decide +kernel
theorem dX7_note_39 : decode cX7_note 39 = .ok (.if_icmp .ne 8, 3) := by decide +kernel
theorem dX7_note_42 : decode cX7_note 42 = .ok (.aload_n 0, 1) := by decide +kernel
theorem dX7_note_43 : decode cX7_note 43 = .ok (.invokevirtual 107, 3) := by decide +kernel
theorem dX7_note_46 : decode cX7_note 46 = .ok (.ireturn, 1) := by decide +kernel
theorem dX7_note_47 : decode cX7_note 47 = .ok (.aload_n 0, 1) := by decide +kernel
theorem dX7_note_48 : decode cX7_note 48 = .ok (.getfield 32, 3) := by decide +kernel
theorem dX7_note_51 : decode cX7_note 51 = .ok (.iconst 3, 1) := by decide +kernel
theorem dX7_note_52 : decode cX7_note 52 = .ok (.aload_n 0, 1) := by decide +kernel
theorem dX7_note_53 : decode cX7_note 53 = .ok (.getfield 86, 3) := by decide +kernel
theorem dX7_note_56 : decode cX7_note 56 = .ok (.imul, 1) := by decide +kernel
theorem dX7_note_57 : decode cX7_note 57 = .ok (.iload_n 1, 1) := by decide +kernel
theorem dX7_note_58 : decode cX7_note 58 = .ok (.iastore, 1) := by decide +kernel
theorem dX7_note_59 : decode cX7_note 59 = .ok (.aload_n 0, 1) := by decide +kernel
theorem dX7_note_60 : decode cX7_note 60 = .ok (.getfield 32, 3) := by decide +kernel
theorem dX7_note_63 : decode cX7_note 63 = .ok (.iconst 3, 1) := by decide +kernel
theorem dX7_note_64 : decode cX7_note 64 = .ok (.aload_n 0, 1) := by decide +kernel
theorem dX7_note_65 : decode cX7_note 65 = .ok (.getfield 86, 3) := by decide +kernel
theorem dX7_note_68 : decode cX7_note 68 = .ok (.imul, 1) := by decide +kernel
theorem dX7_note_69 : decode cX7_note 69 = .ok (.iconst 1, 1) := by decide +kernel
theorem dX7_note_70 : decode cX7_note 70 = .ok (.iadd, 1) := by decide +kernel
theorem dX7_note_71 : decode cX7_note 71 = .ok (.iload_n 2, 1) := by decide +kernel
theorem dX7_note_72 : decode cX7_note 72 = .ok (.iastore, 1) := by decide +kernel
theorem dX7_note_73 : decode cX7_note 73 = .ok (.aload_n 0, 1) := by decide +kernel
theorem dX7_note_74 : decode cX7_note 74 = .ok (.getfield 32, 3) := by decide +kernel
theorem dX7_note_77 : decode cX7_note 77 = .ok (.iconst 3, 1) := by decide +kernel
theorem dX7_note_78 : decode cX7_note 78 = .ok (.aload_n 0, 1) := by decide +kernel
theorem dX7_note_79 : decode cX7_note 79 = .ok (.getfield 86, 3) := by decide +kernel
theorem dX7_note_82 : decode cX7_note 82 = .ok (.imul, 1) := by decide +kernel
theorem dX7_note_83 : decode cX7_note 83 = .ok (.iconst 2, 1) := by decide +kernel
theorem dX7_note_84 : decode cX7_note 84 = .ok (.iadd, 1) := by decide +kernel
theorem dX7_note_85 : decode cX7_note 85 = .ok (.iload_n 3, 1) := by decide +kernel
theorem dX7_note_86 : decode cX7_note 86 = .ok (.iastore, 1) := by decide +kernel
theorem dX7_note_87 : decode cX7_note 87 = .ok (.aload_n 0, 1) := by decide +kernel
theorem dX7_note_88 : decode cX7_note 88 = .ok (.dup, 1) := by decide +kernel
theorem dX7_note_89 : decode cX7_note 89 = .ok (.getfield 86, 3) := by decide +kernel
theorem dX7_note_92 : decode cX7_note 92 = .ok (.iconst 1, 1) := by decide +kernel
theorem dX7_note_93 : decode cX7_note 93 = .ok (.iadd, 1) := by decide +kernel
theorem dX7_note_94 : decode cX7_note 94 = .ok (.putfield 86, 3) := by decide +kernel
theorem dX7_note_97 : decode cX7_note 97 = .ok (.aload_n 0, 1) := by decide +kernel
theorem dX7_note_98 : decode cX7_note 98 = .ok (.getfield 86, 3) := by decide +kernel
theorem dX7_note_101 : decode cX7_note 101 = .ok (.ireturn, 1) := by decide +kernel
theorem dX7_mark_0 : decode cX7_mark 0 = .ok (.aload_n 0, 1) := by decide +kernel
theorem dX7_mark_1 : decode cX7_mark 1 = .ok (.iload_n 1, 1) := by decide +kernel
theorem dX7_mark_2 : decode cX7_mark 2 = .ok (.invokevirtual 231, 3) := by decide +kernel
theorem dX7_mark_5 : decode cX7_mark 5 = .ok (.ifCond .eq 23, 3) := by decide +kernel
theorem dX7_mark_8 : decode cX7_mark 8 = .ok (.iload_n 2, 1) := by decide +kernel
theorem dX7_mark_9 : decode cX7_mark 9 = .ok (.iconst 0, 1) := by decide +kernel
theorem dX7_mark_10 : decode cX7_mark 10 = .ok (.bipush 8, 2) := by decide +kernel
theorem dX7_mark_12 : decode cX7_mark 12 = .ok (.invokestatic 95, 3) := by decide +kernel
theorem dX7_mark_15 : decode cX7_mark 15 = .ok (.ifCond .eq 13, 3) := by decide +kernel
theorem dX7_mark_18 : decode cX7_mark 18 = .ok (.iload_n 3, 1) := by decide +kernel
theorem dX7_mark_19 : decode cX7_mark 19 = .ok (.iconst 0, 1) := by decide +kernel
theorem dX7_mark_20 : decode cX7_mark 20 = .ok (.bipush 9, 2) := by decide +kernel
theorem dX7_mark_22 : decode cX7_mark 22 = .ok (.invokestatic 95, 3) := by decide +kernel
theorem dX7_mark_25 : decode cX7_mark 25 = .ok (.ifCond .ne 8, 3) := by decide +kernel
theorem dX7_mark_28 : decode cX7_mark 28 = .ok (.aload_n 0, 1) := by decide +kernel
theorem dX7_mark_29 : decode cX7_mark 29 = .ok (.invokevirtual 103, 3) := by decide +kernel
theorem dX7_mark_32 : decode cX7_mark 32 = .ok (.ireturn, 1) := by decide +kernel
theorem dX7_mark_33 : decode cX7_mark 33 = .ok (.aload_n 0, 1) := by decide +kernel
theorem dX7_mark_34 : decode cX7_mark 34 = .ok (.getfield 89, 3) := by decide +kernel
theorem dX7_mark_37 : decode cX7_mark 37 = .ok (.bipush 6, 2) := by decide +kernel
theorem dX7_mark_39 : decode cX7_mark 39 = .ok (.if_icmp .ne 8, 3) := by decide +kernel
theorem dX7_mark_42 : decode cX7_mark 42 = .ok (.aload_n 0, 1) := by decide +kernel
theorem dX7_mark_43 : decode cX7_mark 43 = .ok (.invokevirtual 107, 3) := by decide +kernel
theorem dX7_mark_46 : decode cX7_mark 46 = .ok (.ireturn, 1) := by decide +kernel
theorem dX7_mark_47 : decode cX7_mark 47 = .ok (.aload_n 0, 1) := by decide +kernel
theorem dX7_mark_48 : decode cX7_mark 48 = .ok (.getfield 35, 3) := by decide +kernel
theorem dX7_mark_51 : decode cX7_mark 51 = .ok (.iconst 3, 1) := by decide +kernel
theorem dX7_mark_52 : decode cX7_mark 52 = .ok (.aload_n 0, 1) := by decide +kernel
theorem dX7_mark_53 : decode cX7_mark 53 = .ok (.getfield 89, 3) := by decide +kernel
theorem dX7_mark_56 : decode cX7_mark 56 = .ok (.imul, 1) := by decide +kernel
theorem dX7_mark_57 : decode cX7_mark 57 = .ok (.iload_n 1, 1) := by decide +kernel
theorem dX7_mark_58 : decode cX7_mark 58 = .ok (.iastore, 1) := by decide +kernel
theorem dX7_mark_59 : decode cX7_mark 59 = .ok (.aload_n 0, 1) := by decide +kernel
theorem dX7_mark_60 : decode cX7_mark 60 = .ok (.getfield 35, 3) := by decide +kernel
theorem dX7_mark_63 : decode cX7_mark 63 = .ok (.iconst 3, 1) := by decide +kernel
theorem dX7_mark_64 : decode cX7_mark 64 = .ok (.aload_n 0, 1) := by decide +kernel
theorem dX7_mark_65 : decode cX7_mark 65 = .ok (.getfield 89, 3) := by decide +kernel
theorem dX7_mark_68 : decode cX7_mark 68 = .ok (.imul, 1) := by decide +kernel
theorem dX7_mark_69 : decode cX7_mark 69 = .ok (.iconst 1, 1) := by decide +kernel
theorem dX7_mark_70 : decode cX7_mark 70 = .ok (.iadd, 1) := by decide +kernel
theorem dX7_mark_71 : decode cX7_mark 71 = .ok (.iload_n 2, 1) := by decide +kernel
theorem dX7_mark_72 : decode cX7_mark 72 = .ok (.iastore, 1) := by decide +kernel
theorem dX7_mark_73 : decode cX7_mark 73 = .ok (.aload_n 0, 1) := by decide +kernel
theorem dX7_mark_74 : decode cX7_mark 74 = .ok (.getfield 35, 3) := by decide +kernel
theorem dX7_mark_77 : decode cX7_mark 77 = .ok (.iconst 3, 1) := by decide +kernel
theorem dX7_mark_78 : decode cX7_mark 78 = .ok (.aload_n 0, 1) := by decide +kernel
theorem dX7_mark_79 : decode cX7_mark 79 = .ok (.getfield 89, 3) := by decide +kernel
theorem dX7_mark_82 : decode cX7_mark 82 = .ok (.imul, 1) := by decide +kernel
theorem dX7_mark_83 : decode cX7_mark 83 = .ok (.iconst 2, 1) := by decide +kernel
theorem dX7_mark_84 : decode cX7_mark 84 = .ok (.iadd, 1) := by decide +kernel
theorem dX7_mark_85 : decode cX7_mark 85 = .ok (.iload_n 3, 1) := by decide +kernel
theorem dX7_mark_86 : decode cX7_mark 86 = .ok (.iastore, 1) := by decide +kernel
theorem dX7_mark_87 : decode cX7_mark 87 = .ok (.aload_n 0, 1) := by decide +kernel
theorem dX7_mark_88 : decode cX7_mark 88 = .ok (.dup, 1) := by decide +kernel
theorem dX7_mark_89 : decode cX7_mark 89 = .ok (.getfield 89, 3) := by decide +kernel
theorem dX7_mark_92 : decode cX7_mark 92 = .ok (.iconst 1, 1) := by decide +kernel
theorem dX7_mark_93 : decode cX7_mark 93 = .ok (.iadd, 1) := by decide +kernel
theorem dX7_mark_94 : decode cX7_mark 94 = .ok (.putfield 89, 3) := by decide +kernel
theorem dX7_mark_97 : decode cX7_mark 97 = .ok (.aload_n 0, 1) := by decide +kernel
theorem dX7_mark_98 : decode cX7_mark 98 = .ok (.getfield 89, 3) := by decide +kernel
theorem dX7_mark_101 : decode cX7_mark 101 = .ok (.ireturn, 1) := by decide +kernel
theorem dX7_forget_0 : decode cX7_forget 0 = .ok (.iload_n 1, 1) := by decide +kernel
theorem dX7_forget_1 : decode cX7_forget 1 = .ok (.iconst 0, 1) := by decide +kernel
theorem dX7_forget_2 : decode cX7_forget 2 = .ok (.iconst 2, 1) := by decide +kernel
theorem dX7_forget_3 : decode cX7_forget 3 = .ok (.invokestatic 95, 3) := by decide +kernel
theorem dX7_forget_6 : decode cX7_forget 6 = .ok (.ifCond .ne 8, 3) := by decide +kernel
theorem dX7_forget_9 : decode cX7_forget 9 = .ok (.aload_n 0, 1) := by decide +kernel
theorem dX7_forget_10 : decode cX7_forget 10 = .ok (.invokevirtual 103, 3) := by decide +kernel
theorem dX7_forget_13 : decode cX7_forget 13 = .ok (.ireturn, 1) := by decide +kernel
theorem dX7_forget_14 : decode cX7_forget 14 = .ok (.iload_n 1, 1) := by decide +kernel
theorem dX7_forget_15 : decode cX7_forget 15 = .ok (.ifCond .ne 10, 3) := by decide +kernel
theorem dX7_forget_18 : decode cX7_forget 18 = .ok (.aload_n 0, 1) := by decide +kernel
theorem dX7_forget_19 : decode cX7_forget 19 = .ok (.getfield 83, 3) := by decide +kernel
theorem dX7_forget_22 : decode cX7_forget 22 = .ok (.goto 19, 3) := by decide +kernel
theorem dX7_forget_25 : decode cX7_forget 25 = .ok (.iload_n 1, 1) := by decide +kernel
theorem dX7_forget_26 : decode cX7_forget 26 = .ok (.iconst 1, 1) := by decide +kernel
theorem dX7_forget_27 : decode cX7_forget 27 = .ok (.if_icmp .ne 10, 3) := by decide +kernel
theorem dX7_forget_30 : decode cX7_forget 30 = .ok (.aload_n 0, 1) := by decide +kernel
theorem dX7_forget_31 : decode cX7_forget 31 = .ok (.getfield 86, 3) := by decide +kernel
theorem dX7_forget_34 : decode cX7_forget 34 = .ok (.goto 7, 3) := by decide +kernel
theorem dX7_forget_37 : decode cX7_forget 37 = .ok (.aload_n 0, 1) := by decide +kernel
theorem dX7_forget_38 : decode cX7_forget 38 = .ok (.getfield 89, 3) := by decide +kernel
theorem dX7_forget_41 : decode cX7_forget 41 = .ok (.istore_n 2, 1) := by decide +kernel
theorem dX7_forget_42 : decode cX7_forget 42 = .ok (.aload_n 0, 1) := by decide +kernel
theorem dX7_forget_43 : decode cX7_forget 43 = .ok (.iload_n 1, 1) := by decide +kernel
theorem dX7_forget_44 : decode cX7_forget 44 = .ok (.ifCond .ne 7, 3) := by decide +kernel
theorem dX7_forget_47 : decode cX7_forget 47 = .ok (.iconst 0, 1) := by decide +kernel
theorem dX7_forget_48 : decode cX7_forget 48 = .ok (.goto 7, 3) := by decide +kernel
theorem dX7_forget_51 : decode cX7_forget 51 = .ok (.aload_n 0, 1) := by decide +kernel
theorem dX7_forget_52 : decode cX7_forget 52 = .ok (.getfield 83, 3) := by decide +kernel
theorem dX7_forget_55 : decode cX7_forget 55 = .ok (.putfield 83, 3) := by decide +kernel
theorem dX7_forget_58 : decode cX7_forget 58 = .ok (.aload_n 0, 1) := by decide +kernel
theorem dX7_forget_59 : decode cX7_forget 59 = .ok (.iload_n 1, 1) := by decide +kernel
theorem dX7_forget_60 : decode cX7_forget 60 = .ok (.iconst 1, 1) := by decide +kernel
theorem dX7_forget_61 : decode cX7_forget 61 = .ok (.if_icmp .ne 7, 3) := by decide +kernel
theorem dX7_forget_64 : decode cX7_forget 64 = .ok (.iconst 0, 1) := by decide +kernel
theorem dX7_forget_65 : decode cX7_forget 65 = .ok (.goto 7, 3) := by decide +kernel
theorem dX7_forget_68 : decode cX7_forget 68 = .ok (.aload_n 0, 1) := by decide +kernel
theorem dX7_forget_69 : decode cX7_forget 69 = .ok (.getfield 86, 3) := by decide +kernel
theorem dX7_forget_72 : decode cX7_forget 72 = .ok (.putfield 86, 3) := by decide +kernel
theorem dX7_forget_75 : decode cX7_forget 75 = .ok (.aload_n 0, 1) := by decide +kernel
theorem dX7_forget_76 : decode cX7_forget 76 = .ok (.iload_n 1, 1) := by decide +kernel
theorem dX7_forget_77 : decode cX7_forget 77 = .ok (.iconst 2, 1) := by decide +kernel
theorem dX7_forget_78 : decode cX7_forget 78 = .ok (.if_icmp .ne 7, 3) := by decide +kernel
theorem dX7_forget_81 : decode cX7_forget 81 = .ok (.iconst 0, 1) := by decide +kernel
theorem dX7_forget_82 : decode cX7_forget 82 = .ok (.goto 7, 3) := by decide +kernel
theorem dX7_forget_85 : decode cX7_forget 85 = .ok (.aload_n 0, 1) := by decide +kernel
theorem dX7_forget_86 : decode cX7_forget 86 = .ok (.getfield 89, 3) := by decide +kernel
theorem dX7_forget_89 : decode cX7_forget 89 = .ok (.putfield 89, 3) := by decide +kernel
theorem dX7_forget_92 : decode cX7_forget 92 = .ok (.iload_n 2, 1) := by decide +kernel
theorem dX7_forget_93 : decode cX7_forget 93 = .ok (.ireturn, 1) := by decide +kernel
theorem dX7_whistleKinds_0 : decode cX7_whistleKinds 0 = .ok (.iconst 0, 1) := by decide +kernel
theorem dX7_whistleKinds_1 : decode cX7_whistleKinds 1 = .ok (.istore_n 2, 1) := by decide +kernel
theorem dX7_whistleKinds_2 : decode cX7_whistleKinds 2 = .ok (.iconst 0, 1) := by decide +kernel
theorem dX7_whistleKinds_3 : decode cX7_whistleKinds 3 = .ok (.istore_n 3, 1) := by decide +kernel
theorem dX7_whistleKinds_4 : decode cX7_whistleKinds 4 = .ok (.iload_n 3, 1) := by decide +kernel
theorem dX7_whistleKinds_5 : decode cX7_whistleKinds 5 = .ok (.iconst 5, 1) := by decide +kernel
theorem dX7_whistleKinds_6 : decode cX7_whistleKinds 6 = .ok (.if_icmp .gt 107, 3) := by decide +kernel
theorem dX7_whistleKinds_9 : decode cX7_whistleKinds 9 = .ok (.iconst 1, 1) := by decide +kernel
theorem dX7_whistleKinds_10 : decode cX7_whistleKinds 10 = .ok (.istore 4, 2) := by decide +kernel
theorem dX7_whistleKinds_12 : decode cX7_whistleKinds 12 = .ok (.iconst 0, 1) := by decide +kernel
theorem dX7_whistleKinds_13 : decode cX7_whistleKinds 13 = .ok (.istore 5, 2) := by decide +kernel
theorem dX7_whistleKinds_15 : decode cX7_whistleKinds 15 = .ok (.iload 5, 2) := by decide +kernel
theorem dX7_whistleKinds_17 : decode cX7_whistleKinds 17 = .ok (.iconst 3, 1) := by decide +kernel
theorem dX7_whistleKinds_18 : decode cX7_whistleKinds 18 = .ok (.aload_n 0, 1) := by decide +kernel
theorem dX7_whistleKinds_19 : decode cX7_whistleKinds 19 = .ok (.getfield 86, 3) := by decide +kernel
theorem dX7_whistleKinds_22 : decode cX7_whistleKinds 22 = .ok (.imul, 1) := by decide +kernel
theorem dX7_whistleKinds_23 : decode cX7_whistleKinds 23 = .ok (.if_icmp .ge 69, 3) := by decide +kernel
theorem dX7_whistleKinds_26 : decode cX7_whistleKinds 26 = .ok (.iload_n 3, 1) := by decide +kernel
theorem dX7_whistleKinds_27 : decode cX7_whistleKinds 27 = .ok (.aload_n 0, 1) := by decide +kernel
theorem dX7_whistleKinds_28 : decode cX7_whistleKinds 28 = .ok (.getfield 32, 3) := by decide +kernel
theorem dX7_whistleKinds_31 : decode cX7_whistleKinds 31 = .ok (.iload 5, 2) := by decide +kernel
theorem dX7_whistleKinds_33 : decode cX7_whistleKinds 33 = .ok (.iconst 1, 1) := by decide +kernel
theorem dX7_whistleKinds_34 : decode cX7_whistleKinds 34 = .ok (.iadd, 1) := by decide +kernel
theorem dX7_whistleKinds_35 : decode cX7_whistleKinds 35 = .ok (.iaload, 1) := by decide +kernel
theorem dX7_whistleKinds_36 : decode cX7_whistleKinds 36 = .ok (.invokestatic 196, 3) := by decide +kernel
theorem dX7_whistleKinds_39 : decode cX7_whistleKinds 39 = .ok (.aload_n 0, 1) := by decide +kernel
theorem dX7_whistleKinds_40 : decode cX7_whistleKinds 40 = .ok (.getfield 32, 3) := by decide +kernel
theorem dX7_whistleKinds_43 : decode cX7_whistleKinds 43 = .ok (.iload 5, 2) := by decide +kernel
theorem dX7_whistleKinds_45 : decode cX7_whistleKinds 45 = .ok (.iconst 2, 1) := by decide +kernel
theorem dX7_whistleKinds_46 : decode cX7_whistleKinds 46 = .ok (.iadd, 1) := by decide +kernel
theorem dX7_whistleKinds_47 : decode cX7_whistleKinds 47 = .ok (.iaload, 1) := by decide +kernel
theorem dX7_whistleKinds_48 : decode cX7_whistleKinds 48 = .ok (.if_icmp .ne 7, 3) := by decide +kernel
theorem dX7_whistleKinds_51 : decode cX7_whistleKinds 51 = .ok (.iconst 1, 1) := by decide +kernel
theorem dX7_whistleKinds_52 : decode cX7_whistleKinds 52 = .ok (.goto 4, 3) := by decide +kernel
theorem dX7_whistleKinds_55 : decode cX7_whistleKinds 55 = .ok (.iconst 0, 1) := by decide +kernel
theorem dX7_whistleKinds_56 : decode cX7_whistleKinds 56 = .ok (.istore 6, 2) := by decide +kernel
theorem dX7_whistleKinds_58 : decode cX7_whistleKinds 58 = .ok (.iload 4, 2) := by decide +kernel
theorem dX7_whistleKinds_60 : decode cX7_whistleKinds 60 = .ok (.ifCond .eq 23, 3) := by decide +kernel
theorem dX7_whistleKinds_63 : decode cX7_whistleKinds 63 = .ok (.aload_n 0, 1) := by decide +kernel
theorem dX7_whistleKinds_64 : decode cX7_whistleKinds 64 = .ok (.getfield 32, 3) := by decide +kernel
theorem dX7_whistleKinds_67 : decode cX7_whistleKinds 67 = .ok (.iload 5, 2) := by decide +kernel
theorem dX7_whistleKinds_69 : decode cX7_whistleKinds 69 = .ok (.iaload, 1) := by decide +kernel
theorem dX7_whistleKinds_70 : decode cX7_whistleKinds 70 = .ok (.iload_n 1, 1) := by decide +kernel
theorem dX7_whistleKinds_71 : decode cX7_whistleKinds 71 = .ok (.if_icmp .ne 8, 3) := by decide +kernel
theorem dX7_whistleKinds_74 : decode cX7_whistleKinds 74 = .ok (.iload 6, 2) := by decide +kernel
theorem dX7_whistleKinds_76 : decode cX7_whistleKinds 76 = .ok (.ifCond .eq 7, 3) := by decide +kernel
theorem dX7_whistleKinds_79 : decode cX7_whistleKinds 79 = .ok (.iconst 1, 1) := by decide +kernel
theorem dX7_whistleKinds_80 : decode cX7_whistleKinds 80 = .ok (.goto 4, 3) := by decide +kernel
theorem dX7_whistleKinds_83 : decode cX7_whistleKinds 83 = .ok (.iconst 0, 1) := by decide +kernel
theorem dX7_whistleKinds_84 : decode cX7_whistleKinds 84 = .ok (.istore 4, 2) := by decide +kernel
theorem dX7_whistleKinds_86 : decode cX7_whistleKinds 86 = .ok (.iinc 5 3, 3) := by decide +kernel
theorem dX7_whistleKinds_89 : decode cX7_whistleKinds 89 = .ok (.goto (-74), 3) := by decide +kernel
theorem dX7_whistleKinds_92 : decode cX7_whistleKinds 92 = .ok (.iload_n 2, 1) := by decide +kernel
theorem dX7_whistleKinds_93 : decode cX7_whistleKinds 93 = .ok (.iload 4, 2) := by decide +kernel
theorem dX7_whistleKinds_95 : decode cX7_whistleKinds 95 = .ok (.ifCond .eq 9, 3) := by decide +kernel
theorem dX7_whistleKinds_98 : decode cX7_whistleKinds 98 = .ok (.iconst 1, 1) := by decide +kernel
theorem dX7_whistleKinds_99 : decode cX7_whistleKinds 99 = .ok (.iload_n 3, 1) := by decide +kernel
theorem dX7_whistleKinds_100 : decode cX7_whistleKinds 100 = .ok (.ishl, 1) := by decide +kernel
theorem dX7_whistleKinds_101 : decode cX7_whistleKinds 101 = .ok (.goto 4, 3) := by decide +kernel
theorem dX7_whistleKinds_104 : decode cX7_whistleKinds 104 = .ok (.iconst 0, 1) := by decide +kernel
theorem dX7_whistleKinds_105 : decode cX7_whistleKinds 105 = .ok (.ior, 1) := by decide +kernel
theorem dX7_whistleKinds_106 : decode cX7_whistleKinds 106 = .ok (.istore_n 2, 1) := by decide +kernel
theorem dX7_whistleKinds_107 : decode cX7_whistleKinds 107 = .ok (.iinc 3 1, 3) := by decide +kernel
theorem dX7_whistleKinds_110 : decode cX7_whistleKinds 110 = .ok (.goto (-106), 3) := by decide +kernel
theorem dX7_whistleKinds_113 : decode cX7_whistleKinds 113 = .ok (.iload_n 2, 1) := by decide +kernel
theorem dX7_whistleKinds_114 : decode cX7_whistleKinds 114 = .ok (.ireturn, 1) := by decide +kernel
theorem dX7_sheepKinds_0 : decode cX7_sheepKinds 0 = .ok (.iconst 0, 1) := by decide +kernel
theorem dX7_sheepKinds_1 : decode cX7_sheepKinds 1 = .ok (.istore_n 2, 1) := by decide +kernel
theorem dX7_sheepKinds_2 : decode cX7_sheepKinds 2 = .ok (.iconst 0, 1) := by decide +kernel
theorem dX7_sheepKinds_3 : decode cX7_sheepKinds 3 = .ok (.istore_n 3, 1) := by decide +kernel
theorem dX7_sheepKinds_4 : decode cX7_sheepKinds 4 = .ok (.iload_n 3, 1) := by decide +kernel
theorem dX7_sheepKinds_5 : decode cX7_sheepKinds 5 = .ok (.iconst 5, 1) := by decide +kernel
theorem dX7_sheepKinds_6 : decode cX7_sheepKinds 6 = .ok (.if_icmp .gt 107, 3) := by decide +kernel
theorem dX7_sheepKinds_9 : decode cX7_sheepKinds 9 = .ok (.iconst 1, 1) := by decide +kernel
theorem dX7_sheepKinds_10 : decode cX7_sheepKinds 10 = .ok (.istore 4, 2) := by decide +kernel
theorem dX7_sheepKinds_12 : decode cX7_sheepKinds 12 = .ok (.iconst 0, 1) := by decide +kernel
theorem dX7_sheepKinds_13 : decode cX7_sheepKinds 13 = .ok (.istore 5, 2) := by decide +kernel
theorem dX7_sheepKinds_15 : decode cX7_sheepKinds 15 = .ok (.iload 5, 2) := by decide +kernel
theorem dX7_sheepKinds_17 : decode cX7_sheepKinds 17 = .ok (.iconst 3, 1) := by decide +kernel
theorem dX7_sheepKinds_18 : decode cX7_sheepKinds 18 = .ok (.aload_n 0, 1) := by decide +kernel
theorem dX7_sheepKinds_19 : decode cX7_sheepKinds 19 = .ok (.getfield 89, 3) := by decide +kernel
theorem dX7_sheepKinds_22 : decode cX7_sheepKinds 22 = .ok (.imul, 1) := by decide +kernel
theorem dX7_sheepKinds_23 : decode cX7_sheepKinds 23 = .ok (.if_icmp .ge 69, 3) := by decide +kernel
theorem dX7_sheepKinds_26 : decode cX7_sheepKinds 26 = .ok (.iload_n 3, 1) := by decide +kernel
theorem dX7_sheepKinds_27 : decode cX7_sheepKinds 27 = .ok (.aload_n 0, 1) := by decide +kernel
theorem dX7_sheepKinds_28 : decode cX7_sheepKinds 28 = .ok (.getfield 35, 3) := by decide +kernel
theorem dX7_sheepKinds_31 : decode cX7_sheepKinds 31 = .ok (.iload 5, 2) := by decide +kernel
theorem dX7_sheepKinds_33 : decode cX7_sheepKinds 33 = .ok (.iconst 1, 1) := by decide +kernel
theorem dX7_sheepKinds_34 : decode cX7_sheepKinds 34 = .ok (.iadd, 1) := by decide +kernel
theorem dX7_sheepKinds_35 : decode cX7_sheepKinds 35 = .ok (.iaload, 1) := by decide +kernel
theorem dX7_sheepKinds_36 : decode cX7_sheepKinds 36 = .ok (.invokestatic 206, 3) := by decide +kernel
theorem dX7_sheepKinds_39 : decode cX7_sheepKinds 39 = .ok (.aload_n 0, 1) := by decide +kernel
theorem dX7_sheepKinds_40 : decode cX7_sheepKinds 40 = .ok (.getfield 35, 3) := by decide +kernel
theorem dX7_sheepKinds_43 : decode cX7_sheepKinds 43 = .ok (.iload 5, 2) := by decide +kernel
theorem dX7_sheepKinds_45 : decode cX7_sheepKinds 45 = .ok (.iconst 2, 1) := by decide +kernel
theorem dX7_sheepKinds_46 : decode cX7_sheepKinds 46 = .ok (.iadd, 1) := by decide +kernel
theorem dX7_sheepKinds_47 : decode cX7_sheepKinds 47 = .ok (.iaload, 1) := by decide +kernel
theorem dX7_sheepKinds_48 : decode cX7_sheepKinds 48 = .ok (.if_icmp .ne 7, 3) := by decide +kernel
theorem dX7_sheepKinds_51 : decode cX7_sheepKinds 51 = .ok (.iconst 1, 1) := by decide +kernel
theorem dX7_sheepKinds_52 : decode cX7_sheepKinds 52 = .ok (.goto 4, 3) := by decide +kernel
theorem dX7_sheepKinds_55 : decode cX7_sheepKinds 55 = .ok (.iconst 0, 1) := by decide +kernel
theorem dX7_sheepKinds_56 : decode cX7_sheepKinds 56 = .ok (.istore 6, 2) := by decide +kernel
theorem dX7_sheepKinds_58 : decode cX7_sheepKinds 58 = .ok (.iload 4, 2) := by decide +kernel
theorem dX7_sheepKinds_60 : decode cX7_sheepKinds 60 = .ok (.ifCond .eq 23, 3) := by decide +kernel
theorem dX7_sheepKinds_63 : decode cX7_sheepKinds 63 = .ok (.aload_n 0, 1) := by decide +kernel
theorem dX7_sheepKinds_64 : decode cX7_sheepKinds 64 = .ok (.getfield 35, 3) := by decide +kernel
theorem dX7_sheepKinds_67 : decode cX7_sheepKinds 67 = .ok (.iload 5, 2) := by decide +kernel
theorem dX7_sheepKinds_69 : decode cX7_sheepKinds 69 = .ok (.iaload, 1) := by decide +kernel
theorem dX7_sheepKinds_70 : decode cX7_sheepKinds 70 = .ok (.iload_n 1, 1) := by decide +kernel
theorem dX7_sheepKinds_71 : decode cX7_sheepKinds 71 = .ok (.if_icmp .ne 8, 3) := by decide +kernel
theorem dX7_sheepKinds_74 : decode cX7_sheepKinds 74 = .ok (.iload 6, 2) := by decide +kernel
theorem dX7_sheepKinds_76 : decode cX7_sheepKinds 76 = .ok (.ifCond .eq 7, 3) := by decide +kernel
theorem dX7_sheepKinds_79 : decode cX7_sheepKinds 79 = .ok (.iconst 1, 1) := by decide +kernel
theorem dX7_sheepKinds_80 : decode cX7_sheepKinds 80 = .ok (.goto 4, 3) := by decide +kernel
theorem dX7_sheepKinds_83 : decode cX7_sheepKinds 83 = .ok (.iconst 0, 1) := by decide +kernel
theorem dX7_sheepKinds_84 : decode cX7_sheepKinds 84 = .ok (.istore 4, 2) := by decide +kernel
theorem dX7_sheepKinds_86 : decode cX7_sheepKinds 86 = .ok (.iinc 5 3, 3) := by decide +kernel
theorem dX7_sheepKinds_89 : decode cX7_sheepKinds 89 = .ok (.goto (-74), 3) := by decide +kernel
theorem dX7_sheepKinds_92 : decode cX7_sheepKinds 92 = .ok (.iload_n 2, 1) := by decide +kernel
theorem dX7_sheepKinds_93 : decode cX7_sheepKinds 93 = .ok (.iload 4, 2) := by decide +kernel
theorem dX7_sheepKinds_95 : decode cX7_sheepKinds 95 = .ok (.ifCond .eq 9, 3) := by decide +kernel
theorem dX7_sheepKinds_98 : decode cX7_sheepKinds 98 = .ok (.iconst 1, 1) := by decide +kernel
theorem dX7_sheepKinds_99 : decode cX7_sheepKinds 99 = .ok (.iload_n 3, 1) := by decide +kernel
theorem dX7_sheepKinds_100 : decode cX7_sheepKinds 100 = .ok (.ishl, 1) := by decide +kernel
theorem dX7_sheepKinds_101 : decode cX7_sheepKinds 101 = .ok (.goto 4, 3) := by decide +kernel
theorem dX7_sheepKinds_104 : decode cX7_sheepKinds 104 = .ok (.iconst 0, 1) := by decide +kernel
theorem dX7_sheepKinds_105 : decode cX7_sheepKinds 105 = .ok (.ior, 1) := by decide +kernel
theorem dX7_sheepKinds_106 : decode cX7_sheepKinds 106 = .ok (.istore_n 2, 1) := by decide +kernel
theorem dX7_sheepKinds_107 : decode cX7_sheepKinds 107 = .ok (.iinc 3 1, 3) := by decide +kernel
theorem dX7_sheepKinds_110 : decode cX7_sheepKinds 110 = .ok (.goto (-106), 3) := by decide +kernel
theorem dX7_sheepKinds_113 : decode cX7_sheepKinds 113 = .ok (.iload_n 2, 1) := by decide +kernel
theorem dX7_sheepKinds_114 : decode cX7_sheepKinds 114 = .ok (.ireturn, 1) := by decide +kernel
theorem dX7_is_0 : decode cX7_is 0 = .ok (.aload_n 0, 1) := by decide +kernel
theorem dX7_is_1 : decode cX7_is 1 = .ok (.iload_n 1, 1) := by decide +kernel
theorem dX7_is_2 : decode cX7_is 2 = .ok (.invokevirtual 219, 3) := by decide +kernel
theorem dX7_is_5 : decode cX7_is 5 = .ok (.ifCond .eq 11, 3) := by decide +kernel
theorem dX7_is_8 : decode cX7_is 8 = .ok (.aload_n 0, 1) := by decide +kernel
theorem dX7_is_9 : decode cX7_is 9 = .ok (.iload_n 1, 1) := by decide +kernel
theorem dX7_is_10 : decode cX7_is 10 = .ok (.invokevirtual 258, 3) := by decide +kernel
theorem dX7_is_13 : decode cX7_is 13 = .ok (.goto 7, 3) := by decide +kernel
theorem dX7_is_16 : decode cX7_is 16 = .ok (.aload_n 0, 1) := by decide +kernel
theorem dX7_is_17 : decode cX7_is 17 = .ok (.invokevirtual 103, 3) := by decide +kernel
theorem dX7_is_20 : decode cX7_is 20 = .ok (.ireturn, 1) := by decide +kernel
theorem dX7_kinds_0 : decode cX7_kinds 0 = .ok (.aload_n 0, 1) := by decide +kernel
theorem dX7_kinds_1 : decode cX7_kinds 1 = .ok (.iload_n 1, 1) := by decide +kernel
theorem dX7_kinds_2 : decode cX7_kinds 2 = .ok (.invokevirtual 231, 3) := by decide +kernel
theorem dX7_kinds_5 : decode cX7_kinds 5 = .ok (.ifCond .eq 11, 3) := by decide +kernel
theorem dX7_kinds_8 : decode cX7_kinds 8 = .ok (.aload_n 0, 1) := by decide +kernel
theorem dX7_kinds_9 : decode cX7_kinds 9 = .ok (.iload_n 1, 1) := by decide +kernel
theorem dX7_kinds_10 : decode cX7_kinds 10 = .ok (.invokevirtual 261, 3) := by decide +kernel
theorem dX7_kinds_13 : decode cX7_kinds 13 = .ok (.goto 7, 3) := by decide +kernel
theorem dX7_kinds_16 : decode cX7_kinds 16 = .ok (.aload_n 0, 1) := by decide +kernel
theorem dX7_kinds_17 : decode cX7_kinds 17 = .ok (.invokevirtual 103, 3) := by decide +kernel
theorem dX7_kinds_20 : decode cX7_kinds 20 = .ok (.ireturn, 1) := by decide +kernel
theorem dX7_alike_0 : decode cX7_alike 0 = .ok (.iconst 0, 1) := by decide +kernel
theorem dX7_alike_1 : decode cX7_alike 1 = .ok (.istore_n 3, 1) := by decide +kernel
theorem dX7_alike_2 : decode cX7_alike 2 = .ok (.iconst 0, 1) := by decide +kernel
theorem dX7_alike_3 : decode cX7_alike 3 = .ok (.istore 4, 2) := by decide +kernel
theorem dX7_alike_5 : decode cX7_alike 5 = .ok (.iload 4, 2) := by decide +kernel
theorem dX7_alike_7 : decode cX7_alike 7 = .ok (.iconst 5, 1) := by decide +kernel
theorem dX7_alike_8 : decode cX7_alike 8 = .ok (.if_icmp .gt 111, 3) := by decide +kernel
theorem dX7_alike_11 : decode cX7_alike 11 = .ok (.iconst 0, 1) := by decide +kernel
theorem dX7_alike_12 : decode cX7_alike 12 = .ok (.istore 5, 2) := by decide +kernel
theorem dX7_alike_14 : decode cX7_alike 14 = .ok (.iload_n 1, 1) := by decide +kernel
theorem dX7_alike_15 : decode cX7_alike 15 = .ok (.ifCond .eq 12, 3) := by decide +kernel
theorem dX7_alike_18 : decode cX7_alike 18 = .ok (.iload 4, 2) := by decide +kernel
theorem dX7_alike_20 : decode cX7_alike 20 = .ok (.iload_n 2, 1) := by decide +kernel
theorem dX7_alike_21 : decode cX7_alike 21 = .ok (.invokestatic 196, 3) := by decide +kernel
theorem dX7_alike_24 : decode cX7_alike 24 = .ok (.goto 9, 3) := by decide +kernel
theorem dX7_alike_27 : decode cX7_alike 27 = .ok (.iload 4, 2) := by decide +kernel
theorem dX7_alike_29 : decode cX7_alike 29 = .ok (.iload_n 2, 1) := by decide +kernel
theorem dX7_alike_30 : decode cX7_alike 30 = .ok (.invokestatic 206, 3) := by decide +kernel
theorem dX7_alike_33 : decode cX7_alike 33 = .ok (.istore 6, 2) := by decide +kernel
theorem dX7_alike_35 : decode cX7_alike 35 = .ok (.iconst 0, 1) := by decide +kernel
theorem dX7_alike_36 : decode cX7_alike 36 = .ok (.istore 7, 2) := by decide +kernel
theorem dX7_alike_38 : decode cX7_alike 38 = .ok (.iload 7, 2) := by decide +kernel
theorem dX7_alike_40 : decode cX7_alike 40 = .ok (.iconst 5, 1) := by decide +kernel
theorem dX7_alike_41 : decode cX7_alike 41 = .ok (.if_icmp .gt 65, 3) := by decide +kernel
theorem dX7_alike_44 : decode cX7_alike 44 = .ok (.iload_n 1, 1) := by decide +kernel
theorem dX7_alike_45 : decode cX7_alike 45 = .ok (.ifCond .eq 12, 3) := by decide +kernel
theorem dX7_alike_48 : decode cX7_alike 48 = .ok (.iload 7, 2) := by decide +kernel
theorem dX7_alike_50 : decode cX7_alike 50 = .ok (.iload_n 2, 1) := by decide +kernel
theorem dX7_alike_51 : decode cX7_alike 51 = .ok (.invokestatic 196, 3) := by decide +kernel
theorem dX7_alike_54 : decode cX7_alike 54 = .ok (.goto 9, 3) := by decide +kernel
theorem dX7_alike_57 : decode cX7_alike 57 = .ok (.iload 7, 2) := by decide +kernel
theorem dX7_alike_59 : decode cX7_alike 59 = .ok (.iload_n 2, 1) := by decide +kernel
theorem dX7_alike_60 : decode cX7_alike 60 = .ok (.invokestatic 206, 3) := by decide +kernel
theorem dX7_alike_63 : decode cX7_alike 63 = .ok (.istore 8, 2) := by decide +kernel
theorem dX7_alike_65 : decode cX7_alike 65 = .ok (.iload 5, 2) := by decide +kernel
theorem dX7_alike_67 : decode cX7_alike 67 = .ok (.iload_n 0, 1) := by decide +kernel
theorem dX7_alike_68 : decode cX7_alike 68 = .ok (.iload 4, 2) := by decide +kernel
theorem dX7_alike_70 : decode cX7_alike 70 = .ok (.invokestatic 240, 3) := by decide +kernel
theorem dX7_alike_73 : decode cX7_alike 73 = .ok (.ifCond .eq 23, 3) := by decide +kernel
theorem dX7_alike_76 : decode cX7_alike 76 = .ok (.iload_n 0, 1) := by decide +kernel
theorem dX7_alike_77 : decode cX7_alike 77 = .ok (.iload 7, 2) := by decide +kernel
theorem dX7_alike_79 : decode cX7_alike 79 = .ok (.invokestatic 240, 3) := by decide +kernel
theorem dX7_alike_82 : decode cX7_alike 82 = .ok (.ifCond .eq 14, 3) := by decide +kernel
theorem dX7_alike_85 : decode cX7_alike 85 = .ok (.iload 6, 2) := by decide +kernel
theorem dX7_alike_87 : decode cX7_alike 87 = .ok (.iload 8, 2) := by decide +kernel
theorem dX7_alike_89 : decode cX7_alike 89 = .ok (.if_icmp .ne 7, 3) := by decide +kernel
theorem dX7_alike_92 : decode cX7_alike 92 = .ok (.iconst 1, 1) := by decide +kernel
theorem dX7_alike_93 : decode cX7_alike 93 = .ok (.goto 4, 3) := by decide +kernel
theorem dX7_alike_96 : decode cX7_alike 96 = .ok (.iconst 0, 1) := by decide +kernel
theorem dX7_alike_97 : decode cX7_alike 97 = .ok (.iadd, 1) := by decide +kernel
theorem dX7_alike_98 : decode cX7_alike 98 = .ok (.istore 5, 2) := by decide +kernel
theorem dX7_alike_100 : decode cX7_alike 100 = .ok (.iinc 7 1, 3) := by decide +kernel
theorem dX7_alike_103 : decode cX7_alike 103 = .ok (.goto (-65), 3) := by decide +kernel
theorem dX7_alike_106 : decode cX7_alike 106 = .ok (.iload_n 3, 1) := by decide +kernel
theorem dX7_alike_107 : decode cX7_alike 107 = .ok (.iload 5, 2) := by decide +kernel
theorem dX7_alike_109 : decode cX7_alike 109 = .ok (.invokestatic 190, 3) := by decide +kernel
theorem dX7_alike_112 : decode cX7_alike 112 = .ok (.istore_n 3, 1) := by decide +kernel
theorem dX7_alike_113 : decode cX7_alike 113 = .ok (.iinc 4 1, 3) := by decide +kernel
theorem dX7_alike_116 : decode cX7_alike 116 = .ok (.goto (-111), 3) := by decide +kernel
theorem dX7_alike_119 : decode cX7_alike 119 = .ok (.iload_n 3, 1) := by decide +kernel
theorem dX7_alike_120 : decode cX7_alike 120 = .ok (.ireturn, 1) := by decide +kernel
theorem dX7_parts_0 : decode cX7_parts 0 = .ok (.iconst (-1), 1) := by decide +kernel
theorem dX7_parts_1 : decode cX7_parts 1 = .ok (.istore_n 3, 1) := by decide +kernel
theorem dX7_parts_2 : decode cX7_parts 2 = .ok (.ldc 251, 2) := by decide +kernel
theorem dX7_parts_4 : decode cX7_parts 4 = .ok (.istore 4, 2) := by decide +kernel
theorem dX7_parts_6 : decode cX7_parts 6 = .ok (.iconst 0, 1) := by decide +kernel
theorem dX7_parts_7 : decode cX7_parts 7 = .ok (.istore 5, 2) := by decide +kernel
theorem dX7_parts_9 : decode cX7_parts 9 = .ok (.iload 5, 2) := by decide +kernel
theorem dX7_parts_11 : decode cX7_parts 11 = .ok (.iload_n 2, 1) := by decide +kernel
theorem dX7_parts_12 : decode cX7_parts 12 = .ok (.if_icmp .gt 45, 3) := by decide +kernel
theorem dX7_parts_15 : decode cX7_parts 15 = .ok (.iload_n 0, 1) := by decide +kernel
theorem dX7_parts_16 : decode cX7_parts 16 = .ok (.ifCond .eq 41, 3) := by decide +kernel
theorem dX7_parts_19 : decode cX7_parts 19 = .ok (.iload_n 0, 1) := by decide +kernel
theorem dX7_parts_20 : decode cX7_parts 20 = .ok (.iload_n 1, 1) := by decide +kernel
theorem dX7_parts_21 : decode cX7_parts 21 = .ok (.iload 5, 2) := by decide +kernel
theorem dX7_parts_23 : decode cX7_parts 23 = .ok (.invokestatic 264, 3) := by decide +kernel
theorem dX7_parts_26 : decode cX7_parts 26 = .ok (.istore 6, 2) := by decide +kernel
theorem dX7_parts_28 : decode cX7_parts 28 = .ok (.iload 6, 2) := by decide +kernel
theorem dX7_parts_30 : decode cX7_parts 30 = .ok (.iload 4, 2) := by decide +kernel
theorem dX7_parts_32 : decode cX7_parts 32 = .ok (.if_icmp .ge 8, 3) := by decide +kernel
theorem dX7_parts_35 : decode cX7_parts 35 = .ok (.iload 5, 2) := by decide +kernel
theorem dX7_parts_37 : decode cX7_parts 37 = .ok (.goto 4, 3) := by decide +kernel
theorem dX7_parts_40 : decode cX7_parts 40 = .ok (.iload_n 3, 1) := by decide +kernel
theorem dX7_parts_41 : decode cX7_parts 41 = .ok (.istore_n 3, 1) := by decide +kernel
theorem dX7_parts_42 : decode cX7_parts 42 = .ok (.iload 4, 2) := by decide +kernel
theorem dX7_parts_44 : decode cX7_parts 44 = .ok (.iload 6, 2) := by decide +kernel
theorem dX7_parts_46 : decode cX7_parts 46 = .ok (.invokestatic 158, 3) := by decide +kernel
theorem dX7_parts_49 : decode cX7_parts 49 = .ok (.istore 4, 2) := by decide +kernel
theorem dX7_parts_51 : decode cX7_parts 51 = .ok (.iinc 5 1, 3) := by decide +kernel
theorem dX7_parts_54 : decode cX7_parts 54 = .ok (.goto (-45), 3) := by decide +kernel
theorem dX7_parts_57 : decode cX7_parts 57 = .ok (.iload_n 3, 1) := by decide +kernel
theorem dX7_parts_58 : decode cX7_parts 58 = .ok (.ireturn, 1) := by decide +kernel
theorem dX7_look_0 : decode cX7_look 0 = .ok (.aload_n 0, 1) := by decide +kernel
theorem dX7_look_1 : decode cX7_look 1 = .ok (.iload_n 1, 1) := by decide +kernel
theorem dX7_look_2 : decode cX7_look 2 = .ok (.invokevirtual 219, 3) := by decide +kernel
theorem dX7_look_5 : decode cX7_look 5 = .ok (.ifCond .eq 17, 3) := by decide +kernel
theorem dX7_look_8 : decode cX7_look 8 = .ok (.aload_n 0, 1) := by decide +kernel
theorem dX7_look_9 : decode cX7_look 9 = .ok (.iload_n 1, 1) := by decide +kernel
theorem dX7_look_10 : decode cX7_look 10 = .ok (.invokevirtual 258, 3) := by decide +kernel
theorem dX7_look_13 : decode cX7_look 13 = .ok (.iconst 1, 1) := by decide +kernel
theorem dX7_look_14 : decode cX7_look 14 = .ok (.bipush 29, 2) := by decide +kernel
theorem dX7_look_16 : decode cX7_look 16 = .ok (.invokestatic 268, 3) := by decide +kernel
theorem dX7_look_19 : decode cX7_look 19 = .ok (.goto 7, 3) := by decide +kernel
theorem dX7_look_22 : decode cX7_look 22 = .ok (.aload_n 0, 1) := by decide +kernel
theorem dX7_look_23 : decode cX7_look 23 = .ok (.invokevirtual 103, 3) := by decide +kernel
theorem dX7_look_26 : decode cX7_look 26 = .ok (.ireturn, 1) := by decide +kernel
theorem dX7_ask_0 : decode cX7_ask 0 = .ok (.aload_n 0, 1) := by decide +kernel
theorem dX7_ask_1 : decode cX7_ask 1 = .ok (.iload_n 1, 1) := by decide +kernel
theorem dX7_ask_2 : decode cX7_ask 2 = .ok (.invokevirtual 231, 3) := by decide +kernel
theorem dX7_ask_5 : decode cX7_ask 5 = .ok (.ifCond .eq 17, 3) := by decide +kernel
theorem dX7_ask_8 : decode cX7_ask 8 = .ok (.aload_n 0, 1) := by decide +kernel
theorem dX7_ask_9 : decode cX7_ask 9 = .ok (.iload_n 1, 1) := by decide +kernel
theorem dX7_ask_10 : decode cX7_ask 10 = .ok (.invokevirtual 261, 3) := by decide +kernel
theorem dX7_ask_13 : decode cX7_ask 13 = .ok (.iconst 0, 1) := by decide +kernel
theorem dX7_ask_14 : decode cX7_ask 14 = .ok (.bipush 8, 2) := by decide +kernel
theorem dX7_ask_16 : decode cX7_ask 16 = .ok (.invokestatic 268, 3) := by decide +kernel
theorem dX7_ask_19 : decode cX7_ask 19 = .ok (.goto 7, 3) := by decide +kernel
theorem dX7_ask_22 : decode cX7_ask 22 = .ok (.aload_n 0, 1) := by decide +kernel
theorem dX7_ask_23 : decode cX7_ask 23 = .ok (.invokevirtual 103, 3) := by decide +kernel
theorem dX7_ask_26 : decode cX7_ask 26 = .ok (.ireturn, 1) := by decide +kernel
theorem dX7_foldedBy_0 : decode cX7_foldedBy 0 = .ok (.aload_n 0, 1) := by decide +kernel
theorem dX7_foldedBy_1 : decode cX7_foldedBy 1 = .ok (.aload_n 0, 1) := by decide +kernel
theorem dX7_foldedBy_2 : decode cX7_foldedBy 2 = .ok (.getfield 47, 3) := by decide +kernel
theorem dX7_foldedBy_5 : decode cX7_foldedBy 5 = .ok (.bipush 11, 2) := by decide +kernel
theorem dX7_foldedBy_7 : decode cX7_foldedBy 7 = .ok (.invokevirtual 216, 3) := by decide +kernel
theorem dX7_foldedBy_10 : decode cX7_foldedBy 10 = .ok (.aload_n 0, 1) := by decide +kernel
theorem dX7_foldedBy_11 : decode cX7_foldedBy 11 = .ok (.iload_n 1, 1) := by decide +kernel
theorem dX7_foldedBy_12 : decode cX7_foldedBy 12 = .ok (.iload_n 3, 1) := by decide +kernel
theorem dX7_foldedBy_13 : decode cX7_foldedBy 13 = .ok (.invokevirtual 155, 3) := by decide +kernel
theorem dX7_foldedBy_16 : decode cX7_foldedBy 16 = .ok (.pop, 1) := by decide +kernel
theorem dX7_foldedBy_17 : decode cX7_foldedBy 17 = .ok (.aload_n 0, 1) := by decide +kernel
theorem dX7_foldedBy_18 : decode cX7_foldedBy 18 = .ok (.iload_n 2, 1) := by decide +kernel
theorem dX7_foldedBy_19 : decode cX7_foldedBy 19 = .ok (.iload 4, 2) := by decide +kernel
theorem dX7_foldedBy_21 : decode cX7_foldedBy 21 = .ok (.invokevirtual 155, 3) := by decide +kernel
theorem dX7_foldedBy_24 : decode cX7_foldedBy 24 = .ok (.pop, 1) := by decide +kernel
theorem dX7_foldedBy_25 : decode cX7_foldedBy 25 = .ok (.aload_n 0, 1) := by decide +kernel
theorem dX7_foldedBy_26 : decode cX7_foldedBy 26 = .ok (.invokevirtual 252, 3) := by decide +kernel
theorem dX7_foldedBy_29 : decode cX7_foldedBy 29 = .ok (.istore 5, 2) := by decide +kernel
theorem dX7_foldedBy_31 : decode cX7_foldedBy 31 = .ok (.aload_n 0, 1) := by decide +kernel
theorem dX7_foldedBy_32 : decode cX7_foldedBy 32 = .ok (.aload_n 0, 1) := by decide +kernel
theorem dX7_foldedBy_33 : decode cX7_foldedBy 33 = .ok (.getfield 47, 3) := by decide +kernel
theorem dX7_foldedBy_36 : decode cX7_foldedBy 36 = .ok (.bipush 11, 2) := by decide +kernel
theorem dX7_foldedBy_38 : decode cX7_foldedBy 38 = .ok (.invokevirtual 228, 3) := by decide +kernel
theorem dX7_foldedBy_41 : decode cX7_foldedBy 41 = .ok (.iload 5, 2) := by decide +kernel
theorem dX7_foldedBy_43 : decode cX7_foldedBy 43 = .ok (.ireturn, 1) := by decide +kernel
theorem dX7_firstGets_0 : decode cX7_firstGets 0 = .ok (.aload_n 0, 1) := by decide +kernel
theorem dX7_firstGets_1 : decode cX7_firstGets 1 = .ok (.getfield 53, 3) := by decide +kernel
theorem dX7_firstGets_4 : decode cX7_firstGets 4 = .ok (.iconst 5, 1) := by decide +kernel
theorem dX7_firstGets_5 : decode cX7_firstGets 5 = .ok (.iload_n 1, 1) := by decide +kernel
theorem dX7_firstGets_6 : decode cX7_firstGets 6 = .ok (.imul, 1) := by decide +kernel
theorem dX7_firstGets_7 : decode cX7_firstGets 7 = .ok (.iload_n 2, 1) := by decide +kernel
theorem dX7_firstGets_8 : decode cX7_firstGets 8 = .ok (.iadd, 1) := by decide +kernel
theorem dX7_firstGets_9 : decode cX7_firstGets 9 = .ok (.iaload, 1) := by decide +kernel
theorem dX7_firstGets_10 : decode cX7_firstGets 10 = .ok (.iload_n 1, 1) := by decide +kernel
theorem dX7_firstGets_11 : decode cX7_firstGets 11 = .ok (.iconst 4, 1) := by decide +kernel
theorem dX7_firstGets_12 : decode cX7_firstGets 12 = .ok (.if_icmp .ne 7, 3) := by decide +kernel
theorem dX7_firstGets_15 : decode cX7_firstGets 15 = .ok (.iconst 0, 1) := by decide +kernel
theorem dX7_firstGets_16 : decode cX7_firstGets 16 = .ok (.goto 4, 3) := by decide +kernel
theorem dX7_firstGets_19 : decode cX7_firstGets 19 = .ok (.iconst 1, 1) := by decide +kernel
theorem dX7_firstGets_20 : decode cX7_firstGets 20 = .ok (.isub, 1) := by decide +kernel
theorem dX7_firstGets_21 : decode cX7_firstGets 21 = .ok (.ireturn, 1) := by decide +kernel
theorem dX7_secondGets_0 : decode cX7_secondGets 0 = .ok (.aload_n 0, 1) := by decide +kernel
theorem dX7_secondGets_1 : decode cX7_secondGets 1 = .ok (.getfield 74, 3) := by decide +kernel
theorem dX7_secondGets_4 : decode cX7_secondGets 4 = .ok (.aload_n 0, 1) := by decide +kernel
theorem dX7_secondGets_5 : decode cX7_secondGets 5 = .ok (.getfield 53, 3) := by decide +kernel
theorem dX7_secondGets_8 : decode cX7_secondGets 8 = .ok (.iconst 5, 1) := by decide +kernel
theorem dX7_secondGets_9 : decode cX7_secondGets 9 = .ok (.iload_n 1, 1) := by decide +kernel
theorem dX7_secondGets_10 : decode cX7_secondGets 10 = .ok (.imul, 1) := by decide +kernel
theorem dX7_secondGets_11 : decode cX7_secondGets 11 = .ok (.iload_n 2, 1) := by decide +kernel
theorem dX7_secondGets_12 : decode cX7_secondGets 12 = .ok (.iadd, 1) := by decide +kernel
theorem dX7_secondGets_13 : decode cX7_secondGets 13 = .ok (.iaload, 1) := by decide +kernel
theorem dX7_secondGets_14 : decode cX7_secondGets 14 = .ok (.isub, 1) := by decide +kernel
theorem dX7_secondGets_15 : decode cX7_secondGets 15 = .ok (.iload_n 2, 1) := by decide +kernel
theorem dX7_secondGets_16 : decode cX7_secondGets 16 = .ok (.iconst 4, 1) := by decide +kernel
theorem dX7_secondGets_17 : decode cX7_secondGets 17 = .ok (.if_icmp .ne 7, 3) := by decide +kernel
theorem dX7_secondGets_20 : decode cX7_secondGets 20 = .ok (.iconst 0, 1) := by decide +kernel
theorem dX7_secondGets_21 : decode cX7_secondGets 21 = .ok (.goto 4, 3) := by decide +kernel
theorem dX7_secondGets_24 : decode cX7_secondGets 24 = .ok (.iconst 1, 1) := by decide +kernel
theorem dX7_secondGets_25 : decode cX7_secondGets 25 = .ok (.isub, 1) := by decide +kernel
theorem dX7_secondGets_26 : decode cX7_secondGets 26 = .ok (.ireturn, 1) := by decide +kernel
theorem dX7_rests_0 : decode cX7_rests 0 = .ok (.iconst 1, 1) := by decide +kernel
theorem dX7_rests_1 : decode cX7_rests 1 = .ok (.istore_n 3, 1) := by decide +kernel
theorem dX7_rests_2 : decode cX7_rests 2 = .ok (.iconst 0, 1) := by decide +kernel
theorem dX7_rests_3 : decode cX7_rests 3 = .ok (.istore 4, 2) := by decide +kernel
theorem dX7_rests_5 : decode cX7_rests 5 = .ok (.iload 4, 2) := by decide +kernel
theorem dX7_rests_7 : decode cX7_rests 7 = .ok (.iconst 5, 1) := by decide +kernel
theorem dX7_rests_8 : decode cX7_rests 8 = .ok (.if_icmp .ge 51, 3) := by decide +kernel
theorem dX7_rests_11 : decode cX7_rests 11 = .ok (.iload_n 3, 1) := by decide +kernel
theorem dX7_rests_12 : decode cX7_rests 12 = .ok (.ifCond .eq 39, 3) := by decide +kernel
theorem dX7_rests_15 : decode cX7_rests 15 = .ok (.aload_n 0, 1) := by decide +kernel
theorem dX7_rests_16 : decode cX7_rests 16 = .ok (.iload_n 1, 1) := by decide +kernel
theorem dX7_rests_17 : decode cX7_rests 17 = .ok (.iload_n 2, 1) := by decide +kernel
theorem dX7_rests_18 : decode cX7_rests 18 = .ok (.invokevirtual 271, 3) := by decide +kernel
theorem dX7_rests_21 : decode cX7_rests 21 = .ok (.aload_n 0, 1) := by decide +kernel
theorem dX7_rests_22 : decode cX7_rests 22 = .ok (.iload 4, 2) := by decide +kernel
theorem dX7_rests_24 : decode cX7_rests 24 = .ok (.iload_n 2, 1) := by decide +kernel
theorem dX7_rests_25 : decode cX7_rests 25 = .ok (.invokevirtual 271, 3) := by decide +kernel
theorem dX7_rests_28 : decode cX7_rests 28 = .ok (.if_icmp .lt 23, 3) := by decide +kernel
theorem dX7_rests_31 : decode cX7_rests 31 = .ok (.aload_n 0, 1) := by decide +kernel
theorem dX7_rests_32 : decode cX7_rests 32 = .ok (.iload_n 1, 1) := by decide +kernel
theorem dX7_rests_33 : decode cX7_rests 33 = .ok (.iload_n 2, 1) := by decide +kernel
theorem dX7_rests_34 : decode cX7_rests 34 = .ok (.invokevirtual 274, 3) := by decide +kernel
theorem dX7_rests_37 : decode cX7_rests 37 = .ok (.aload_n 0, 1) := by decide +kernel
theorem dX7_rests_38 : decode cX7_rests 38 = .ok (.iload_n 1, 1) := by decide +kernel
theorem dX7_rests_39 : decode cX7_rests 39 = .ok (.iload 4, 2) := by decide +kernel
theorem dX7_rests_41 : decode cX7_rests 41 = .ok (.invokevirtual 274, 3) := by decide +kernel
theorem dX7_rests_44 : decode cX7_rests 44 = .ok (.if_icmp .lt 7, 3) := by decide +kernel
theorem dX7_rests_47 : decode cX7_rests 47 = .ok (.iconst 1, 1) := by decide +kernel
theorem dX7_rests_48 : decode cX7_rests 48 = .ok (.goto 4, 3) := by decide +kernel
theorem dX7_rests_51 : decode cX7_rests 51 = .ok (.iconst 0, 1) := by decide +kernel
theorem dX7_rests_52 : decode cX7_rests 52 = .ok (.istore_n 3, 1) := by decide +kernel
theorem dX7_rests_53 : decode cX7_rests 53 = .ok (.iinc 4 1, 3) := by decide +kernel
theorem dX7_rests_56 : decode cX7_rests 56 = .ok (.goto (-51), 3) := by decide +kernel
theorem dX7_rests_59 : decode cX7_rests 59 = .ok (.iload_n 3, 1) := by decide +kernel
theorem dX7_rests_60 : decode cX7_rests 60 = .ok (.ireturn, 1) := by decide +kernel
theorem dX7_shepherds_0 : decode cX7_shepherds 0 = .ok (.aload_n 0, 1) := by decide +kernel
theorem dX7_shepherds_1 : decode cX7_shepherds 1 = .ok (.iload_n 1, 1) := by decide +kernel
theorem dX7_shepherds_2 : decode cX7_shepherds 2 = .ok (.invokevirtual 219, 3) := by decide +kernel
theorem dX7_shepherds_5 : decode cX7_shepherds 5 = .ok (.ifCond .eq 21, 3) := by decide +kernel
theorem dX7_shepherds_8 : decode cX7_shepherds 8 = .ok (.aload_n 0, 1) := by decide +kernel
theorem dX7_shepherds_9 : decode cX7_shepherds 9 = .ok (.iload_n 2, 1) := by decide +kernel
theorem dX7_shepherds_10 : decode cX7_shepherds 10 = .ok (.invokevirtual 219, 3) := by decide +kernel
theorem dX7_shepherds_13 : decode cX7_shepherds 13 = .ok (.ifCond .eq 13, 3) := by decide +kernel
theorem dX7_shepherds_16 : decode cX7_shepherds 16 = .ok (.iload_n 1, 1) := by decide +kernel
theorem dX7_shepherds_17 : decode cX7_shepherds 17 = .ok (.iload_n 2, 1) := by decide +kernel
theorem dX7_shepherds_18 : decode cX7_shepherds 18 = .ok (.if_icmp .eq 8, 3) := by decide +kernel
theorem dX7_shepherds_21 : decode cX7_shepherds 21 = .ok (.iload_n 3, 1) := by decide +kernel
theorem dX7_shepherds_22 : decode cX7_shepherds 22 = .ok (.iconst (-1), 1) := by decide +kernel
theorem dX7_shepherds_23 : decode cX7_shepherds 23 = .ok (.if_icmp .ge 11, 3) := by decide +kernel
theorem dX7_shepherds_26 : decode cX7_shepherds 26 = .ok (.aload_n 0, 1) := by decide +kernel
theorem dX7_shepherds_27 : decode cX7_shepherds 27 = .ok (.invokevirtual 103, 3) := by decide +kernel
theorem dX7_shepherds_30 : decode cX7_shepherds 30 = .ok (.pop, 1) := by decide +kernel
theorem dX7_shepherds_31 : decode cX7_shepherds 31 = .ok (.bipush (-10), 2) := by decide +kernel
theorem dX7_shepherds_33 : decode cX7_shepherds 33 = .ok (.ireturn, 1) := by decide +kernel
theorem dX7_shepherds_34 : decode cX7_shepherds 34 = .ok (.iconst 0, 1) := by decide +kernel
theorem dX7_shepherds_35 : decode cX7_shepherds 35 = .ok (.istore 4, 2) := by decide +kernel
theorem dX7_shepherds_37 : decode cX7_shepherds 37 = .ok (.iload 4, 2) := by decide +kernel
theorem dX7_shepherds_39 : decode cX7_shepherds 39 = .ok (.bipush 25, 2) := by decide +kernel
theorem dX7_shepherds_41 : decode cX7_shepherds 41 = .ok (.if_icmp .ge 30, 3) := by decide +kernel
theorem dX7_shepherds_44 : decode cX7_shepherds 44 = .ok (.aload_n 0, 1) := by decide +kernel
theorem dX7_shepherds_45 : decode cX7_shepherds 45 = .ok (.getfield 53, 3) := by decide +kernel
theorem dX7_shepherds_48 : decode cX7_shepherds 48 = .ok (.iload 4, 2) := by decide +kernel
theorem dX7_shepherds_50 : decode cX7_shepherds 50 = .ok (.aload_n 0, 1) := by decide +kernel
theorem dX7_shepherds_51 : decode cX7_shepherds 51 = .ok (.iload_n 1, 1) := by decide +kernel
theorem dX7_shepherds_52 : decode cX7_shepherds 52 = .ok (.iload_n 2, 1) := by decide +kernel
theorem dX7_shepherds_53 : decode cX7_shepherds 53 = .ok (.iload 4, 2) := by decide +kernel
theorem dX7_shepherds_55 : decode cX7_shepherds 55 = .ok (.iconst 5, 1) := by decide +kernel
theorem dX7_shepherds_56 : decode cX7_shepherds 56 = .ok (.idiv, 1) := by decide +kernel
theorem dX7_shepherds_57 : decode cX7_shepherds 57 = .ok (.iload 4, 2) := by decide +kernel
theorem dX7_shepherds_59 : decode cX7_shepherds 59 = .ok (.iconst 5, 1) := by decide +kernel
theorem dX7_shepherds_60 : decode cX7_shepherds 60 = .ok (.irem, 1) := by decide +kernel
theorem dX7_shepherds_61 : decode cX7_shepherds 61 = .ok (.invokevirtual 277, 3) := by decide +kernel
theorem dX7_shepherds_64 : decode cX7_shepherds 64 = .ok (.iastore, 1) := by decide +kernel
theorem dX7_shepherds_65 : decode cX7_shepherds 65 = .ok (.iinc 4 1, 3) := by decide +kernel
theorem dX7_shepherds_68 : decode cX7_shepherds 68 = .ok (.goto (-31), 3) := by decide +kernel
theorem dX7_shepherds_71 : decode cX7_shepherds 71 = .ok (.iconst 0, 1) := by decide +kernel
theorem dX7_shepherds_72 : decode cX7_shepherds 72 = .ok (.istore 4, 2) := by decide +kernel
theorem dX7_shepherds_74 : decode cX7_shepherds 74 = .ok (.bipush (-5), 2) := by decide +kernel
theorem dX7_shepherds_76 : decode cX7_shepherds 76 = .ok (.istore 5, 2) := by decide +kernel
theorem dX7_shepherds_78 : decode cX7_shepherds 78 = .ok (.iconst 0, 1) := by decide +kernel
theorem dX7_shepherds_79 : decode cX7_shepherds 79 = .ok (.istore 6, 2) := by decide +kernel
theorem dX7_shepherds_81 : decode cX7_shepherds 81 = .ok (.iload 6, 2) := by decide +kernel
theorem dX7_shepherds_83 : decode cX7_shepherds 83 = .ok (.bipush 25, 2) := by decide +kernel
theorem dX7_shepherds_85 : decode cX7_shepherds 85 = .ok (.if_icmp .ge 52, 3) := by decide +kernel
theorem dX7_shepherds_88 : decode cX7_shepherds 88 = .ok (.aload_n 0, 1) := by decide +kernel
theorem dX7_shepherds_89 : decode cX7_shepherds 89 = .ok (.iload 6, 2) := by decide +kernel
theorem dX7_shepherds_91 : decode cX7_shepherds 91 = .ok (.iconst 5, 1) := by decide +kernel
theorem dX7_shepherds_92 : decode cX7_shepherds 92 = .ok (.idiv, 1) := by decide +kernel
theorem dX7_shepherds_93 : decode cX7_shepherds 93 = .ok (.iload 6, 2) := by decide +kernel
theorem dX7_shepherds_95 : decode cX7_shepherds 95 = .ok (.iconst 5, 1) := by decide +kernel
theorem dX7_shepherds_96 : decode cX7_shepherds 96 = .ok (.irem, 1) := by decide +kernel
theorem dX7_shepherds_97 : decode cX7_shepherds 97 = .ok (.invokevirtual 280, 3) := by decide +kernel
theorem dX7_shepherds_100 : decode cX7_shepherds 100 = .ok (.ifCond .eq 31, 3) := by decide +kernel
theorem dX7_shepherds_103 : decode cX7_shepherds 103 = .ok (.iload 4, 2) := by decide +kernel
theorem dX7_shepherds_105 : decode cX7_shepherds 105 = .ok (.iload_n 3, 1) := by decide +kernel
theorem dX7_shepherds_106 : decode cX7_shepherds 106 = .ok (.if_icmp .ne 18, 3) := by decide +kernel
theorem dX7_shepherds_109 : decode cX7_shepherds 109 = .ok (.bipush 10, 2) := by decide +kernel
theorem dX7_shepherds_111 : decode cX7_shepherds 111 = .ok (.iload 6, 2) := by decide +kernel
theorem dX7_shepherds_113 : decode cX7_shepherds 113 = .ok (.iconst 5, 1) := by decide +kernel
theorem dX7_shepherds_114 : decode cX7_shepherds 114 = .ok (.idiv, 1) := by decide +kernel
theorem dX7_shepherds_115 : decode cX7_shepherds 115 = .ok (.imul, 1) := by decide +kernel
theorem dX7_shepherds_116 : decode cX7_shepherds 116 = .ok (.iload 6, 2) := by decide +kernel
theorem dX7_shepherds_118 : decode cX7_shepherds 118 = .ok (.iconst 5, 1) := by decide +kernel
theorem dX7_shepherds_119 : decode cX7_shepherds 119 = .ok (.irem, 1) := by decide +kernel
theorem dX7_shepherds_120 : decode cX7_shepherds 120 = .ok (.iadd, 1) := by decide +kernel
theorem dX7_shepherds_121 : decode cX7_shepherds 121 = .ok (.goto 5, 3) := by decide +kernel
theorem dX7_shepherds_124 : decode cX7_shepherds 124 = .ok (.iload 5, 2) := by decide +kernel
theorem dX7_shepherds_126 : decode cX7_shepherds 126 = .ok (.istore 5, 2) := by decide +kernel
theorem dX7_shepherds_128 : decode cX7_shepherds 128 = .ok (.iinc 4 1, 3) := by decide +kernel
theorem dX7_shepherds_131 : decode cX7_shepherds 131 = .ok (.iinc 6 1, 3) := by decide +kernel
theorem dX7_shepherds_134 : decode cX7_shepherds 134 = .ok (.goto (-53), 3) := by decide +kernel
theorem dX7_shepherds_137 : decode cX7_shepherds 137 = .ok (.iload_n 3, 1) := by decide +kernel
theorem dX7_shepherds_138 : decode cX7_shepherds 138 = .ok (.iconst (-1), 1) := by decide +kernel
theorem dX7_shepherds_139 : decode cX7_shepherds 139 = .ok (.if_icmp .ne 8, 3) := by decide +kernel
theorem dX7_shepherds_142 : decode cX7_shepherds 142 = .ok (.iload 4, 2) := by decide +kernel
theorem dX7_shepherds_144 : decode cX7_shepherds 144 = .ok (.goto 5, 3) := by decide +kernel
theorem dX7_shepherds_147 : decode cX7_shepherds 147 = .ok (.iload 5, 2) := by decide +kernel
theorem dX7_shepherds_149 : decode cX7_shepherds 149 = .ok (.ireturn, 1) := by decide +kernel
theorem dX7_lay_0 : decode cX7_lay 0 = .ok (.lload_n 1, 1) := by decide +kernel
theorem dX7_lay_1 : decode cX7_lay 1 = .ok (.lstore 5, 2) := by decide +kernel
theorem dX7_lay_3 : decode cX7_lay 3 = .ok (.lload_n 3, 1) := by decide +kernel
theorem dX7_lay_4 : decode cX7_lay 4 = .ok (.lstore 7, 2) := by decide +kernel
theorem dX7_lay_6 : decode cX7_lay 6 = .ok (.lload 7, 2) := by decide +kernel
theorem dX7_lay_8 : decode cX7_lay 8 = .ok (.lconst 0, 1) := by decide +kernel
theorem dX7_lay_9 : decode cX7_lay 9 = .ok (.lcmp, 1) := by decide +kernel
theorem dX7_lay_10 : decode cX7_lay 10 = .ok (.ifCond .eq 21, 3) := by decide +kernel
theorem dX7_lay_13 : decode cX7_lay 13 = .ok (.lload 5, 2) := by decide +kernel
theorem dX7_lay_15 : decode cX7_lay 15 = .ok (.lload 7, 2) := by decide +kernel
theorem dX7_lay_17 : decode cX7_lay 17 = .ok (.lrem, 1) := by decide +kernel
theorem dX7_lay_18 : decode cX7_lay 18 = .ok (.lstore 9, 2) := by decide +kernel
theorem dX7_lay_20 : decode cX7_lay 20 = .ok (.lload 7, 2) := by decide +kernel
theorem dX7_lay_22 : decode cX7_lay 22 = .ok (.lstore 5, 2) := by decide +kernel
theorem dX7_lay_24 : decode cX7_lay 24 = .ok (.lload 9, 2) := by decide +kernel
theorem dX7_lay_26 : decode cX7_lay 26 = .ok (.lstore 7, 2) := by decide +kernel
theorem dX7_lay_28 : decode cX7_lay 28 = .ok (.goto (-22), 3) := by decide +kernel
theorem dX7_lay_31 : decode cX7_lay 31 = .ok (.aload_n 0, 1) := by decide +kernel
theorem dX7_lay_32 : decode cX7_lay 32 = .ok (.lload_n 1, 1) := by decide +kernel
theorem dX7_lay_33 : decode cX7_lay 33 = .ok (.lload 5, 2) := by decide +kernel
theorem dX7_lay_35 : decode cX7_lay 35 = .ok (.ldiv, 1) := by decide +kernel
theorem dX7_lay_36 : decode cX7_lay 36 = .ok (.putfield 283, 3) := by decide +kernel
theorem dX7_lay_39 : decode cX7_lay 39 = .ok (.aload_n 0, 1) := by decide +kernel
theorem dX7_lay_40 : decode cX7_lay 40 = .ok (.lload_n 3, 1) := by decide +kernel
theorem dX7_lay_41 : decode cX7_lay 41 = .ok (.lload 5, 2) := by decide +kernel
theorem dX7_lay_43 : decode cX7_lay 43 = .ok (.ldiv, 1) := by decide +kernel
theorem dX7_lay_44 : decode cX7_lay 44 = .ok (.putfield 56, 3) := by decide +kernel
theorem dX7_lay_47 : decode cX7_lay 47 = .ok (.return_, 1) := by decide +kernel
theorem dX7_misheard_0 : decode cX7_misheard 0 = .ok (.aload_n 0, 1) := by decide +kernel
theorem dX7_misheard_1 : decode cX7_misheard 1 = .ok (.iload_n 1, 1) := by decide +kernel
theorem dX7_misheard_2 : decode cX7_misheard 2 = .ok (.invokevirtual 231, 3) := by decide +kernel
theorem dX7_misheard_5 : decode cX7_misheard 5 = .ok (.ifCond .eq 37, 3) := by decide +kernel
theorem dX7_misheard_8 : decode cX7_misheard 8 = .ok (.aload_n 0, 1) := by decide +kernel
theorem dX7_misheard_9 : decode cX7_misheard 9 = .ok (.iload_n 2, 1) := by decide +kernel
theorem dX7_misheard_10 : decode cX7_misheard 10 = .ok (.invokevirtual 219, 3) := by decide +kernel
theorem dX7_misheard_13 : decode cX7_misheard 13 = .ok (.ifCond .eq 29, 3) := by decide +kernel
theorem dX7_misheard_16 : decode cX7_misheard 16 = .ok (.iload_n 3, 1) := by decide +kernel
theorem dX7_misheard_17 : decode cX7_misheard 17 = .ok (.invokestatic 222, 3) := by decide +kernel
theorem dX7_misheard_20 : decode cX7_misheard 20 = .ok (.ifCond .eq 22, 3) := by decide +kernel
theorem dX7_misheard_23 : decode cX7_misheard 23 = .ok (.iload 4, 2) := by decide +kernel
theorem dX7_misheard_25 : decode cX7_misheard 25 = .ok (.invokestatic 222, 3) := by decide +kernel
theorem dX7_misheard_28 : decode cX7_misheard 28 = .ok (.ifCond .eq 14, 3) := by decide +kernel
theorem dX7_misheard_31 : decode cX7_misheard 31 = .ok (.iload 5, 2) := by decide +kernel
theorem dX7_misheard_33 : decode cX7_misheard 33 = .ok (.iconst 0, 1) := by decide +kernel
theorem dX7_misheard_34 : decode cX7_misheard 34 = .ok (.bipush 10, 2) := by decide +kernel
theorem dX7_misheard_36 : decode cX7_misheard 36 = .ok (.invokestatic 95, 3) := by decide +kernel
theorem dX7_misheard_39 : decode cX7_misheard 39 = .ok (.ifCond .ne 8, 3) := by decide +kernel
theorem dX7_misheard_42 : decode cX7_misheard 42 = .ok (.aload_n 0, 1) := by decide +kernel
theorem dX7_misheard_43 : decode cX7_misheard 43 = .ok (.invokevirtual 103, 3) := by decide +kernel
theorem dX7_misheard_46 : decode cX7_misheard 46 = .ok (.ireturn, 1) := by decide +kernel
theorem dX7_misheard_47 : decode cX7_misheard 47 = .ok (.lconst 0, 1) := by decide +kernel
theorem dX7_misheard_48 : decode cX7_misheard 48 = .ok (.lstore 6, 2) := by decide +kernel
theorem dX7_misheard_50 : decode cX7_misheard 50 = .ok (.iconst 0, 1) := by decide +kernel
theorem dX7_misheard_51 : decode cX7_misheard 51 = .ok (.istore 8, 2) := by decide +kernel
theorem dX7_misheard_53 : decode cX7_misheard 53 = .ok (.iload 8, 2) := by decide +kernel
theorem dX7_misheard_55 : decode cX7_misheard 55 = .ok (.iconst 4, 1) := by decide +kernel
theorem dX7_misheard_56 : decode cX7_misheard 56 = .ok (.if_icmp .ge 144, 3) := by decide +kernel
theorem dX7_misheard_59 : decode cX7_misheard 59 = .ok (.aload_n 0, 1) := by decide +kernel
theorem dX7_misheard_60 : decode cX7_misheard 60 = .ok (.iload_n 2, 1) := by decide +kernel
theorem dX7_misheard_61 : decode cX7_misheard 61 = .ok (.aload_n 0, 1) := by decide +kernel
theorem dX7_misheard_62 : decode cX7_misheard 62 = .ok (.getfield 20, 3) := by decide +kernel
theorem dX7_misheard_65 : decode cX7_misheard 65 = .ok (.iload_n 2, 1) := by decide +kernel
theorem dX7_misheard_66 : decode cX7_misheard 66 = .ok (.iaload, 1) := by decide +kernel
theorem dX7_misheard_67 : decode cX7_misheard 67 = .ok (.iload_n 3, 1) := by decide +kernel
theorem dX7_misheard_68 : decode cX7_misheard 68 = .ok (.iload 8, 2) := by decide +kernel
theorem dX7_misheard_70 : decode cX7_misheard 70 = .ok (.iconst 2, 1) := by decide +kernel
theorem dX7_misheard_71 : decode cX7_misheard 71 = .ok (.irem, 1) := by decide +kernel
theorem dX7_misheard_72 : decode cX7_misheard 72 = .ok (.iadd, 1) := by decide +kernel
theorem dX7_misheard_73 : decode cX7_misheard 73 = .ok (.iconst 5, 1) := by decide +kernel
theorem dX7_misheard_74 : decode cX7_misheard 74 = .ok (.irem, 1) := by decide +kernel
theorem dX7_misheard_75 : decode cX7_misheard 75 = .ok (.aload_n 0, 1) := by decide +kernel
theorem dX7_misheard_76 : decode cX7_misheard 76 = .ok (.getfield 80, 3) := by decide +kernel
theorem dX7_misheard_79 : decode cX7_misheard 79 = .ok (.invokevirtual 209, 3) := by decide +kernel
theorem dX7_misheard_82 : decode cX7_misheard 82 = .ok (.istore 9, 2) := by decide +kernel
theorem dX7_misheard_84 : decode cX7_misheard 84 = .ok (.aload_n 0, 1) := by decide +kernel
theorem dX7_misheard_85 : decode cX7_misheard 85 = .ok (.iload_n 1, 1) := by decide +kernel
theorem dX7_misheard_86 : decode cX7_misheard 86 = .ok (.aload_n 0, 1) := by decide +kernel
theorem dX7_misheard_87 : decode cX7_misheard 87 = .ok (.getfield 26, 3) := by decide +kernel
theorem dX7_misheard_90 : decode cX7_misheard 90 = .ok (.iload_n 1, 1) := by decide +kernel
theorem dX7_misheard_91 : decode cX7_misheard 91 = .ok (.iaload, 1) := by decide +kernel
theorem dX7_misheard_92 : decode cX7_misheard 92 = .ok (.iload 9, 2) := by decide +kernel
theorem dX7_misheard_94 : decode cX7_misheard 94 = .ok (.invokevirtual 213, 3) := by decide +kernel
theorem dX7_misheard_97 : decode cX7_misheard 97 = .ok (.istore 10, 2) := by decide +kernel
theorem dX7_misheard_99 : decode cX7_misheard 99 = .ok (.aload_n 0, 1) := by decide +kernel
theorem dX7_misheard_100 : decode cX7_misheard 100 = .ok (.iload_n 2, 1) := by decide +kernel
theorem dX7_misheard_101 : decode cX7_misheard 101 = .ok (.iload 9, 2) := by decide +kernel
theorem dX7_misheard_103 : decode cX7_misheard 103 = .ok (.iload 4, 2) := by decide +kernel
theorem dX7_misheard_105 : decode cX7_misheard 105 = .ok (.iload 8, 2) := by decide +kernel
theorem dX7_misheard_107 : decode cX7_misheard 107 = .ok (.iconst 2, 1) := by decide +kernel
theorem dX7_misheard_108 : decode cX7_misheard 108 = .ok (.idiv, 1) := by decide +kernel
theorem dX7_misheard_109 : decode cX7_misheard 109 = .ok (.iadd, 1) := by decide +kernel
theorem dX7_misheard_110 : decode cX7_misheard 110 = .ok (.iconst 5, 1) := by decide +kernel
theorem dX7_misheard_111 : decode cX7_misheard 111 = .ok (.irem, 1) := by decide +kernel
theorem dX7_misheard_112 : decode cX7_misheard 112 = .ok (.aload_n 0, 1) := by decide +kernel
theorem dX7_misheard_113 : decode cX7_misheard 113 = .ok (.getfield 80, 3) := by decide +kernel
theorem dX7_misheard_116 : decode cX7_misheard 116 = .ok (.iconst 1, 1) := by decide +kernel
theorem dX7_misheard_117 : decode cX7_misheard 117 = .ok (.iadd, 1) := by decide +kernel
theorem dX7_misheard_118 : decode cX7_misheard 118 = .ok (.invokevirtual 209, 3) := by decide +kernel
theorem dX7_misheard_121 : decode cX7_misheard 121 = .ok (.istore 11, 2) := by decide +kernel
theorem dX7_misheard_123 : decode cX7_misheard 123 = .ok (.aload_n 0, 1) := by decide +kernel
theorem dX7_misheard_124 : decode cX7_misheard 124 = .ok (.iload_n 1, 1) := by decide +kernel
theorem dX7_misheard_125 : decode cX7_misheard 125 = .ok (.iload 10, 2) := by decide +kernel
theorem dX7_misheard_127 : decode cX7_misheard 127 = .ok (.iload 11, 2) := by decide +kernel
theorem dX7_misheard_129 : decode cX7_misheard 129 = .ok (.invokevirtual 213, 3) := by decide +kernel
theorem dX7_misheard_132 : decode cX7_misheard 132 = .ok (.istore 12, 2) := by decide +kernel
theorem dX7_misheard_134 : decode cX7_misheard 134 = .ok (.iload 8, 2) := by decide +kernel
theorem dX7_misheard_136 : decode cX7_misheard 136 = .ok (.iconst 2, 1) := by decide +kernel
theorem dX7_misheard_137 : decode cX7_misheard 137 = .ok (.irem, 1) := by decide +kernel
theorem dX7_misheard_138 : decode cX7_misheard 138 = .ok (.iconst 1, 1) := by decide +kernel
theorem dX7_misheard_139 : decode cX7_misheard 139 = .ok (.if_icmp .ne 8, 3) := by decide +kernel
theorem dX7_misheard_142 : decode cX7_misheard 142 = .ok (.iload 5, 2) := by decide +kernel
theorem dX7_misheard_144 : decode cX7_misheard 144 = .ok (.goto 8, 3) := by decide +kernel
theorem dX7_misheard_147 : decode cX7_misheard 147 = .ok (.bipush 10, 2) := by decide +kernel
theorem dX7_misheard_149 : decode cX7_misheard 149 = .ok (.iload 5, 2) := by decide +kernel
theorem dX7_misheard_151 : decode cX7_misheard 151 = .ok (.isub, 1) := by decide +kernel
theorem dX7_misheard_152 : decode cX7_misheard 152 = .ok (.iload 8, 2) := by decide +kernel
theorem dX7_misheard_154 : decode cX7_misheard 154 = .ok (.iconst 2, 1) := by decide +kernel
theorem dX7_misheard_155 : decode cX7_misheard 155 = .ok (.idiv, 1) := by decide +kernel
theorem dX7_misheard_156 : decode cX7_misheard 156 = .ok (.iconst 1, 1) := by decide +kernel
theorem dX7_misheard_157 : decode cX7_misheard 157 = .ok (.if_icmp .ne 8, 3) := by decide +kernel
theorem dX7_misheard_160 : decode cX7_misheard 160 = .ok (.iload 5, 2) := by decide +kernel
theorem dX7_misheard_162 : decode cX7_misheard 162 = .ok (.goto 8, 3) := by decide +kernel
theorem dX7_misheard_165 : decode cX7_misheard 165 = .ok (.bipush 10, 2) := by decide +kernel
theorem dX7_misheard_167 : decode cX7_misheard 167 = .ok (.iload 5, 2) := by decide +kernel
theorem dX7_misheard_169 : decode cX7_misheard 169 = .ok (.isub, 1) := by decide +kernel
theorem dX7_misheard_170 : decode cX7_misheard 170 = .ok (.imul, 1) := by decide +kernel
theorem dX7_misheard_171 : decode cX7_misheard 171 = .ok (.istore 13, 2) := by decide +kernel
theorem dX7_misheard_173 : decode cX7_misheard 173 = .ok (.lload 6, 2) := by decide +kernel
theorem dX7_misheard_175 : decode cX7_misheard 175 = .ok (.iload 12, 2) := by decide +kernel
theorem dX7_misheard_177 : decode cX7_misheard 177 = .ok (.aload_n 0, 1) := by decide +kernel
theorem dX7_misheard_178 : decode cX7_misheard 178 = .ok (.getfield 77, 3) := by decide +kernel
theorem dX7_misheard_181 : decode cX7_misheard 181 = .ok (.if_icmp .ne 9, 3) := by decide +kernel
theorem dX7_misheard_184 : decode cX7_misheard 184 = .ok (.iload 13, 2) := by decide +kernel
theorem dX7_misheard_186 : decode cX7_misheard 186 = .ok (.i2l, 1) := by decide +kernel
theorem dX7_misheard_187 : decode cX7_misheard 187 = .ok (.goto 4, 3) := by decide +kernel
theorem dX7_misheard_190 : decode cX7_misheard 190 = .ok (.lconst 0, 1) := by decide +kernel
theorem dX7_misheard_191 : decode cX7_misheard 191 = .ok (.ladd, 1) := by decide +kernel
theorem dX7_misheard_192 : decode cX7_misheard 192 = .ok (.lstore 6, 2) := by decide +kernel
theorem dX7_misheard_194 : decode cX7_misheard 194 = .ok (.iinc 8 1, 3) := by decide +kernel
theorem dX7_misheard_197 : decode cX7_misheard 197 = .ok (.goto (-144), 3) := by decide +kernel
theorem dX7_misheard_200 : decode cX7_misheard 200 = .ok (.aload_n 0, 1) := by decide +kernel
theorem dX7_misheard_201 : decode cX7_misheard 201 = .ok (.lload 6, 2) := by decide +kernel
theorem dX7_misheard_203 : decode cX7_misheard 203 = .ok (.ldc2_w 286, 3) := by decide +kernel
theorem dX7_misheard_206 : decode cX7_misheard 206 = .ok (.invokevirtual 288, 3) := by decide +kernel
theorem dX7_misheard_209 : decode cX7_misheard 209 = .ok (.iconst 1, 1) := by decide +kernel
theorem dX7_misheard_210 : decode cX7_misheard 210 = .ok (.ireturn, 1) := by decide +kernel
theorem dX7_winters_0 : decode cX7_winters 0 = .ok (.iload_n 1, 1) := by decide +kernel
theorem dX7_winters_1 : decode cX7_winters 1 = .ok (.iconst 0, 1) := by decide +kernel
theorem dX7_winters_2 : decode cX7_winters 2 = .ok (.ldc_w 292, 3) := by decide +kernel
theorem dX7_winters_5 : decode cX7_winters 5 = .ok (.invokestatic 95, 3) := by decide +kernel
theorem dX7_winters_8 : decode cX7_winters 8 = .ok (.ifCond .eq 13, 3) := by decide +kernel
theorem dX7_winters_11 : decode cX7_winters 11 = .ok (.iload_n 2, 1) := by decide +kernel
theorem dX7_winters_12 : decode cX7_winters 12 = .ok (.iconst 0, 1) := by decide +kernel
theorem dX7_winters_13 : decode cX7_winters 13 = .ok (.bipush 60, 2) := by decide +kernel
theorem dX7_winters_15 : decode cX7_winters 15 = .ok (.invokestatic 95, 3) := by decide +kernel
theorem dX7_winters_18 : decode cX7_winters 18 = .ok (.ifCond .ne 8, 3) := by decide +kernel
theorem dX7_winters_21 : decode cX7_winters 21 = .ok (.aload_n 0, 1) := by decide +kernel
theorem dX7_winters_22 : decode cX7_winters 22 = .ok (.invokevirtual 103, 3) := by decide +kernel
theorem dX7_winters_25 : decode cX7_winters 25 = .ok (.ireturn, 1) := by decide +kernel
theorem dX7_winters_26 : decode cX7_winters 26 = .ok (.aload_n 0, 1) := by decide +kernel
theorem dX7_winters_27 : decode cX7_winters 27 = .ok (.aload_n 0, 1) := by decide +kernel
theorem dX7_winters_28 : decode cX7_winters 28 = .ok (.getfield 47, 3) := by decide +kernel
theorem dX7_winters_31 : decode cX7_winters 31 = .ok (.iconst 0, 1) := by decide +kernel
theorem dX7_winters_32 : decode cX7_winters 32 = .ok (.invokevirtual 216, 3) := by decide +kernel
theorem dX7_winters_35 : decode cX7_winters 35 = .ok (.iload_n 1, 1) := by decide +kernel
theorem dX7_winters_36 : decode cX7_winters 36 = .ok (.i2l, 1) := by decide +kernel
theorem dX7_winters_37 : decode cX7_winters 37 = .ok (.lstore_n 3, 1) := by decide +kernel
theorem dX7_winters_38 : decode cX7_winters 38 = .ok (.iconst 0, 1) := by decide +kernel
theorem dX7_winters_39 : decode cX7_winters 39 = .ok (.istore 5, 2) := by decide +kernel
theorem dX7_winters_41 : decode cX7_winters 41 = .ok (.iload 5, 2) := by decide +kernel
theorem dX7_winters_43 : decode cX7_winters 43 = .ok (.iload_n 2, 1) := by decide +kernel
theorem dX7_winters_44 : decode cX7_winters 44 = .ok (.if_icmp .ge 74, 3) := by decide +kernel
theorem dX7_winters_47 : decode cX7_winters 47 = .ok (.lload_n 3, 1) := by decide +kernel
theorem dX7_winters_48 : decode cX7_winters 48 = .ok (.ldc2_w 293, 3) := by decide +kernel
theorem dX7_winters_51 : decode cX7_winters 51 = .ok (.lmul, 1) := by decide +kernel
theorem dX7_winters_52 : decode cX7_winters 52 = .ok (.ldc2_w 295, 3) := by decide +kernel
theorem dX7_winters_55 : decode cX7_winters 55 = .ok (.ladd, 1) := by decide +kernel
theorem dX7_winters_56 : decode cX7_winters 56 = .ok (.ldc2_w 297, 3) := by decide +kernel
theorem dX7_winters_59 : decode cX7_winters 59 = .ok (.lrem, 1) := by decide +kernel
theorem dX7_winters_60 : decode cX7_winters 60 = .ok (.lstore_n 3, 1) := by decide +kernel
theorem dX7_winters_61 : decode cX7_winters 61 = .ok (.lload_n 3, 1) := by decide +kernel
theorem dX7_winters_62 : decode cX7_winters 62 = .ok (.ldc2_w 299, 3) := by decide +kernel
theorem dX7_winters_65 : decode cX7_winters 65 = .ok (.ldiv, 1) := by decide +kernel
theorem dX7_winters_66 : decode cX7_winters 66 = .ok (.ldc2_w 301, 3) := by decide +kernel
theorem dX7_winters_69 : decode cX7_winters 69 = .ok (.lrem, 1) := by decide +kernel
theorem dX7_winters_70 : decode cX7_winters 70 = .ok (.l2i, 1) := by decide +kernel
theorem dX7_winters_71 : decode cX7_winters 71 = .ok (.istore 6, 2) := by decide +kernel
theorem dX7_winters_73 : decode cX7_winters 73 = .ok (.aload_n 0, 1) := by decide +kernel
theorem dX7_winters_74 : decode cX7_winters 74 = .ok (.iload 6, 2) := by decide +kernel
theorem dX7_winters_76 : decode cX7_winters 76 = .ok (.invokevirtual 219, 3) := by decide +kernel
theorem dX7_winters_79 : decode cX7_winters 79 = .ok (.ifCond .eq 23, 3) := by decide +kernel
theorem dX7_winters_82 : decode cX7_winters 82 = .ok (.aload_n 0, 1) := by decide +kernel
theorem dX7_winters_83 : decode cX7_winters 83 = .ok (.iload 6, 2) := by decide +kernel
theorem dX7_winters_85 : decode cX7_winters 85 = .ok (.lload_n 3, 1) := by decide +kernel
theorem dX7_winters_86 : decode cX7_winters 86 = .ok (.ldc2_w 303, 3) := by decide +kernel
theorem dX7_winters_89 : decode cX7_winters 89 = .ok (.ldiv, 1) := by decide +kernel
theorem dX7_winters_90 : decode cX7_winters 90 = .ok (.ldc2_w 305, 3) := by decide +kernel
theorem dX7_winters_93 : decode cX7_winters 93 = .ok (.lrem, 1) := by decide +kernel
theorem dX7_winters_94 : decode cX7_winters 94 = .ok (.l2i, 1) := by decide +kernel
theorem dX7_winters_95 : decode cX7_winters 95 = .ok (.invokevirtual 155, 3) := by decide +kernel
theorem dX7_winters_98 : decode cX7_winters 98 = .ok (.pop, 1) := by decide +kernel
theorem dX7_winters_99 : decode cX7_winters 99 = .ok (.goto 13, 3) := by decide +kernel
theorem dX7_winters_102 : decode cX7_winters 102 = .ok (.aload_n 0, 1) := by decide +kernel
theorem dX7_winters_103 : decode cX7_winters 103 = .ok (.dup, 1) := by decide +kernel
theorem dX7_winters_104 : decode cX7_winters 104 = .ok (.getfield 80, 3) := by decide +kernel
theorem dX7_winters_107 : decode cX7_winters 107 = .ok (.iconst 1, 1) := by decide +kernel
theorem dX7_winters_108 : decode cX7_winters 108 = .ok (.iadd, 1) := by decide +kernel
theorem dX7_winters_109 : decode cX7_winters 109 = .ok (.putfield 80, 3) := by decide +kernel
theorem dX7_winters_112 : decode cX7_winters 112 = .ok (.iinc 5 1, 3) := by decide +kernel
theorem dX7_winters_115 : decode cX7_winters 115 = .ok (.goto (-74), 3) := by decide +kernel
theorem dX7_winters_118 : decode cX7_winters 118 = .ok (.aload_n 0, 1) := by decide +kernel
theorem dX7_winters_119 : decode cX7_winters 119 = .ok (.invokevirtual 252, 3) := by decide +kernel
theorem dX7_winters_122 : decode cX7_winters 122 = .ok (.istore 5, 2) := by decide +kernel
theorem dX7_winters_124 : decode cX7_winters 124 = .ok (.aload_n 0, 1) := by decide +kernel
theorem dX7_winters_125 : decode cX7_winters 125 = .ok (.aload_n 0, 1) := by decide +kernel
theorem dX7_winters_126 : decode cX7_winters 126 = .ok (.getfield 47, 3) := by decide +kernel
theorem dX7_winters_129 : decode cX7_winters 129 = .ok (.iconst 0, 1) := by decide +kernel
theorem dX7_winters_130 : decode cX7_winters 130 = .ok (.invokevirtual 228, 3) := by decide +kernel
theorem dX7_winters_133 : decode cX7_winters 133 = .ok (.iload 5, 2) := by decide +kernel
theorem dX7_winters_135 : decode cX7_winters 135 = .ok (.ireturn, 1) := by decide +kernel
theorem dX7_part_0 : decode cX7_part 0 = .ok (.iload_n 1, 1) := by decide +kernel
theorem dX7_part_1 : decode cX7_part 1 = .ok (.ifCond .ne 10, 3) := by decide +kernel
theorem dX7_part_4 : decode cX7_part 4 = .ok (.aload_n 0, 1) := by decide +kernel
theorem dX7_part_5 : decode cX7_part 5 = .ok (.getfield 283, 3) := by decide +kernel
theorem dX7_part_8 : decode cX7_part 8 = .ok (.goto 20, 3) := by decide +kernel
theorem dX7_part_11 : decode cX7_part 11 = .ok (.iload_n 1, 1) := by decide +kernel
theorem dX7_part_12 : decode cX7_part 12 = .ok (.iconst 1, 1) := by decide +kernel
theorem dX7_part_13 : decode cX7_part 13 = .ok (.if_icmp .ne 10, 3) := by decide +kernel
theorem dX7_part_16 : decode cX7_part 16 = .ok (.aload_n 0, 1) := by decide +kernel
theorem dX7_part_17 : decode cX7_part 17 = .ok (.getfield 56, 3) := by decide +kernel
theorem dX7_part_20 : decode cX7_part 20 = .ok (.goto 8, 3) := by decide +kernel
theorem dX7_part_23 : decode cX7_part 23 = .ok (.aload_n 0, 1) := by decide +kernel
theorem dX7_part_24 : decode cX7_part 24 = .ok (.invokevirtual 103, 3) := by decide +kernel
theorem dX7_part_27 : decode cX7_part 27 = .ok (.i2l, 1) := by decide +kernel
theorem dX7_part_28 : decode cX7_part 28 = .ok (.lreturn, 1) := by decide +kernel
theorem dX7_layAll_0 : decode cX7_layAll 0 = .ok (.aload_n 0, 1) := by decide +kernel
theorem dX7_layAll_1 : decode cX7_layAll 1 = .ok (.aload_n 1, 1) := by decide +kernel
theorem dX7_layAll_2 : decode cX7_layAll 2 = .ok (.iload_n 2, 1) := by decide +kernel
theorem dX7_layAll_3 : decode cX7_layAll 3 = .ok (.invokevirtual 216, 3) := by decide +kernel
theorem dX7_layAll_6 : decode cX7_layAll 6 = .ok (.aload_n 1, 1) := by decide +kernel
theorem dX7_layAll_7 : decode cX7_layAll 7 = .ok (.iload_n 2, 1) := by decide +kernel
theorem dX7_layAll_8 : decode cX7_layAll 8 = .ok (.bipush 11, 2) := by decide +kernel
theorem dX7_layAll_10 : decode cX7_layAll 10 = .ok (.iadd, 1) := by decide +kernel
theorem dX7_layAll_11 : decode cX7_layAll 11 = .ok (.aload_n 0, 1) := by decide +kernel
theorem dX7_layAll_12 : decode cX7_layAll 12 = .ok (.getfield 70, 3) := by decide +kernel
theorem dX7_layAll_15 : decode cX7_layAll 15 = .ok (.iastore, 1) := by decide +kernel
theorem dX7_layAll_16 : decode cX7_layAll 16 = .ok (.aload_n 1, 1) := by decide +kernel
theorem dX7_layAll_17 : decode cX7_layAll 17 = .ok (.iload_n 2, 1) := by decide +kernel
theorem dX7_layAll_18 : decode cX7_layAll 18 = .ok (.bipush 12, 2) := by decide +kernel
theorem dX7_layAll_20 : decode cX7_layAll 20 = .ok (.iadd, 1) := by decide +kernel
theorem dX7_layAll_21 : decode cX7_layAll 21 = .ok (.aload_n 0, 1) := by decide +kernel
theorem dX7_layAll_22 : decode cX7_layAll 22 = .ok (.getfield 74, 3) := by decide +kernel
theorem dX7_layAll_25 : decode cX7_layAll 25 = .ok (.iastore, 1) := by decide +kernel
theorem dX7_layAll_26 : decode cX7_layAll 26 = .ok (.aload_n 1, 1) := by decide +kernel
theorem dX7_layAll_27 : decode cX7_layAll 27 = .ok (.iload_n 2, 1) := by decide +kernel
theorem dX7_layAll_28 : decode cX7_layAll 28 = .ok (.bipush 13, 2) := by decide +kernel
theorem dX7_layAll_30 : decode cX7_layAll 30 = .ok (.iadd, 1) := by decide +kernel
theorem dX7_layAll_31 : decode cX7_layAll 31 = .ok (.aload_n 0, 1) := by decide +kernel
theorem dX7_layAll_32 : decode cX7_layAll 32 = .ok (.getfield 77, 3) := by decide +kernel
theorem dX7_layAll_35 : decode cX7_layAll 35 = .ok (.iastore, 1) := by decide +kernel
theorem dX7_layAll_36 : decode cX7_layAll 36 = .ok (.aload_n 1, 1) := by decide +kernel
theorem dX7_layAll_37 : decode cX7_layAll 37 = .ok (.iload_n 2, 1) := by decide +kernel
theorem dX7_layAll_38 : decode cX7_layAll 38 = .ok (.bipush 14, 2) := by decide +kernel
theorem dX7_layAll_40 : decode cX7_layAll 40 = .ok (.iadd, 1) := by decide +kernel
theorem dX7_layAll_41 : decode cX7_layAll 41 = .ok (.aload_n 0, 1) := by decide +kernel
theorem dX7_layAll_42 : decode cX7_layAll 42 = .ok (.getfield 83, 3) := by decide +kernel
theorem dX7_layAll_45 : decode cX7_layAll 45 = .ok (.iastore, 1) := by decide +kernel
theorem dX7_layAll_46 : decode cX7_layAll 46 = .ok (.aload_n 1, 1) := by decide +kernel
theorem dX7_layAll_47 : decode cX7_layAll 47 = .ok (.iload_n 2, 1) := by decide +kernel
theorem dX7_layAll_48 : decode cX7_layAll 48 = .ok (.bipush 15, 2) := by decide +kernel
theorem dX7_layAll_50 : decode cX7_layAll 50 = .ok (.iadd, 1) := by decide +kernel
theorem dX7_layAll_51 : decode cX7_layAll 51 = .ok (.aload_n 0, 1) := by decide +kernel
theorem dX7_layAll_52 : decode cX7_layAll 52 = .ok (.getfield 86, 3) := by decide +kernel
theorem dX7_layAll_55 : decode cX7_layAll 55 = .ok (.iastore, 1) := by decide +kernel
theorem dX7_layAll_56 : decode cX7_layAll 56 = .ok (.aload_n 1, 1) := by decide +kernel
theorem dX7_layAll_57 : decode cX7_layAll 57 = .ok (.iload_n 2, 1) := by decide +kernel
theorem dX7_layAll_58 : decode cX7_layAll 58 = .ok (.bipush 16, 2) := by decide +kernel
theorem dX7_layAll_60 : decode cX7_layAll 60 = .ok (.iadd, 1) := by decide +kernel
theorem dX7_layAll_61 : decode cX7_layAll 61 = .ok (.aload_n 0, 1) := by decide +kernel
theorem dX7_layAll_62 : decode cX7_layAll 62 = .ok (.getfield 89, 3) := by decide +kernel
theorem dX7_layAll_65 : decode cX7_layAll 65 = .ok (.iastore, 1) := by decide +kernel
theorem dX7_layAll_66 : decode cX7_layAll 66 = .ok (.aload_n 1, 1) := by decide +kernel
theorem dX7_layAll_67 : decode cX7_layAll 67 = .ok (.iload_n 2, 1) := by decide +kernel
theorem dX7_layAll_68 : decode cX7_layAll 68 = .ok (.bipush 17, 2) := by decide +kernel
theorem dX7_layAll_70 : decode cX7_layAll 70 = .ok (.iadd, 1) := by decide +kernel
theorem dX7_layAll_71 : decode cX7_layAll 71 = .ok (.aload_n 0, 1) := by decide +kernel
theorem dX7_layAll_72 : decode cX7_layAll 72 = .ok (.getfield 92, 3) := by decide +kernel
theorem dX7_layAll_75 : decode cX7_layAll 75 = .ok (.iastore, 1) := by decide +kernel
theorem dX7_layAll_76 : decode cX7_layAll 76 = .ok (.iconst 0, 1) := by decide +kernel
theorem dX7_layAll_77 : decode cX7_layAll 77 = .ok (.istore_n 3, 1) := by decide +kernel
theorem dX7_layAll_78 : decode cX7_layAll 78 = .ok (.iload_n 3, 1) := by decide +kernel
theorem dX7_layAll_79 : decode cX7_layAll 79 = .ok (.iconst 3, 1) := by decide +kernel
theorem dX7_layAll_80 : decode cX7_layAll 80 = .ok (.if_icmp .ge 23, 3) := by decide +kernel
theorem dX7_layAll_83 : decode cX7_layAll 83 = .ok (.aload_n 1, 1) := by decide +kernel
theorem dX7_layAll_84 : decode cX7_layAll 84 = .ok (.iload_n 2, 1) := by decide +kernel
theorem dX7_layAll_85 : decode cX7_layAll 85 = .ok (.bipush 18, 2) := by decide +kernel
theorem dX7_layAll_87 : decode cX7_layAll 87 = .ok (.iadd, 1) := by decide +kernel
theorem dX7_layAll_88 : decode cX7_layAll 88 = .ok (.iload_n 3, 1) := by decide +kernel
theorem dX7_layAll_89 : decode cX7_layAll 89 = .ok (.iadd, 1) := by decide +kernel
theorem dX7_layAll_90 : decode cX7_layAll 90 = .ok (.aload_n 0, 1) := by decide +kernel
theorem dX7_layAll_91 : decode cX7_layAll 91 = .ok (.getfield 17, 3) := by decide +kernel
theorem dX7_layAll_94 : decode cX7_layAll 94 = .ok (.iload_n 3, 1) := by decide +kernel
theorem dX7_layAll_95 : decode cX7_layAll 95 = .ok (.iaload, 1) := by decide +kernel
theorem dX7_layAll_96 : decode cX7_layAll 96 = .ok (.iastore, 1) := by decide +kernel
theorem dX7_layAll_97 : decode cX7_layAll 97 = .ok (.iinc 3 1, 3) := by decide +kernel
theorem dX7_layAll_100 : decode cX7_layAll 100 = .ok (.goto (-22), 3) := by decide +kernel
theorem dX7_layAll_103 : decode cX7_layAll 103 = .ok (.iconst 0, 1) := by decide +kernel
theorem dX7_layAll_104 : decode cX7_layAll 104 = .ok (.istore_n 3, 1) := by decide +kernel
theorem dX7_layAll_105 : decode cX7_layAll 105 = .ok (.iload_n 3, 1) := by decide +kernel
theorem dX7_layAll_106 : decode cX7_layAll 106 = .ok (.bipush 7, 2) := by decide +kernel
theorem dX7_layAll_108 : decode cX7_layAll 108 = .ok (.if_icmp .ge 23, 3) := by decide +kernel
theorem dX7_layAll_111 : decode cX7_layAll 111 = .ok (.aload_n 1, 1) := by decide +kernel
theorem dX7_layAll_112 : decode cX7_layAll 112 = .ok (.iload_n 2, 1) := by decide +kernel
theorem dX7_layAll_113 : decode cX7_layAll 113 = .ok (.bipush 21, 2) := by decide +kernel
theorem dX7_layAll_115 : decode cX7_layAll 115 = .ok (.iadd, 1) := by decide +kernel
theorem dX7_layAll_116 : decode cX7_layAll 116 = .ok (.iload_n 3, 1) := by decide +kernel
theorem dX7_layAll_117 : decode cX7_layAll 117 = .ok (.iadd, 1) := by decide +kernel
theorem dX7_layAll_118 : decode cX7_layAll 118 = .ok (.aload_n 0, 1) := by decide +kernel
theorem dX7_layAll_119 : decode cX7_layAll 119 = .ok (.getfield 23, 3) := by decide +kernel
theorem dX7_layAll_122 : decode cX7_layAll 122 = .ok (.iload_n 3, 1) := by decide +kernel
theorem dX7_layAll_123 : decode cX7_layAll 123 = .ok (.iaload, 1) := by decide +kernel
theorem dX7_layAll_124 : decode cX7_layAll 124 = .ok (.iastore, 1) := by decide +kernel
theorem dX7_layAll_125 : decode cX7_layAll 125 = .ok (.iinc 3 1, 3) := by decide +kernel
theorem dX7_layAll_128 : decode cX7_layAll 128 = .ok (.goto (-23), 3) := by decide +kernel
theorem dX7_layAll_131 : decode cX7_layAll 131 = .ok (.iconst 0, 1) := by decide +kernel
theorem dX7_layAll_132 : decode cX7_layAll 132 = .ok (.istore_n 3, 1) := by decide +kernel
theorem dX7_layAll_133 : decode cX7_layAll 133 = .ok (.iload_n 3, 1) := by decide +kernel
theorem dX7_layAll_134 : decode cX7_layAll 134 = .ok (.bipush 10, 2) := by decide +kernel
theorem dX7_layAll_136 : decode cX7_layAll 136 = .ok (.if_icmp .ge 23, 3) := by decide +kernel
theorem dX7_layAll_139 : decode cX7_layAll 139 = .ok (.aload_n 1, 1) := by decide +kernel
theorem dX7_layAll_140 : decode cX7_layAll 140 = .ok (.iload_n 2, 1) := by decide +kernel
theorem dX7_layAll_141 : decode cX7_layAll 141 = .ok (.bipush 28, 2) := by decide +kernel
theorem dX7_layAll_143 : decode cX7_layAll 143 = .ok (.iadd, 1) := by decide +kernel
theorem dX7_layAll_144 : decode cX7_layAll 144 = .ok (.iload_n 3, 1) := by decide +kernel
theorem dX7_layAll_145 : decode cX7_layAll 145 = .ok (.iadd, 1) := by decide +kernel
theorem dX7_layAll_146 : decode cX7_layAll 146 = .ok (.aload_n 0, 1) := by decide +kernel
theorem dX7_layAll_147 : decode cX7_layAll 147 = .ok (.getfield 29, 3) := by decide +kernel
theorem dX7_layAll_150 : decode cX7_layAll 150 = .ok (.iload_n 3, 1) := by decide +kernel
theorem dX7_layAll_151 : decode cX7_layAll 151 = .ok (.iaload, 1) := by decide +kernel
theorem dX7_layAll_152 : decode cX7_layAll 152 = .ok (.iastore, 1) := by decide +kernel
theorem dX7_layAll_153 : decode cX7_layAll 153 = .ok (.iinc 3 1, 3) := by decide +kernel
theorem dX7_layAll_156 : decode cX7_layAll 156 = .ok (.goto (-23), 3) := by decide +kernel
theorem dX7_layAll_159 : decode cX7_layAll 159 = .ok (.iconst 0, 1) := by decide +kernel
theorem dX7_layAll_160 : decode cX7_layAll 160 = .ok (.istore_n 3, 1) := by decide +kernel
theorem dX7_layAll_161 : decode cX7_layAll 161 = .ok (.iload_n 3, 1) := by decide +kernel
theorem dX7_layAll_162 : decode cX7_layAll 162 = .ok (.bipush 18, 2) := by decide +kernel
theorem dX7_layAll_164 : decode cX7_layAll 164 = .ok (.if_icmp .ge 37, 3) := by decide +kernel
theorem dX7_layAll_167 : decode cX7_layAll 167 = .ok (.aload_n 1, 1) := by decide +kernel
theorem dX7_layAll_168 : decode cX7_layAll 168 = .ok (.iload_n 2, 1) := by decide +kernel
theorem dX7_layAll_169 : decode cX7_layAll 169 = .ok (.bipush 38, 2) := by decide +kernel
theorem dX7_layAll_171 : decode cX7_layAll 171 = .ok (.iadd, 1) := by decide +kernel
theorem dX7_layAll_172 : decode cX7_layAll 172 = .ok (.iload_n 3, 1) := by decide +kernel
theorem dX7_layAll_173 : decode cX7_layAll 173 = .ok (.iadd, 1) := by decide +kernel
theorem dX7_layAll_174 : decode cX7_layAll 174 = .ok (.aload_n 0, 1) := by decide +kernel
theorem dX7_layAll_175 : decode cX7_layAll 175 = .ok (.getfield 32, 3) := by decide +kernel
theorem dX7_layAll_178 : decode cX7_layAll 178 = .ok (.iload_n 3, 1) := by decide +kernel
theorem dX7_layAll_179 : decode cX7_layAll 179 = .ok (.iaload, 1) := by decide +kernel
theorem dX7_layAll_180 : decode cX7_layAll 180 = .ok (.iastore, 1) := by decide +kernel
theorem dX7_layAll_181 : decode cX7_layAll 181 = .ok (.aload_n 1, 1) := by decide +kernel
theorem dX7_layAll_182 : decode cX7_layAll 182 = .ok (.iload_n 2, 1) := by decide +kernel
theorem dX7_layAll_183 : decode cX7_layAll 183 = .ok (.bipush 56, 2) := by decide +kernel
theorem dX7_layAll_185 : decode cX7_layAll 185 = .ok (.iadd, 1) := by decide +kernel
theorem dX7_layAll_186 : decode cX7_layAll 186 = .ok (.iload_n 3, 1) := by decide +kernel
theorem dX7_layAll_187 : decode cX7_layAll 187 = .ok (.iadd, 1) := by decide +kernel
theorem dX7_layAll_188 : decode cX7_layAll 188 = .ok (.aload_n 0, 1) := by decide +kernel
theorem dX7_layAll_189 : decode cX7_layAll 189 = .ok (.getfield 35, 3) := by decide +kernel
theorem dX7_layAll_192 : decode cX7_layAll 192 = .ok (.iload_n 3, 1) := by decide +kernel
theorem dX7_layAll_193 : decode cX7_layAll 193 = .ok (.iaload, 1) := by decide +kernel
theorem dX7_layAll_194 : decode cX7_layAll 194 = .ok (.iastore, 1) := by decide +kernel
theorem dX7_layAll_195 : decode cX7_layAll 195 = .ok (.iinc 3 1, 3) := by decide +kernel
theorem dX7_layAll_198 : decode cX7_layAll 198 = .ok (.goto (-37), 3) := by decide +kernel
theorem dX7_layAll_201 : decode cX7_layAll 201 = .ok (.iconst 0, 1) := by decide +kernel
theorem dX7_layAll_202 : decode cX7_layAll 202 = .ok (.istore_n 3, 1) := by decide +kernel
theorem dX7_layAll_203 : decode cX7_layAll 203 = .ok (.iload_n 3, 1) := by decide +kernel
theorem dX7_layAll_204 : decode cX7_layAll 204 = .ok (.bipush 88, 2) := by decide +kernel
theorem dX7_layAll_206 : decode cX7_layAll 206 = .ok (.if_icmp .ge 23, 3) := by decide +kernel
theorem dX7_layAll_209 : decode cX7_layAll 209 = .ok (.aload_n 1, 1) := by decide +kernel
theorem dX7_layAll_210 : decode cX7_layAll 210 = .ok (.iload_n 2, 1) := by decide +kernel
theorem dX7_layAll_211 : decode cX7_layAll 211 = .ok (.bipush 74, 2) := by decide +kernel
theorem dX7_layAll_213 : decode cX7_layAll 213 = .ok (.iadd, 1) := by decide +kernel
theorem dX7_layAll_214 : decode cX7_layAll 214 = .ok (.iload_n 3, 1) := by decide +kernel
theorem dX7_layAll_215 : decode cX7_layAll 215 = .ok (.iadd, 1) := by decide +kernel
theorem dX7_layAll_216 : decode cX7_layAll 216 = .ok (.aload_n 0, 1) := by decide +kernel
theorem dX7_layAll_217 : decode cX7_layAll 217 = .ok (.getfield 44, 3) := by decide +kernel
theorem dX7_layAll_220 : decode cX7_layAll 220 = .ok (.iload_n 3, 1) := by decide +kernel
theorem dX7_layAll_221 : decode cX7_layAll 221 = .ok (.iaload, 1) := by decide +kernel
theorem dX7_layAll_222 : decode cX7_layAll 222 = .ok (.iastore, 1) := by decide +kernel
theorem dX7_layAll_223 : decode cX7_layAll 223 = .ok (.iinc 3 1, 3) := by decide +kernel
theorem dX7_layAll_226 : decode cX7_layAll 226 = .ok (.goto (-23), 3) := by decide +kernel
theorem dX7_layAll_229 : decode cX7_layAll 229 = .ok (.return_, 1) := by decide +kernel
theorem dX7_takeAll_0 : decode cX7_takeAll 0 = .ok (.aload_n 0, 1) := by decide +kernel
theorem dX7_takeAll_1 : decode cX7_takeAll 1 = .ok (.aload_n 1, 1) := by decide +kernel
theorem dX7_takeAll_2 : decode cX7_takeAll 2 = .ok (.iload_n 2, 1) := by decide +kernel
theorem dX7_takeAll_3 : decode cX7_takeAll 3 = .ok (.invokevirtual 228, 3) := by decide +kernel
theorem dX7_takeAll_6 : decode cX7_takeAll 6 = .ok (.aload_n 0, 1) := by decide +kernel
theorem dX7_takeAll_7 : decode cX7_takeAll 7 = .ok (.aload_n 1, 1) := by decide +kernel
theorem dX7_takeAll_8 : decode cX7_takeAll 8 = .ok (.iload_n 2, 1) := by decide +kernel
theorem dX7_takeAll_9 : decode cX7_takeAll 9 = .ok (.bipush 11, 2) := by decide +kernel
theorem dX7_takeAll_11 : decode cX7_takeAll 11 = .ok (.iadd, 1) := by decide +kernel
theorem dX7_takeAll_12 : decode cX7_takeAll 12 = .ok (.iaload, 1) := by decide +kernel
theorem dX7_takeAll_13 : decode cX7_takeAll 13 = .ok (.putfield 70, 3) := by decide +kernel
theorem dX7_takeAll_16 : decode cX7_takeAll 16 = .ok (.aload_n 0, 1) := by decide +kernel
theorem dX7_takeAll_17 : decode cX7_takeAll 17 = .ok (.aload_n 1, 1) := by decide +kernel
theorem dX7_takeAll_18 : decode cX7_takeAll 18 = .ok (.iload_n 2, 1) := by decide +kernel
theorem dX7_takeAll_19 : decode cX7_takeAll 19 = .ok (.bipush 12, 2) := by decide +kernel
theorem dX7_takeAll_21 : decode cX7_takeAll 21 = .ok (.iadd, 1) := by decide +kernel
theorem dX7_takeAll_22 : decode cX7_takeAll 22 = .ok (.iaload, 1) := by decide +kernel
theorem dX7_takeAll_23 : decode cX7_takeAll 23 = .ok (.putfield 74, 3) := by decide +kernel
theorem dX7_takeAll_26 : decode cX7_takeAll 26 = .ok (.aload_n 0, 1) := by decide +kernel
theorem dX7_takeAll_27 : decode cX7_takeAll 27 = .ok (.aload_n 1, 1) := by decide +kernel
theorem dX7_takeAll_28 : decode cX7_takeAll 28 = .ok (.iload_n 2, 1) := by decide +kernel
theorem dX7_takeAll_29 : decode cX7_takeAll 29 = .ok (.bipush 13, 2) := by decide +kernel
theorem dX7_takeAll_31 : decode cX7_takeAll 31 = .ok (.iadd, 1) := by decide +kernel
theorem dX7_takeAll_32 : decode cX7_takeAll 32 = .ok (.iaload, 1) := by decide +kernel
theorem dX7_takeAll_33 : decode cX7_takeAll 33 = .ok (.putfield 77, 3) := by decide +kernel
theorem dX7_takeAll_36 : decode cX7_takeAll 36 = .ok (.aload_n 0, 1) := by decide +kernel
theorem dX7_takeAll_37 : decode cX7_takeAll 37 = .ok (.aload_n 1, 1) := by decide +kernel
theorem dX7_takeAll_38 : decode cX7_takeAll 38 = .ok (.iload_n 2, 1) := by decide +kernel
theorem dX7_takeAll_39 : decode cX7_takeAll 39 = .ok (.bipush 14, 2) := by decide +kernel
theorem dX7_takeAll_41 : decode cX7_takeAll 41 = .ok (.iadd, 1) := by decide +kernel
theorem dX7_takeAll_42 : decode cX7_takeAll 42 = .ok (.iaload, 1) := by decide +kernel
theorem dX7_takeAll_43 : decode cX7_takeAll 43 = .ok (.putfield 83, 3) := by decide +kernel
theorem dX7_takeAll_46 : decode cX7_takeAll 46 = .ok (.aload_n 0, 1) := by decide +kernel
theorem dX7_takeAll_47 : decode cX7_takeAll 47 = .ok (.aload_n 1, 1) := by decide +kernel
theorem dX7_takeAll_48 : decode cX7_takeAll 48 = .ok (.iload_n 2, 1) := by decide +kernel
theorem dX7_takeAll_49 : decode cX7_takeAll 49 = .ok (.bipush 15, 2) := by decide +kernel
theorem dX7_takeAll_51 : decode cX7_takeAll 51 = .ok (.iadd, 1) := by decide +kernel
theorem dX7_takeAll_52 : decode cX7_takeAll 52 = .ok (.iaload, 1) := by decide +kernel
theorem dX7_takeAll_53 : decode cX7_takeAll 53 = .ok (.putfield 86, 3) := by decide +kernel
theorem dX7_takeAll_56 : decode cX7_takeAll 56 = .ok (.aload_n 0, 1) := by decide +kernel
theorem dX7_takeAll_57 : decode cX7_takeAll 57 = .ok (.aload_n 1, 1) := by decide +kernel
theorem dX7_takeAll_58 : decode cX7_takeAll 58 = .ok (.iload_n 2, 1) := by decide +kernel
theorem dX7_takeAll_59 : decode cX7_takeAll 59 = .ok (.bipush 16, 2) := by decide +kernel
theorem dX7_takeAll_61 : decode cX7_takeAll 61 = .ok (.iadd, 1) := by decide +kernel
theorem dX7_takeAll_62 : decode cX7_takeAll 62 = .ok (.iaload, 1) := by decide +kernel
theorem dX7_takeAll_63 : decode cX7_takeAll 63 = .ok (.putfield 89, 3) := by decide +kernel
theorem dX7_takeAll_66 : decode cX7_takeAll 66 = .ok (.aload_n 0, 1) := by decide +kernel
theorem dX7_takeAll_67 : decode cX7_takeAll 67 = .ok (.aload_n 1, 1) := by decide +kernel
theorem dX7_takeAll_68 : decode cX7_takeAll 68 = .ok (.iload_n 2, 1) := by decide +kernel
theorem dX7_takeAll_69 : decode cX7_takeAll 69 = .ok (.bipush 17, 2) := by decide +kernel
theorem dX7_takeAll_71 : decode cX7_takeAll 71 = .ok (.iadd, 1) := by decide +kernel
theorem dX7_takeAll_72 : decode cX7_takeAll 72 = .ok (.iaload, 1) := by decide +kernel
theorem dX7_takeAll_73 : decode cX7_takeAll 73 = .ok (.putfield 92, 3) := by decide +kernel
theorem dX7_takeAll_76 : decode cX7_takeAll 76 = .ok (.iconst 0, 1) := by decide +kernel
theorem dX7_takeAll_77 : decode cX7_takeAll 77 = .ok (.istore_n 3, 1) := by decide +kernel
theorem dX7_takeAll_78 : decode cX7_takeAll 78 = .ok (.iload_n 3, 1) := by decide +kernel
theorem dX7_takeAll_79 : decode cX7_takeAll 79 = .ok (.iconst 3, 1) := by decide +kernel
theorem dX7_takeAll_80 : decode cX7_takeAll 80 = .ok (.if_icmp .ge 23, 3) := by decide +kernel
theorem dX7_takeAll_83 : decode cX7_takeAll 83 = .ok (.aload_n 0, 1) := by decide +kernel
theorem dX7_takeAll_84 : decode cX7_takeAll 84 = .ok (.getfield 17, 3) := by decide +kernel
theorem dX7_takeAll_87 : decode cX7_takeAll 87 = .ok (.iload_n 3, 1) := by decide +kernel
theorem dX7_takeAll_88 : decode cX7_takeAll 88 = .ok (.aload_n 1, 1) := by decide +kernel
theorem dX7_takeAll_89 : decode cX7_takeAll 89 = .ok (.iload_n 2, 1) := by decide +kernel
theorem dX7_takeAll_90 : decode cX7_takeAll 90 = .ok (.bipush 18, 2) := by decide +kernel
theorem dX7_takeAll_92 : decode cX7_takeAll 92 = .ok (.iadd, 1) := by decide +kernel
theorem dX7_takeAll_93 : decode cX7_takeAll 93 = .ok (.iload_n 3, 1) := by decide +kernel
theorem dX7_takeAll_94 : decode cX7_takeAll 94 = .ok (.iadd, 1) := by decide +kernel
theorem dX7_takeAll_95 : decode cX7_takeAll 95 = .ok (.iaload, 1) := by decide +kernel
theorem dX7_takeAll_96 : decode cX7_takeAll 96 = .ok (.iastore, 1) := by decide +kernel
theorem dX7_takeAll_97 : decode cX7_takeAll 97 = .ok (.iinc 3 1, 3) := by decide +kernel
theorem dX7_takeAll_100 : decode cX7_takeAll 100 = .ok (.goto (-22), 3) := by decide +kernel
theorem dX7_takeAll_103 : decode cX7_takeAll 103 = .ok (.iconst 0, 1) := by decide +kernel
theorem dX7_takeAll_104 : decode cX7_takeAll 104 = .ok (.istore_n 3, 1) := by decide +kernel
theorem dX7_takeAll_105 : decode cX7_takeAll 105 = .ok (.iload_n 3, 1) := by decide +kernel
theorem dX7_takeAll_106 : decode cX7_takeAll 106 = .ok (.bipush 7, 2) := by decide +kernel
theorem dX7_takeAll_108 : decode cX7_takeAll 108 = .ok (.if_icmp .ge 23, 3) := by decide +kernel
theorem dX7_takeAll_111 : decode cX7_takeAll 111 = .ok (.aload_n 0, 1) := by decide +kernel
theorem dX7_takeAll_112 : decode cX7_takeAll 112 = .ok (.getfield 23, 3) := by decide +kernel
theorem dX7_takeAll_115 : decode cX7_takeAll 115 = .ok (.iload_n 3, 1) := by decide +kernel
theorem dX7_takeAll_116 : decode cX7_takeAll 116 = .ok (.aload_n 1, 1) := by decide +kernel
theorem dX7_takeAll_117 : decode cX7_takeAll 117 = .ok (.iload_n 2, 1) := by decide +kernel
theorem dX7_takeAll_118 : decode cX7_takeAll 118 = .ok (.bipush 21, 2) := by decide +kernel
theorem dX7_takeAll_120 : decode cX7_takeAll 120 = .ok (.iadd, 1) := by decide +kernel
theorem dX7_takeAll_121 : decode cX7_takeAll 121 = .ok (.iload_n 3, 1) := by decide +kernel
theorem dX7_takeAll_122 : decode cX7_takeAll 122 = .ok (.iadd, 1) := by decide +kernel
theorem dX7_takeAll_123 : decode cX7_takeAll 123 = .ok (.iaload, 1) := by decide +kernel
theorem dX7_takeAll_124 : decode cX7_takeAll 124 = .ok (.iastore, 1) := by decide +kernel
theorem dX7_takeAll_125 : decode cX7_takeAll 125 = .ok (.iinc 3 1, 3) := by decide +kernel
theorem dX7_takeAll_128 : decode cX7_takeAll 128 = .ok (.goto (-23), 3) := by decide +kernel
theorem dX7_takeAll_131 : decode cX7_takeAll 131 = .ok (.iconst 0, 1) := by decide +kernel
theorem dX7_takeAll_132 : decode cX7_takeAll 132 = .ok (.istore_n 3, 1) := by decide +kernel
theorem dX7_takeAll_133 : decode cX7_takeAll 133 = .ok (.iload_n 3, 1) := by decide +kernel
theorem dX7_takeAll_134 : decode cX7_takeAll 134 = .ok (.bipush 10, 2) := by decide +kernel
theorem dX7_takeAll_136 : decode cX7_takeAll 136 = .ok (.if_icmp .ge 23, 3) := by decide +kernel
theorem dX7_takeAll_139 : decode cX7_takeAll 139 = .ok (.aload_n 0, 1) := by decide +kernel
theorem dX7_takeAll_140 : decode cX7_takeAll 140 = .ok (.getfield 29, 3) := by decide +kernel
theorem dX7_takeAll_143 : decode cX7_takeAll 143 = .ok (.iload_n 3, 1) := by decide +kernel
theorem dX7_takeAll_144 : decode cX7_takeAll 144 = .ok (.aload_n 1, 1) := by decide +kernel
theorem dX7_takeAll_145 : decode cX7_takeAll 145 = .ok (.iload_n 2, 1) := by decide +kernel
theorem dX7_takeAll_146 : decode cX7_takeAll 146 = .ok (.bipush 28, 2) := by decide +kernel
theorem dX7_takeAll_148 : decode cX7_takeAll 148 = .ok (.iadd, 1) := by decide +kernel
theorem dX7_takeAll_149 : decode cX7_takeAll 149 = .ok (.iload_n 3, 1) := by decide +kernel
theorem dX7_takeAll_150 : decode cX7_takeAll 150 = .ok (.iadd, 1) := by decide +kernel
theorem dX7_takeAll_151 : decode cX7_takeAll 151 = .ok (.iaload, 1) := by decide +kernel
theorem dX7_takeAll_152 : decode cX7_takeAll 152 = .ok (.iastore, 1) := by decide +kernel
theorem dX7_takeAll_153 : decode cX7_takeAll 153 = .ok (.iinc 3 1, 3) := by decide +kernel
theorem dX7_takeAll_156 : decode cX7_takeAll 156 = .ok (.goto (-23), 3) := by decide +kernel
theorem dX7_takeAll_159 : decode cX7_takeAll 159 = .ok (.iconst 0, 1) := by decide +kernel
theorem dX7_takeAll_160 : decode cX7_takeAll 160 = .ok (.istore_n 3, 1) := by decide +kernel
theorem dX7_takeAll_161 : decode cX7_takeAll 161 = .ok (.iload_n 3, 1) := by decide +kernel
theorem dX7_takeAll_162 : decode cX7_takeAll 162 = .ok (.bipush 18, 2) := by decide +kernel
theorem dX7_takeAll_164 : decode cX7_takeAll 164 = .ok (.if_icmp .ge 37, 3) := by decide +kernel
theorem dX7_takeAll_167 : decode cX7_takeAll 167 = .ok (.aload_n 0, 1) := by decide +kernel
theorem dX7_takeAll_168 : decode cX7_takeAll 168 = .ok (.getfield 32, 3) := by decide +kernel
theorem dX7_takeAll_171 : decode cX7_takeAll 171 = .ok (.iload_n 3, 1) := by decide +kernel
theorem dX7_takeAll_172 : decode cX7_takeAll 172 = .ok (.aload_n 1, 1) := by decide +kernel
theorem dX7_takeAll_173 : decode cX7_takeAll 173 = .ok (.iload_n 2, 1) := by decide +kernel
theorem dX7_takeAll_174 : decode cX7_takeAll 174 = .ok (.bipush 38, 2) := by decide +kernel
theorem dX7_takeAll_176 : decode cX7_takeAll 176 = .ok (.iadd, 1) := by decide +kernel
theorem dX7_takeAll_177 : decode cX7_takeAll 177 = .ok (.iload_n 3, 1) := by decide +kernel
theorem dX7_takeAll_178 : decode cX7_takeAll 178 = .ok (.iadd, 1) := by decide +kernel
theorem dX7_takeAll_179 : decode cX7_takeAll 179 = .ok (.iaload, 1) := by decide +kernel
theorem dX7_takeAll_180 : decode cX7_takeAll 180 = .ok (.iastore, 1) := by decide +kernel
theorem dX7_takeAll_181 : decode cX7_takeAll 181 = .ok (.aload_n 0, 1) := by decide +kernel
theorem dX7_takeAll_182 : decode cX7_takeAll 182 = .ok (.getfield 35, 3) := by decide +kernel
theorem dX7_takeAll_185 : decode cX7_takeAll 185 = .ok (.iload_n 3, 1) := by decide +kernel
theorem dX7_takeAll_186 : decode cX7_takeAll 186 = .ok (.aload_n 1, 1) := by decide +kernel
theorem dX7_takeAll_187 : decode cX7_takeAll 187 = .ok (.iload_n 2, 1) := by decide +kernel
theorem dX7_takeAll_188 : decode cX7_takeAll 188 = .ok (.bipush 56, 2) := by decide +kernel
theorem dX7_takeAll_190 : decode cX7_takeAll 190 = .ok (.iadd, 1) := by decide +kernel
theorem dX7_takeAll_191 : decode cX7_takeAll 191 = .ok (.iload_n 3, 1) := by decide +kernel
theorem dX7_takeAll_192 : decode cX7_takeAll 192 = .ok (.iadd, 1) := by decide +kernel
theorem dX7_takeAll_193 : decode cX7_takeAll 193 = .ok (.iaload, 1) := by decide +kernel
theorem dX7_takeAll_194 : decode cX7_takeAll 194 = .ok (.iastore, 1) := by decide +kernel
theorem dX7_takeAll_195 : decode cX7_takeAll 195 = .ok (.iinc 3 1, 3) := by decide +kernel
theorem dX7_takeAll_198 : decode cX7_takeAll 198 = .ok (.goto (-37), 3) := by decide +kernel
theorem dX7_takeAll_201 : decode cX7_takeAll 201 = .ok (.iconst 0, 1) := by decide +kernel
theorem dX7_takeAll_202 : decode cX7_takeAll 202 = .ok (.istore_n 3, 1) := by decide +kernel
theorem dX7_takeAll_203 : decode cX7_takeAll 203 = .ok (.iload_n 3, 1) := by decide +kernel
theorem dX7_takeAll_204 : decode cX7_takeAll 204 = .ok (.bipush 88, 2) := by decide +kernel
theorem dX7_takeAll_206 : decode cX7_takeAll 206 = .ok (.if_icmp .ge 23, 3) := by decide +kernel
theorem dX7_takeAll_209 : decode cX7_takeAll 209 = .ok (.aload_n 0, 1) := by decide +kernel
theorem dX7_takeAll_210 : decode cX7_takeAll 210 = .ok (.getfield 44, 3) := by decide +kernel
theorem dX7_takeAll_213 : decode cX7_takeAll 213 = .ok (.iload_n 3, 1) := by decide +kernel
theorem dX7_takeAll_214 : decode cX7_takeAll 214 = .ok (.aload_n 1, 1) := by decide +kernel
theorem dX7_takeAll_215 : decode cX7_takeAll 215 = .ok (.iload_n 2, 1) := by decide +kernel
theorem dX7_takeAll_216 : decode cX7_takeAll 216 = .ok (.bipush 74, 2) := by decide +kernel
theorem dX7_takeAll_218 : decode cX7_takeAll 218 = .ok (.iadd, 1) := by decide +kernel
theorem dX7_takeAll_219 : decode cX7_takeAll 219 = .ok (.iload_n 3, 1) := by decide +kernel
theorem dX7_takeAll_220 : decode cX7_takeAll 220 = .ok (.iadd, 1) := by decide +kernel
theorem dX7_takeAll_221 : decode cX7_takeAll 221 = .ok (.iaload, 1) := by decide +kernel
theorem dX7_takeAll_222 : decode cX7_takeAll 222 = .ok (.iastore, 1) := by decide +kernel
theorem dX7_takeAll_223 : decode cX7_takeAll 223 = .ok (.iinc 3 1, 3) := by decide +kernel
theorem dX7_takeAll_226 : decode cX7_takeAll 226 = .ok (.goto (-23), 3) := by decide +kernel
theorem dX7_takeAll_229 : decode cX7_takeAll 229 = .ok (.return_, 1) := by decide +kernel
theorem dX7_image_0 : decode cX7_image 0 = .ok (.iload_n 1, 1) := by decide +kernel
theorem dX7_image_1 : decode cX7_image 1 = .ok (.iconst 0, 1) := by decide +kernel
theorem dX7_image_2 : decode cX7_image 2 = .ok (.iconst 1, 1) := by decide +kernel
theorem dX7_image_3 : decode cX7_image 3 = .ok (.invokestatic 95, 3) := by decide +kernel
theorem dX7_image_6 : decode cX7_image 6 = .ok (.ifCond .ne 8, 3) := by decide +kernel
theorem dX7_image_9 : decode cX7_image 9 = .ok (.aload_n 0, 1) := by decide +kernel
theorem dX7_image_10 : decode cX7_image 10 = .ok (.invokevirtual 103, 3) := by decide +kernel
theorem dX7_image_13 : decode cX7_image 13 = .ok (.ireturn, 1) := by decide +kernel
theorem dX7_image_14 : decode cX7_image 14 = .ok (.aload_n 0, 1) := by decide +kernel
theorem dX7_image_15 : decode cX7_image 15 = .ok (.getfield 63, 3) := by decide +kernel
theorem dX7_image_18 : decode cX7_image 18 = .ok (.iload_n 1, 1) := by decide +kernel
theorem dX7_image_19 : decode cX7_image 19 = .ok (.iconst 1, 1) := by decide +kernel
theorem dX7_image_20 : decode cX7_image 20 = .ok (.iastore, 1) := by decide +kernel
theorem dX7_image_21 : decode cX7_image 21 = .ok (.aload_n 0, 1) := by decide +kernel
theorem dX7_image_22 : decode cX7_image 22 = .ok (.aload_n 0, 1) := by decide +kernel
theorem dX7_image_23 : decode cX7_image 23 = .ok (.getfield 60, 3) := by decide +kernel
theorem dX7_image_26 : decode cX7_image 26 = .ok (.sipush 170, 3) := by decide +kernel
theorem dX7_image_29 : decode cX7_image 29 = .ok (.iload_n 1, 1) := by decide +kernel
theorem dX7_image_30 : decode cX7_image 30 = .ok (.imul, 1) := by decide +kernel
theorem dX7_image_31 : decode cX7_image 31 = .ok (.invokevirtual 180, 3) := by decide +kernel
theorem dX7_image_34 : decode cX7_image 34 = .ok (.iconst 1, 1) := by decide +kernel
theorem dX7_image_35 : decode cX7_image 35 = .ok (.ireturn, 1) := by decide +kernel
theorem dX7_from_0 : decode cX7_from 0 = .ok (.iload_n 1, 1) := by decide +kernel
theorem dX7_from_1 : decode cX7_from 1 = .ok (.iconst 0, 1) := by decide +kernel
theorem dX7_from_2 : decode cX7_from 2 = .ok (.iconst 1, 1) := by decide +kernel
theorem dX7_from_3 : decode cX7_from 3 = .ok (.invokestatic 95, 3) := by decide +kernel
theorem dX7_from_6 : decode cX7_from 6 = .ok (.ifCond .ne 8, 3) := by decide +kernel
theorem dX7_from_9 : decode cX7_from 9 = .ok (.aload_n 0, 1) := by decide +kernel
theorem dX7_from_10 : decode cX7_from 10 = .ok (.invokevirtual 103, 3) := by decide +kernel
theorem dX7_from_13 : decode cX7_from 13 = .ok (.ireturn, 1) := by decide +kernel
theorem dX7_from_14 : decode cX7_from 14 = .ok (.aload_n 0, 1) := by decide +kernel
theorem dX7_from_15 : decode cX7_from 15 = .ok (.getfield 63, 3) := by decide +kernel
theorem dX7_from_18 : decode cX7_from 18 = .ok (.iload_n 1, 1) := by decide +kernel
theorem dX7_from_19 : decode cX7_from 19 = .ok (.iaload, 1) := by decide +kernel
theorem dX7_from_20 : decode cX7_from 20 = .ok (.ifCond .ne 8, 3) := by decide +kernel
theorem dX7_from_23 : decode cX7_from 23 = .ok (.aload_n 0, 1) := by decide +kernel
theorem dX7_from_24 : decode cX7_from 24 = .ok (.invokevirtual 116, 3) := by decide +kernel
theorem dX7_from_27 : decode cX7_from 27 = .ok (.ireturn, 1) := by decide +kernel
theorem dX7_from_28 : decode cX7_from 28 = .ok (.aload_n 0, 1) := by decide +kernel
theorem dX7_from_29 : decode cX7_from 29 = .ok (.aload_n 0, 1) := by decide +kernel
theorem dX7_from_30 : decode cX7_from 30 = .ok (.getfield 60, 3) := by decide +kernel
theorem dX7_from_33 : decode cX7_from 33 = .ok (.sipush 170, 3) := by decide +kernel
theorem dX7_from_36 : decode cX7_from 36 = .ok (.iload_n 1, 1) := by decide +kernel
theorem dX7_from_37 : decode cX7_from 37 = .ok (.imul, 1) := by decide +kernel
theorem dX7_from_38 : decode cX7_from 38 = .ok (.invokevirtual 187, 3) := by decide +kernel
theorem dX7_from_41 : decode cX7_from 41 = .ok (.iconst 1, 1) := by decide +kernel
theorem dX7_from_42 : decode cX7_from 42 = .ok (.ireturn, 1) := by decide +kernel
theorem dX7_status_0 : decode cX7_status 0 = .ok (.iload_n 1, 1) := by decide +kernel
theorem dX7_status_1 : decode cX7_status 1 = .ok (.iconst 0, 1) := by decide +kernel
theorem dX7_status_2 : decode cX7_status 2 = .ok (.iconst 2, 1) := by decide +kernel
theorem dX7_status_3 : decode cX7_status 3 = .ok (.invokestatic 95, 3) := by decide +kernel
theorem dX7_status_6 : decode cX7_status 6 = .ok (.ifCond .ne 15, 3) := by decide +kernel
theorem dX7_status_9 : decode cX7_status 9 = .ok (.aload_n 0, 1) := by decide +kernel
theorem dX7_status_10 : decode cX7_status 10 = .ok (.getfield 1, 3) := by decide +kernel
theorem dX7_status_13 : decode cX7_status 13 = .ok (.iconst 0, 1) := by decide +kernel
theorem dX7_status_14 : decode cX7_status 14 = .ok (.dup2, 1) := by decide +kernel
theorem dX7_status_15 : decode cX7_status 15 = .ok (.iaload, 1) := by decide +kernel
theorem dX7_status_16 : decode cX7_status 16 = .ok (.iconst 1, 1) := by decide +kernel
theorem dX7_status_17 : decode cX7_status 17 = .ok (.iadd, 1) := by decide +kernel
theorem dX7_status_18 : decode cX7_status 18 = .ok (.iastore, 1) := by decide +kernel
theorem dX7_status_19 : decode cX7_status 19 = .ok (.iconst (-1), 1) := by decide +kernel
theorem dX7_status_20 : decode cX7_status 20 = .ok (.ireturn, 1) := by decide +kernel
theorem dX7_status_21 : decode cX7_status 21 = .ok (.aload_n 0, 1) := by decide +kernel
theorem dX7_status_22 : decode cX7_status 22 = .ok (.getfield 1, 3) := by decide +kernel
theorem dX7_status_25 : decode cX7_status 25 = .ok (.iload_n 1, 1) := by decide +kernel
theorem dX7_status_26 : decode cX7_status 26 = .ok (.iaload, 1) := by decide +kernel
theorem dX7_status_27 : decode cX7_status 27 = .ok (.ireturn, 1) := by decide +kernel
theorem dX7_countOf_0 : decode cX7_countOf 0 = .ok (.iload_n 1, 1) := by decide +kernel
theorem dX7_countOf_1 : decode cX7_countOf 1 = .ok (.tableswitch 96 0 8 #[51, 56, 61, 66, 71, 76, 81, 86, 91], 51) := by decide +kernel
theorem dX7_countOf_52 : decode cX7_countOf 52 = .ok (.aload_n 0, 1) := by decide +kernel
theorem dX7_countOf_53 : decode cX7_countOf 53 = .ok (.getfield 74, 3) := by decide +kernel
theorem dX7_countOf_56 : decode cX7_countOf 56 = .ok (.ireturn, 1) := by decide +kernel
theorem dX7_countOf_57 : decode cX7_countOf 57 = .ok (.aload_n 0, 1) := by decide +kernel
theorem dX7_countOf_58 : decode cX7_countOf 58 = .ok (.getfield 70, 3) := by decide +kernel
theorem dX7_countOf_61 : decode cX7_countOf 61 = .ok (.ireturn, 1) := by decide +kernel
theorem dX7_countOf_62 : decode cX7_countOf 62 = .ok (.aload_n 0, 1) := by decide +kernel
theorem dX7_countOf_63 : decode cX7_countOf 63 = .ok (.getfield 80, 3) := by decide +kernel
theorem dX7_countOf_66 : decode cX7_countOf 66 = .ok (.ireturn, 1) := by decide +kernel
theorem dX7_countOf_67 : decode cX7_countOf 67 = .ok (.aload_n 0, 1) := by decide +kernel
theorem dX7_countOf_68 : decode cX7_countOf 68 = .ok (.getfield 77, 3) := by decide +kernel
theorem dX7_countOf_71 : decode cX7_countOf 71 = .ok (.ireturn, 1) := by decide +kernel
theorem dX7_countOf_72 : decode cX7_countOf 72 = .ok (.aload_n 0, 1) := by decide +kernel
theorem dX7_countOf_73 : decode cX7_countOf 73 = .ok (.invokevirtual 252, 3) := by decide +kernel
theorem dX7_countOf_76 : decode cX7_countOf 76 = .ok (.ireturn, 1) := by decide +kernel
theorem dX7_countOf_77 : decode cX7_countOf 77 = .ok (.aload_n 0, 1) := by decide +kernel
theorem dX7_countOf_78 : decode cX7_countOf 78 = .ok (.getfield 83, 3) := by decide +kernel
theorem dX7_countOf_81 : decode cX7_countOf 81 = .ok (.ireturn, 1) := by decide +kernel
theorem dX7_countOf_82 : decode cX7_countOf 82 = .ok (.aload_n 0, 1) := by decide +kernel
theorem dX7_countOf_83 : decode cX7_countOf 83 = .ok (.getfield 86, 3) := by decide +kernel
theorem dX7_countOf_86 : decode cX7_countOf 86 = .ok (.ireturn, 1) := by decide +kernel
theorem dX7_countOf_87 : decode cX7_countOf 87 = .ok (.aload_n 0, 1) := by decide +kernel
theorem dX7_countOf_88 : decode cX7_countOf 88 = .ok (.getfield 89, 3) := by decide +kernel
theorem dX7_countOf_91 : decode cX7_countOf 91 = .ok (.ireturn, 1) := by decide +kernel
theorem dX7_countOf_92 : decode cX7_countOf 92 = .ok (.aload_n 0, 1) := by decide +kernel
theorem dX7_countOf_93 : decode cX7_countOf 93 = .ok (.getfield 92, 3) := by decide +kernel
theorem dX7_countOf_96 : decode cX7_countOf 96 = .ok (.ireturn, 1) := by decide +kernel
theorem dX7_countOf_97 : decode cX7_countOf 97 = .ok (.aload_n 0, 1) := by decide +kernel
theorem dX7_countOf_98 : decode cX7_countOf 98 = .ok (.getfield 119, 3) := by decide +kernel
theorem dX7_countOf_101 : decode cX7_countOf 101 = .ok (.ireturn, 1) := by decide +kernel
theorem dX7_count_0 : decode cX7_count 0 = .ok (.iload_n 1, 1) := by decide +kernel
theorem dX7_count_1 : decode cX7_count 1 = .ok (.iconst 0, 1) := by decide +kernel
theorem dX7_count_2 : decode cX7_count 2 = .ok (.bipush 9, 2) := by decide +kernel
theorem dX7_count_4 : decode cX7_count 4 = .ok (.invokestatic 95, 3) := by decide +kernel
theorem dX7_count_7 : decode cX7_count 7 = .ok (.ifCond .eq 11, 3) := by decide +kernel
theorem dX7_count_10 : decode cX7_count 10 = .ok (.aload_n 0, 1) := by decide +kernel
theorem dX7_count_11 : decode cX7_count 11 = .ok (.iload_n 1, 1) := by decide +kernel
theorem dX7_count_12 : decode cX7_count 12 = .ok (.invokevirtual 307, 3) := by decide +kernel
theorem dX7_count_15 : decode cX7_count 15 = .ok (.goto 7, 3) := by decide +kernel
theorem dX7_count_18 : decode cX7_count 18 = .ok (.aload_n 0, 1) := by decide +kernel
theorem dX7_count_19 : decode cX7_count 19 = .ok (.invokevirtual 103, 3) := by decide +kernel
theorem dX7_count_22 : decode cX7_count 22 = .ok (.ireturn, 1) := by decide +kernel
theorem dX7_mix_0 : decode cX7_mix 0 = .ok (.aload_n 0, 1) := by decide +kernel
theorem dX7_mix_1 : decode cX7_mix 1 = .ok (.ldc2_w 310, 3) := by decide +kernel
theorem dX7_mix_4 : decode cX7_mix 4 = .ok (.aload_n 0, 1) := by decide +kernel
theorem dX7_mix_5 : decode cX7_mix 5 = .ok (.getfield 312, 3) := by decide +kernel
theorem dX7_mix_8 : decode cX7_mix 8 = .ok (.lmul, 1) := by decide +kernel
theorem dX7_mix_9 : decode cX7_mix 9 = .ok (.lload_n 1, 1) := by decide +kernel
theorem dX7_mix_10 : decode cX7_mix 10 = .ok (.ladd, 1) := by decide +kernel
theorem dX7_mix_11 : decode cX7_mix 11 = .ok (.putfield 312, 3) := by decide +kernel
theorem dX7_mix_14 : decode cX7_mix 14 = .ok (.return_, 1) := by decide +kernel
theorem dX7_digest_0 : decode cX7_digest 0 = .ok (.aload_n 0, 1) := by decide +kernel
theorem dX7_digest_1 : decode cX7_digest 1 = .ok (.ldc2_w 315, 3) := by decide +kernel
theorem dX7_digest_4 : decode cX7_digest 4 = .ok (.putfield 312, 3) := by decide +kernel
theorem dX7_digest_7 : decode cX7_digest 7 = .ok (.iconst 0, 1) := by decide +kernel
theorem dX7_digest_8 : decode cX7_digest 8 = .ok (.istore_n 1, 1) := by decide +kernel
theorem dX7_digest_9 : decode cX7_digest 9 = .ok (.iload_n 1, 1) := by decide +kernel
theorem dX7_digest_10 : decode cX7_digest 10 = .ok (.bipush 9, 2) := by decide +kernel
theorem dX7_digest_12 : decode cX7_digest 12 = .ok (.if_icmp .gt 19, 3) := by decide +kernel
theorem dX7_digest_15 : decode cX7_digest 15 = .ok (.aload_n 0, 1) := by decide +kernel
theorem dX7_digest_16 : decode cX7_digest 16 = .ok (.aload_n 0, 1) := by decide +kernel
theorem dX7_digest_17 : decode cX7_digest 17 = .ok (.iload_n 1, 1) := by decide +kernel
theorem dX7_digest_18 : decode cX7_digest 18 = .ok (.invokevirtual 307, 3) := by decide +kernel
theorem dX7_digest_21 : decode cX7_digest 21 = .ok (.i2l, 1) := by decide +kernel
theorem dX7_digest_22 : decode cX7_digest 22 = .ok (.invokevirtual 317, 3) := by decide +kernel
theorem dX7_digest_25 : decode cX7_digest 25 = .ok (.iinc 1 1, 3) := by decide +kernel
theorem dX7_digest_28 : decode cX7_digest 28 = .ok (.goto (-19), 3) := by decide +kernel
theorem dX7_digest_31 : decode cX7_digest 31 = .ok (.iconst 0, 1) := by decide +kernel
theorem dX7_digest_32 : decode cX7_digest 32 = .ok (.istore_n 1, 1) := by decide +kernel
theorem dX7_digest_33 : decode cX7_digest 33 = .ok (.iload_n 1, 1) := by decide +kernel
theorem dX7_digest_34 : decode cX7_digest 34 = .ok (.aload_n 0, 1) := by decide +kernel
theorem dX7_digest_35 : decode cX7_digest 35 = .ok (.getfield 70, 3) := by decide +kernel
theorem dX7_digest_38 : decode cX7_digest 38 = .ok (.if_icmp .ge 31, 3) := by decide +kernel
theorem dX7_digest_41 : decode cX7_digest 41 = .ok (.aload_n 0, 1) := by decide +kernel
theorem dX7_digest_42 : decode cX7_digest 42 = .ok (.aload_n 0, 1) := by decide +kernel
theorem dX7_digest_43 : decode cX7_digest 43 = .ok (.getfield 17, 3) := by decide +kernel
theorem dX7_digest_46 : decode cX7_digest 46 = .ok (.iload_n 1, 1) := by decide +kernel
theorem dX7_digest_47 : decode cX7_digest 47 = .ok (.iaload, 1) := by decide +kernel
theorem dX7_digest_48 : decode cX7_digest 48 = .ok (.i2l, 1) := by decide +kernel
theorem dX7_digest_49 : decode cX7_digest 49 = .ok (.invokevirtual 317, 3) := by decide +kernel
theorem dX7_digest_52 : decode cX7_digest 52 = .ok (.aload_n 0, 1) := by decide +kernel
theorem dX7_digest_53 : decode cX7_digest 53 = .ok (.aload_n 0, 1) := by decide +kernel
theorem dX7_digest_54 : decode cX7_digest 54 = .ok (.getfield 20, 3) := by decide +kernel
theorem dX7_digest_57 : decode cX7_digest 57 = .ok (.iload_n 1, 1) := by decide +kernel
theorem dX7_digest_58 : decode cX7_digest 58 = .ok (.iaload, 1) := by decide +kernel
theorem dX7_digest_59 : decode cX7_digest 59 = .ok (.i2l, 1) := by decide +kernel
theorem dX7_digest_60 : decode cX7_digest 60 = .ok (.invokevirtual 317, 3) := by decide +kernel
theorem dX7_digest_63 : decode cX7_digest 63 = .ok (.iinc 1 1, 3) := by decide +kernel
theorem dX7_digest_66 : decode cX7_digest 66 = .ok (.goto (-33), 3) := by decide +kernel
theorem dX7_digest_69 : decode cX7_digest 69 = .ok (.iconst 0, 1) := by decide +kernel
theorem dX7_digest_70 : decode cX7_digest 70 = .ok (.istore_n 1, 1) := by decide +kernel
theorem dX7_digest_71 : decode cX7_digest 71 = .ok (.iload_n 1, 1) := by decide +kernel
theorem dX7_digest_72 : decode cX7_digest 72 = .ok (.aload_n 0, 1) := by decide +kernel
theorem dX7_digest_73 : decode cX7_digest 73 = .ok (.getfield 74, 3) := by decide +kernel
theorem dX7_digest_76 : decode cX7_digest 76 = .ok (.if_icmp .ge 31, 3) := by decide +kernel
theorem dX7_digest_79 : decode cX7_digest 79 = .ok (.aload_n 0, 1) := by decide +kernel
theorem dX7_digest_80 : decode cX7_digest 80 = .ok (.aload_n 0, 1) := by decide +kernel
theorem dX7_digest_81 : decode cX7_digest 81 = .ok (.getfield 23, 3) := by decide +kernel
theorem dX7_digest_84 : decode cX7_digest 84 = .ok (.iload_n 1, 1) := by decide +kernel
theorem dX7_digest_85 : decode cX7_digest 85 = .ok (.iaload, 1) := by decide +kernel
theorem dX7_digest_86 : decode cX7_digest 86 = .ok (.i2l, 1) := by decide +kernel
theorem dX7_digest_87 : decode cX7_digest 87 = .ok (.invokevirtual 317, 3) := by decide +kernel
theorem dX7_digest_90 : decode cX7_digest 90 = .ok (.aload_n 0, 1) := by decide +kernel
theorem dX7_digest_91 : decode cX7_digest 91 = .ok (.aload_n 0, 1) := by decide +kernel
theorem dX7_digest_92 : decode cX7_digest 92 = .ok (.getfield 26, 3) := by decide +kernel
theorem dX7_digest_95 : decode cX7_digest 95 = .ok (.iload_n 1, 1) := by decide +kernel
theorem dX7_digest_96 : decode cX7_digest 96 = .ok (.iaload, 1) := by decide +kernel
theorem dX7_digest_97 : decode cX7_digest 97 = .ok (.i2l, 1) := by decide +kernel
theorem dX7_digest_98 : decode cX7_digest 98 = .ok (.invokevirtual 317, 3) := by decide +kernel
theorem dX7_digest_101 : decode cX7_digest 101 = .ok (.iinc 1 1, 3) := by decide +kernel
theorem dX7_digest_104 : decode cX7_digest 104 = .ok (.goto (-33), 3) := by decide +kernel
theorem dX7_digest_107 : decode cX7_digest 107 = .ok (.iconst 0, 1) := by decide +kernel
theorem dX7_digest_108 : decode cX7_digest 108 = .ok (.istore_n 1, 1) := by decide +kernel
theorem dX7_digest_109 : decode cX7_digest 109 = .ok (.iload_n 1, 1) := by decide +kernel
theorem dX7_digest_110 : decode cX7_digest 110 = .ok (.iconst 2, 1) := by decide +kernel
theorem dX7_digest_111 : decode cX7_digest 111 = .ok (.aload_n 0, 1) := by decide +kernel
theorem dX7_digest_112 : decode cX7_digest 112 = .ok (.getfield 83, 3) := by decide +kernel
theorem dX7_digest_115 : decode cX7_digest 115 = .ok (.imul, 1) := by decide +kernel
theorem dX7_digest_116 : decode cX7_digest 116 = .ok (.if_icmp .ge 20, 3) := by decide +kernel
theorem dX7_digest_119 : decode cX7_digest 119 = .ok (.aload_n 0, 1) := by decide +kernel
theorem dX7_digest_120 : decode cX7_digest 120 = .ok (.aload_n 0, 1) := by decide +kernel
theorem dX7_digest_121 : decode cX7_digest 121 = .ok (.getfield 29, 3) := by decide +kernel
theorem dX7_digest_124 : decode cX7_digest 124 = .ok (.iload_n 1, 1) := by decide +kernel
theorem dX7_digest_125 : decode cX7_digest 125 = .ok (.iaload, 1) := by decide +kernel
theorem dX7_digest_126 : decode cX7_digest 126 = .ok (.i2l, 1) := by decide +kernel
theorem dX7_digest_127 : decode cX7_digest 127 = .ok (.invokevirtual 317, 3) := by decide +kernel
theorem dX7_digest_130 : decode cX7_digest 130 = .ok (.iinc 1 1, 3) := by decide +kernel
theorem dX7_digest_133 : decode cX7_digest 133 = .ok (.goto (-24), 3) := by decide +kernel
theorem dX7_digest_136 : decode cX7_digest 136 = .ok (.iconst 0, 1) := by decide +kernel
theorem dX7_digest_137 : decode cX7_digest 137 = .ok (.istore_n 1, 1) := by decide +kernel
theorem dX7_digest_138 : decode cX7_digest 138 = .ok (.iload_n 1, 1) := by decide +kernel
theorem dX7_digest_139 : decode cX7_digest 139 = .ok (.iconst 3, 1) := by decide +kernel
theorem dX7_digest_140 : decode cX7_digest 140 = .ok (.aload_n 0, 1) := by decide +kernel
theorem dX7_digest_141 : decode cX7_digest 141 = .ok (.getfield 86, 3) := by decide +kernel
theorem dX7_digest_144 : decode cX7_digest 144 = .ok (.imul, 1) := by decide +kernel
theorem dX7_digest_145 : decode cX7_digest 145 = .ok (.if_icmp .ge 20, 3) := by decide +kernel
theorem dX7_digest_148 : decode cX7_digest 148 = .ok (.aload_n 0, 1) := by decide +kernel
theorem dX7_digest_149 : decode cX7_digest 149 = .ok (.aload_n 0, 1) := by decide +kernel
theorem dX7_digest_150 : decode cX7_digest 150 = .ok (.getfield 32, 3) := by decide +kernel
theorem dX7_digest_153 : decode cX7_digest 153 = .ok (.iload_n 1, 1) := by decide +kernel
theorem dX7_digest_154 : decode cX7_digest 154 = .ok (.iaload, 1) := by decide +kernel
theorem dX7_digest_155 : decode cX7_digest 155 = .ok (.i2l, 1) := by decide +kernel
theorem dX7_digest_156 : decode cX7_digest 156 = .ok (.invokevirtual 317, 3) := by decide +kernel
theorem dX7_digest_159 : decode cX7_digest 159 = .ok (.iinc 1 1, 3) := by decide +kernel
theorem dX7_digest_162 : decode cX7_digest 162 = .ok (.goto (-24), 3) := by decide +kernel
theorem dX7_digest_165 : decode cX7_digest 165 = .ok (.iconst 0, 1) := by decide +kernel
theorem dX7_digest_166 : decode cX7_digest 166 = .ok (.istore_n 1, 1) := by decide +kernel
theorem dX7_digest_167 : decode cX7_digest 167 = .ok (.iload_n 1, 1) := by decide +kernel
theorem dX7_digest_168 : decode cX7_digest 168 = .ok (.iconst 3, 1) := by decide +kernel
theorem dX7_digest_169 : decode cX7_digest 169 = .ok (.aload_n 0, 1) := by decide +kernel
theorem dX7_digest_170 : decode cX7_digest 170 = .ok (.getfield 89, 3) := by decide +kernel
theorem dX7_digest_173 : decode cX7_digest 173 = .ok (.imul, 1) := by decide +kernel
theorem dX7_digest_174 : decode cX7_digest 174 = .ok (.if_icmp .ge 20, 3) := by decide +kernel
theorem dX7_digest_177 : decode cX7_digest 177 = .ok (.aload_n 0, 1) := by decide +kernel
theorem dX7_digest_178 : decode cX7_digest 178 = .ok (.aload_n 0, 1) := by decide +kernel
theorem dX7_digest_179 : decode cX7_digest 179 = .ok (.getfield 35, 3) := by decide +kernel
theorem dX7_digest_182 : decode cX7_digest 182 = .ok (.iload_n 1, 1) := by decide +kernel
theorem dX7_digest_183 : decode cX7_digest 183 = .ok (.iaload, 1) := by decide +kernel
theorem dX7_digest_184 : decode cX7_digest 184 = .ok (.i2l, 1) := by decide +kernel
theorem dX7_digest_185 : decode cX7_digest 185 = .ok (.invokevirtual 317, 3) := by decide +kernel
theorem dX7_digest_188 : decode cX7_digest 188 = .ok (.iinc 1 1, 3) := by decide +kernel
theorem dX7_digest_191 : decode cX7_digest 191 = .ok (.goto (-24), 3) := by decide +kernel
theorem dX7_digest_194 : decode cX7_digest 194 = .ok (.aload_n 0, 1) := by decide +kernel
theorem dX7_digest_195 : decode cX7_digest 195 = .ok (.aload_n 0, 1) := by decide +kernel
theorem dX7_digest_196 : decode cX7_digest 196 = .ok (.getfield 283, 3) := by decide +kernel
theorem dX7_digest_199 : decode cX7_digest 199 = .ok (.invokevirtual 317, 3) := by decide +kernel
theorem dX7_digest_202 : decode cX7_digest 202 = .ok (.aload_n 0, 1) := by decide +kernel
theorem dX7_digest_203 : decode cX7_digest 203 = .ok (.aload_n 0, 1) := by decide +kernel
theorem dX7_digest_204 : decode cX7_digest 204 = .ok (.getfield 56, 3) := by decide +kernel
theorem dX7_digest_207 : decode cX7_digest 207 = .ok (.invokevirtual 317, 3) := by decide +kernel
theorem dX7_digest_210 : decode cX7_digest 210 = .ok (.aload_n 0, 1) := by decide +kernel
theorem dX7_digest_211 : decode cX7_digest 211 = .ok (.getfield 312, 3) := by decide +kernel
theorem dX7_digest_214 : decode cX7_digest 214 = .ok (.lreturn, 1) := by decide +kernel

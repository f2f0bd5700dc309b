theorem dX0_init_0 : decode cX0_init 0 = .ok (.aload_n 0, 1) := by decide +kernel
theorem dX0_init_1 : decode cX0_init 1 = .ok (.invokespecial 3, 3) := by decide +kernel
theorem dX0_init_4 : decode cX0_init 4 = .ok (.aload_n 0, 1) := by decide +kernel
theorem dX0_init_5 : decode cX0_init 5 = .ok (.sipush 275, 3) := by decide +kernel
theorem dX0_init_8 : decode cX0_init 8 = .ok (.newarray .int, 2) := by decide +kernel
theorem dX0_init_10 : decode cX0_init 10 = .ok (.putfield 9, 3) := by decide +kernel
theorem dX0_init_13 : decode cX0_init 13 = .ok (.aload_n 0, 1) := by decide +kernel
theorem dX0_init_14 : decode cX0_init 14 = .ok (.bipush 25, 2) := by decide +kernel
theorem dX0_init_16 : decode cX0_init 16 = .ok (.newarray .int, 2) := by decide +kernel
theorem dX0_init_18 : decode cX0_init 18 = .ok (.putfield 15, 3) := by decide +kernel
theorem dX0_init_21 : decode cX0_init 21 = .ok (.aload_n 0, 1) := by decide +kernel
theorem dX0_init_22 : decode cX0_init 22 = .ok (.sipush 625, 3) := by decide +kernel
theorem dX0_init_25 : decode cX0_init 25 = .ok (.newarray .int, 2) := by decide +kernel
theorem dX0_init_27 : decode cX0_init 27 = .ok (.putfield 18, 3) := by decide +kernel
theorem dX0_init_30 : decode cX0_init 30 = .ok (.aload_n 0, 1) := by decide +kernel
theorem dX0_init_31 : decode cX0_init 31 = .ok (.iconst (-1), 1) := by decide +kernel
theorem dX0_init_32 : decode cX0_init 32 = .ok (.putfield 21, 3) := by decide +kernel
theorem dX0_init_35 : decode cX0_init 35 = .ok (.return_, 1) := by decide +kernel
theorem dX0_shortest_0 : decode cX0_shortest 0 = .ok (.aload_n 1, 1) := by decide +kernel
theorem dX0_shortest_1 : decode cX0_shortest 1 = .ok (.iload_n 2, 1) := by decide +kernel
theorem dX0_shortest_2 : decode cX0_shortest 2 = .ok (.invokevirtual 25, 3) := by decide +kernel
theorem dX0_shortest_5 : decode cX0_shortest 5 = .ok (.ifCond .eq 11, 3) := by decide +kernel
theorem dX0_shortest_8 : decode cX0_shortest 8 = .ok (.aload_n 1, 1) := by decide +kernel
theorem dX0_shortest_9 : decode cX0_shortest 9 = .ok (.iload_n 3, 1) := by decide +kernel
theorem dX0_shortest_10 : decode cX0_shortest 10 = .ok (.invokevirtual 31, 3) := by decide +kernel
theorem dX0_shortest_13 : decode cX0_shortest 13 = .ok (.ifCond .ne 6, 3) := by decide +kernel
theorem dX0_shortest_16 : decode cX0_shortest 16 = .ok (.bipush (-6), 2) := by decide +kernel
theorem dX0_shortest_18 : decode cX0_shortest 18 = .ok (.ireturn, 1) := by decide +kernel
theorem dX0_shortest_19 : decode cX0_shortest 19 = .ok (.aload_n 0, 1) := by decide +kernel
theorem dX0_shortest_20 : decode cX0_shortest 20 = .ok (.aload_n 1, 1) := by decide +kernel
theorem dX0_shortest_21 : decode cX0_shortest 21 = .ok (.getfield 34, 3) := by decide +kernel
theorem dX0_shortest_24 : decode cX0_shortest 24 = .ok (.iload_n 2, 1) := by decide +kernel
theorem dX0_shortest_25 : decode cX0_shortest 25 = .ok (.iaload, 1) := by decide +kernel
theorem dX0_shortest_26 : decode cX0_shortest 26 = .ok (.invokevirtual 37, 3) := by decide +kernel
theorem dX0_shortest_29 : decode cX0_shortest 29 = .ok (.aload_n 0, 1) := by decide +kernel
theorem dX0_shortest_30 : decode cX0_shortest 30 = .ok (.aload_n 1, 1) := by decide +kernel
theorem dX0_shortest_31 : decode cX0_shortest 31 = .ok (.getfield 41, 3) := by decide +kernel
theorem dX0_shortest_34 : decode cX0_shortest 34 = .ok (.iload_n 3, 1) := by decide +kernel
theorem dX0_shortest_35 : decode cX0_shortest 35 = .ok (.iaload, 1) := by decide +kernel
theorem dX0_shortest_36 : decode cX0_shortest 36 = .ok (.putfield 44, 3) := by decide +kernel
theorem dX0_shortest_39 : decode cX0_shortest 39 = .ok (.aload_n 0, 1) := by decide +kernel
theorem dX0_shortest_40 : decode cX0_shortest 40 = .ok (.aload_n 1, 1) := by decide +kernel
theorem dX0_shortest_41 : decode cX0_shortest 41 = .ok (.getfield 46, 3) := by decide +kernel
theorem dX0_shortest_44 : decode cX0_shortest 44 = .ok (.putfield 49, 3) := by decide +kernel
theorem dX0_shortest_47 : decode cX0_shortest 47 = .ok (.aload_n 0, 1) := by decide +kernel
theorem dX0_shortest_48 : decode cX0_shortest 48 = .ok (.aload_n 1, 1) := by decide +kernel
theorem dX0_shortest_49 : decode cX0_shortest 49 = .ok (.getfield 52, 3) := by decide +kernel
theorem dX0_shortest_52 : decode cX0_shortest 52 = .ok (.iload_n 3, 1) := by decide +kernel
theorem dX0_shortest_53 : decode cX0_shortest 53 = .ok (.iaload, 1) := by decide +kernel
theorem dX0_shortest_54 : decode cX0_shortest 54 = .ok (.putfield 55, 3) := by decide +kernel
theorem dX0_shortest_57 : decode cX0_shortest 57 = .ok (.aload_n 0, 1) := by decide +kernel
theorem dX0_shortest_58 : decode cX0_shortest 58 = .ok (.aload_n 1, 1) := by decide +kernel
theorem dX0_shortest_59 : decode cX0_shortest 59 = .ok (.getfield 58, 3) := by decide +kernel
theorem dX0_shortest_62 : decode cX0_shortest 62 = .ok (.iload_n 2, 1) := by decide +kernel
theorem dX0_shortest_63 : decode cX0_shortest 63 = .ok (.iaload, 1) := by decide +kernel
theorem dX0_shortest_64 : decode cX0_shortest 64 = .ok (.putfield 61, 3) := by decide +kernel
theorem dX0_shortest_67 : decode cX0_shortest 67 = .ok (.aload_n 0, 1) := by decide +kernel
theorem dX0_shortest_68 : decode cX0_shortest 68 = .ok (.getfield 9, 3) := by decide +kernel
theorem dX0_shortest_71 : decode cX0_shortest 71 = .ok (.iconst 0, 1) := by decide +kernel
theorem dX0_shortest_72 : decode cX0_shortest 72 = .ok (.invokestatic 64, 3) := by decide +kernel
theorem dX0_shortest_75 : decode cX0_shortest 75 = .ok (.aload_n 0, 1) := by decide +kernel
theorem dX0_shortest_76 : decode cX0_shortest 76 = .ok (.getfield 9, 3) := by decide +kernel
theorem dX0_shortest_79 : decode cX0_shortest 79 = .ok (.aload_n 0, 1) := by decide +kernel
theorem dX0_shortest_80 : decode cX0_shortest 80 = .ok (.getfield 55, 3) := by decide +kernel
theorem dX0_shortest_83 : decode cX0_shortest 83 = .ok (.iconst 1, 1) := by decide +kernel
theorem dX0_shortest_84 : decode cX0_shortest 84 = .ok (.aload_n 0, 1) := by decide +kernel
theorem dX0_shortest_85 : decode cX0_shortest 85 = .ok (.getfield 61, 3) := by decide +kernel
theorem dX0_shortest_88 : decode cX0_shortest 88 = .ok (.ishl, 1) := by decide +kernel
theorem dX0_shortest_89 : decode cX0_shortest 89 = .ok (.iastore, 1) := by decide +kernel
theorem dX0_shortest_90 : decode cX0_shortest 90 = .ok (.iconst 0, 1) := by decide +kernel
theorem dX0_shortest_91 : decode cX0_shortest 91 = .ok (.istore 5, 2) := by decide +kernel
theorem dX0_shortest_93 : decode cX0_shortest 93 = .ok (.iload 5, 2) := by decide +kernel
theorem dX0_shortest_95 : decode cX0_shortest 95 = .ok (.bipush 10, 2) := by decide +kernel
theorem dX0_shortest_97 : decode cX0_shortest 97 = .ok (.if_icmp .gt 36, 3) := by decide +kernel
theorem dX0_shortest_100 : decode cX0_shortest 100 = .ok (.aload_n 0, 1) := by decide +kernel
theorem dX0_shortest_101 : decode cX0_shortest 101 = .ok (.iload 5, 2) := by decide +kernel
theorem dX0_shortest_103 : decode cX0_shortest 103 = .ok (.iload 4, 2) := by decide +kernel
theorem dX0_shortest_105 : decode cX0_shortest 105 = .ok (.invokevirtual 70, 3) := by decide +kernel
theorem dX0_shortest_108 : decode cX0_shortest 108 = .ok (.ifCond .eq 6, 3) := by decide +kernel
theorem dX0_shortest_111 : decode cX0_shortest 111 = .ok (.iload 5, 2) := by decide +kernel
theorem dX0_shortest_113 : decode cX0_shortest 113 = .ok (.ireturn, 1) := by decide +kernel
theorem dX0_shortest_114 : decode cX0_shortest 114 = .ok (.iload 5, 2) := by decide +kernel
theorem dX0_shortest_116 : decode cX0_shortest 116 = .ok (.bipush 10, 2) := by decide +kernel
theorem dX0_shortest_118 : decode cX0_shortest 118 = .ok (.if_icmp .ge 9, 3) := by decide +kernel
theorem dX0_shortest_121 : decode cX0_shortest 121 = .ok (.aload_n 0, 1) := by decide +kernel
theorem dX0_shortest_122 : decode cX0_shortest 122 = .ok (.iload 5, 2) := by decide +kernel
theorem dX0_shortest_124 : decode cX0_shortest 124 = .ok (.invokevirtual 74, 3) := by decide +kernel
theorem dX0_shortest_127 : decode cX0_shortest 127 = .ok (.iinc 5 1, 3) := by decide +kernel
theorem dX0_shortest_130 : decode cX0_shortest 130 = .ok (.goto (-37), 3) := by decide +kernel
theorem dX0_shortest_133 : decode cX0_shortest 133 = .ok (.bipush (-6), 2) := by decide +kernel
theorem dX0_shortest_135 : decode cX0_shortest 135 = .ok (.ireturn, 1) := by decide +kernel
theorem dX0_callAt_0 : decode cX0_callAt 0 = .ok (.aload_n 0, 1) := by decide +kernel
theorem dX0_callAt_1 : decode cX0_callAt 1 = .ok (.iload_n 2, 1) := by decide +kernel
theorem dX0_callAt_2 : decode cX0_callAt 2 = .ok (.bipush 10, 2) := by decide +kernel
theorem dX0_callAt_4 : decode cX0_callAt 4 = .ok (.invokestatic 77, 3) := by decide +kernel
theorem dX0_callAt_7 : decode cX0_callAt 7 = .ok (.iload_n 3, 1) := by decide +kernel
theorem dX0_callAt_8 : decode cX0_callAt 8 = .ok (.invokevirtual 83, 3) := by decide +kernel
theorem dX0_callAt_11 : decode cX0_callAt 11 = .ok (.aload_n 0, 1) := by decide +kernel
theorem dX0_callAt_12 : decode cX0_callAt 12 = .ok (.getfield 55, 3) := by decide +kernel
theorem dX0_callAt_15 : decode cX0_callAt 15 = .ok (.istore 4, 2) := by decide +kernel
theorem dX0_callAt_17 : decode cX0_callAt 17 = .ok (.aload_n 0, 1) := by decide +kernel
theorem dX0_callAt_18 : decode cX0_callAt 18 = .ok (.getfield 61, 3) := by decide +kernel
theorem dX0_callAt_21 : decode cX0_callAt 21 = .ok (.istore 5, 2) := by decide +kernel
theorem dX0_callAt_23 : decode cX0_callAt 23 = .ok (.iconst (-1), 1) := by decide +kernel
theorem dX0_callAt_24 : decode cX0_callAt 24 = .ok (.istore 6, 2) := by decide +kernel
theorem dX0_callAt_26 : decode cX0_callAt 26 = .ok (.iconst 0, 1) := by decide +kernel
theorem dX0_callAt_27 : decode cX0_callAt 27 = .ok (.istore 7, 2) := by decide +kernel
theorem dX0_callAt_29 : decode cX0_callAt 29 = .ok (.iload 7, 2) := by decide +kernel
theorem dX0_callAt_31 : decode cX0_callAt 31 = .ok (.iload_n 1, 1) := by decide +kernel
theorem dX0_callAt_32 : decode cX0_callAt 32 = .ok (.if_icmp .gt 58, 3) := by decide +kernel
theorem dX0_callAt_35 : decode cX0_callAt 35 = .ok (.iload 7, 2) := by decide +kernel
theorem dX0_callAt_37 : decode cX0_callAt 37 = .ok (.bipush 10, 2) := by decide +kernel
theorem dX0_callAt_39 : decode cX0_callAt 39 = .ok (.if_icmp .ge 51, 3) := by decide +kernel
theorem dX0_callAt_42 : decode cX0_callAt 42 = .ok (.aload_n 0, 1) := by decide +kernel
theorem dX0_callAt_43 : decode cX0_callAt 43 = .ok (.iload 7, 2) := by decide +kernel
theorem dX0_callAt_45 : decode cX0_callAt 45 = .ok (.iload 4, 2) := by decide +kernel
theorem dX0_callAt_47 : decode cX0_callAt 47 = .ok (.iload 5, 2) := by decide +kernel
theorem dX0_callAt_49 : decode cX0_callAt 49 = .ok (.invokevirtual 87, 3) := by decide +kernel
theorem dX0_callAt_52 : decode cX0_callAt 52 = .ok (.istore 6, 2) := by decide +kernel
theorem dX0_callAt_54 : decode cX0_callAt 54 = .ok (.iload 4, 2) := by decide +kernel
theorem dX0_callAt_56 : decode cX0_callAt 56 = .ok (.iload 6, 2) := by decide +kernel
theorem dX0_callAt_58 : decode cX0_callAt 58 = .ok (.aload_n 0, 1) := by decide +kernel
theorem dX0_callAt_59 : decode cX0_callAt 59 = .ok (.iload 7, 2) := by decide +kernel
theorem dX0_callAt_61 : decode cX0_callAt 61 = .ok (.invokevirtual 91, 3) := by decide +kernel
theorem dX0_callAt_64 : decode cX0_callAt 64 = .ok (.invokestatic 95, 3) := by decide +kernel
theorem dX0_callAt_67 : decode cX0_callAt 67 = .ok (.istore 4, 2) := by decide +kernel
theorem dX0_callAt_69 : decode cX0_callAt 69 = .ok (.aload_n 0, 1) := by decide +kernel
theorem dX0_callAt_70 : decode cX0_callAt 70 = .ok (.getfield 18, 3) := by decide +kernel
theorem dX0_callAt_73 : decode cX0_callAt 73 = .ok (.bipush 25, 2) := by decide +kernel
theorem dX0_callAt_75 : decode cX0_callAt 75 = .ok (.iload 4, 2) := by decide +kernel
theorem dX0_callAt_77 : decode cX0_callAt 77 = .ok (.imul, 1) := by decide +kernel
theorem dX0_callAt_78 : decode cX0_callAt 78 = .ok (.iload 5, 2) := by decide +kernel
theorem dX0_callAt_80 : decode cX0_callAt 80 = .ok (.iadd, 1) := by decide +kernel
theorem dX0_callAt_81 : decode cX0_callAt 81 = .ok (.iaload, 1) := by decide +kernel
theorem dX0_callAt_82 : decode cX0_callAt 82 = .ok (.istore 5, 2) := by decide +kernel
theorem dX0_callAt_84 : decode cX0_callAt 84 = .ok (.iinc 7 1, 3) := by decide +kernel
theorem dX0_callAt_87 : decode cX0_callAt 87 = .ok (.goto (-58), 3) := by decide +kernel
theorem dX0_callAt_90 : decode cX0_callAt 90 = .ok (.iload 6, 2) := by decide +kernel
theorem dX0_callAt_92 : decode cX0_callAt 92 = .ok (.ireturn, 1) := by decide +kernel
theorem dX0_firstArriving_0 : decode cX0_firstArriving 0 = .ok (.iconst 0, 1) := by decide +kernel
theorem dX0_firstArriving_1 : decode cX0_firstArriving 1 = .ok (.istore 4, 2) := by decide +kernel
theorem dX0_firstArriving_3 : decode cX0_firstArriving 3 = .ok (.iload 4, 2) := by decide +kernel
theorem dX0_firstArriving_5 : decode cX0_firstArriving 5 = .ok (.iconst 5, 1) := by decide +kernel
theorem dX0_firstArriving_6 : decode cX0_firstArriving 6 = .ok (.if_icmp .ge 57, 3) := by decide +kernel
theorem dX0_firstArriving_9 : decode cX0_firstArriving 9 = .ok (.iload_n 2, 1) := by decide +kernel
theorem dX0_firstArriving_10 : decode cX0_firstArriving 10 = .ok (.iload 4, 2) := by decide +kernel
theorem dX0_firstArriving_12 : decode cX0_firstArriving 12 = .ok (.aload_n 0, 1) := by decide +kernel
theorem dX0_firstArriving_13 : decode cX0_firstArriving 13 = .ok (.iload_n 1, 1) := by decide +kernel
theorem dX0_firstArriving_14 : decode cX0_firstArriving 14 = .ok (.invokevirtual 91, 3) := by decide +kernel
theorem dX0_firstArriving_17 : decode cX0_firstArriving 17 = .ok (.invokestatic 95, 3) := by decide +kernel
theorem dX0_firstArriving_20 : decode cX0_firstArriving 20 = .ok (.istore 5, 2) := by decide +kernel
theorem dX0_firstArriving_22 : decode cX0_firstArriving 22 = .ok (.aload_n 0, 1) := by decide +kernel
theorem dX0_firstArriving_23 : decode cX0_firstArriving 23 = .ok (.getfield 9, 3) := by decide +kernel
theorem dX0_firstArriving_26 : decode cX0_firstArriving 26 = .ok (.bipush 25, 2) := by decide +kernel
theorem dX0_firstArriving_28 : decode cX0_firstArriving 28 = .ok (.iload_n 1, 1) := by decide +kernel
theorem dX0_firstArriving_29 : decode cX0_firstArriving 29 = .ok (.iconst 1, 1) := by decide +kernel
theorem dX0_firstArriving_30 : decode cX0_firstArriving 30 = .ok (.iadd, 1) := by decide +kernel
theorem dX0_firstArriving_31 : decode cX0_firstArriving 31 = .ok (.imul, 1) := by decide +kernel
theorem dX0_firstArriving_32 : decode cX0_firstArriving 32 = .ok (.iload 5, 2) := by decide +kernel
theorem dX0_firstArriving_34 : decode cX0_firstArriving 34 = .ok (.iadd, 1) := by decide +kernel
theorem dX0_firstArriving_35 : decode cX0_firstArriving 35 = .ok (.iaload, 1) := by decide +kernel
theorem dX0_firstArriving_36 : decode cX0_firstArriving 36 = .ok (.aload_n 0, 1) := by decide +kernel
theorem dX0_firstArriving_37 : decode cX0_firstArriving 37 = .ok (.getfield 18, 3) := by decide +kernel
theorem dX0_firstArriving_40 : decode cX0_firstArriving 40 = .ok (.bipush 25, 2) := by decide +kernel
theorem dX0_firstArriving_42 : decode cX0_firstArriving 42 = .ok (.iload 5, 2) := by decide +kernel
theorem dX0_firstArriving_44 : decode cX0_firstArriving 44 = .ok (.imul, 1) := by decide +kernel
theorem dX0_firstArriving_45 : decode cX0_firstArriving 45 = .ok (.iload_n 3, 1) := by decide +kernel
theorem dX0_firstArriving_46 : decode cX0_firstArriving 46 = .ok (.iadd, 1) := by decide +kernel
theorem dX0_firstArriving_47 : decode cX0_firstArriving 47 = .ok (.iaload, 1) := by decide +kernel
theorem dX0_firstArriving_48 : decode cX0_firstArriving 48 = .ok (.invokestatic 98, 3) := by decide +kernel
theorem dX0_firstArriving_51 : decode cX0_firstArriving 51 = .ok (.ifCond .eq 6, 3) := by decide +kernel
theorem dX0_firstArriving_54 : decode cX0_firstArriving 54 = .ok (.iload 4, 2) := by decide +kernel
theorem dX0_firstArriving_56 : decode cX0_firstArriving 56 = .ok (.ireturn, 1) := by decide +kernel
theorem dX0_firstArriving_57 : decode cX0_firstArriving 57 = .ok (.iinc 4 1, 3) := by decide +kernel
theorem dX0_firstArriving_60 : decode cX0_firstArriving 60 = .ok (.goto (-57), 3) := by decide +kernel
theorem dX0_firstArriving_63 : decode cX0_firstArriving 63 = .ok (.iconst 4, 1) := by decide +kernel
theorem dX0_firstArriving_64 : decode cX0_firstArriving 64 = .ok (.ireturn, 1) := by decide +kernel
theorem dX0_learnWays_0 : decode cX0_learnWays 0 = .ok (.iload_n 1, 1) := by decide +kernel
theorem dX0_learnWays_1 : decode cX0_learnWays 1 = .ok (.aload_n 0, 1) := by decide +kernel
theorem dX0_learnWays_2 : decode cX0_learnWays 2 = .ok (.getfield 21, 3) := by decide +kernel
theorem dX0_learnWays_5 : decode cX0_learnWays 5 = .ok (.if_icmp .ne 4, 3) := by decide +kernel
theorem dX0_learnWays_8 : decode cX0_learnWays 8 = .ok (.return_, 1) := by decide +kernel
theorem dX0_learnWays_9 : decode cX0_learnWays 9 = .ok (.iconst 0, 1) := by decide +kernel
theorem dX0_learnWays_10 : decode cX0_learnWays 10 = .ok (.istore_n 2, 1) := by decide +kernel
theorem dX0_learnWays_11 : decode cX0_learnWays 11 = .ok (.iload_n 2, 1) := by decide +kernel
theorem dX0_learnWays_12 : decode cX0_learnWays 12 = .ok (.sipush 625, 3) := by decide +kernel
theorem dX0_learnWays_15 : decode cX0_learnWays 15 = .ok (.if_icmp .ge 27, 3) := by decide +kernel
theorem dX0_learnWays_18 : decode cX0_learnWays 18 = .ok (.aload_n 0, 1) := by decide +kernel
theorem dX0_learnWays_19 : decode cX0_learnWays 19 = .ok (.getfield 18, 3) := by decide +kernel
theorem dX0_learnWays_22 : decode cX0_learnWays 22 = .ok (.iload_n 2, 1) := by decide +kernel
theorem dX0_learnWays_23 : decode cX0_learnWays 23 = .ok (.iload_n 1, 1) := by decide +kernel
theorem dX0_learnWays_24 : decode cX0_learnWays 24 = .ok (.iload_n 2, 1) := by decide +kernel
theorem dX0_learnWays_25 : decode cX0_learnWays 25 = .ok (.bipush 25, 2) := by decide +kernel
theorem dX0_learnWays_27 : decode cX0_learnWays 27 = .ok (.irem, 1) := by decide +kernel
theorem dX0_learnWays_28 : decode cX0_learnWays 28 = .ok (.iload_n 2, 1) := by decide +kernel
theorem dX0_learnWays_29 : decode cX0_learnWays 29 = .ok (.bipush 25, 2) := by decide +kernel
theorem dX0_learnWays_31 : decode cX0_learnWays 31 = .ok (.idiv, 1) := by decide +kernel
theorem dX0_learnWays_32 : decode cX0_learnWays 32 = .ok (.invokestatic 101, 3) := by decide +kernel
theorem dX0_learnWays_35 : decode cX0_learnWays 35 = .ok (.iastore, 1) := by decide +kernel
theorem dX0_learnWays_36 : decode cX0_learnWays 36 = .ok (.iinc 2 1, 3) := by decide +kernel
theorem dX0_learnWays_39 : decode cX0_learnWays 39 = .ok (.goto (-28), 3) := by decide +kernel
theorem dX0_learnWays_42 : decode cX0_learnWays 42 = .ok (.aload_n 0, 1) := by decide +kernel
theorem dX0_learnWays_43 : decode cX0_learnWays 43 = .ok (.iload_n 1, 1) := by decide +kernel
theorem dX0_learnWays_44 : decode cX0_learnWays 44 = .ok (.putfield 21, 3) := by decide +kernel
theorem dX0_learnWays_47 : decode cX0_learnWays 47 = .ok (.return_, 1) := by decide +kernel
theorem dX0_cellsIn_0 : decode cX0_cellsIn 0 = .ok (.aload_n 0, 1) := by decide +kernel
theorem dX0_cellsIn_1 : decode cX0_cellsIn 1 = .ok (.getfield 44, 3) := by decide +kernel
theorem dX0_cellsIn_4 : decode cX0_cellsIn 4 = .ok (.aload_n 0, 1) := by decide +kernel
theorem dX0_cellsIn_5 : decode cX0_cellsIn 5 = .ok (.getfield 49, 3) := by decide +kernel
theorem dX0_cellsIn_8 : decode cX0_cellsIn 8 = .ok (.iload_n 1, 1) := by decide +kernel
theorem dX0_cellsIn_9 : decode cX0_cellsIn 9 = .ok (.iadd, 1) := by decide +kernel
theorem dX0_cellsIn_10 : decode cX0_cellsIn 10 = .ok (.invokestatic 104, 3) := by decide +kernel
theorem dX0_cellsIn_13 : decode cX0_cellsIn 13 = .ok (.ireturn, 1) := by decide +kernel
theorem dX0_isReached_0 : decode cX0_isReached 0 = .ok (.iconst 0, 1) := by decide +kernel
theorem dX0_isReached_1 : decode cX0_isReached 1 = .ok (.istore_n 3, 1) := by decide +kernel
theorem dX0_isReached_2 : decode cX0_isReached 2 = .ok (.iload_n 3, 1) := by decide +kernel
theorem dX0_isReached_3 : decode cX0_isReached 3 = .ok (.bipush 25, 2) := by decide +kernel
theorem dX0_isReached_5 : decode cX0_isReached 5 = .ok (.if_icmp .ge 29, 3) := by decide +kernel
theorem dX0_isReached_8 : decode cX0_isReached 8 = .ok (.aload_n 0, 1) := by decide +kernel
theorem dX0_isReached_9 : decode cX0_isReached 9 = .ok (.getfield 9, 3) := by decide +kernel
theorem dX0_isReached_12 : decode cX0_isReached 12 = .ok (.bipush 25, 2) := by decide +kernel
theorem dX0_isReached_14 : decode cX0_isReached 14 = .ok (.iload_n 1, 1) := by decide +kernel
theorem dX0_isReached_15 : decode cX0_isReached 15 = .ok (.imul, 1) := by decide +kernel
theorem dX0_isReached_16 : decode cX0_isReached 16 = .ok (.iload_n 3, 1) := by decide +kernel
theorem dX0_isReached_17 : decode cX0_isReached 17 = .ok (.iadd, 1) := by decide +kernel
theorem dX0_isReached_18 : decode cX0_isReached 18 = .ok (.iaload, 1) := by decide +kernel
theorem dX0_isReached_19 : decode cX0_isReached 19 = .ok (.iload_n 2, 1) := by decide +kernel
theorem dX0_isReached_20 : decode cX0_isReached 20 = .ok (.invokestatic 98, 3) := by decide +kernel
theorem dX0_isReached_23 : decode cX0_isReached 23 = .ok (.ifCond .eq 5, 3) := by decide +kernel
theorem dX0_isReached_26 : decode cX0_isReached 26 = .ok (.iconst 1, 1) := by decide +kernel
theorem dX0_isReached_27 : decode cX0_isReached 27 = .ok (.ireturn, 1) := by decide +kernel
theorem dX0_isReached_28 : decode cX0_isReached 28 = .ok (.iinc 3 1, 3) := by decide +kernel
theorem dX0_isReached_31 : decode cX0_isReached 31 = .ok (.goto (-29), 3) := by decide +kernel
theorem dX0_isReached_34 : decode cX0_isReached 34 = .ok (.iconst 0, 1) := by decide +kernel
theorem dX0_isReached_35 : decode cX0_isReached 35 = .ok (.ireturn, 1) := by decide +kernel
theorem dX0_spread_0 : decode cX0_spread 0 = .ok (.aload_n 0, 1) := by decide +kernel
theorem dX0_spread_1 : decode cX0_spread 1 = .ok (.iload_n 1, 1) := by decide +kernel
theorem dX0_spread_2 : decode cX0_spread 2 = .ok (.invokevirtual 91, 3) := by decide +kernel
theorem dX0_spread_5 : decode cX0_spread 5 = .ok (.istore_n 2, 1) := by decide +kernel
theorem dX0_spread_6 : decode cX0_spread 6 = .ok (.aload_n 0, 1) := by decide +kernel
theorem dX0_spread_7 : decode cX0_spread 7 = .ok (.getfield 15, 3) := by decide +kernel
theorem dX0_spread_10 : decode cX0_spread 10 = .ok (.iconst 0, 1) := by decide +kernel
theorem dX0_spread_11 : decode cX0_spread 11 = .ok (.invokestatic 64, 3) := by decide +kernel
theorem dX0_spread_14 : decode cX0_spread 14 = .ok (.iconst 0, 1) := by decide +kernel
theorem dX0_spread_15 : decode cX0_spread 15 = .ok (.istore_n 3, 1) := by decide +kernel
theorem dX0_spread_16 : decode cX0_spread 16 = .ok (.iload_n 3, 1) := by decide +kernel
theorem dX0_spread_17 : decode cX0_spread 17 = .ok (.bipush 25, 2) := by decide +kernel
theorem dX0_spread_19 : decode cX0_spread 19 = .ok (.if_icmp .ge 59, 3) := by decide +kernel
theorem dX0_spread_22 : decode cX0_spread 22 = .ok (.aload_n 0, 1) := by decide +kernel
theorem dX0_spread_23 : decode cX0_spread 23 = .ok (.getfield 9, 3) := by decide +kernel
theorem dX0_spread_26 : decode cX0_spread 26 = .ok (.bipush 25, 2) := by decide +kernel
theorem dX0_spread_28 : decode cX0_spread 28 = .ok (.iload_n 1, 1) := by decide +kernel
theorem dX0_spread_29 : decode cX0_spread 29 = .ok (.imul, 1) := by decide +kernel
theorem dX0_spread_30 : decode cX0_spread 30 = .ok (.iload_n 3, 1) := by decide +kernel
theorem dX0_spread_31 : decode cX0_spread 31 = .ok (.iadd, 1) := by decide +kernel
theorem dX0_spread_32 : decode cX0_spread 32 = .ok (.iaload, 1) := by decide +kernel
theorem dX0_spread_33 : decode cX0_spread 33 = .ok (.istore 4, 2) := by decide +kernel
theorem dX0_spread_35 : decode cX0_spread 35 = .ok (.iconst 0, 1) := by decide +kernel
theorem dX0_spread_36 : decode cX0_spread 36 = .ok (.istore 5, 2) := by decide +kernel
theorem dX0_spread_38 : decode cX0_spread 38 = .ok (.iload 4, 2) := by decide +kernel
theorem dX0_spread_40 : decode cX0_spread 40 = .ok (.ifCond .eq 32, 3) := by decide +kernel
theorem dX0_spread_43 : decode cX0_spread 43 = .ok (.iload 5, 2) := by decide +kernel
theorem dX0_spread_45 : decode cX0_spread 45 = .ok (.iconst 5, 1) := by decide +kernel
theorem dX0_spread_46 : decode cX0_spread 46 = .ok (.if_icmp .ge 26, 3) := by decide +kernel
theorem dX0_spread_49 : decode cX0_spread 49 = .ok (.aload_n 0, 1) := by decide +kernel
theorem dX0_spread_50 : decode cX0_spread 50 = .ok (.getfield 15, 3) := by decide +kernel
theorem dX0_spread_53 : decode cX0_spread 53 = .ok (.iload_n 3, 1) := by decide +kernel
theorem dX0_spread_54 : decode cX0_spread 54 = .ok (.iload 5, 2) := by decide +kernel
theorem dX0_spread_56 : decode cX0_spread 56 = .ok (.iload_n 2, 1) := by decide +kernel
theorem dX0_spread_57 : decode cX0_spread 57 = .ok (.invokestatic 95, 3) := by decide +kernel
theorem dX0_spread_60 : decode cX0_spread 60 = .ok (.dup2, 1) := by decide +kernel
theorem dX0_spread_61 : decode cX0_spread 61 = .ok (.iaload, 1) := by decide +kernel
theorem dX0_spread_62 : decode cX0_spread 62 = .ok (.iload 4, 2) := by decide +kernel
theorem dX0_spread_64 : decode cX0_spread 64 = .ok (.ior, 1) := by decide +kernel
theorem dX0_spread_65 : decode cX0_spread 65 = .ok (.iastore, 1) := by decide +kernel
theorem dX0_spread_66 : decode cX0_spread 66 = .ok (.iinc 5 1, 3) := by decide +kernel
theorem dX0_spread_69 : decode cX0_spread 69 = .ok (.goto (-31), 3) := by decide +kernel
theorem dX0_spread_72 : decode cX0_spread 72 = .ok (.iinc 3 1, 3) := by decide +kernel
theorem dX0_spread_75 : decode cX0_spread 75 = .ok (.goto (-59), 3) := by decide +kernel
theorem dX0_spread_78 : decode cX0_spread 78 = .ok (.iconst 0, 1) := by decide +kernel
theorem dX0_spread_79 : decode cX0_spread 79 = .ok (.istore_n 3, 1) := by decide +kernel
theorem dX0_spread_80 : decode cX0_spread 80 = .ok (.iload_n 3, 1) := by decide +kernel
theorem dX0_spread_81 : decode cX0_spread 81 = .ok (.bipush 25, 2) := by decide +kernel
theorem dX0_spread_83 : decode cX0_spread 83 = .ok (.if_icmp .ge 33, 3) := by decide +kernel
theorem dX0_spread_86 : decode cX0_spread 86 = .ok (.aload_n 0, 1) := by decide +kernel
theorem dX0_spread_87 : decode cX0_spread 87 = .ok (.getfield 9, 3) := by decide +kernel
theorem dX0_spread_90 : decode cX0_spread 90 = .ok (.bipush 25, 2) := by decide +kernel
theorem dX0_spread_92 : decode cX0_spread 92 = .ok (.iload_n 1, 1) := by decide +kernel
theorem dX0_spread_93 : decode cX0_spread 93 = .ok (.iconst 1, 1) := by decide +kernel
theorem dX0_spread_94 : decode cX0_spread 94 = .ok (.iadd, 1) := by decide +kernel
theorem dX0_spread_95 : decode cX0_spread 95 = .ok (.imul, 1) := by decide +kernel
theorem dX0_spread_96 : decode cX0_spread 96 = .ok (.iload_n 3, 1) := by decide +kernel
theorem dX0_spread_97 : decode cX0_spread 97 = .ok (.iadd, 1) := by decide +kernel
theorem dX0_spread_98 : decode cX0_spread 98 = .ok (.aload_n 0, 1) := by decide +kernel
theorem dX0_spread_99 : decode cX0_spread 99 = .ok (.aload_n 0, 1) := by decide +kernel
theorem dX0_spread_100 : decode cX0_spread 100 = .ok (.getfield 15, 3) := by decide +kernel
theorem dX0_spread_103 : decode cX0_spread 103 = .ok (.iload_n 3, 1) := by decide +kernel
theorem dX0_spread_104 : decode cX0_spread 104 = .ok (.iaload, 1) := by decide +kernel
theorem dX0_spread_105 : decode cX0_spread 105 = .ok (.iload_n 3, 1) := by decide +kernel
theorem dX0_spread_106 : decode cX0_spread 106 = .ok (.invokevirtual 107, 3) := by decide +kernel
theorem dX0_spread_109 : decode cX0_spread 109 = .ok (.iastore, 1) := by decide +kernel
theorem dX0_spread_110 : decode cX0_spread 110 = .ok (.iinc 3 1, 3) := by decide +kernel
theorem dX0_spread_113 : decode cX0_spread 113 = .ok (.goto (-33), 3) := by decide +kernel
theorem dX0_spread_116 : decode cX0_spread 116 = .ok (.return_, 1) := by decide +kernel
theorem dX0_allGivenWay_0 : decode cX0_allGivenWay 0 = .ok (.iconst 0, 1) := by decide +kernel
theorem dX0_allGivenWay_1 : decode cX0_allGivenWay 1 = .ok (.istore_n 3, 1) := by decide +kernel
theorem dX0_allGivenWay_2 : decode cX0_allGivenWay 2 = .ok (.iconst 0, 1) := by decide +kernel
theorem dX0_allGivenWay_3 : decode cX0_allGivenWay 3 = .ok (.istore 4, 2) := by decide +kernel
theorem dX0_allGivenWay_5 : decode cX0_allGivenWay 5 = .ok (.iload_n 1, 1) := by decide +kernel
theorem dX0_allGivenWay_6 : decode cX0_allGivenWay 6 = .ok (.ifCond .eq 42, 3) := by decide +kernel
theorem dX0_allGivenWay_9 : decode cX0_allGivenWay 9 = .ok (.iload 4, 2) := by decide +kernel
theorem dX0_allGivenWay_11 : decode cX0_allGivenWay 11 = .ok (.bipush 25, 2) := by decide +kernel
theorem dX0_allGivenWay_13 : decode cX0_allGivenWay 13 = .ok (.if_icmp .ge 35, 3) := by decide +kernel
theorem dX0_allGivenWay_16 : decode cX0_allGivenWay 16 = .ok (.iload_n 1, 1) := by decide +kernel
theorem dX0_allGivenWay_17 : decode cX0_allGivenWay 17 = .ok (.iload 4, 2) := by decide +kernel
theorem dX0_allGivenWay_19 : decode cX0_allGivenWay 19 = .ok (.invokestatic 98, 3) := by decide +kernel
theorem dX0_allGivenWay_22 : decode cX0_allGivenWay 22 = .ok (.ifCond .eq 20, 3) := by decide +kernel
theorem dX0_allGivenWay_25 : decode cX0_allGivenWay 25 = .ok (.iload_n 3, 1) := by decide +kernel
theorem dX0_allGivenWay_26 : decode cX0_allGivenWay 26 = .ok (.iconst 1, 1) := by decide +kernel
theorem dX0_allGivenWay_27 : decode cX0_allGivenWay 27 = .ok (.aload_n 0, 1) := by decide +kernel
theorem dX0_allGivenWay_28 : decode cX0_allGivenWay 28 = .ok (.getfield 18, 3) := by decide +kernel
theorem dX0_allGivenWay_31 : decode cX0_allGivenWay 31 = .ok (.bipush 25, 2) := by decide +kernel
theorem dX0_allGivenWay_33 : decode cX0_allGivenWay 33 = .ok (.iload_n 2, 1) := by decide +kernel
theorem dX0_allGivenWay_34 : decode cX0_allGivenWay 34 = .ok (.imul, 1) := by decide +kernel
theorem dX0_allGivenWay_35 : decode cX0_allGivenWay 35 = .ok (.iload 4, 2) := by decide +kernel
theorem dX0_allGivenWay_37 : decode cX0_allGivenWay 37 = .ok (.iadd, 1) := by decide +kernel
theorem dX0_allGivenWay_38 : decode cX0_allGivenWay 38 = .ok (.iaload, 1) := by decide +kernel
theorem dX0_allGivenWay_39 : decode cX0_allGivenWay 39 = .ok (.ishl, 1) := by decide +kernel
theorem dX0_allGivenWay_40 : decode cX0_allGivenWay 40 = .ok (.ior, 1) := by decide +kernel
theorem dX0_allGivenWay_41 : decode cX0_allGivenWay 41 = .ok (.istore_n 3, 1) := by decide +kernel
theorem dX0_allGivenWay_42 : decode cX0_allGivenWay 42 = .ok (.iinc 4 1, 3) := by decide +kernel
theorem dX0_allGivenWay_45 : decode cX0_allGivenWay 45 = .ok (.goto (-40), 3) := by decide +kernel
theorem dX0_allGivenWay_48 : decode cX0_allGivenWay 48 = .ok (.iload_n 3, 1) := by decide +kernel
theorem dX0_allGivenWay_49 : decode cX0_allGivenWay 49 = .ok (.ireturn, 1) := by decide +kernel
theorem dX0_keepThoseThatArrive_0 : decode cX0_keepThoseThatArrive 0 = .ok (.iconst 0, 1) := by decide +kernel
theorem dX0_keepThoseThatArrive_1 : decode cX0_keepThoseThatArrive 1 = .ok (.istore_n 3, 1) := by decide +kernel
theorem dX0_keepThoseThatArrive_2 : decode cX0_keepThoseThatArrive 2 = .ok (.iload_n 3, 1) := by decide +kernel
theorem dX0_keepThoseThatArrive_3 : decode cX0_keepThoseThatArrive 3 = .ok (.bipush 25, 2) := by decide +kernel
theorem dX0_keepThoseThatArrive_5 : decode cX0_keepThoseThatArrive 5 = .ok (.if_icmp .ge 26, 3) := by decide +kernel
theorem dX0_keepThoseThatArrive_8 : decode cX0_keepThoseThatArrive 8 = .ok (.aload_n 0, 1) := by decide +kernel
theorem dX0_keepThoseThatArrive_9 : decode cX0_keepThoseThatArrive 9 = .ok (.getfield 9, 3) := by decide +kernel
theorem dX0_keepThoseThatArrive_12 : decode cX0_keepThoseThatArrive 12 = .ok (.bipush 25, 2) := by decide +kernel
theorem dX0_keepThoseThatArrive_14 : decode cX0_keepThoseThatArrive 14 = .ok (.iload_n 1, 1) := by decide +kernel
theorem dX0_keepThoseThatArrive_15 : decode cX0_keepThoseThatArrive 15 = .ok (.imul, 1) := by decide +kernel
theorem dX0_keepThoseThatArrive_16 : decode cX0_keepThoseThatArrive 16 = .ok (.iload_n 3, 1) := by decide +kernel
theorem dX0_keepThoseThatArrive_17 : decode cX0_keepThoseThatArrive 17 = .ok (.iadd, 1) := by decide +kernel
theorem dX0_keepThoseThatArrive_18 : decode cX0_keepThoseThatArrive 18 = .ok (.dup2, 1) := by decide +kernel
theorem dX0_keepThoseThatArrive_19 : decode cX0_keepThoseThatArrive 19 = .ok (.iaload, 1) := by decide +kernel
theorem dX0_keepThoseThatArrive_20 : decode cX0_keepThoseThatArrive 20 = .ok (.iconst 1, 1) := by decide +kernel
theorem dX0_keepThoseThatArrive_21 : decode cX0_keepThoseThatArrive 21 = .ok (.iload_n 2, 1) := by decide +kernel
theorem dX0_keepThoseThatArrive_22 : decode cX0_keepThoseThatArrive 22 = .ok (.ishl, 1) := by decide +kernel
theorem dX0_keepThoseThatArrive_23 : decode cX0_keepThoseThatArrive 23 = .ok (.iand, 1) := by decide +kernel
theorem dX0_keepThoseThatArrive_24 : decode cX0_keepThoseThatArrive 24 = .ok (.iastore, 1) := by decide +kernel
theorem dX0_keepThoseThatArrive_25 : decode cX0_keepThoseThatArrive 25 = .ok (.iinc 3 1, 3) := by decide +kernel
theorem dX0_keepThoseThatArrive_28 : decode cX0_keepThoseThatArrive 28 = .ok (.goto (-26), 3) := by decide +kernel
theorem dX0_keepThoseThatArrive_31 : decode cX0_keepThoseThatArrive 31 = .ok (.iload_n 1, 1) := by decide +kernel
theorem dX0_keepThoseThatArrive_32 : decode cX0_keepThoseThatArrive 32 = .ok (.iconst 1, 1) := by decide +kernel
theorem dX0_keepThoseThatArrive_33 : decode cX0_keepThoseThatArrive 33 = .ok (.isub, 1) := by decide +kernel
theorem dX0_keepThoseThatArrive_34 : decode cX0_keepThoseThatArrive 34 = .ok (.istore_n 3, 1) := by decide +kernel
theorem dX0_keepThoseThatArrive_35 : decode cX0_keepThoseThatArrive 35 = .ok (.iload_n 3, 1) := by decide +kernel
theorem dX0_keepThoseThatArrive_36 : decode cX0_keepThoseThatArrive 36 = .ok (.ifCond .lt 94, 3) := by decide +kernel
theorem dX0_keepThoseThatArrive_39 : decode cX0_keepThoseThatArrive 39 = .ok (.iconst 0, 1) := by decide +kernel
theorem dX0_keepThoseThatArrive_40 : decode cX0_keepThoseThatArrive 40 = .ok (.istore 4, 2) := by decide +kernel
theorem dX0_keepThoseThatArrive_42 : decode cX0_keepThoseThatArrive 42 = .ok (.iload 4, 2) := by decide +kernel
theorem dX0_keepThoseThatArrive_44 : decode cX0_keepThoseThatArrive 44 = .ok (.bipush 25, 2) := by decide +kernel
theorem dX0_keepThoseThatArrive_46 : decode cX0_keepThoseThatArrive 46 = .ok (.if_icmp .ge 36, 3) := by decide +kernel
theorem dX0_keepThoseThatArrive_49 : decode cX0_keepThoseThatArrive 49 = .ok (.aload_n 0, 1) := by decide +kernel
theorem dX0_keepThoseThatArrive_50 : decode cX0_keepThoseThatArrive 50 = .ok (.getfield 15, 3) := by decide +kernel
theorem dX0_keepThoseThatArrive_53 : decode cX0_keepThoseThatArrive 53 = .ok (.iload 4, 2) := by decide +kernel
theorem dX0_keepThoseThatArrive_55 : decode cX0_keepThoseThatArrive 55 = .ok (.aload_n 0, 1) := by decide +kernel
theorem dX0_keepThoseThatArrive_56 : decode cX0_keepThoseThatArrive 56 = .ok (.aload_n 0, 1) := by decide +kernel
theorem dX0_keepThoseThatArrive_57 : decode cX0_keepThoseThatArrive 57 = .ok (.getfield 9, 3) := by decide +kernel
theorem dX0_keepThoseThatArrive_60 : decode cX0_keepThoseThatArrive 60 = .ok (.bipush 25, 2) := by decide +kernel
theorem dX0_keepThoseThatArrive_62 : decode cX0_keepThoseThatArrive 62 = .ok (.iload_n 3, 1) := by decide +kernel
theorem dX0_keepThoseThatArrive_63 : decode cX0_keepThoseThatArrive 63 = .ok (.iconst 1, 1) := by decide +kernel
theorem dX0_keepThoseThatArrive_64 : decode cX0_keepThoseThatArrive 64 = .ok (.iadd, 1) := by decide +kernel
theorem dX0_keepThoseThatArrive_65 : decode cX0_keepThoseThatArrive 65 = .ok (.imul, 1) := by decide +kernel
theorem dX0_keepThoseThatArrive_66 : decode cX0_keepThoseThatArrive 66 = .ok (.iload 4, 2) := by decide +kernel
theorem dX0_keepThoseThatArrive_68 : decode cX0_keepThoseThatArrive 68 = .ok (.iadd, 1) := by decide +kernel
theorem dX0_keepThoseThatArrive_69 : decode cX0_keepThoseThatArrive 69 = .ok (.iaload, 1) := by decide +kernel
theorem dX0_keepThoseThatArrive_70 : decode cX0_keepThoseThatArrive 70 = .ok (.iload 4, 2) := by decide +kernel
theorem dX0_keepThoseThatArrive_72 : decode cX0_keepThoseThatArrive 72 = .ok (.invokevirtual 110, 3) := by decide +kernel
theorem dX0_keepThoseThatArrive_75 : decode cX0_keepThoseThatArrive 75 = .ok (.iastore, 1) := by decide +kernel
theorem dX0_keepThoseThatArrive_76 : decode cX0_keepThoseThatArrive 76 = .ok (.iinc 4 1, 3) := by decide +kernel
theorem dX0_keepThoseThatArrive_79 : decode cX0_keepThoseThatArrive 79 = .ok (.goto (-37), 3) := by decide +kernel
theorem dX0_keepThoseThatArrive_82 : decode cX0_keepThoseThatArrive 82 = .ok (.iconst 0, 1) := by decide +kernel
theorem dX0_keepThoseThatArrive_83 : decode cX0_keepThoseThatArrive 83 = .ok (.istore 4, 2) := by decide +kernel
theorem dX0_keepThoseThatArrive_85 : decode cX0_keepThoseThatArrive 85 = .ok (.iload 4, 2) := by decide +kernel
theorem dX0_keepThoseThatArrive_87 : decode cX0_keepThoseThatArrive 87 = .ok (.bipush 25, 2) := by decide +kernel
theorem dX0_keepThoseThatArrive_89 : decode cX0_keepThoseThatArrive 89 = .ok (.if_icmp .ge 35, 3) := by decide +kernel
theorem dX0_keepThoseThatArrive_92 : decode cX0_keepThoseThatArrive 92 = .ok (.aload_n 0, 1) := by decide +kernel
theorem dX0_keepThoseThatArrive_93 : decode cX0_keepThoseThatArrive 93 = .ok (.getfield 9, 3) := by decide +kernel
theorem dX0_keepThoseThatArrive_96 : decode cX0_keepThoseThatArrive 96 = .ok (.bipush 25, 2) := by decide +kernel
theorem dX0_keepThoseThatArrive_98 : decode cX0_keepThoseThatArrive 98 = .ok (.iload_n 3, 1) := by decide +kernel
theorem dX0_keepThoseThatArrive_99 : decode cX0_keepThoseThatArrive 99 = .ok (.imul, 1) := by decide +kernel
theorem dX0_keepThoseThatArrive_100 : decode cX0_keepThoseThatArrive 100 = .ok (.iload 4, 2) := by decide +kernel
theorem dX0_keepThoseThatArrive_102 : decode cX0_keepThoseThatArrive 102 = .ok (.iadd, 1) := by decide +kernel
theorem dX0_keepThoseThatArrive_103 : decode cX0_keepThoseThatArrive 103 = .ok (.dup2, 1) := by decide +kernel
theorem dX0_keepThoseThatArrive_104 : decode cX0_keepThoseThatArrive 104 = .ok (.iaload, 1) := by decide +kernel
theorem dX0_keepThoseThatArrive_105 : decode cX0_keepThoseThatArrive 105 = .ok (.aload_n 0, 1) := by decide +kernel
theorem dX0_keepThoseThatArrive_106 : decode cX0_keepThoseThatArrive 106 = .ok (.iload 4, 2) := by decide +kernel
theorem dX0_keepThoseThatArrive_108 : decode cX0_keepThoseThatArrive 108 = .ok (.aload_n 0, 1) := by decide +kernel
theorem dX0_keepThoseThatArrive_109 : decode cX0_keepThoseThatArrive 109 = .ok (.iload_n 3, 1) := by decide +kernel
theorem dX0_keepThoseThatArrive_110 : decode cX0_keepThoseThatArrive 110 = .ok (.invokevirtual 91, 3) := by decide +kernel
theorem dX0_keepThoseThatArrive_113 : decode cX0_keepThoseThatArrive 113 = .ok (.invokevirtual 113, 3) := by decide +kernel
theorem dX0_keepThoseThatArrive_116 : decode cX0_keepThoseThatArrive 116 = .ok (.iand, 1) := by decide +kernel
theorem dX0_keepThoseThatArrive_117 : decode cX0_keepThoseThatArrive 117 = .ok (.iastore, 1) := by decide +kernel
theorem dX0_keepThoseThatArrive_118 : decode cX0_keepThoseThatArrive 118 = .ok (.iinc 4 1, 3) := by decide +kernel
theorem dX0_keepThoseThatArrive_121 : decode cX0_keepThoseThatArrive 121 = .ok (.goto (-36), 3) := by decide +kernel
theorem dX0_keepThoseThatArrive_124 : decode cX0_keepThoseThatArrive 124 = .ok (.iinc 3 (-1), 3) := by decide +kernel
theorem dX0_keepThoseThatArrive_127 : decode cX0_keepThoseThatArrive 127 = .ok (.goto (-92), 3) := by decide +kernel
theorem dX0_keepThoseThatArrive_130 : decode cX0_keepThoseThatArrive 130 = .ok (.return_, 1) := by decide +kernel
theorem dX0_allThatComeTo_0 : decode cX0_allThatComeTo 0 = .ok (.iconst 0, 1) := by decide +kernel
theorem dX0_allThatComeTo_1 : decode cX0_allThatComeTo 1 = .ok (.istore_n 3, 1) := by decide +kernel
theorem dX0_allThatComeTo_2 : decode cX0_allThatComeTo 2 = .ok (.iconst 0, 1) := by decide +kernel
theorem dX0_allThatComeTo_3 : decode cX0_allThatComeTo 3 = .ok (.istore 4, 2) := by decide +kernel
theorem dX0_allThatComeTo_5 : decode cX0_allThatComeTo 5 = .ok (.iload_n 1, 1) := by decide +kernel
theorem dX0_allThatComeTo_6 : decode cX0_allThatComeTo 6 = .ok (.ifCond .eq 42, 3) := by decide +kernel
theorem dX0_allThatComeTo_9 : decode cX0_allThatComeTo 9 = .ok (.iload 4, 2) := by decide +kernel
theorem dX0_allThatComeTo_11 : decode cX0_allThatComeTo 11 = .ok (.bipush 25, 2) := by decide +kernel
theorem dX0_allThatComeTo_13 : decode cX0_allThatComeTo 13 = .ok (.if_icmp .ge 35, 3) := by decide +kernel
theorem dX0_allThatComeTo_16 : decode cX0_allThatComeTo 16 = .ok (.iload_n 1, 1) := by decide +kernel
theorem dX0_allThatComeTo_17 : decode cX0_allThatComeTo 17 = .ok (.aload_n 0, 1) := by decide +kernel
theorem dX0_allThatComeTo_18 : decode cX0_allThatComeTo 18 = .ok (.getfield 18, 3) := by decide +kernel
theorem dX0_allThatComeTo_21 : decode cX0_allThatComeTo 21 = .ok (.bipush 25, 2) := by decide +kernel
theorem dX0_allThatComeTo_23 : decode cX0_allThatComeTo 23 = .ok (.iload_n 2, 1) := by decide +kernel
theorem dX0_allThatComeTo_24 : decode cX0_allThatComeTo 24 = .ok (.imul, 1) := by decide +kernel
theorem dX0_allThatComeTo_25 : decode cX0_allThatComeTo 25 = .ok (.iload 4, 2) := by decide +kernel
theorem dX0_allThatComeTo_27 : decode cX0_allThatComeTo 27 = .ok (.iadd, 1) := by decide +kernel
theorem dX0_allThatComeTo_28 : decode cX0_allThatComeTo 28 = .ok (.iaload, 1) := by decide +kernel
theorem dX0_allThatComeTo_29 : decode cX0_allThatComeTo 29 = .ok (.invokestatic 98, 3) := by decide +kernel
theorem dX0_allThatComeTo_32 : decode cX0_allThatComeTo 32 = .ok (.ifCond .eq 10, 3) := by decide +kernel
theorem dX0_allThatComeTo_35 : decode cX0_allThatComeTo 35 = .ok (.iload_n 3, 1) := by decide +kernel
theorem dX0_allThatComeTo_36 : decode cX0_allThatComeTo 36 = .ok (.iconst 1, 1) := by decide +kernel
theorem dX0_allThatComeTo_37 : decode cX0_allThatComeTo 37 = .ok (.iload 4, 2) := by decide +kernel
theorem dX0_allThatComeTo_39 : decode cX0_allThatComeTo 39 = .ok (.ishl, 1) := by decide +kernel
theorem dX0_allThatComeTo_40 : decode cX0_allThatComeTo 40 = .ok (.ior, 1) := by decide +kernel
theorem dX0_allThatComeTo_41 : decode cX0_allThatComeTo 41 = .ok (.istore_n 3, 1) := by decide +kernel
theorem dX0_allThatComeTo_42 : decode cX0_allThatComeTo 42 = .ok (.iinc 4 1, 3) := by decide +kernel
theorem dX0_allThatComeTo_45 : decode cX0_allThatComeTo 45 = .ok (.goto (-40), 3) := by decide +kernel
theorem dX0_allThatComeTo_48 : decode cX0_allThatComeTo 48 = .ok (.iload_n 3, 1) := by decide +kernel
theorem dX0_allThatComeTo_49 : decode cX0_allThatComeTo 49 = .ok (.ireturn, 1) := by decide +kernel
theorem dX0_joinedAround_0 : decode cX0_joinedAround 0 = .ok (.iconst 0, 1) := by decide +kernel
theorem dX0_joinedAround_1 : decode cX0_joinedAround 1 = .ok (.istore_n 3, 1) := by decide +kernel
theorem dX0_joinedAround_2 : decode cX0_joinedAround 2 = .ok (.iconst 0, 1) := by decide +kernel
theorem dX0_joinedAround_3 : decode cX0_joinedAround 3 = .ok (.istore 4, 2) := by decide +kernel
theorem dX0_joinedAround_5 : decode cX0_joinedAround 5 = .ok (.iload 4, 2) := by decide +kernel
theorem dX0_joinedAround_7 : decode cX0_joinedAround 7 = .ok (.iconst 5, 1) := by decide +kernel
theorem dX0_joinedAround_8 : decode cX0_joinedAround 8 = .ok (.if_icmp .ge 24, 3) := by decide +kernel
theorem dX0_joinedAround_11 : decode cX0_joinedAround 11 = .ok (.iload_n 3, 1) := by decide +kernel
theorem dX0_joinedAround_12 : decode cX0_joinedAround 12 = .ok (.aload_n 0, 1) := by decide +kernel
theorem dX0_joinedAround_13 : decode cX0_joinedAround 13 = .ok (.getfield 15, 3) := by decide +kernel
theorem dX0_joinedAround_16 : decode cX0_joinedAround 16 = .ok (.iload_n 1, 1) := by decide +kernel
theorem dX0_joinedAround_17 : decode cX0_joinedAround 17 = .ok (.iload 4, 2) := by decide +kernel
theorem dX0_joinedAround_19 : decode cX0_joinedAround 19 = .ok (.iload_n 2, 1) := by decide +kernel
theorem dX0_joinedAround_20 : decode cX0_joinedAround 20 = .ok (.invokestatic 95, 3) := by decide +kernel
theorem dX0_joinedAround_23 : decode cX0_joinedAround 23 = .ok (.iaload, 1) := by decide +kernel
theorem dX0_joinedAround_24 : decode cX0_joinedAround 24 = .ok (.ior, 1) := by decide +kernel
theorem dX0_joinedAround_25 : decode cX0_joinedAround 25 = .ok (.istore_n 3, 1) := by decide +kernel
theorem dX0_joinedAround_26 : decode cX0_joinedAround 26 = .ok (.iinc 4 1, 3) := by decide +kernel
theorem dX0_joinedAround_29 : decode cX0_joinedAround 29 = .ok (.goto (-24), 3) := by decide +kernel
theorem dX0_joinedAround_32 : decode cX0_joinedAround 32 = .ok (.iload_n 3, 1) := by decide +kernel
theorem dX0_joinedAround_33 : decode cX0_joinedAround 33 = .ok (.ireturn, 1) := by decide +kernel
theorem dX1_init_0 : decode cX1_init 0 = .ok (.aload_n 0, 1) := by decide +kernel
theorem dX1_init_1 : decode cX1_init 1 = .ok (.invokespecial 3, 3) := by decide +kernel
theorem dX1_init_4 : decode cX1_init 4 = .ok (.aload_n 0, 1) := by decide +kernel
theorem dX1_init_5 : decode cX1_init 5 = .ok (.iconst 3, 1) := by decide +kernel
theorem dX1_init_6 : decode cX1_init 6 = .ok (.newarray .int, 2) := by decide +kernel
theorem dX1_init_8 : decode cX1_init 8 = .ok (.putfield 9, 3) := by decide +kernel
theorem dX1_init_11 : decode cX1_init 11 = .ok (.aload_n 0, 1) := by decide +kernel
theorem dX1_init_12 : decode cX1_init 12 = .ok (.iconst 3, 1) := by decide +kernel
theorem dX1_init_13 : decode cX1_init 13 = .ok (.newarray .int, 2) := by decide +kernel
theorem dX1_init_15 : decode cX1_init 15 = .ok (.putfield 15, 3) := by decide +kernel
theorem dX1_init_18 : decode cX1_init 18 = .ok (.aload_n 0, 1) := by decide +kernel
theorem dX1_init_19 : decode cX1_init 19 = .ok (.bipush 7, 2) := by decide +kernel
theorem dX1_init_21 : decode cX1_init 21 = .ok (.newarray .int, 2) := by decide +kernel
theorem dX1_init_23 : decode cX1_init 23 = .ok (.putfield 18, 3) := by decide +kernel
theorem dX1_init_26 : decode cX1_init 26 = .ok (.aload_n 0, 1) := by decide +kernel
theorem dX1_init_27 : decode cX1_init 27 = .ok (.bipush 7, 2) := by decide +kernel
theorem dX1_init_29 : decode cX1_init 29 = .ok (.newarray .int, 2) := by decide +kernel
theorem dX1_init_31 : decode cX1_init 31 = .ok (.putfield 21, 3) := by decide +kernel
theorem dX1_init_34 : decode cX1_init 34 = .ok (.return_, 1) := by decide +kernel
theorem dX1_empty_0 : decode cX1_empty 0 = .ok (.aload_n 0, 1) := by decide +kernel
theorem dX1_empty_1 : decode cX1_empty 1 = .ok (.iconst 0, 1) := by decide +kernel
theorem dX1_empty_2 : decode cX1_empty 2 = .ok (.putfield 24, 3) := by decide +kernel
theorem dX1_empty_5 : decode cX1_empty 5 = .ok (.aload_n 0, 1) := by decide +kernel
theorem dX1_empty_6 : decode cX1_empty 6 = .ok (.iconst 0, 1) := by decide +kernel
theorem dX1_empty_7 : decode cX1_empty 7 = .ok (.putfield 28, 3) := by decide +kernel
theorem dX1_empty_10 : decode cX1_empty 10 = .ok (.aload_n 0, 1) := by decide +kernel
theorem dX1_empty_11 : decode cX1_empty 11 = .ok (.iconst 0, 1) := by decide +kernel
theorem dX1_empty_12 : decode cX1_empty 12 = .ok (.putfield 31, 3) := by decide +kernel
theorem dX1_empty_15 : decode cX1_empty 15 = .ok (.return_, 1) := by decide +kernel
theorem dX1_copy_0 : decode cX1_copy 0 = .ok (.aload_n 1, 1) := by decide +kernel
theorem dX1_copy_1 : decode cX1_copy 1 = .ok (.getfield 9, 3) := by decide +kernel
theorem dX1_copy_4 : decode cX1_copy 4 = .ok (.iconst 0, 1) := by decide +kernel
theorem dX1_copy_5 : decode cX1_copy 5 = .ok (.aload_n 0, 1) := by decide +kernel
theorem dX1_copy_6 : decode cX1_copy 6 = .ok (.getfield 9, 3) := by decide +kernel
theorem dX1_copy_9 : decode cX1_copy 9 = .ok (.iconst 0, 1) := by decide +kernel
theorem dX1_copy_10 : decode cX1_copy 10 = .ok (.iconst 3, 1) := by decide +kernel
theorem dX1_copy_11 : decode cX1_copy 11 = .ok (.invokestatic 34, 3) := by decide +kernel
theorem dX1_copy_14 : decode cX1_copy 14 = .ok (.aload_n 1, 1) := by decide +kernel
theorem dX1_copy_15 : decode cX1_copy 15 = .ok (.getfield 15, 3) := by decide +kernel
theorem dX1_copy_18 : decode cX1_copy 18 = .ok (.iconst 0, 1) := by decide +kernel
theorem dX1_copy_19 : decode cX1_copy 19 = .ok (.aload_n 0, 1) := by decide +kernel
theorem dX1_copy_20 : decode cX1_copy 20 = .ok (.getfield 15, 3) := by decide +kernel
theorem dX1_copy_23 : decode cX1_copy 23 = .ok (.iconst 0, 1) := by decide +kernel
theorem dX1_copy_24 : decode cX1_copy 24 = .ok (.iconst 3, 1) := by decide +kernel
theorem dX1_copy_25 : decode cX1_copy 25 = .ok (.invokestatic 34, 3) := by decide +kernel
theorem dX1_copy_28 : decode cX1_copy 28 = .ok (.aload_n 1, 1) := by decide +kernel
theorem dX1_copy_29 : decode cX1_copy 29 = .ok (.getfield 18, 3) := by decide +kernel
theorem dX1_copy_32 : decode cX1_copy 32 = .ok (.iconst 0, 1) := by decide +kernel
theorem dX1_copy_33 : decode cX1_copy 33 = .ok (.aload_n 0, 1) := by decide +kernel
theorem dX1_copy_34 : decode cX1_copy 34 = .ok (.getfield 18, 3) := by decide +kernel
theorem dX1_copy_37 : decode cX1_copy 37 = .ok (.iconst 0, 1) := by decide +kernel
theorem dX1_copy_38 : decode cX1_copy 38 = .ok (.bipush 7, 2) := by decide +kernel
theorem dX1_copy_40 : decode cX1_copy 40 = .ok (.invokestatic 34, 3) := by decide +kernel
theorem dX1_copy_43 : decode cX1_copy 43 = .ok (.aload_n 1, 1) := by decide +kernel
theorem dX1_copy_44 : decode cX1_copy 44 = .ok (.getfield 21, 3) := by decide +kernel
theorem dX1_copy_47 : decode cX1_copy 47 = .ok (.iconst 0, 1) := by decide +kernel
theorem dX1_copy_48 : decode cX1_copy 48 = .ok (.aload_n 0, 1) := by decide +kernel
theorem dX1_copy_49 : decode cX1_copy 49 = .ok (.getfield 21, 3) := by decide +kernel
theorem dX1_copy_52 : decode cX1_copy 52 = .ok (.iconst 0, 1) := by decide +kernel
theorem dX1_copy_53 : decode cX1_copy 53 = .ok (.bipush 7, 2) := by decide +kernel
theorem dX1_copy_55 : decode cX1_copy 55 = .ok (.invokestatic 34, 3) := by decide +kernel
theorem dX1_copy_58 : decode cX1_copy 58 = .ok (.aload_n 0, 1) := by decide +kernel
theorem dX1_copy_59 : decode cX1_copy 59 = .ok (.aload_n 1, 1) := by decide +kernel
theorem dX1_copy_60 : decode cX1_copy 60 = .ok (.getfield 24, 3) := by decide +kernel
theorem dX1_copy_63 : decode cX1_copy 63 = .ok (.putfield 24, 3) := by decide +kernel
theorem dX1_copy_66 : decode cX1_copy 66 = .ok (.aload_n 0, 1) := by decide +kernel
theorem dX1_copy_67 : decode cX1_copy 67 = .ok (.aload_n 1, 1) := by decide +kernel
theorem dX1_copy_68 : decode cX1_copy 68 = .ok (.getfield 28, 3) := by decide +kernel
theorem dX1_copy_71 : decode cX1_copy 71 = .ok (.putfield 28, 3) := by decide +kernel
theorem dX1_copy_74 : decode cX1_copy 74 = .ok (.aload_n 0, 1) := by decide +kernel
theorem dX1_copy_75 : decode cX1_copy 75 = .ok (.aload_n 1, 1) := by decide +kernel
theorem dX1_copy_76 : decode cX1_copy 76 = .ok (.getfield 31, 3) := by decide +kernel
theorem dX1_copy_79 : decode cX1_copy 79 = .ok (.putfield 31, 3) := by decide +kernel
theorem dX1_copy_82 : decode cX1_copy 82 = .ok (.return_, 1) := by decide +kernel
theorem dX1_hasWhistle_0 : decode cX1_hasWhistle 0 = .ok (.iload_n 1, 1) := by decide +kernel
theorem dX1_hasWhistle_1 : decode cX1_hasWhistle 1 = .ok (.iconst 0, 1) := by decide +kernel
theorem dX1_hasWhistle_2 : decode cX1_hasWhistle 2 = .ok (.aload_n 0, 1) := by decide +kernel
theorem dX1_hasWhistle_3 : decode cX1_hasWhistle 3 = .ok (.getfield 24, 3) := by decide +kernel
theorem dX1_hasWhistle_6 : decode cX1_hasWhistle 6 = .ok (.iconst 1, 1) := by decide +kernel
theorem dX1_hasWhistle_7 : decode cX1_hasWhistle 7 = .ok (.isub, 1) := by decide +kernel
theorem dX1_hasWhistle_8 : decode cX1_hasWhistle 8 = .ok (.invokestatic 40, 3) := by decide +kernel
theorem dX1_hasWhistle_11 : decode cX1_hasWhistle 11 = .ok (.ireturn, 1) := by decide +kernel
theorem dX1_hasSheep_0 : decode cX1_hasSheep 0 = .ok (.iload_n 1, 1) := by decide +kernel
theorem dX1_hasSheep_1 : decode cX1_hasSheep 1 = .ok (.iconst 0, 1) := by decide +kernel
theorem dX1_hasSheep_2 : decode cX1_hasSheep 2 = .ok (.aload_n 0, 1) := by decide +kernel
theorem dX1_hasSheep_3 : decode cX1_hasSheep 3 = .ok (.getfield 28, 3) := by decide +kernel
theorem dX1_hasSheep_6 : decode cX1_hasSheep 6 = .ok (.iconst 1, 1) := by decide +kernel
theorem dX1_hasSheep_7 : decode cX1_hasSheep 7 = .ok (.isub, 1) := by decide +kernel
theorem dX1_hasSheep_8 : decode cX1_hasSheep 8 = .ok (.invokestatic 40, 3) := by decide +kernel
theorem dX1_hasSheep_11 : decode cX1_hasSheep 11 = .ok (.ireturn, 1) := by decide +kernel
theorem dX1_addWhistle_0 : decode cX1_addWhistle 0 = .ok (.aload_n 0, 1) := by decide +kernel
theorem dX1_addWhistle_1 : decode cX1_addWhistle 1 = .ok (.getfield 24, 3) := by decide +kernel
theorem dX1_addWhistle_4 : decode cX1_addWhistle 4 = .ok (.iconst 3, 1) := by decide +kernel
theorem dX1_addWhistle_5 : decode cX1_addWhistle 5 = .ok (.if_icmp .lt 6, 3) := by decide +kernel
theorem dX1_addWhistle_8 : decode cX1_addWhistle 8 = .ok (.bipush (-4), 2) := by decide +kernel
theorem dX1_addWhistle_10 : decode cX1_addWhistle 10 = .ok (.ireturn, 1) := by decide +kernel
theorem dX1_addWhistle_11 : decode cX1_addWhistle 11 = .ok (.aload_n 0, 1) := by decide +kernel
theorem dX1_addWhistle_12 : decode cX1_addWhistle 12 = .ok (.getfield 9, 3) := by decide +kernel
theorem dX1_addWhistle_15 : decode cX1_addWhistle 15 = .ok (.aload_n 0, 1) := by decide +kernel
theorem dX1_addWhistle_16 : decode cX1_addWhistle 16 = .ok (.getfield 24, 3) := by decide +kernel
theorem dX1_addWhistle_19 : decode cX1_addWhistle 19 = .ok (.iload_n 1, 1) := by decide +kernel
theorem dX1_addWhistle_20 : decode cX1_addWhistle 20 = .ok (.iastore, 1) := by decide +kernel
theorem dX1_addWhistle_21 : decode cX1_addWhistle 21 = .ok (.aload_n 0, 1) := by decide +kernel
theorem dX1_addWhistle_22 : decode cX1_addWhistle 22 = .ok (.getfield 15, 3) := by decide +kernel
theorem dX1_addWhistle_25 : decode cX1_addWhistle 25 = .ok (.aload_n 0, 1) := by decide +kernel
theorem dX1_addWhistle_26 : decode cX1_addWhistle 26 = .ok (.getfield 24, 3) := by decide +kernel
theorem dX1_addWhistle_29 : decode cX1_addWhistle 29 = .ok (.iload_n 2, 1) := by decide +kernel
theorem dX1_addWhistle_30 : decode cX1_addWhistle 30 = .ok (.iastore, 1) := by decide +kernel
theorem dX1_addWhistle_31 : decode cX1_addWhistle 31 = .ok (.aload_n 0, 1) := by decide +kernel
theorem dX1_addWhistle_32 : decode cX1_addWhistle 32 = .ok (.dup, 1) := by decide +kernel
theorem dX1_addWhistle_33 : decode cX1_addWhistle 33 = .ok (.getfield 24, 3) := by decide +kernel
theorem dX1_addWhistle_36 : decode cX1_addWhistle 36 = .ok (.iconst 1, 1) := by decide +kernel
theorem dX1_addWhistle_37 : decode cX1_addWhistle 37 = .ok (.iadd, 1) := by decide +kernel
theorem dX1_addWhistle_38 : decode cX1_addWhistle 38 = .ok (.putfield 24, 3) := by decide +kernel
theorem dX1_addWhistle_41 : decode cX1_addWhistle 41 = .ok (.aload_n 0, 1) := by decide +kernel
theorem dX1_addWhistle_42 : decode cX1_addWhistle 42 = .ok (.getfield 24, 3) := by decide +kernel
theorem dX1_addWhistle_45 : decode cX1_addWhistle 45 = .ok (.iconst 1, 1) := by decide +kernel
theorem dX1_addWhistle_46 : decode cX1_addWhistle 46 = .ok (.isub, 1) := by decide +kernel
theorem dX1_addWhistle_47 : decode cX1_addWhistle 47 = .ok (.ireturn, 1) := by decide +kernel
theorem dX1_addSheep_0 : decode cX1_addSheep 0 = .ok (.aload_n 0, 1) := by decide +kernel
theorem dX1_addSheep_1 : decode cX1_addSheep 1 = .ok (.getfield 28, 3) := by decide +kernel
theorem dX1_addSheep_4 : decode cX1_addSheep 4 = .ok (.bipush 7, 2) := by decide +kernel
theorem dX1_addSheep_6 : decode cX1_addSheep 6 = .ok (.if_icmp .lt 6, 3) := by decide +kernel
theorem dX1_addSheep_9 : decode cX1_addSheep 9 = .ok (.bipush (-4), 2) := by decide +kernel
theorem dX1_addSheep_11 : decode cX1_addSheep 11 = .ok (.ireturn, 1) := by decide +kernel
theorem dX1_addSheep_12 : decode cX1_addSheep 12 = .ok (.aload_n 0, 1) := by decide +kernel
theorem dX1_addSheep_13 : decode cX1_addSheep 13 = .ok (.getfield 18, 3) := by decide +kernel
theorem dX1_addSheep_16 : decode cX1_addSheep 16 = .ok (.aload_n 0, 1) := by decide +kernel
theorem dX1_addSheep_17 : decode cX1_addSheep 17 = .ok (.getfield 28, 3) := by decide +kernel
theorem dX1_addSheep_20 : decode cX1_addSheep 20 = .ok (.iload_n 1, 1) := by decide +kernel
theorem dX1_addSheep_21 : decode cX1_addSheep 21 = .ok (.iastore, 1) := by decide +kernel
theorem dX1_addSheep_22 : decode cX1_addSheep 22 = .ok (.aload_n 0, 1) := by decide +kernel
theorem dX1_addSheep_23 : decode cX1_addSheep 23 = .ok (.getfield 21, 3) := by decide +kernel
theorem dX1_addSheep_26 : decode cX1_addSheep 26 = .ok (.aload_n 0, 1) := by decide +kernel
theorem dX1_addSheep_27 : decode cX1_addSheep 27 = .ok (.getfield 28, 3) := by decide +kernel
theorem dX1_addSheep_30 : decode cX1_addSheep 30 = .ok (.iload_n 2, 1) := by decide +kernel
theorem dX1_addSheep_31 : decode cX1_addSheep 31 = .ok (.iastore, 1) := by decide +kernel
theorem dX1_addSheep_32 : decode cX1_addSheep 32 = .ok (.aload_n 0, 1) := by decide +kernel
theorem dX1_addSheep_33 : decode cX1_addSheep 33 = .ok (.dup, 1) := by decide +kernel
theorem dX1_addSheep_34 : decode cX1_addSheep 34 = .ok (.getfield 28, 3) := by decide +kernel
theorem dX1_addSheep_37 : decode cX1_addSheep 37 = .ok (.iconst 1, 1) := by decide +kernel
theorem dX1_addSheep_38 : decode cX1_addSheep 38 = .ok (.iadd, 1) := by decide +kernel
theorem dX1_addSheep_39 : decode cX1_addSheep 39 = .ok (.putfield 28, 3) := by decide +kernel
theorem dX1_addSheep_42 : decode cX1_addSheep 42 = .ok (.aload_n 0, 1) := by decide +kernel
theorem dX1_addSheep_43 : decode cX1_addSheep 43 = .ok (.getfield 28, 3) := by decide +kernel
theorem dX1_addSheep_46 : decode cX1_addSheep 46 = .ok (.iconst 1, 1) := by decide +kernel
theorem dX1_addSheep_47 : decode cX1_addSheep 47 = .ok (.isub, 1) := by decide +kernel
theorem dX1_addSheep_48 : decode cX1_addSheep 48 = .ok (.ireturn, 1) := by decide +kernel
theorem dX1_reach_0 : decode cX1_reach 0 = .ok (.aload_n 0, 1) := by decide +kernel
theorem dX1_reach_1 : decode cX1_reach 1 = .ok (.iload_n 1, 1) := by decide +kernel
theorem dX1_reach_2 : decode cX1_reach 2 = .ok (.invokevirtual 44, 3) := by decide +kernel
theorem dX1_reach_5 : decode cX1_reach 5 = .ok (.ifCond .eq 19, 3) := by decide +kernel
theorem dX1_reach_8 : decode cX1_reach 8 = .ok (.aload_n 0, 1) := by decide +kernel
theorem dX1_reach_9 : decode cX1_reach 9 = .ok (.getfield 9, 3) := by decide +kernel
theorem dX1_reach_12 : decode cX1_reach 12 = .ok (.iload_n 1, 1) := by decide +kernel
theorem dX1_reach_13 : decode cX1_reach 13 = .ok (.iaload, 1) := by decide +kernel
theorem dX1_reach_14 : decode cX1_reach 14 = .ok (.aload_n 0, 1) := by decide +kernel
theorem dX1_reach_15 : decode cX1_reach 15 = .ok (.getfield 31, 3) := by decide +kernel
theorem dX1_reach_18 : decode cX1_reach 18 = .ok (.invokestatic 48, 3) := by decide +kernel
theorem dX1_reach_21 : decode cX1_reach 21 = .ok (.goto 4, 3) := by decide +kernel
theorem dX1_reach_24 : decode cX1_reach 24 = .ok (.iconst 0, 1) := by decide +kernel
theorem dX1_reach_25 : decode cX1_reach 25 = .ok (.ireturn, 1) := by decide +kernel
theorem dX1_whistleTo_0 : decode cX1_whistleTo 0 = .ok (.aload_n 0, 1) := by decide +kernel
theorem dX1_whistleTo_1 : decode cX1_whistleTo 1 = .ok (.iload_n 1, 1) := by decide +kernel
theorem dX1_whistleTo_2 : decode cX1_whistleTo 2 = .ok (.invokevirtual 44, 3) := by decide +kernel
theorem dX1_whistleTo_5 : decode cX1_whistleTo 5 = .ok (.ifCond .eq 29, 3) := by decide +kernel
theorem dX1_whistleTo_8 : decode cX1_whistleTo 8 = .ok (.aload_n 0, 1) := by decide +kernel
theorem dX1_whistleTo_9 : decode cX1_whistleTo 9 = .ok (.getfield 15, 3) := by decide +kernel
theorem dX1_whistleTo_12 : decode cX1_whistleTo 12 = .ok (.iload_n 1, 1) := by decide +kernel
theorem dX1_whistleTo_13 : decode cX1_whistleTo 13 = .ok (.iaload, 1) := by decide +kernel
theorem dX1_whistleTo_14 : decode cX1_whistleTo 14 = .ok (.iload_n 2, 1) := by decide +kernel
theorem dX1_whistleTo_15 : decode cX1_whistleTo 15 = .ok (.aload_n 0, 1) := by decide +kernel
theorem dX1_whistleTo_16 : decode cX1_whistleTo 16 = .ok (.getfield 9, 3) := by decide +kernel
theorem dX1_whistleTo_19 : decode cX1_whistleTo 19 = .ok (.iload_n 1, 1) := by decide +kernel
theorem dX1_whistleTo_20 : decode cX1_whistleTo 20 = .ok (.iaload, 1) := by decide +kernel
theorem dX1_whistleTo_21 : decode cX1_whistleTo 21 = .ok (.aload_n 0, 1) := by decide +kernel
theorem dX1_whistleTo_22 : decode cX1_whistleTo 22 = .ok (.getfield 31, 3) := by decide +kernel
theorem dX1_whistleTo_25 : decode cX1_whistleTo 25 = .ok (.invokestatic 48, 3) := by decide +kernel
theorem dX1_whistleTo_28 : decode cX1_whistleTo 28 = .ok (.invokestatic 52, 3) := by decide +kernel
theorem dX1_whistleTo_31 : decode cX1_whistleTo 31 = .ok (.goto 4, 3) := by decide +kernel
theorem dX1_whistleTo_34 : decode cX1_whistleTo 34 = .ok (.iconst 0, 1) := by decide +kernel
theorem dX1_whistleTo_35 : decode cX1_whistleTo 35 = .ok (.ireturn, 1) := by decide +kernel
theorem dX1_sheepTo_0 : decode cX1_sheepTo 0 = .ok (.aload_n 0, 1) := by decide +kernel
theorem dX1_sheepTo_1 : decode cX1_sheepTo 1 = .ok (.iload_n 1, 1) := by decide +kernel
theorem dX1_sheepTo_2 : decode cX1_sheepTo 2 = .ok (.invokevirtual 56, 3) := by decide +kernel
theorem dX1_sheepTo_5 : decode cX1_sheepTo 5 = .ok (.ifCond .eq 27, 3) := by decide +kernel
theorem dX1_sheepTo_8 : decode cX1_sheepTo 8 = .ok (.aload_n 0, 1) := by decide +kernel
theorem dX1_sheepTo_9 : decode cX1_sheepTo 9 = .ok (.getfield 18, 3) := by decide +kernel
theorem dX1_sheepTo_12 : decode cX1_sheepTo 12 = .ok (.iload_n 1, 1) := by decide +kernel
theorem dX1_sheepTo_13 : decode cX1_sheepTo 13 = .ok (.iaload, 1) := by decide +kernel
theorem dX1_sheepTo_14 : decode cX1_sheepTo 14 = .ok (.aload_n 0, 1) := by decide +kernel
theorem dX1_sheepTo_15 : decode cX1_sheepTo 15 = .ok (.getfield 21, 3) := by decide +kernel
theorem dX1_sheepTo_18 : decode cX1_sheepTo 18 = .ok (.iload_n 1, 1) := by decide +kernel
theorem dX1_sheepTo_19 : decode cX1_sheepTo 19 = .ok (.iaload, 1) := by decide +kernel
theorem dX1_sheepTo_20 : decode cX1_sheepTo 20 = .ok (.aload_n 0, 1) := by decide +kernel
theorem dX1_sheepTo_21 : decode cX1_sheepTo 21 = .ok (.iload_n 2, 1) := by decide +kernel
theorem dX1_sheepTo_22 : decode cX1_sheepTo 22 = .ok (.iload_n 3, 1) := by decide +kernel
theorem dX1_sheepTo_23 : decode cX1_sheepTo 23 = .ok (.invokevirtual 59, 3) := by decide +kernel
theorem dX1_sheepTo_26 : decode cX1_sheepTo 26 = .ok (.invokestatic 62, 3) := by decide +kernel
theorem dX1_sheepTo_29 : decode cX1_sheepTo 29 = .ok (.goto 4, 3) := by decide +kernel
theorem dX1_sheepTo_32 : decode cX1_sheepTo 32 = .ok (.iconst 0, 1) := by decide +kernel
theorem dX1_sheepTo_33 : decode cX1_sheepTo 33 = .ok (.ireturn, 1) := by decide +kernel
theorem dX1_call_0 : decode cX1_call 0 = .ok (.iconst 0, 1) := by decide +kernel
theorem dX1_call_1 : decode cX1_call 1 = .ok (.istore_n 3, 1) := by decide +kernel
theorem dX1_call_2 : decode cX1_call 2 = .ok (.aload_n 0, 1) := by decide +kernel
theorem dX1_call_3 : decode cX1_call 3 = .ok (.iload_n 1, 1) := by decide +kernel
theorem dX1_call_4 : decode cX1_call 4 = .ok (.invokevirtual 44, 3) := by decide +kernel
theorem dX1_call_7 : decode cX1_call 7 = .ok (.ifCond .eq 82, 3) := by decide +kernel
theorem dX1_call_10 : decode cX1_call 10 = .ok (.aload_n 0, 1) := by decide +kernel
theorem dX1_call_11 : decode cX1_call 11 = .ok (.getfield 15, 3) := by decide +kernel
theorem dX1_call_14 : decode cX1_call 14 = .ok (.iload_n 1, 1) := by decide +kernel
theorem dX1_call_15 : decode cX1_call 15 = .ok (.aload_n 0, 1) := by decide +kernel
theorem dX1_call_16 : decode cX1_call 16 = .ok (.iload_n 1, 1) := by decide +kernel
theorem dX1_call_17 : decode cX1_call 17 = .ok (.iload_n 2, 1) := by decide +kernel
theorem dX1_call_18 : decode cX1_call 18 = .ok (.invokevirtual 59, 3) := by decide +kernel
theorem dX1_call_21 : decode cX1_call 21 = .ok (.iastore, 1) := by decide +kernel
theorem dX1_call_22 : decode cX1_call 22 = .ok (.iconst 0, 1) := by decide +kernel
theorem dX1_call_23 : decode cX1_call 23 = .ok (.istore 4, 2) := by decide +kernel
theorem dX1_call_25 : decode cX1_call 25 = .ok (.iload 4, 2) := by decide +kernel
theorem dX1_call_27 : decode cX1_call 27 = .ok (.aload_n 0, 1) := by decide +kernel
theorem dX1_call_28 : decode cX1_call 28 = .ok (.getfield 28, 3) := by decide +kernel
theorem dX1_call_31 : decode cX1_call 31 = .ok (.if_icmp .ge 58, 3) := by decide +kernel
theorem dX1_call_34 : decode cX1_call 34 = .ok (.aload_n 0, 1) := by decide +kernel
theorem dX1_call_35 : decode cX1_call 35 = .ok (.getfield 18, 3) := by decide +kernel
theorem dX1_call_38 : decode cX1_call 38 = .ok (.iload 4, 2) := by decide +kernel
theorem dX1_call_40 : decode cX1_call 40 = .ok (.iaload, 1) := by decide +kernel
theorem dX1_call_41 : decode cX1_call 41 = .ok (.aload_n 0, 1) := by decide +kernel
theorem dX1_call_42 : decode cX1_call 42 = .ok (.getfield 21, 3) := by decide +kernel
theorem dX1_call_45 : decode cX1_call 45 = .ok (.iload 4, 2) := by decide +kernel
theorem dX1_call_47 : decode cX1_call 47 = .ok (.iaload, 1) := by decide +kernel
theorem dX1_call_48 : decode cX1_call 48 = .ok (.aload_n 0, 1) := by decide +kernel
theorem dX1_call_49 : decode cX1_call 49 = .ok (.getfield 15, 3) := by decide +kernel
theorem dX1_call_52 : decode cX1_call 52 = .ok (.iload_n 1, 1) := by decide +kernel
theorem dX1_call_53 : decode cX1_call 53 = .ok (.iaload, 1) := by decide +kernel
theorem dX1_call_54 : decode cX1_call 54 = .ok (.invokestatic 62, 3) := by decide +kernel
theorem dX1_call_57 : decode cX1_call 57 = .ok (.istore 5, 2) := by decide +kernel
theorem dX1_call_59 : decode cX1_call 59 = .ok (.iload 5, 2) := by decide +kernel
theorem dX1_call_61 : decode cX1_call 61 = .ok (.aload_n 0, 1) := by decide +kernel
theorem dX1_call_62 : decode cX1_call 62 = .ok (.getfield 21, 3) := by decide +kernel
theorem dX1_call_65 : decode cX1_call 65 = .ok (.iload 4, 2) := by decide +kernel
theorem dX1_call_67 : decode cX1_call 67 = .ok (.iaload, 1) := by decide +kernel
theorem dX1_call_68 : decode cX1_call 68 = .ok (.if_icmp .eq 6, 3) := by decide +kernel
theorem dX1_call_71 : decode cX1_call 71 = .ok (.iinc 3 1, 3) := by decide +kernel
theorem dX1_call_74 : decode cX1_call 74 = .ok (.aload_n 0, 1) := by decide +kernel
theorem dX1_call_75 : decode cX1_call 75 = .ok (.getfield 21, 3) := by decide +kernel
theorem dX1_call_78 : decode cX1_call 78 = .ok (.iload 4, 2) := by decide +kernel
theorem dX1_call_80 : decode cX1_call 80 = .ok (.iload 5, 2) := by decide +kernel
theorem dX1_call_82 : decode cX1_call 82 = .ok (.iastore, 1) := by decide +kernel
theorem dX1_call_83 : decode cX1_call 83 = .ok (.iinc 4 1, 3) := by decide +kernel
theorem dX1_call_86 : decode cX1_call 86 = .ok (.goto (-61), 3) := by decide +kernel
theorem dX1_call_89 : decode cX1_call 89 = .ok (.aload_n 0, 1) := by decide +kernel
theorem dX1_call_90 : decode cX1_call 90 = .ok (.dup, 1) := by decide +kernel
theorem dX1_call_91 : decode cX1_call 91 = .ok (.getfield 31, 3) := by decide +kernel
theorem dX1_call_94 : decode cX1_call 94 = .ok (.iconst 1, 1) := by decide +kernel
theorem dX1_call_95 : decode cX1_call 95 = .ok (.iadd, 1) := by decide +kernel
theorem dX1_call_96 : decode cX1_call 96 = .ok (.putfield 31, 3) := by decide +kernel
theorem dX1_call_99 : decode cX1_call 99 = .ok (.iload_n 3, 1) := by decide +kernel
theorem dX1_call_100 : decode cX1_call 100 = .ok (.ireturn, 1) := by decide +kernel
theorem dX1_sheepIn_0 : decode cX1_sheepIn 0 = .ok (.iconst 0, 1) := by decide +kernel
theorem dX1_sheepIn_1 : decode cX1_sheepIn 1 = .ok (.istore_n 2, 1) := by decide +kernel
theorem dX1_sheepIn_2 : decode cX1_sheepIn 2 = .ok (.iconst 0, 1) := by decide +kernel
theorem dX1_sheepIn_3 : decode cX1_sheepIn 3 = .ok (.istore_n 3, 1) := by decide +kernel
theorem dX1_sheepIn_4 : decode cX1_sheepIn 4 = .ok (.iload_n 3, 1) := by decide +kernel
theorem dX1_sheepIn_5 : decode cX1_sheepIn 5 = .ok (.aload_n 0, 1) := by decide +kernel
theorem dX1_sheepIn_6 : decode cX1_sheepIn 6 = .ok (.getfield 28, 3) := by decide +kernel
theorem dX1_sheepIn_9 : decode cX1_sheepIn 9 = .ok (.if_icmp .ge 25, 3) := by decide +kernel
theorem dX1_sheepIn_12 : decode cX1_sheepIn 12 = .ok (.aload_n 0, 1) := by decide +kernel
theorem dX1_sheepIn_13 : decode cX1_sheepIn 13 = .ok (.getfield 21, 3) := by decide +kernel
theorem dX1_sheepIn_16 : decode cX1_sheepIn 16 = .ok (.iload_n 3, 1) := by decide +kernel
theorem dX1_sheepIn_17 : decode cX1_sheepIn 17 = .ok (.iaload, 1) := by decide +kernel
theorem dX1_sheepIn_18 : decode cX1_sheepIn 18 = .ok (.iload_n 1, 1) := by decide +kernel
theorem dX1_sheepIn_19 : decode cX1_sheepIn 19 = .ok (.if_icmp .ne 9, 3) := by decide +kernel
theorem dX1_sheepIn_22 : decode cX1_sheepIn 22 = .ok (.iload_n 2, 1) := by decide +kernel
theorem dX1_sheepIn_23 : decode cX1_sheepIn 23 = .ok (.iconst 1, 1) := by decide +kernel
theorem dX1_sheepIn_24 : decode cX1_sheepIn 24 = .ok (.iload_n 3, 1) := by decide +kernel
theorem dX1_sheepIn_25 : decode cX1_sheepIn 25 = .ok (.ishl, 1) := by decide +kernel
theorem dX1_sheepIn_26 : decode cX1_sheepIn 26 = .ok (.ior, 1) := by decide +kernel
theorem dX1_sheepIn_27 : decode cX1_sheepIn 27 = .ok (.istore_n 2, 1) := by decide +kernel
theorem dX1_sheepIn_28 : decode cX1_sheepIn 28 = .ok (.iinc 3 1, 3) := by decide +kernel
theorem dX1_sheepIn_31 : decode cX1_sheepIn 31 = .ok (.goto (-27), 3) := by decide +kernel
theorem dX1_sheepIn_34 : decode cX1_sheepIn 34 = .ok (.iload_n 2, 1) := by decide +kernel
theorem dX1_sheepIn_35 : decode cX1_sheepIn 35 = .ok (.ireturn, 1) := by decide +kernel
theorem dX1_manyIn_0 : decode cX1_manyIn 0 = .ok (.aload_n 0, 1) := by decide +kernel
theorem dX1_manyIn_1 : decode cX1_manyIn 1 = .ok (.iload_n 1, 1) := by decide +kernel
theorem dX1_manyIn_2 : decode cX1_manyIn 2 = .ok (.invokevirtual 65, 3) := by decide +kernel
theorem dX1_manyIn_5 : decode cX1_manyIn 5 = .ok (.invokestatic 69, 3) := by decide +kernel
theorem dX1_manyIn_8 : decode cX1_manyIn 8 = .ok (.ireturn, 1) := by decide +kernel
theorem dX1_farTogether_0 : decode cX1_farTogether 0 = .ok (.iconst 0, 1) := by decide +kernel
theorem dX1_farTogether_1 : decode cX1_farTogether 1 = .ok (.istore_n 2, 1) := by decide +kernel
theorem dX1_farTogether_2 : decode cX1_farTogether 2 = .ok (.iconst 0, 1) := by decide +kernel
theorem dX1_farTogether_3 : decode cX1_farTogether 3 = .ok (.istore_n 3, 1) := by decide +kernel
theorem dX1_farTogether_4 : decode cX1_farTogether 4 = .ok (.iload_n 3, 1) := by decide +kernel
theorem dX1_farTogether_5 : decode cX1_farTogether 5 = .ok (.aload_n 0, 1) := by decide +kernel
theorem dX1_farTogether_6 : decode cX1_farTogether 6 = .ok (.getfield 28, 3) := by decide +kernel
theorem dX1_farTogether_9 : decode cX1_farTogether 9 = .ok (.if_icmp .ge 22, 3) := by decide +kernel
theorem dX1_farTogether_12 : decode cX1_farTogether 12 = .ok (.iload_n 2, 1) := by decide +kernel
theorem dX1_farTogether_13 : decode cX1_farTogether 13 = .ok (.aload_n 0, 1) := by decide +kernel
theorem dX1_farTogether_14 : decode cX1_farTogether 14 = .ok (.getfield 21, 3) := by decide +kernel
theorem dX1_farTogether_17 : decode cX1_farTogether 17 = .ok (.iload_n 3, 1) := by decide +kernel
theorem dX1_farTogether_18 : decode cX1_farTogether 18 = .ok (.iaload, 1) := by decide +kernel
theorem dX1_farTogether_19 : decode cX1_farTogether 19 = .ok (.iload_n 1, 1) := by decide +kernel
theorem dX1_farTogether_20 : decode cX1_farTogether 20 = .ok (.invokestatic 74, 3) := by decide +kernel
theorem dX1_farTogether_23 : decode cX1_farTogether 23 = .ok (.iadd, 1) := by decide +kernel
theorem dX1_farTogether_24 : decode cX1_farTogether 24 = .ok (.istore_n 2, 1) := by decide +kernel
theorem dX1_farTogether_25 : decode cX1_farTogether 25 = .ok (.iinc 3 1, 3) := by decide +kernel
theorem dX1_farTogether_28 : decode cX1_farTogether 28 = .ok (.goto (-24), 3) := by decide +kernel
theorem dX1_farTogether_31 : decode cX1_farTogether 31 = .ok (.iload_n 2, 1) := by decide +kernel
theorem dX1_farTogether_32 : decode cX1_farTogether 32 = .ok (.ireturn, 1) := by decide +kernel
theorem dX2_init_0 : decode cX2_init 0 = .ok (.aload_n 0, 1) := by decide +kernel
theorem dX2_init_1 : decode cX2_init 1 = .ok (.invokespecial 3, 3) := by decide +kernel
theorem dX2_init_4 : decode cX2_init 4 = .ok (.aload_n 0, 1) := by decide +kernel
theorem dX2_init_5 : decode cX2_init 5 = .ok (.bipush 88, 2) := by decide +kernel
theorem dX2_init_7 : decode cX2_init 7 = .ok (.newarray .int, 2) := by decide +kernel
theorem dX2_init_9 : decode cX2_init 9 = .ok (.putfield 9, 3) := by decide +kernel
theorem dX2_init_12 : decode cX2_init 12 = .ok (.return_, 1) := by decide +kernel
theorem dX2_push_0 : decode cX2_push 0 = .ok (.aload_n 0, 1) := by decide +kernel
theorem dX2_push_1 : decode cX2_push 1 = .ok (.getfield 15, 3) := by decide +kernel
theorem dX2_push_4 : decode cX2_push 4 = .ok (.bipush 8, 2) := by decide +kernel
theorem dX2_push_6 : decode cX2_push 6 = .ok (.if_icmp .lt 25, 3) := by decide +kernel
theorem dX2_push_9 : decode cX2_push 9 = .ok (.aload_n 0, 1) := by decide +kernel
theorem dX2_push_10 : decode cX2_push 10 = .ok (.getfield 9, 3) := by decide +kernel
theorem dX2_push_13 : decode cX2_push 13 = .ok (.bipush 11, 2) := by decide +kernel
theorem dX2_push_15 : decode cX2_push 15 = .ok (.aload_n 0, 1) := by decide +kernel
theorem dX2_push_16 : decode cX2_push 16 = .ok (.getfield 9, 3) := by decide +kernel
theorem dX2_push_19 : decode cX2_push 19 = .ok (.iconst 0, 1) := by decide +kernel
theorem dX2_push_20 : decode cX2_push 20 = .ok (.bipush 77, 2) := by decide +kernel
theorem dX2_push_22 : decode cX2_push 22 = .ok (.invokestatic 19, 3) := by decide +kernel
theorem dX2_push_25 : decode cX2_push 25 = .ok (.aload_n 0, 1) := by decide +kernel
theorem dX2_push_26 : decode cX2_push 26 = .ok (.bipush 7, 2) := by decide +kernel
theorem dX2_push_28 : decode cX2_push 28 = .ok (.putfield 15, 3) := by decide +kernel
theorem dX2_push_31 : decode cX2_push 31 = .ok (.aload_n 0, 1) := by decide +kernel
theorem dX2_push_32 : decode cX2_push 32 = .ok (.getfield 15, 3) := by decide +kernel
theorem dX2_push_35 : decode cX2_push 35 = .ok (.bipush 11, 2) := by decide +kernel
theorem dX2_push_37 : decode cX2_push 37 = .ok (.imul, 1) := by decide +kernel
theorem dX2_push_38 : decode cX2_push 38 = .ok (.istore_n 2, 1) := by decide +kernel
theorem dX2_push_39 : decode cX2_push 39 = .ok (.aload_n 0, 1) := by decide +kernel
theorem dX2_push_40 : decode cX2_push 40 = .ok (.getfield 9, 3) := by decide +kernel
theorem dX2_push_43 : decode cX2_push 43 = .ok (.iload_n 2, 1) := by decide +kernel
theorem dX2_push_44 : decode cX2_push 44 = .ok (.aload_n 1, 1) := by decide +kernel
theorem dX2_push_45 : decode cX2_push 45 = .ok (.getfield 25, 3) := by decide +kernel
theorem dX2_push_48 : decode cX2_push 48 = .ok (.iastore, 1) := by decide +kernel
theorem dX2_push_49 : decode cX2_push 49 = .ok (.aload_n 1, 1) := by decide +kernel
theorem dX2_push_50 : decode cX2_push 50 = .ok (.getfield 30, 3) := by decide +kernel
theorem dX2_push_53 : decode cX2_push 53 = .ok (.iconst 0, 1) := by decide +kernel
theorem dX2_push_54 : decode cX2_push 54 = .ok (.aload_n 0, 1) := by decide +kernel
theorem dX2_push_55 : decode cX2_push 55 = .ok (.getfield 9, 3) := by decide +kernel
theorem dX2_push_58 : decode cX2_push 58 = .ok (.iload_n 2, 1) := by decide +kernel
theorem dX2_push_59 : decode cX2_push 59 = .ok (.iconst 1, 1) := by decide +kernel
theorem dX2_push_60 : decode cX2_push 60 = .ok (.iadd, 1) := by decide +kernel
theorem dX2_push_61 : decode cX2_push 61 = .ok (.iconst 3, 1) := by decide +kernel
theorem dX2_push_62 : decode cX2_push 62 = .ok (.invokestatic 19, 3) := by decide +kernel
theorem dX2_push_65 : decode cX2_push 65 = .ok (.aload_n 1, 1) := by decide +kernel
theorem dX2_push_66 : decode cX2_push 66 = .ok (.getfield 33, 3) := by decide +kernel
theorem dX2_push_69 : decode cX2_push 69 = .ok (.iconst 0, 1) := by decide +kernel
theorem dX2_push_70 : decode cX2_push 70 = .ok (.aload_n 0, 1) := by decide +kernel
theorem dX2_push_71 : decode cX2_push 71 = .ok (.getfield 9, 3) := by decide +kernel
theorem dX2_push_74 : decode cX2_push 74 = .ok (.iload_n 2, 1) := by decide +kernel
theorem dX2_push_75 : decode cX2_push 75 = .ok (.iconst 1, 1) := by decide +kernel
theorem dX2_push_76 : decode cX2_push 76 = .ok (.iadd, 1) := by decide +kernel
theorem dX2_push_77 : decode cX2_push 77 = .ok (.iconst 3, 1) := by decide +kernel
theorem dX2_push_78 : decode cX2_push 78 = .ok (.iadd, 1) := by decide +kernel
theorem dX2_push_79 : decode cX2_push 79 = .ok (.bipush 7, 2) := by decide +kernel
theorem dX2_push_81 : decode cX2_push 81 = .ok (.invokestatic 19, 3) := by decide +kernel
theorem dX2_push_84 : decode cX2_push 84 = .ok (.aload_n 0, 1) := by decide +kernel
theorem dX2_push_85 : decode cX2_push 85 = .ok (.dup, 1) := by decide +kernel
theorem dX2_push_86 : decode cX2_push 86 = .ok (.getfield 15, 3) := by decide +kernel
theorem dX2_push_89 : decode cX2_push 89 = .ok (.iconst 1, 1) := by decide +kernel
theorem dX2_push_90 : decode cX2_push 90 = .ok (.iadd, 1) := by decide +kernel
theorem dX2_push_91 : decode cX2_push 91 = .ok (.putfield 15, 3) := by decide +kernel
theorem dX2_push_94 : decode cX2_push 94 = .ok (.return_, 1) := by decide +kernel
theorem dX2_pop_0 : decode cX2_pop 0 = .ok (.aload_n 0, 1) := by decide +kernel
theorem dX2_pop_1 : decode cX2_pop 1 = .ok (.getfield 15, 3) := by decide +kernel
theorem dX2_pop_4 : decode cX2_pop 4 = .ok (.ifCond .le 66, 3) := by decide +kernel
theorem dX2_pop_7 : decode cX2_pop 7 = .ok (.aload_n 0, 1) := by decide +kernel
theorem dX2_pop_8 : decode cX2_pop 8 = .ok (.dup, 1) := by decide +kernel
theorem dX2_pop_9 : decode cX2_pop 9 = .ok (.getfield 15, 3) := by decide +kernel
theorem dX2_pop_12 : decode cX2_pop 12 = .ok (.iconst 1, 1) := by decide +kernel
theorem dX2_pop_13 : decode cX2_pop 13 = .ok (.isub, 1) := by decide +kernel
theorem dX2_pop_14 : decode cX2_pop 14 = .ok (.putfield 15, 3) := by decide +kernel
theorem dX2_pop_17 : decode cX2_pop 17 = .ok (.aload_n 0, 1) := by decide +kernel
theorem dX2_pop_18 : decode cX2_pop 18 = .ok (.getfield 15, 3) := by decide +kernel
theorem dX2_pop_21 : decode cX2_pop 21 = .ok (.bipush 11, 2) := by decide +kernel
theorem dX2_pop_23 : decode cX2_pop 23 = .ok (.imul, 1) := by decide +kernel
theorem dX2_pop_24 : decode cX2_pop 24 = .ok (.istore_n 2, 1) := by decide +kernel
theorem dX2_pop_25 : decode cX2_pop 25 = .ok (.aload_n 1, 1) := by decide +kernel
theorem dX2_pop_26 : decode cX2_pop 26 = .ok (.aload_n 0, 1) := by decide +kernel
theorem dX2_pop_27 : decode cX2_pop 27 = .ok (.getfield 9, 3) := by decide +kernel
theorem dX2_pop_30 : decode cX2_pop 30 = .ok (.iload_n 2, 1) := by decide +kernel
theorem dX2_pop_31 : decode cX2_pop 31 = .ok (.iaload, 1) := by decide +kernel
theorem dX2_pop_32 : decode cX2_pop 32 = .ok (.putfield 25, 3) := by decide +kernel
theorem dX2_pop_35 : decode cX2_pop 35 = .ok (.aload_n 0, 1) := by decide +kernel
theorem dX2_pop_36 : decode cX2_pop 36 = .ok (.getfield 9, 3) := by decide +kernel
theorem dX2_pop_39 : decode cX2_pop 39 = .ok (.iload_n 2, 1) := by decide +kernel
theorem dX2_pop_40 : decode cX2_pop 40 = .ok (.iconst 1, 1) := by decide +kernel
theorem dX2_pop_41 : decode cX2_pop 41 = .ok (.iadd, 1) := by decide +kernel
theorem dX2_pop_42 : decode cX2_pop 42 = .ok (.aload_n 1, 1) := by decide +kernel
theorem dX2_pop_43 : decode cX2_pop 43 = .ok (.getfield 30, 3) := by decide +kernel
theorem dX2_pop_46 : decode cX2_pop 46 = .ok (.iconst 0, 1) := by decide +kernel
theorem dX2_pop_47 : decode cX2_pop 47 = .ok (.iconst 3, 1) := by decide +kernel
theorem dX2_pop_48 : decode cX2_pop 48 = .ok (.invokestatic 19, 3) := by decide +kernel
theorem dX2_pop_51 : decode cX2_pop 51 = .ok (.aload_n 0, 1) := by decide +kernel
theorem dX2_pop_52 : decode cX2_pop 52 = .ok (.getfield 9, 3) := by decide +kernel
theorem dX2_pop_55 : decode cX2_pop 55 = .ok (.iload_n 2, 1) := by decide +kernel
theorem dX2_pop_56 : decode cX2_pop 56 = .ok (.iconst 1, 1) := by decide +kernel
theorem dX2_pop_57 : decode cX2_pop 57 = .ok (.iadd, 1) := by decide +kernel
theorem dX2_pop_58 : decode cX2_pop 58 = .ok (.iconst 3, 1) := by decide +kernel
theorem dX2_pop_59 : decode cX2_pop 59 = .ok (.iadd, 1) := by decide +kernel
theorem dX2_pop_60 : decode cX2_pop 60 = .ok (.aload_n 1, 1) := by decide +kernel
theorem dX2_pop_61 : decode cX2_pop 61 = .ok (.getfield 33, 3) := by decide +kernel
theorem dX2_pop_64 : decode cX2_pop 64 = .ok (.iconst 0, 1) := by decide +kernel
theorem dX2_pop_65 : decode cX2_pop 65 = .ok (.bipush 7, 2) := by decide +kernel
theorem dX2_pop_67 : decode cX2_pop 67 = .ok (.invokestatic 19, 3) := by decide +kernel
theorem dX2_pop_70 : decode cX2_pop 70 = .ok (.return_, 1) := by decide +kernel
theorem dX2_copy_0 : decode cX2_copy 0 = .ok (.aload_n 1, 1) := by decide +kernel
theorem dX2_copy_1 : decode cX2_copy 1 = .ok (.getfield 9, 3) := by decide +kernel
theorem dX2_copy_4 : decode cX2_copy 4 = .ok (.iconst 0, 1) := by decide +kernel
theorem dX2_copy_5 : decode cX2_copy 5 = .ok (.aload_n 0, 1) := by decide +kernel
theorem dX2_copy_6 : decode cX2_copy 6 = .ok (.getfield 9, 3) := by decide +kernel
theorem dX2_copy_9 : decode cX2_copy 9 = .ok (.iconst 0, 1) := by decide +kernel
theorem dX2_copy_10 : decode cX2_copy 10 = .ok (.bipush 88, 2) := by decide +kernel
theorem dX2_copy_12 : decode cX2_copy 12 = .ok (.invokestatic 19, 3) := by decide +kernel
theorem dX2_copy_15 : decode cX2_copy 15 = .ok (.aload_n 0, 1) := by decide +kernel
theorem dX2_copy_16 : decode cX2_copy 16 = .ok (.aload_n 1, 1) := by decide +kernel
theorem dX2_copy_17 : decode cX2_copy 17 = .ok (.getfield 15, 3) := by decide +kernel
theorem dX2_copy_20 : decode cX2_copy 20 = .ok (.putfield 15, 3) := by decide +kernel
theorem dX2_copy_23 : decode cX2_copy 23 = .ok (.return_, 1) := by decide +kernel
theorem dX3_init_0 : decode cX3_init 0 = .ok (.aload_n 0, 1) := by decide +kernel
theorem dX3_init_1 : decode cX3_init 1 = .ok (.invokespecial 3, 3) := by decide +kernel
theorem dX3_init_4 : decode cX3_init 4 = .ok (.aload_n 0, 1) := by decide +kernel
theorem dX3_init_5 : decode cX3_init 5 = .ok (.bipush 18, 2) := by decide +kernel
theorem dX3_init_7 : decode cX3_init 7 = .ok (.newarray .int, 2) := by decide +kernel
theorem dX3_init_9 : decode cX3_init 9 = .ok (.putfield 9, 3) := by decide +kernel
theorem dX3_init_12 : decode cX3_init 12 = .ok (.aload_n 0, 1) := by decide +kernel
theorem dX3_init_13 : decode cX3_init 13 = .ok (.iload_n 1, 1) := by decide +kernel
theorem dX3_init_14 : decode cX3_init 14 = .ok (.bipush 6, 2) := by decide +kernel
theorem dX3_init_16 : decode cX3_init 16 = .ok (.invokestatic 15, 3) := by decide +kernel
theorem dX3_init_19 : decode cX3_init 19 = .ok (.putfield 21, 3) := by decide +kernel
theorem dX3_init_22 : decode cX3_init 22 = .ok (.aload_n 0, 1) := by decide +kernel
theorem dX3_init_23 : decode cX3_init 23 = .ok (.iload_n 2, 1) := by decide +kernel
theorem dX3_init_24 : decode cX3_init 24 = .ok (.iconst 3, 1) := by decide +kernel
theorem dX3_init_25 : decode cX3_init 25 = .ok (.invokestatic 15, 3) := by decide +kernel
theorem dX3_init_28 : decode cX3_init 28 = .ok (.putfield 25, 3) := by decide +kernel
theorem dX3_init_31 : decode cX3_init 31 = .ok (.return_, 1) := by decide +kernel
theorem dX3_add_0 : decode cX3_add 0 = .ok (.aload_n 0, 1) := by decide +kernel
theorem dX3_add_1 : decode cX3_add 1 = .ok (.getfield 28, 3) := by decide +kernel
theorem dX3_add_4 : decode cX3_add 4 = .ok (.aload_n 0, 1) := by decide +kernel
theorem dX3_add_5 : decode cX3_add 5 = .ok (.getfield 21, 3) := by decide +kernel
theorem dX3_add_8 : decode cX3_add 8 = .ok (.if_icmp .ge 53, 3) := by decide +kernel
theorem dX3_add_11 : decode cX3_add 11 = .ok (.aload_n 0, 1) := by decide +kernel
theorem dX3_add_12 : decode cX3_add 12 = .ok (.getfield 9, 3) := by decide +kernel
theorem dX3_add_15 : decode cX3_add 15 = .ok (.iconst 3, 1) := by decide +kernel
theorem dX3_add_16 : decode cX3_add 16 = .ok (.aload_n 0, 1) := by decide +kernel
theorem dX3_add_17 : decode cX3_add 17 = .ok (.getfield 28, 3) := by decide +kernel
theorem dX3_add_20 : decode cX3_add 20 = .ok (.imul, 1) := by decide +kernel
theorem dX3_add_21 : decode cX3_add 21 = .ok (.iload_n 1, 1) := by decide +kernel
theorem dX3_add_22 : decode cX3_add 22 = .ok (.iastore, 1) := by decide +kernel
theorem dX3_add_23 : decode cX3_add 23 = .ok (.aload_n 0, 1) := by decide +kernel
theorem dX3_add_24 : decode cX3_add 24 = .ok (.getfield 9, 3) := by decide +kernel
theorem dX3_add_27 : decode cX3_add 27 = .ok (.iconst 3, 1) := by decide +kernel
theorem dX3_add_28 : decode cX3_add 28 = .ok (.aload_n 0, 1) := by decide +kernel
theorem dX3_add_29 : decode cX3_add 29 = .ok (.getfield 28, 3) := by decide +kernel
theorem dX3_add_32 : decode cX3_add 32 = .ok (.imul, 1) := by decide +kernel
theorem dX3_add_33 : decode cX3_add 33 = .ok (.iconst 1, 1) := by decide +kernel
theorem dX3_add_34 : decode cX3_add 34 = .ok (.iadd, 1) := by decide +kernel
theorem dX3_add_35 : decode cX3_add 35 = .ok (.iload_n 2, 1) := by decide +kernel
theorem dX3_add_36 : decode cX3_add 36 = .ok (.iastore, 1) := by decide +kernel
theorem dX3_add_37 : decode cX3_add 37 = .ok (.aload_n 0, 1) := by decide +kernel
theorem dX3_add_38 : decode cX3_add 38 = .ok (.getfield 9, 3) := by decide +kernel
theorem dX3_add_41 : decode cX3_add 41 = .ok (.iconst 3, 1) := by decide +kernel
theorem dX3_add_42 : decode cX3_add 42 = .ok (.aload_n 0, 1) := by decide +kernel
theorem dX3_add_43 : decode cX3_add 43 = .ok (.getfield 28, 3) := by decide +kernel
theorem dX3_add_46 : decode cX3_add 46 = .ok (.imul, 1) := by decide +kernel
theorem dX3_add_47 : decode cX3_add 47 = .ok (.iconst 2, 1) := by decide +kernel
theorem dX3_add_48 : decode cX3_add 48 = .ok (.iadd, 1) := by decide +kernel
theorem dX3_add_49 : decode cX3_add 49 = .ok (.iload_n 3, 1) := by decide +kernel
theorem dX3_add_50 : decode cX3_add 50 = .ok (.iastore, 1) := by decide +kernel
theorem dX3_add_51 : decode cX3_add 51 = .ok (.aload_n 0, 1) := by decide +kernel
theorem dX3_add_52 : decode cX3_add 52 = .ok (.dup, 1) := by decide +kernel
theorem dX3_add_53 : decode cX3_add 53 = .ok (.getfield 28, 3) := by decide +kernel
theorem dX3_add_56 : decode cX3_add 56 = .ok (.iconst 1, 1) := by decide +kernel
theorem dX3_add_57 : decode cX3_add 57 = .ok (.iadd, 1) := by decide +kernel
theorem dX3_add_58 : decode cX3_add 58 = .ok (.putfield 28, 3) := by decide +kernel
theorem dX3_add_61 : decode cX3_add 61 = .ok (.return_, 1) := by decide +kernel
theorem dX3_get_0 : decode cX3_get 0 = .ok (.iload_n 1, 1) := by decide +kernel
theorem dX3_get_1 : decode cX3_get 1 = .ok (.iconst 0, 1) := by decide +kernel
theorem dX3_get_2 : decode cX3_get 2 = .ok (.aload_n 0, 1) := by decide +kernel
theorem dX3_get_3 : decode cX3_get 3 = .ok (.getfield 28, 3) := by decide +kernel
theorem dX3_get_6 : decode cX3_get 6 = .ok (.iconst 1, 1) := by decide +kernel
theorem dX3_get_7 : decode cX3_get 7 = .ok (.isub, 1) := by decide +kernel
theorem dX3_get_8 : decode cX3_get 8 = .ok (.invokestatic 31, 3) := by decide +kernel
theorem dX3_get_11 : decode cX3_get 11 = .ok (.ifCond .eq 21, 3) := by decide +kernel
theorem dX3_get_14 : decode cX3_get 14 = .ok (.iload_n 2, 1) := by decide +kernel
theorem dX3_get_15 : decode cX3_get 15 = .ok (.iconst 0, 1) := by decide +kernel
theorem dX3_get_16 : decode cX3_get 16 = .ok (.aload_n 0, 1) := by decide +kernel
theorem dX3_get_17 : decode cX3_get 17 = .ok (.getfield 25, 3) := by decide +kernel
theorem dX3_get_20 : decode cX3_get 20 = .ok (.iconst 1, 1) := by decide +kernel
theorem dX3_get_21 : decode cX3_get 21 = .ok (.isub, 1) := by decide +kernel
theorem dX3_get_22 : decode cX3_get 22 = .ok (.invokestatic 31, 3) := by decide +kernel
theorem dX3_get_25 : decode cX3_get 25 = .ok (.ifCond .eq 7, 3) := by decide +kernel
theorem dX3_get_28 : decode cX3_get 28 = .ok (.iconst 1, 1) := by decide +kernel
theorem dX3_get_29 : decode cX3_get 29 = .ok (.goto 4, 3) := by decide +kernel
theorem dX3_get_32 : decode cX3_get 32 = .ok (.iconst 0, 1) := by decide +kernel
theorem dX3_get_33 : decode cX3_get 33 = .ok (.istore_n 3, 1) := by decide +kernel
theorem dX3_get_34 : decode cX3_get 34 = .ok (.iload_n 3, 1) := by decide +kernel
theorem dX3_get_35 : decode cX3_get 35 = .ok (.ifCond .eq 16, 3) := by decide +kernel
theorem dX3_get_38 : decode cX3_get 38 = .ok (.aload_n 0, 1) := by decide +kernel
theorem dX3_get_39 : decode cX3_get 39 = .ok (.getfield 9, 3) := by decide +kernel
theorem dX3_get_42 : decode cX3_get 42 = .ok (.iconst 3, 1) := by decide +kernel
theorem dX3_get_43 : decode cX3_get 43 = .ok (.iload_n 1, 1) := by decide +kernel
theorem dX3_get_44 : decode cX3_get 44 = .ok (.imul, 1) := by decide +kernel
theorem dX3_get_45 : decode cX3_get 45 = .ok (.iload_n 2, 1) := by decide +kernel
theorem dX3_get_46 : decode cX3_get 46 = .ok (.iadd, 1) := by decide +kernel
theorem dX3_get_47 : decode cX3_get 47 = .ok (.iaload, 1) := by decide +kernel
theorem dX3_get_48 : decode cX3_get 48 = .ok (.goto 4, 3) := by decide +kernel
theorem dX3_get_51 : decode cX3_get 51 = .ok (.iconst 0, 1) := by decide +kernel
theorem dX3_get_52 : decode cX3_get 52 = .ok (.ireturn, 1) := by decide +kernel
theorem dX3_copy_0 : decode cX3_copy 0 = .ok (.aload_n 1, 1) := by decide +kernel
theorem dX3_copy_1 : decode cX3_copy 1 = .ok (.getfield 9, 3) := by decide +kernel
theorem dX3_copy_4 : decode cX3_copy 4 = .ok (.iconst 0, 1) := by decide +kernel
theorem dX3_copy_5 : decode cX3_copy 5 = .ok (.aload_n 0, 1) := by decide +kernel
theorem dX3_copy_6 : decode cX3_copy 6 = .ok (.getfield 9, 3) := by decide +kernel
theorem dX3_copy_9 : decode cX3_copy 9 = .ok (.iconst 0, 1) := by decide +kernel
theorem dX3_copy_10 : decode cX3_copy 10 = .ok (.bipush 18, 2) := by decide +kernel
theorem dX3_copy_12 : decode cX3_copy 12 = .ok (.invokestatic 35, 3) := by decide +kernel
theorem dX3_copy_15 : decode cX3_copy 15 = .ok (.aload_n 0, 1) := by decide +kernel
theorem dX3_copy_16 : decode cX3_copy 16 = .ok (.aload_n 1, 1) := by decide +kernel
theorem dX3_copy_17 : decode cX3_copy 17 = .ok (.getfield 28, 3) := by decide +kernel
theorem dX3_copy_20 : decode cX3_copy 20 = .ok (.putfield 28, 3) := by decide +kernel
theorem dX3_copy_23 : decode cX3_copy 23 = .ok (.return_, 1) := by decide +kernel
theorem dX4_init_0 : decode cX4_init 0 = .ok (.aload_n 0, 1) := by decide +kernel
theorem dX4_init_1 : decode cX4_init 1 = .ok (.invokespecial 3, 3) := by decide +kernel
theorem dX4_init_4 : decode cX4_init 4 = .ok (.aload_n 0, 1) := by decide +kernel
theorem dX4_init_5 : decode cX4_init 5 = .ok (.sipush 150, 3) := by decide +kernel
theorem dX4_init_8 : decode cX4_init 8 = .ok (.newarray .byte, 2) := by decide +kernel
theorem dX4_init_10 : decode cX4_init 10 = .ok (.putfield 9, 3) := by decide +kernel
theorem dX4_init_13 : decode cX4_init 13 = .ok (.return_, 1) := by decide +kernel
theorem dX4_add_0 : decode cX4_add 0 = .ok (.aload_n 0, 1) := by decide +kernel
theorem dX4_add_1 : decode cX4_add 1 = .ok (.getfield 15, 3) := by decide +kernel
theorem dX4_add_4 : decode cX4_add 4 = .ok (.sipush 150, 3) := by decide +kernel
theorem dX4_add_7 : decode cX4_add 7 = .ok (.if_icmp .ge 24, 3) := by decide +kernel
theorem dX4_add_10 : decode cX4_add 10 = .ok (.aload_n 0, 1) := by decide +kernel
theorem dX4_add_11 : decode cX4_add 11 = .ok (.getfield 9, 3) := by decide +kernel
theorem dX4_add_14 : decode cX4_add 14 = .ok (.aload_n 0, 1) := by decide +kernel
theorem dX4_add_15 : decode cX4_add 15 = .ok (.getfield 15, 3) := by decide +kernel
theorem dX4_add_18 : decode cX4_add 18 = .ok (.iload_n 1, 1) := by decide +kernel
theorem dX4_add_19 : decode cX4_add 19 = .ok (.i2b, 1) := by decide +kernel
theorem dX4_add_20 : decode cX4_add 20 = .ok (.bastore, 1) := by decide +kernel
theorem dX4_add_21 : decode cX4_add 21 = .ok (.aload_n 0, 1) := by decide +kernel
theorem dX4_add_22 : decode cX4_add 22 = .ok (.dup, 1) := by decide +kernel
theorem dX4_add_23 : decode cX4_add 23 = .ok (.getfield 15, 3) := by decide +kernel
theorem dX4_add_26 : decode cX4_add 26 = .ok (.iconst 1, 1) := by decide +kernel
theorem dX4_add_27 : decode cX4_add 27 = .ok (.iadd, 1) := by decide +kernel
theorem dX4_add_28 : decode cX4_add 28 = .ok (.putfield 15, 3) := by decide +kernel
theorem dX4_add_31 : decode cX4_add 31 = .ok (.return_, 1) := by decide +kernel
theorem dX4_carryOut_0 : decode cX4_carryOut 0 = .ok (.aload_n 1, 1) := by decide +kernel
theorem dX4_carryOut_1 : decode cX4_carryOut 1 = .ok (.iconst 0, 1) := by decide +kernel
theorem dX4_carryOut_2 : decode cX4_carryOut 2 = .ok (.invokevirtual 19, 3) := by decide +kernel
theorem dX4_carryOut_5 : decode cX4_carryOut 5 = .ok (.aload_n 0, 1) := by decide +kernel
theorem dX4_carryOut_6 : decode cX4_carryOut 6 = .ok (.iconst 0, 1) := by decide +kernel
theorem dX4_carryOut_7 : decode cX4_carryOut 7 = .ok (.putfield 25, 3) := by decide +kernel
theorem dX4_carryOut_10 : decode cX4_carryOut 10 = .ok (.aload_n 0, 1) := by decide +kernel
theorem dX4_carryOut_11 : decode cX4_carryOut 11 = .ok (.invokevirtual 28, 3) := by decide +kernel
theorem dX4_carryOut_14 : decode cX4_carryOut 14 = .ok (.iconst 0, 1) := by decide +kernel
theorem dX4_carryOut_15 : decode cX4_carryOut 15 = .ok (.istore_n 2, 1) := by decide +kernel
theorem dX4_carryOut_16 : decode cX4_carryOut 16 = .ok (.iload_n 2, 1) := by decide +kernel
theorem dX4_carryOut_17 : decode cX4_carryOut 17 = .ok (.sipush 150, 3) := by decide +kernel
theorem dX4_carryOut_20 : decode cX4_carryOut 20 = .ok (.if_icmp .gt 59, 3) := by decide +kernel
theorem dX4_carryOut_23 : decode cX4_carryOut 23 = .ok (.iload_n 2, 1) := by decide +kernel
theorem dX4_carryOut_24 : decode cX4_carryOut 24 = .ok (.ifCond .le 12, 3) := by decide +kernel
theorem dX4_carryOut_27 : decode cX4_carryOut 27 = .ok (.aload_n 0, 1) := by decide +kernel
theorem dX4_carryOut_28 : decode cX4_carryOut 28 = .ok (.getfield 31, 3) := by decide +kernel
theorem dX4_carryOut_31 : decode cX4_carryOut 31 = .ok (.ifCond .ne 5, 3) := by decide +kernel
theorem dX4_carryOut_34 : decode cX4_carryOut 34 = .ok (.iload_n 2, 1) := by decide +kernel
theorem dX4_carryOut_35 : decode cX4_carryOut 35 = .ok (.ireturn, 1) := by decide +kernel
theorem dX4_carryOut_36 : decode cX4_carryOut 36 = .ok (.aload_n 0, 1) := by decide +kernel
theorem dX4_carryOut_37 : decode cX4_carryOut 37 = .ok (.aload_n 1, 1) := by decide +kernel
theorem dX4_carryOut_38 : decode cX4_carryOut 38 = .ok (.getfield 34, 3) := by decide +kernel
theorem dX4_carryOut_41 : decode cX4_carryOut 41 = .ok (.iload_n 2, 1) := by decide +kernel
theorem dX4_carryOut_42 : decode cX4_carryOut 42 = .ok (.ifCond .ne 7, 3) := by decide +kernel
theorem dX4_carryOut_45 : decode cX4_carryOut 45 = .ok (.iconst 1, 1) := by decide +kernel
theorem dX4_carryOut_46 : decode cX4_carryOut 46 = .ok (.goto 4, 3) := by decide +kernel
theorem dX4_carryOut_49 : decode cX4_carryOut 49 = .ok (.iconst 0, 1) := by decide +kernel
theorem dX4_carryOut_50 : decode cX4_carryOut 50 = .ok (.invokevirtual 38, 3) := by decide +kernel
theorem dX4_carryOut_53 : decode cX4_carryOut 53 = .ok (.ifCond .ne 11, 3) := by decide +kernel
theorem dX4_carryOut_56 : decode cX4_carryOut 56 = .ok (.bipush (-10), 2) := by decide +kernel
theorem dX4_carryOut_58 : decode cX4_carryOut 58 = .ok (.aload_n 0, 1) := by decide +kernel
theorem dX4_carryOut_59 : decode cX4_carryOut 59 = .ok (.getfield 42, 3) := by decide +kernel
theorem dX4_carryOut_62 : decode cX4_carryOut 62 = .ok (.isub, 1) := by decide +kernel
theorem dX4_carryOut_63 : decode cX4_carryOut 63 = .ok (.ireturn, 1) := by decide +kernel
theorem dX4_carryOut_64 : decode cX4_carryOut 64 = .ok (.aload_n 0, 1) := by decide +kernel
theorem dX4_carryOut_65 : decode cX4_carryOut 65 = .ok (.aload_n 1, 1) := by decide +kernel
theorem dX4_carryOut_66 : decode cX4_carryOut 66 = .ok (.invokevirtual 45, 3) := by decide +kernel
theorem dX4_carryOut_69 : decode cX4_carryOut 69 = .ok (.aload_n 0, 1) := by decide +kernel
theorem dX4_carryOut_70 : decode cX4_carryOut 70 = .ok (.invokevirtual 28, 3) := by decide +kernel
theorem dX4_carryOut_73 : decode cX4_carryOut 73 = .ok (.iinc 2 1, 3) := by decide +kernel
theorem dX4_carryOut_76 : decode cX4_carryOut 76 = .ok (.goto (-60), 3) := by decide +kernel
theorem dX4_carryOut_79 : decode cX4_carryOut 79 = .ok (.bipush (-10), 2) := by decide +kernel
theorem dX4_carryOut_81 : decode cX4_carryOut 81 = .ok (.aload_n 0, 1) := by decide +kernel
theorem dX4_carryOut_82 : decode cX4_carryOut 82 = .ok (.getfield 42, 3) := by decide +kernel
theorem dX4_carryOut_85 : decode cX4_carryOut 85 = .ok (.isub, 1) := by decide +kernel
theorem dX4_carryOut_86 : decode cX4_carryOut 86 = .ok (.ireturn, 1) := by decide +kernel
theorem dX4_takeItem_0 : decode cX4_takeItem 0 = .ok (.aload_n 0, 1) := by decide +kernel
theorem dX4_takeItem_1 : decode cX4_takeItem 1 = .ok (.aload_n 0, 1) := by decide +kernel
theorem dX4_takeItem_2 : decode cX4_takeItem 2 = .ok (.getfield 31, 3) := by decide +kernel
theorem dX4_takeItem_5 : decode cX4_takeItem 5 = .ok (.putfield 49, 3) := by decide +kernel
theorem dX4_takeItem_8 : decode cX4_takeItem 8 = .ok (.aload_n 0, 1) := by decide +kernel
theorem dX4_takeItem_9 : decode cX4_takeItem 9 = .ok (.aload_n 1, 1) := by decide +kernel
theorem dX4_takeItem_10 : decode cX4_takeItem 10 = .ok (.iload_n 2, 1) := by decide +kernel
theorem dX4_takeItem_11 : decode cX4_takeItem 11 = .ok (.invokevirtual 52, 3) := by decide +kernel
theorem dX4_takeItem_14 : decode cX4_takeItem 14 = .ok (.ifCond .ne 5, 3) := by decide +kernel
theorem dX4_takeItem_17 : decode cX4_takeItem 17 = .ok (.iconst 0, 1) := by decide +kernel
theorem dX4_takeItem_18 : decode cX4_takeItem 18 = .ok (.ireturn, 1) := by decide +kernel
theorem dX4_takeItem_19 : decode cX4_takeItem 19 = .ok (.aload_n 0, 1) := by decide +kernel
theorem dX4_takeItem_20 : decode cX4_takeItem 20 = .ok (.invokevirtual 28, 3) := by decide +kernel
theorem dX4_takeItem_23 : decode cX4_takeItem 23 = .ok (.aload_n 0, 1) := by decide +kernel
theorem dX4_takeItem_24 : decode cX4_takeItem 24 = .ok (.getfield 31, 3) := by decide +kernel
theorem dX4_takeItem_27 : decode cX4_takeItem 27 = .ok (.iconst 1, 1) := by decide +kernel
theorem dX4_takeItem_28 : decode cX4_takeItem 28 = .ok (.if_icmp .ne 11, 3) := by decide +kernel
theorem dX4_takeItem_31 : decode cX4_takeItem 31 = .ok (.aload_n 0, 1) := by decide +kernel
theorem dX4_takeItem_32 : decode cX4_takeItem 32 = .ok (.aload_n 1, 1) := by decide +kernel
theorem dX4_takeItem_33 : decode cX4_takeItem 33 = .ok (.invokevirtual 55, 3) := by decide +kernel
theorem dX4_takeItem_36 : decode cX4_takeItem 36 = .ok (.ifCond .ne 5, 3) := by decide +kernel
theorem dX4_takeItem_39 : decode cX4_takeItem 39 = .ok (.iconst 0, 1) := by decide +kernel
theorem dX4_takeItem_40 : decode cX4_takeItem 40 = .ok (.ireturn, 1) := by decide +kernel
theorem dX4_takeItem_41 : decode cX4_takeItem 41 = .ok (.aload_n 0, 1) := by decide +kernel
theorem dX4_takeItem_42 : decode cX4_takeItem 42 = .ok (.aload_n 0, 1) := by decide +kernel
theorem dX4_takeItem_43 : decode cX4_takeItem 43 = .ok (.getfield 59, 3) := by decide +kernel
theorem dX4_takeItem_46 : decode cX4_takeItem 46 = .ok (.putfield 62, 3) := by decide +kernel
theorem dX4_takeItem_49 : decode cX4_takeItem 49 = .ok (.aload_n 0, 1) := by decide +kernel
theorem dX4_takeItem_50 : decode cX4_takeItem 50 = .ok (.getfield 49, 3) := by decide +kernel
theorem dX4_takeItem_53 : decode cX4_takeItem 53 = .ok (.iconst 4, 1) := by decide +kernel
theorem dX4_takeItem_54 : decode cX4_takeItem 54 = .ok (.if_icmp .eq 41, 3) := by decide +kernel
theorem dX4_takeItem_57 : decode cX4_takeItem 57 = .ok (.aload_n 0, 1) := by decide +kernel
theorem dX4_takeItem_58 : decode cX4_takeItem 58 = .ok (.getfield 49, 3) := by decide +kernel
theorem dX4_takeItem_61 : decode cX4_takeItem 61 = .ok (.bipush 8, 2) := by decide +kernel
theorem dX4_takeItem_63 : decode cX4_takeItem 63 = .ok (.if_icmp .eq 32, 3) := by decide +kernel
theorem dX4_takeItem_66 : decode cX4_takeItem 66 = .ok (.aload_n 0, 1) := by decide +kernel
theorem dX4_takeItem_67 : decode cX4_takeItem 67 = .ok (.invokevirtual 28, 3) := by decide +kernel
theorem dX4_takeItem_70 : decode cX4_takeItem 70 = .ok (.aload_n 0, 1) := by decide +kernel
theorem dX4_takeItem_71 : decode cX4_takeItem 71 = .ok (.getfield 31, 3) := by decide +kernel
theorem dX4_takeItem_74 : decode cX4_takeItem 74 = .ok (.iconst 1, 1) := by decide +kernel
theorem dX4_takeItem_75 : decode cX4_takeItem 75 = .ok (.if_icmp .ne 10, 3) := by decide +kernel
theorem dX4_takeItem_78 : decode cX4_takeItem 78 = .ok (.aload_n 0, 1) := by decide +kernel
theorem dX4_takeItem_79 : decode cX4_takeItem 79 = .ok (.invokevirtual 65, 3) := by decide +kernel
theorem dX4_takeItem_82 : decode cX4_takeItem 82 = .ok (.ifCond .ne 5, 3) := by decide +kernel
theorem dX4_takeItem_85 : decode cX4_takeItem 85 = .ok (.iconst 0, 1) := by decide +kernel
theorem dX4_takeItem_86 : decode cX4_takeItem 86 = .ok (.ireturn, 1) := by decide +kernel
theorem dX4_takeItem_87 : decode cX4_takeItem 87 = .ok (.aload_n 0, 1) := by decide +kernel
theorem dX4_takeItem_88 : decode cX4_takeItem 88 = .ok (.aload_n 0, 1) := by decide +kernel
theorem dX4_takeItem_89 : decode cX4_takeItem 89 = .ok (.getfield 59, 3) := by decide +kernel
theorem dX4_takeItem_92 : decode cX4_takeItem 92 = .ok (.putfield 69, 3) := by decide +kernel
theorem dX4_takeItem_95 : decode cX4_takeItem 95 = .ok (.aload_n 0, 1) := by decide +kernel
theorem dX4_takeItem_96 : decode cX4_takeItem 96 = .ok (.invokevirtual 28, 3) := by decide +kernel
theorem dX4_takeItem_99 : decode cX4_takeItem 99 = .ok (.aload_n 0, 1) := by decide +kernel
theorem dX4_takeItem_100 : decode cX4_takeItem 100 = .ok (.getfield 31, 3) := by decide +kernel
theorem dX4_takeItem_103 : decode cX4_takeItem 103 = .ok (.iconst 2, 1) := by decide +kernel
theorem dX4_takeItem_104 : decode cX4_takeItem 104 = .ok (.if_icmp .ne 7, 3) := by decide +kernel
theorem dX4_takeItem_107 : decode cX4_takeItem 107 = .ok (.iconst 1, 1) := by decide +kernel
theorem dX4_takeItem_108 : decode cX4_takeItem 108 = .ok (.goto 4, 3) := by decide +kernel
theorem dX4_takeItem_111 : decode cX4_takeItem 111 = .ok (.iconst 0, 1) := by decide +kernel
theorem dX4_takeItem_112 : decode cX4_takeItem 112 = .ok (.ireturn, 1) := by decide +kernel
theorem dX4_mayBegin_0 : decode cX4_mayBegin 0 = .ok (.aload_n 0, 1) := by decide +kernel
theorem dX4_mayBegin_1 : decode cX4_mayBegin 1 = .ok (.getfield 49, 3) := by decide +kernel
theorem dX4_mayBegin_4 : decode cX4_mayBegin 4 = .ok (.tableswitch 85 4 8 #[36, 38, 56, 75, 75], 36) := by decide +kernel
theorem dX4_mayBegin_40 : decode cX4_mayBegin 40 = .ok (.iload_n 2, 1) := by decide +kernel
theorem dX4_mayBegin_41 : decode cX4_mayBegin 41 = .ok (.ireturn, 1) := by decide +kernel
theorem dX4_mayBegin_42 : decode cX4_mayBegin 42 = .ok (.iload_n 2, 1) := by decide +kernel
theorem dX4_mayBegin_43 : decode cX4_mayBegin 43 = .ok (.ifCond .ne 15, 3) := by decide +kernel
theorem dX4_mayBegin_46 : decode cX4_mayBegin 46 = .ok (.aload_n 1, 1) := by decide +kernel
theorem dX4_mayBegin_47 : decode cX4_mayBegin 47 = .ok (.getfield 72, 3) := by decide +kernel
theorem dX4_mayBegin_50 : decode cX4_mayBegin 50 = .ok (.iconst 3, 1) := by decide +kernel
theorem dX4_mayBegin_51 : decode cX4_mayBegin 51 = .ok (.if_icmp .ge 7, 3) := by decide +kernel
theorem dX4_mayBegin_54 : decode cX4_mayBegin 54 = .ok (.iconst 1, 1) := by decide +kernel
theorem dX4_mayBegin_55 : decode cX4_mayBegin 55 = .ok (.goto 4, 3) := by decide +kernel
theorem dX4_mayBegin_58 : decode cX4_mayBegin 58 = .ok (.iconst 0, 1) := by decide +kernel
theorem dX4_mayBegin_59 : decode cX4_mayBegin 59 = .ok (.ireturn, 1) := by decide +kernel
theorem dX4_mayBegin_60 : decode cX4_mayBegin 60 = .ok (.iload_n 2, 1) := by decide +kernel
theorem dX4_mayBegin_61 : decode cX4_mayBegin 61 = .ok (.ifCond .ne 16, 3) := by decide +kernel
theorem dX4_mayBegin_64 : decode cX4_mayBegin 64 = .ok (.aload_n 1, 1) := by decide +kernel
theorem dX4_mayBegin_65 : decode cX4_mayBegin 65 = .ok (.getfield 77, 3) := by decide +kernel
theorem dX4_mayBegin_68 : decode cX4_mayBegin 68 = .ok (.bipush 7, 2) := by decide +kernel
theorem dX4_mayBegin_70 : decode cX4_mayBegin 70 = .ok (.if_icmp .ge 7, 3) := by decide +kernel
theorem dX4_mayBegin_73 : decode cX4_mayBegin 73 = .ok (.iconst 1, 1) := by decide +kernel
theorem dX4_mayBegin_74 : decode cX4_mayBegin 74 = .ok (.goto 4, 3) := by decide +kernel
theorem dX4_mayBegin_77 : decode cX4_mayBegin 77 = .ok (.iconst 0, 1) := by decide +kernel
theorem dX4_mayBegin_78 : decode cX4_mayBegin 78 = .ok (.ireturn, 1) := by decide +kernel
theorem dX4_mayBegin_79 : decode cX4_mayBegin 79 = .ok (.iload_n 2, 1) := by decide +kernel
theorem dX4_mayBegin_80 : decode cX4_mayBegin 80 = .ok (.ifCond .ne 7, 3) := by decide +kernel
theorem dX4_mayBegin_83 : decode cX4_mayBegin 83 = .ok (.iconst 1, 1) := by decide +kernel
theorem dX4_mayBegin_84 : decode cX4_mayBegin 84 = .ok (.goto 4, 3) := by decide +kernel
theorem dX4_mayBegin_87 : decode cX4_mayBegin 87 = .ok (.iconst 0, 1) := by decide +kernel
theorem dX4_mayBegin_88 : decode cX4_mayBegin 88 = .ok (.ireturn, 1) := by decide +kernel
theorem dX4_mayBegin_89 : decode cX4_mayBegin 89 = .ok (.iconst 0, 1) := by decide +kernel
theorem dX4_mayBegin_90 : decode cX4_mayBegin 90 = .ok (.ireturn, 1) := by decide +kernel
theorem dX4_isFirstNumber_0 : decode cX4_isFirstNumber 0 = .ok (.aload_n 0, 1) := by decide +kernel
theorem dX4_isFirstNumber_1 : decode cX4_isFirstNumber 1 = .ok (.getfield 49, 3) := by decide +kernel
theorem dX4_isFirstNumber_4 : decode cX4_isFirstNumber 4 = .ok (.tableswitch 64 4 8 #[36, 64, 64, 44, 53], 36) := by decide +kernel
theorem dX4_isFirstNumber_40 : decode cX4_isFirstNumber 40 = .ok (.aload_n 0, 1) := by decide +kernel
theorem dX4_isFirstNumber_41 : decode cX4_isFirstNumber 41 = .ok (.getfield 59, 3) := by decide +kernel
theorem dX4_isFirstNumber_44 : decode cX4_isFirstNumber 44 = .ok (.invokestatic 80, 3) := by decide +kernel
theorem dX4_isFirstNumber_47 : decode cX4_isFirstNumber 47 = .ok (.ireturn, 1) := by decide +kernel
theorem dX4_isFirstNumber_48 : decode cX4_isFirstNumber 48 = .ok (.aload_n 1, 1) := by decide +kernel
theorem dX4_isFirstNumber_49 : decode cX4_isFirstNumber 49 = .ok (.aload_n 0, 1) := by decide +kernel
theorem dX4_isFirstNumber_50 : decode cX4_isFirstNumber 50 = .ok (.getfield 59, 3) := by decide +kernel
theorem dX4_isFirstNumber_53 : decode cX4_isFirstNumber 53 = .ok (.invokevirtual 84, 3) := by decide +kernel
theorem dX4_isFirstNumber_56 : decode cX4_isFirstNumber 56 = .ok (.ireturn, 1) := by decide +kernel
theorem dX4_isFirstNumber_57 : decode cX4_isFirstNumber 57 = .ok (.aload_n 0, 1) := by decide +kernel
theorem dX4_isFirstNumber_58 : decode cX4_isFirstNumber 58 = .ok (.getfield 59, 3) := by decide +kernel
theorem dX4_isFirstNumber_61 : decode cX4_isFirstNumber 61 = .ok (.iconst 1, 1) := by decide +kernel
theorem dX4_isFirstNumber_62 : decode cX4_isFirstNumber 62 = .ok (.bipush 99, 2) := by decide +kernel
theorem dX4_isFirstNumber_64 : decode cX4_isFirstNumber 64 = .ok (.invokestatic 87, 3) := by decide +kernel
theorem dX4_isFirstNumber_67 : decode cX4_isFirstNumber 67 = .ok (.ireturn, 1) := by decide +kernel
theorem dX4_isFirstNumber_68 : decode cX4_isFirstNumber 68 = .ok (.aload_n 0, 1) := by decide +kernel
theorem dX4_isFirstNumber_69 : decode cX4_isFirstNumber 69 = .ok (.getfield 59, 3) := by decide +kernel
theorem dX4_isFirstNumber_72 : decode cX4_isFirstNumber 72 = .ok (.invokestatic 91, 3) := by decide +kernel
theorem dX4_isFirstNumber_75 : decode cX4_isFirstNumber 75 = .ok (.ireturn, 1) := by decide +kernel
theorem dX4_isSecondNumber_0 : decode cX4_isSecondNumber 0 = .ok (.aload_n 0, 1) := by decide +kernel
theorem dX4_isSecondNumber_1 : decode cX4_isSecondNumber 1 = .ok (.getfield 49, 3) := by decide +kernel
theorem dX4_isSecondNumber_4 : decode cX4_isSecondNumber 4 = .ok (.bipush 7, 2) := by decide +kernel
theorem dX4_isSecondNumber_6 : decode cX4_isSecondNumber 6 = .ok (.if_icmp .ne 13, 3) := by decide +kernel
theorem dX4_isSecondNumber_9 : decode cX4_isSecondNumber 9 = .ok (.aload_n 0, 1) := by decide +kernel
theorem dX4_isSecondNumber_10 : decode cX4_isSecondNumber 10 = .ok (.getfield 59, 3) := by decide +kernel
theorem dX4_isSecondNumber_13 : decode cX4_isSecondNumber 13 = .ok (.invokestatic 94, 3) := by decide +kernel
theorem dX4_isSecondNumber_16 : decode cX4_isSecondNumber 16 = .ok (.goto 10, 3) := by decide +kernel
theorem dX4_isSecondNumber_19 : decode cX4_isSecondNumber 19 = .ok (.aload_n 0, 1) := by decide +kernel
theorem dX4_isSecondNumber_20 : decode cX4_isSecondNumber 20 = .ok (.getfield 59, 3) := by decide +kernel
theorem dX4_isSecondNumber_23 : decode cX4_isSecondNumber 23 = .ok (.invokestatic 80, 3) := by decide +kernel
theorem dX4_isSecondNumber_26 : decode cX4_isSecondNumber 26 = .ok (.ireturn, 1) := by decide +kernel
theorem dX4_carryOutItem_0 : decode cX4_carryOutItem 0 = .ok (.aload_n 0, 1) := by decide +kernel
theorem dX4_carryOutItem_1 : decode cX4_carryOutItem 1 = .ok (.getfield 49, 3) := by decide +kernel
theorem dX4_carryOutItem_4 : decode cX4_carryOutItem 4 = .ok (.tableswitch 100 4 7 #[32, 43, 62, 81], 32) := by decide +kernel
theorem dX4_carryOutItem_36 : decode cX4_carryOutItem 36 = .ok (.aload_n 1, 1) := by decide +kernel
theorem dX4_carryOutItem_37 : decode cX4_carryOutItem 37 = .ok (.aload_n 0, 1) := by decide +kernel
theorem dX4_carryOutItem_38 : decode cX4_carryOutItem 38 = .ok (.getfield 62, 3) := by decide +kernel
theorem dX4_carryOutItem_41 : decode cX4_carryOutItem 41 = .ok (.putfield 97, 3) := by decide +kernel
theorem dX4_carryOutItem_44 : decode cX4_carryOutItem 44 = .ok (.goto 76, 3) := by decide +kernel
theorem dX4_carryOutItem_47 : decode cX4_carryOutItem 47 = .ok (.aload_n 1, 1) := by decide +kernel
theorem dX4_carryOutItem_48 : decode cX4_carryOutItem 48 = .ok (.getfield 34, 3) := by decide +kernel
theorem dX4_carryOutItem_51 : decode cX4_carryOutItem 51 = .ok (.aload_n 0, 1) := by decide +kernel
theorem dX4_carryOutItem_52 : decode cX4_carryOutItem 52 = .ok (.getfield 62, 3) := by decide +kernel
theorem dX4_carryOutItem_55 : decode cX4_carryOutItem 55 = .ok (.aload_n 0, 1) := by decide +kernel
theorem dX4_carryOutItem_56 : decode cX4_carryOutItem 56 = .ok (.getfield 69, 3) := by decide +kernel
theorem dX4_carryOutItem_59 : decode cX4_carryOutItem 59 = .ok (.invokevirtual 100, 3) := by decide +kernel
theorem dX4_carryOutItem_62 : decode cX4_carryOutItem 62 = .ok (.pop, 1) := by decide +kernel
theorem dX4_carryOutItem_63 : decode cX4_carryOutItem 63 = .ok (.goto 57, 3) := by decide +kernel
theorem dX4_carryOutItem_66 : decode cX4_carryOutItem 66 = .ok (.aload_n 1, 1) := by decide +kernel
theorem dX4_carryOutItem_67 : decode cX4_carryOutItem 67 = .ok (.getfield 34, 3) := by decide +kernel
theorem dX4_carryOutItem_70 : decode cX4_carryOutItem 70 = .ok (.aload_n 0, 1) := by decide +kernel
theorem dX4_carryOutItem_71 : decode cX4_carryOutItem 71 = .ok (.getfield 62, 3) := by decide +kernel
theorem dX4_carryOutItem_74 : decode cX4_carryOutItem 74 = .ok (.aload_n 0, 1) := by decide +kernel
theorem dX4_carryOutItem_75 : decode cX4_carryOutItem 75 = .ok (.getfield 69, 3) := by decide +kernel
theorem dX4_carryOutItem_78 : decode cX4_carryOutItem 78 = .ok (.invokevirtual 104, 3) := by decide +kernel
theorem dX4_carryOutItem_81 : decode cX4_carryOutItem 81 = .ok (.pop, 1) := by decide +kernel
theorem dX4_carryOutItem_82 : decode cX4_carryOutItem 82 = .ok (.goto 38, 3) := by decide +kernel
theorem dX4_carryOutItem_85 : decode cX4_carryOutItem 85 = .ok (.aload_n 1, 1) := by decide +kernel
theorem dX4_carryOutItem_86 : decode cX4_carryOutItem 86 = .ok (.getfield 34, 3) := by decide +kernel
theorem dX4_carryOutItem_89 : decode cX4_carryOutItem 89 = .ok (.aload_n 0, 1) := by decide +kernel
theorem dX4_carryOutItem_90 : decode cX4_carryOutItem 90 = .ok (.getfield 62, 3) := by decide +kernel
theorem dX4_carryOutItem_93 : decode cX4_carryOutItem 93 = .ok (.aload_n 0, 1) := by decide +kernel
theorem dX4_carryOutItem_94 : decode cX4_carryOutItem 94 = .ok (.getfield 69, 3) := by decide +kernel
theorem dX4_carryOutItem_97 : decode cX4_carryOutItem 97 = .ok (.invokevirtual 107, 3) := by decide +kernel
theorem dX4_carryOutItem_100 : decode cX4_carryOutItem 100 = .ok (.pop, 1) := by decide +kernel
theorem dX4_carryOutItem_101 : decode cX4_carryOutItem 101 = .ok (.goto 19, 3) := by decide +kernel
theorem dX4_carryOutItem_104 : decode cX4_carryOutItem 104 = .ok (.aload_n 1, 1) := by decide +kernel
theorem dX4_carryOutItem_105 : decode cX4_carryOutItem 105 = .ok (.getfield 34, 3) := by decide +kernel
theorem dX4_carryOutItem_108 : decode cX4_carryOutItem 108 = .ok (.dup, 1) := by decide +kernel
theorem dX4_carryOutItem_109 : decode cX4_carryOutItem 109 = .ok (.getfield 110, 3) := by decide +kernel
theorem dX4_carryOutItem_112 : decode cX4_carryOutItem 112 = .ok (.aload_n 0, 1) := by decide +kernel
theorem dX4_carryOutItem_113 : decode cX4_carryOutItem 113 = .ok (.getfield 62, 3) := by decide +kernel
theorem dX4_carryOutItem_116 : decode cX4_carryOutItem 116 = .ok (.iadd, 1) := by decide +kernel
theorem dX4_carryOutItem_117 : decode cX4_carryOutItem 117 = .ok (.putfield 110, 3) := by decide +kernel
theorem dX4_carryOutItem_120 : decode cX4_carryOutItem 120 = .ok (.return_, 1) := by decide +kernel
theorem dX4_next_0 : decode cX4_next 0 = .ok (.aload_n 0, 1) := by decide +kernel
theorem dX4_next_1 : decode cX4_next 1 = .ok (.aload_n 0, 1) := by decide +kernel
theorem dX4_next_2 : decode cX4_next 2 = .ok (.getfield 25, 3) := by decide +kernel
theorem dX4_next_5 : decode cX4_next 5 = .ok (.putfield 42, 3) := by decide +kernel
theorem dX4_next_8 : decode cX4_next 8 = .ok (.aload_n 0, 1) := by decide +kernel
theorem dX4_next_9 : decode cX4_next 9 = .ok (.getfield 42, 3) := by decide +kernel
theorem dX4_next_12 : decode cX4_next 12 = .ok (.aload_n 0, 1) := by decide +kernel
theorem dX4_next_13 : decode cX4_next 13 = .ok (.getfield 15, 3) := by decide +kernel
theorem dX4_next_16 : decode cX4_next 16 = .ok (.if_icmp .ge 30, 3) := by decide +kernel
theorem dX4_next_19 : decode cX4_next 19 = .ok (.aload_n 0, 1) := by decide +kernel
theorem dX4_next_20 : decode cX4_next 20 = .ok (.getfield 9, 3) := by decide +kernel
theorem dX4_next_23 : decode cX4_next 23 = .ok (.aload_n 0, 1) := by decide +kernel
theorem dX4_next_24 : decode cX4_next 24 = .ok (.getfield 42, 3) := by decide +kernel
theorem dX4_next_27 : decode cX4_next 27 = .ok (.baload, 1) := by decide +kernel
theorem dX4_next_28 : decode cX4_next 28 = .ok (.bipush 32, 2) := by decide +kernel
theorem dX4_next_30 : decode cX4_next 30 = .ok (.if_icmp .ne 16, 3) := by decide +kernel
theorem dX4_next_33 : decode cX4_next 33 = .ok (.aload_n 0, 1) := by decide +kernel
theorem dX4_next_34 : decode cX4_next 34 = .ok (.dup, 1) := by decide +kernel
theorem dX4_next_35 : decode cX4_next 35 = .ok (.getfield 42, 3) := by decide +kernel
theorem dX4_next_38 : decode cX4_next 38 = .ok (.iconst 1, 1) := by decide +kernel
theorem dX4_next_39 : decode cX4_next 39 = .ok (.iadd, 1) := by decide +kernel
theorem dX4_next_40 : decode cX4_next 40 = .ok (.putfield 42, 3) := by decide +kernel
theorem dX4_next_43 : decode cX4_next 43 = .ok (.goto (-35), 3) := by decide +kernel
theorem dX4_next_46 : decode cX4_next 46 = .ok (.aload_n 0, 1) := by decide +kernel
theorem dX4_next_47 : decode cX4_next 47 = .ok (.aload_n 0, 1) := by decide +kernel
theorem dX4_next_48 : decode cX4_next 48 = .ok (.getfield 42, 3) := by decide +kernel
theorem dX4_next_51 : decode cX4_next 51 = .ok (.putfield 25, 3) := by decide +kernel
theorem dX4_next_54 : decode cX4_next 54 = .ok (.aload_n 0, 1) := by decide +kernel
theorem dX4_next_55 : decode cX4_next 55 = .ok (.getfield 42, 3) := by decide +kernel
theorem dX4_next_58 : decode cX4_next 58 = .ok (.aload_n 0, 1) := by decide +kernel
theorem dX4_next_59 : decode cX4_next 59 = .ok (.getfield 15, 3) := by decide +kernel
theorem dX4_next_62 : decode cX4_next 62 = .ok (.if_icmp .lt 11, 3) := by decide +kernel
theorem dX4_next_65 : decode cX4_next 65 = .ok (.aload_n 0, 1) := by decide +kernel
theorem dX4_next_66 : decode cX4_next 66 = .ok (.iconst 0, 1) := by decide +kernel
theorem dX4_next_67 : decode cX4_next 67 = .ok (.putfield 31, 3) := by decide +kernel
theorem dX4_next_70 : decode cX4_next 70 = .ok (.goto 80, 3) := by decide +kernel
theorem dX4_next_73 : decode cX4_next 73 = .ok (.aload_n 0, 1) := by decide +kernel
theorem dX4_next_74 : decode cX4_next 74 = .ok (.getfield 9, 3) := by decide +kernel
theorem dX4_next_77 : decode cX4_next 77 = .ok (.aload_n 0, 1) := by decide +kernel
theorem dX4_next_78 : decode cX4_next 78 = .ok (.getfield 42, 3) := by decide +kernel
theorem dX4_next_81 : decode cX4_next 81 = .ok (.baload, 1) := by decide +kernel
theorem dX4_next_82 : decode cX4_next 82 = .ok (.invokestatic 113, 3) := by decide +kernel
theorem dX4_next_85 : decode cX4_next 85 = .ok (.ifCond .eq 10, 3) := by decide +kernel
theorem dX4_next_88 : decode cX4_next 88 = .ok (.aload_n 0, 1) := by decide +kernel
theorem dX4_next_89 : decode cX4_next 89 = .ok (.invokevirtual 116, 3) := by decide +kernel
theorem dX4_next_92 : decode cX4_next 92 = .ok (.goto 58, 3) := by decide +kernel
theorem dX4_next_95 : decode cX4_next 95 = .ok (.aload_n 0, 1) := by decide +kernel
theorem dX4_next_96 : decode cX4_next 96 = .ok (.getfield 9, 3) := by decide +kernel
theorem dX4_next_99 : decode cX4_next 99 = .ok (.aload_n 0, 1) := by decide +kernel
theorem dX4_next_100 : decode cX4_next 100 = .ok (.getfield 42, 3) := by decide +kernel
theorem dX4_next_103 : decode cX4_next 103 = .ok (.baload, 1) := by decide +kernel
theorem dX4_next_104 : decode cX4_next 104 = .ok (.invokestatic 119, 3) := by decide +kernel
theorem dX4_next_107 : decode cX4_next 107 = .ok (.ifCond .eq 10, 3) := by decide +kernel
theorem dX4_next_110 : decode cX4_next 110 = .ok (.aload_n 0, 1) := by decide +kernel
theorem dX4_next_111 : decode cX4_next 111 = .ok (.invokevirtual 122, 3) := by decide +kernel
theorem dX4_next_114 : decode cX4_next 114 = .ok (.goto 36, 3) := by decide +kernel
theorem dX4_next_117 : decode cX4_next 117 = .ok (.aload_n 0, 1) := by decide +kernel
theorem dX4_next_118 : decode cX4_next 118 = .ok (.aload_n 0, 1) := by decide +kernel
theorem dX4_next_119 : decode cX4_next 119 = .ok (.getfield 9, 3) := by decide +kernel
theorem dX4_next_122 : decode cX4_next 122 = .ok (.aload_n 0, 1) := by decide +kernel
theorem dX4_next_123 : decode cX4_next 123 = .ok (.getfield 42, 3) := by decide +kernel
theorem dX4_next_126 : decode cX4_next 126 = .ok (.baload, 1) := by decide +kernel
theorem dX4_next_127 : decode cX4_next 127 = .ok (.bipush 59, 2) := by decide +kernel
theorem dX4_next_129 : decode cX4_next 129 = .ok (.if_icmp .ne 7, 3) := by decide +kernel
theorem dX4_next_132 : decode cX4_next 132 = .ok (.iconst 2, 1) := by decide +kernel
theorem dX4_next_133 : decode cX4_next 133 = .ok (.goto 4, 3) := by decide +kernel
theorem dX4_next_136 : decode cX4_next 136 = .ok (.iconst 3, 1) := by decide +kernel
theorem dX4_next_137 : decode cX4_next 137 = .ok (.putfield 31, 3) := by decide +kernel
theorem dX4_next_140 : decode cX4_next 140 = .ok (.aload_n 0, 1) := by decide +kernel
theorem dX4_next_141 : decode cX4_next 141 = .ok (.aload_n 0, 1) := by decide +kernel
theorem dX4_next_142 : decode cX4_next 142 = .ok (.getfield 42, 3) := by decide +kernel
theorem dX4_next_145 : decode cX4_next 145 = .ok (.iconst 1, 1) := by decide +kernel
theorem dX4_next_146 : decode cX4_next 146 = .ok (.iadd, 1) := by decide +kernel
theorem dX4_next_147 : decode cX4_next 147 = .ok (.putfield 25, 3) := by decide +kernel
theorem dX4_next_150 : decode cX4_next 150 = .ok (.return_, 1) := by decide +kernel
theorem dX4_takeWord_0 : decode cX4_takeWord 0 = .ok (.aload_n 0, 1) := by decide +kernel
theorem dX4_takeWord_1 : decode cX4_takeWord 1 = .ok (.getfield 25, 3) := by decide +kernel
theorem dX4_takeWord_4 : decode cX4_takeWord 4 = .ok (.aload_n 0, 1) := by decide +kernel
theorem dX4_takeWord_5 : decode cX4_takeWord 5 = .ok (.getfield 15, 3) := by decide +kernel
theorem dX4_takeWord_8 : decode cX4_takeWord 8 = .ok (.if_icmp .ge 31, 3) := by decide +kernel
theorem dX4_takeWord_11 : decode cX4_takeWord 11 = .ok (.aload_n 0, 1) := by decide +kernel
theorem dX4_takeWord_12 : decode cX4_takeWord 12 = .ok (.getfield 9, 3) := by decide +kernel
theorem dX4_takeWord_15 : decode cX4_takeWord 15 = .ok (.aload_n 0, 1) := by decide +kernel
theorem dX4_takeWord_16 : decode cX4_takeWord 16 = .ok (.getfield 25, 3) := by decide +kernel
theorem dX4_takeWord_19 : decode cX4_takeWord 19 = .ok (.baload, 1) := by decide +kernel
theorem dX4_takeWord_20 : decode cX4_takeWord 20 = .ok (.invokestatic 113, 3) := by decide +kernel
theorem dX4_takeWord_23 : decode cX4_takeWord 23 = .ok (.ifCond .eq 16, 3) := by decide +kernel
theorem dX4_takeWord_26 : decode cX4_takeWord 26 = .ok (.aload_n 0, 1) := by decide +kernel
theorem dX4_takeWord_27 : decode cX4_takeWord 27 = .ok (.dup, 1) := by decide +kernel
theorem dX4_takeWord_28 : decode cX4_takeWord 28 = .ok (.getfield 25, 3) := by decide +kernel
theorem dX4_takeWord_31 : decode cX4_takeWord 31 = .ok (.iconst 1, 1) := by decide +kernel
theorem dX4_takeWord_32 : decode cX4_takeWord 32 = .ok (.iadd, 1) := by decide +kernel
theorem dX4_takeWord_33 : decode cX4_takeWord 33 = .ok (.putfield 25, 3) := by decide +kernel
theorem dX4_takeWord_36 : decode cX4_takeWord 36 = .ok (.goto (-36), 3) := by decide +kernel
theorem dX4_takeWord_39 : decode cX4_takeWord 39 = .ok (.aload_n 0, 1) := by decide +kernel
theorem dX4_takeWord_40 : decode cX4_takeWord 40 = .ok (.iconst 3, 1) := by decide +kernel
theorem dX4_takeWord_41 : decode cX4_takeWord 41 = .ok (.putfield 31, 3) := by decide +kernel
theorem dX4_takeWord_44 : decode cX4_takeWord 44 = .ok (.iconst 4, 1) := by decide +kernel
theorem dX4_takeWord_45 : decode cX4_takeWord 45 = .ok (.istore_n 1, 1) := by decide +kernel
theorem dX4_takeWord_46 : decode cX4_takeWord 46 = .ok (.iload_n 1, 1) := by decide +kernel
theorem dX4_takeWord_47 : decode cX4_takeWord 47 = .ok (.bipush 8, 2) := by decide +kernel
theorem dX4_takeWord_49 : decode cX4_takeWord 49 = .ok (.if_icmp .gt 25, 3) := by decide +kernel
theorem dX4_takeWord_52 : decode cX4_takeWord 52 = .ok (.aload_n 0, 1) := by decide +kernel
theorem dX4_takeWord_53 : decode cX4_takeWord 53 = .ok (.iload_n 1, 1) := by decide +kernel
theorem dX4_takeWord_54 : decode cX4_takeWord 54 = .ok (.invokestatic 125, 3) := by decide +kernel
theorem dX4_takeWord_57 : decode cX4_takeWord 57 = .ok (.invokevirtual 129, 3) := by decide +kernel
theorem dX4_takeWord_60 : decode cX4_takeWord 60 = .ok (.ifCond .eq 8, 3) := by decide +kernel
theorem dX4_takeWord_63 : decode cX4_takeWord 63 = .ok (.aload_n 0, 1) := by decide +kernel
theorem dX4_takeWord_64 : decode cX4_takeWord 64 = .ok (.iload_n 1, 1) := by decide +kernel
theorem dX4_takeWord_65 : decode cX4_takeWord 65 = .ok (.putfield 31, 3) := by decide +kernel
theorem dX4_takeWord_68 : decode cX4_takeWord 68 = .ok (.iinc 1 1, 3) := by decide +kernel
theorem dX4_takeWord_71 : decode cX4_takeWord 71 = .ok (.goto (-25), 3) := by decide +kernel
theorem dX4_takeWord_74 : decode cX4_takeWord 74 = .ok (.return_, 1) := by decide +kernel
theorem dX4_takeNumber_0 : decode cX4_takeNumber 0 = .ok (.aload_n 0, 1) := by decide +kernel
theorem dX4_takeNumber_1 : decode cX4_takeNumber 1 = .ok (.iconst 0, 1) := by decide +kernel
theorem dX4_takeNumber_2 : decode cX4_takeNumber 2 = .ok (.putfield 59, 3) := by decide +kernel
theorem dX4_takeNumber_5 : decode cX4_takeNumber 5 = .ok (.aload_n 0, 1) := by decide +kernel
theorem dX4_takeNumber_6 : decode cX4_takeNumber 6 = .ok (.getfield 25, 3) := by decide +kernel
theorem dX4_takeNumber_9 : decode cX4_takeNumber 9 = .ok (.aload_n 0, 1) := by decide +kernel
theorem dX4_takeNumber_10 : decode cX4_takeNumber 10 = .ok (.getfield 15, 3) := by decide +kernel
theorem dX4_takeNumber_13 : decode cX4_takeNumber 13 = .ok (.if_icmp .ge 68, 3) := by decide +kernel
theorem dX4_takeNumber_16 : decode cX4_takeNumber 16 = .ok (.aload_n 0, 1) := by decide +kernel
theorem dX4_takeNumber_17 : decode cX4_takeNumber 17 = .ok (.getfield 9, 3) := by decide +kernel
theorem dX4_takeNumber_20 : decode cX4_takeNumber 20 = .ok (.aload_n 0, 1) := by decide +kernel
theorem dX4_takeNumber_21 : decode cX4_takeNumber 21 = .ok (.getfield 25, 3) := by decide +kernel
theorem dX4_takeNumber_24 : decode cX4_takeNumber 24 = .ok (.baload, 1) := by decide +kernel
theorem dX4_takeNumber_25 : decode cX4_takeNumber 25 = .ok (.invokestatic 119, 3) := by decide +kernel
theorem dX4_takeNumber_28 : decode cX4_takeNumber 28 = .ok (.ifCond .eq 53, 3) := by decide +kernel
theorem dX4_takeNumber_31 : decode cX4_takeNumber 31 = .ok (.aload_n 0, 1) := by decide +kernel
theorem dX4_takeNumber_32 : decode cX4_takeNumber 32 = .ok (.getfield 25, 3) := by decide +kernel
theorem dX4_takeNumber_35 : decode cX4_takeNumber 35 = .ok (.aload_n 0, 1) := by decide +kernel
theorem dX4_takeNumber_36 : decode cX4_takeNumber 36 = .ok (.getfield 42, 3) := by decide +kernel
theorem dX4_takeNumber_39 : decode cX4_takeNumber 39 = .ok (.isub, 1) := by decide +kernel
theorem dX4_takeNumber_40 : decode cX4_takeNumber 40 = .ok (.iconst 2, 1) := by decide +kernel
theorem dX4_takeNumber_41 : decode cX4_takeNumber 41 = .ok (.if_icmp .ge 27, 3) := by decide +kernel
theorem dX4_takeNumber_44 : decode cX4_takeNumber 44 = .ok (.aload_n 0, 1) := by decide +kernel
theorem dX4_takeNumber_45 : decode cX4_takeNumber 45 = .ok (.bipush 10, 2) := by decide +kernel
theorem dX4_takeNumber_47 : decode cX4_takeNumber 47 = .ok (.aload_n 0, 1) := by decide +kernel
theorem dX4_takeNumber_48 : decode cX4_takeNumber 48 = .ok (.getfield 59, 3) := by decide +kernel
theorem dX4_takeNumber_51 : decode cX4_takeNumber 51 = .ok (.imul, 1) := by decide +kernel
theorem dX4_takeNumber_52 : decode cX4_takeNumber 52 = .ok (.aload_n 0, 1) := by decide +kernel
theorem dX4_takeNumber_53 : decode cX4_takeNumber 53 = .ok (.getfield 9, 3) := by decide +kernel
theorem dX4_takeNumber_56 : decode cX4_takeNumber 56 = .ok (.aload_n 0, 1) := by decide +kernel
theorem dX4_takeNumber_57 : decode cX4_takeNumber 57 = .ok (.getfield 25, 3) := by decide +kernel
theorem dX4_takeNumber_60 : decode cX4_takeNumber 60 = .ok (.baload, 1) := by decide +kernel
theorem dX4_takeNumber_61 : decode cX4_takeNumber 61 = .ok (.iadd, 1) := by decide +kernel
theorem dX4_takeNumber_62 : decode cX4_takeNumber 62 = .ok (.bipush 48, 2) := by decide +kernel
theorem dX4_takeNumber_64 : decode cX4_takeNumber 64 = .ok (.isub, 1) := by decide +kernel
theorem dX4_takeNumber_65 : decode cX4_takeNumber 65 = .ok (.putfield 59, 3) := by decide +kernel
theorem dX4_takeNumber_68 : decode cX4_takeNumber 68 = .ok (.aload_n 0, 1) := by decide +kernel
theorem dX4_takeNumber_69 : decode cX4_takeNumber 69 = .ok (.dup, 1) := by decide +kernel
theorem dX4_takeNumber_70 : decode cX4_takeNumber 70 = .ok (.getfield 25, 3) := by decide +kernel
theorem dX4_takeNumber_73 : decode cX4_takeNumber 73 = .ok (.iconst 1, 1) := by decide +kernel
theorem dX4_takeNumber_74 : decode cX4_takeNumber 74 = .ok (.iadd, 1) := by decide +kernel
theorem dX4_takeNumber_75 : decode cX4_takeNumber 75 = .ok (.putfield 25, 3) := by decide +kernel
theorem dX4_takeNumber_78 : decode cX4_takeNumber 78 = .ok (.goto (-73), 3) := by decide +kernel
theorem dX4_takeNumber_81 : decode cX4_takeNumber 81 = .ok (.aload_n 0, 1) := by decide +kernel
theorem dX4_takeNumber_82 : decode cX4_takeNumber 82 = .ok (.aload_n 0, 1) := by decide +kernel
theorem dX4_takeNumber_83 : decode cX4_takeNumber 83 = .ok (.getfield 25, 3) := by decide +kernel
theorem dX4_takeNumber_86 : decode cX4_takeNumber 86 = .ok (.aload_n 0, 1) := by decide +kernel
theorem dX4_takeNumber_87 : decode cX4_takeNumber 87 = .ok (.getfield 42, 3) := by decide +kernel
theorem dX4_takeNumber_90 : decode cX4_takeNumber 90 = .ok (.isub, 1) := by decide +kernel
theorem dX4_takeNumber_91 : decode cX4_takeNumber 91 = .ok (.iconst 2, 1) := by decide +kernel
theorem dX4_takeNumber_92 : decode cX4_takeNumber 92 = .ok (.if_icmp .gt 7, 3) := by decide +kernel
theorem dX4_takeNumber_95 : decode cX4_takeNumber 95 = .ok (.iconst 1, 1) := by decide +kernel
theorem dX4_takeNumber_96 : decode cX4_takeNumber 96 = .ok (.goto 4, 3) := by decide +kernel
theorem dX4_takeNumber_99 : decode cX4_takeNumber 99 = .ok (.iconst 3, 1) := by decide +kernel
theorem dX4_takeNumber_100 : decode cX4_takeNumber 100 = .ok (.putfield 31, 3) := by decide +kernel
theorem dX4_takeNumber_103 : decode cX4_takeNumber 103 = .ok (.return_, 1) := by decide +kernel
theorem dX4_isLetter_0 : decode cX4_isLetter 0 = .ok (.iload_n 0, 1) := by decide +kernel
theorem dX4_isLetter_1 : decode cX4_isLetter 1 = .ok (.bipush 97, 2) := by decide +kernel
theorem dX4_isLetter_3 : decode cX4_isLetter 3 = .ok (.bipush 122, 2) := by decide +kernel
theorem dX4_isLetter_5 : decode cX4_isLetter 5 = .ok (.invokestatic 87, 3) := by decide +kernel
theorem dX4_isLetter_8 : decode cX4_isLetter 8 = .ok (.ireturn, 1) := by decide +kernel
theorem dX4_isFigure_0 : decode cX4_isFigure 0 = .ok (.iload_n 0, 1) := by decide +kernel
theorem dX4_isFigure_1 : decode cX4_isFigure 1 = .ok (.bipush 48, 2) := by decide +kernel
theorem dX4_isFigure_3 : decode cX4_isFigure 3 = .ok (.bipush 57, 2) := by decide +kernel
theorem dX4_isFigure_5 : decode cX4_isFigure 5 = .ok (.invokestatic 87, 3) := by decide +kernel
theorem dX4_isFigure_8 : decode cX4_isFigure 8 = .ok (.ireturn, 1) := by decide +kernel
theorem dX4_spells_0 : decode cX4_spells 0 = .ok (.aload_n 0, 1) := by decide +kernel
theorem dX4_spells_1 : decode cX4_spells 1 = .ok (.getfield 25, 3) := by decide +kernel
theorem dX4_spells_4 : decode cX4_spells 4 = .ok (.aload_n 0, 1) := by decide +kernel
theorem dX4_spells_5 : decode cX4_spells 5 = .ok (.getfield 42, 3) := by decide +kernel
theorem dX4_spells_8 : decode cX4_spells 8 = .ok (.isub, 1) := by decide +kernel
theorem dX4_spells_9 : decode cX4_spells 9 = .ok (.aload_n 1, 1) := by decide +kernel
theorem dX4_spells_10 : decode cX4_spells 10 = .ok (.invokevirtual 133, 3) := by decide +kernel
theorem dX4_spells_13 : decode cX4_spells 13 = .ok (.if_icmp .eq 5, 3) := by decide +kernel
theorem dX4_spells_16 : decode cX4_spells 16 = .ok (.iconst 0, 1) := by decide +kernel
theorem dX4_spells_17 : decode cX4_spells 17 = .ok (.ireturn, 1) := by decide +kernel
theorem dX4_spells_18 : decode cX4_spells 18 = .ok (.iconst 0, 1) := by decide +kernel
theorem dX4_spells_19 : decode cX4_spells 19 = .ok (.istore_n 2, 1) := by decide +kernel
theorem dX4_spells_20 : decode cX4_spells 20 = .ok (.iload_n 2, 1) := by decide +kernel
theorem dX4_spells_21 : decode cX4_spells 21 = .ok (.aload_n 1, 1) := by decide +kernel
theorem dX4_spells_22 : decode cX4_spells 22 = .ok (.invokevirtual 133, 3) := by decide +kernel
theorem dX4_spells_25 : decode cX4_spells 25 = .ok (.if_icmp .ge 30, 3) := by decide +kernel
theorem dX4_spells_28 : decode cX4_spells 28 = .ok (.aload_n 0, 1) := by decide +kernel
theorem dX4_spells_29 : decode cX4_spells 29 = .ok (.getfield 9, 3) := by decide +kernel
theorem dX4_spells_32 : decode cX4_spells 32 = .ok (.aload_n 0, 1) := by decide +kernel
theorem dX4_spells_33 : decode cX4_spells 33 = .ok (.getfield 42, 3) := by decide +kernel
theorem dX4_spells_36 : decode cX4_spells 36 = .ok (.iload_n 2, 1) := by decide +kernel
theorem dX4_spells_37 : decode cX4_spells 37 = .ok (.iadd, 1) := by decide +kernel
theorem dX4_spells_38 : decode cX4_spells 38 = .ok (.baload, 1) := by decide +kernel
theorem dX4_spells_39 : decode cX4_spells 39 = .ok (.aload_n 1, 1) := by decide +kernel
theorem dX4_spells_40 : decode cX4_spells 40 = .ok (.iload_n 2, 1) := by decide +kernel
theorem dX4_spells_41 : decode cX4_spells 41 = .ok (.invokevirtual 139, 3) := by decide +kernel
theorem dX4_spells_44 : decode cX4_spells 44 = .ok (.if_icmp .eq 5, 3) := by decide +kernel
theorem dX4_spells_47 : decode cX4_spells 47 = .ok (.iconst 0, 1) := by decide +kernel
theorem dX4_spells_48 : decode cX4_spells 48 = .ok (.ireturn, 1) := by decide +kernel
theorem dX4_spells_49 : decode cX4_spells 49 = .ok (.iinc 2 1, 3) := by decide +kernel
theorem dX4_spells_52 : decode cX4_spells 52 = .ok (.goto (-32), 3) := by decide +kernel
theorem dX4_spells_55 : decode cX4_spells 55 = .ok (.iconst 1, 1) := by decide +kernel
theorem dX4_spells_56 : decode cX4_spells 56 = .ok (.ireturn, 1) := by decide +kernel
theorem dX4_nameOf_0 : decode cX4_nameOf 0 = .ok (.iload_n 0, 1) := by decide +kernel
theorem dX4_nameOf_1 : decode cX4_nameOf 1 = .ok (.tableswitch 43 4 7 #[31, 34, 37, 40], 31) := by decide +kernel
theorem dX4_nameOf_32 : decode cX4_nameOf 32 = .ok (.ldc 143, 2) := by decide +kernel
theorem dX4_nameOf_34 : decode cX4_nameOf 34 = .ok (.areturn, 1) := by decide +kernel
theorem dX4_nameOf_35 : decode cX4_nameOf 35 = .ok (.ldc 145, 2) := by decide +kernel
theorem dX4_nameOf_37 : decode cX4_nameOf 37 = .ok (.areturn, 1) := by decide +kernel
theorem dX4_nameOf_38 : decode cX4_nameOf 38 = .ok (.ldc 147, 2) := by decide +kernel
theorem dX4_nameOf_40 : decode cX4_nameOf 40 = .ok (.areturn, 1) := by decide +kernel
theorem dX4_nameOf_41 : decode cX4_nameOf 41 = .ok (.ldc 149, 2) := by decide +kernel
theorem dX4_nameOf_43 : decode cX4_nameOf 43 = .ok (.areturn, 1) := by decide +kernel
theorem dX4_nameOf_44 : decode cX4_nameOf 44 = .ok (.ldc 150, 2) := by decide +kernel
theorem dX4_nameOf_46 : decode cX4_nameOf 46 = .ok (.areturn, 1) := by decide +kernel
theorem dX5_init_0 : decode cX5_init 0 = .ok (.aload_n 0, 1) := by decide +kernel
theorem dX5_init_1 : decode cX5_init 1 = .ok (.invokespecial 3, 3) := by decide +kernel
theorem dX5_init_4 : decode cX5_init 4 = .ok (.aload_n 0, 1) := by decide +kernel
theorem dX5_init_5 : decode cX5_init 5 = .ok (.new 9, 3) := by decide +kernel
theorem dX5_init_8 : decode cX5_init 8 = .ok (.dup, 1) := by decide +kernel
theorem dX5_init_9 : decode cX5_init 9 = .ok (.invokespecial 11, 3) := by decide +kernel
theorem dX5_init_12 : decode cX5_init 12 = .ok (.putfield 12, 3) := by decide +kernel
theorem dX5_init_15 : decode cX5_init 15 = .ok (.aload_n 0, 1) := by decide +kernel
theorem dX5_init_16 : decode cX5_init 16 = .ok (.new 18, 3) := by decide +kernel
theorem dX5_init_19 : decode cX5_init 19 = .ok (.dup, 1) := by decide +kernel
theorem dX5_init_20 : decode cX5_init 20 = .ok (.iconst 5, 1) := by decide +kernel
theorem dX5_init_21 : decode cX5_init 21 = .ok (.iconst 2, 1) := by decide +kernel
theorem dX5_init_22 : decode cX5_init 22 = .ok (.invokespecial 20, 3) := by decide +kernel
theorem dX5_init_25 : decode cX5_init 25 = .ok (.putfield 23, 3) := by decide +kernel
theorem dX5_init_28 : decode cX5_init 28 = .ok (.aload_n 0, 1) := by decide +kernel
theorem dX5_init_29 : decode cX5_init 29 = .ok (.new 18, 3) := by decide +kernel
theorem dX5_init_32 : decode cX5_init 32 = .ok (.dup, 1) := by decide +kernel
theorem dX5_init_33 : decode cX5_init 33 = .ok (.bipush 6, 2) := by decide +kernel
theorem dX5_init_35 : decode cX5_init 35 = .ok (.iconst 3, 1) := by decide +kernel
theorem dX5_init_36 : decode cX5_init 36 = .ok (.invokespecial 20, 3) := by decide +kernel
theorem dX5_init_39 : decode cX5_init 39 = .ok (.putfield 27, 3) := by decide +kernel
theorem dX5_init_42 : decode cX5_init 42 = .ok (.aload_n 0, 1) := by decide +kernel
theorem dX5_init_43 : decode cX5_init 43 = .ok (.new 18, 3) := by decide +kernel
theorem dX5_init_46 : decode cX5_init 46 = .ok (.dup, 1) := by decide +kernel
theorem dX5_init_47 : decode cX5_init 47 = .ok (.bipush 6, 2) := by decide +kernel
theorem dX5_init_49 : decode cX5_init 49 = .ok (.iconst 3, 1) := by decide +kernel
theorem dX5_init_50 : decode cX5_init 50 = .ok (.invokespecial 20, 3) := by decide +kernel
theorem dX5_init_53 : decode cX5_init 53 = .ok (.putfield 30, 3) := by decide +kernel
theorem dX5_init_56 : decode cX5_init 56 = .ok (.aload_n 0, 1) := by decide +kernel
theorem dX5_init_57 : decode cX5_init 57 = .ok (.new 33, 3) := by decide +kernel
theorem dX5_init_60 : decode cX5_init 60 = .ok (.dup, 1) := by decide +kernel
theorem dX5_init_61 : decode cX5_init 61 = .ok (.invokespecial 35, 3) := by decide +kernel
theorem dX5_init_64 : decode cX5_init 64 = .ok (.putfield 36, 3) := by decide +kernel
theorem dX5_init_67 : decode cX5_init 67 = .ok (.return_, 1) := by decide +kernel
theorem dX5_begin_0 : decode cX5_begin 0 = .ok (.aload_n 0, 1) := by decide +kernel
theorem dX5_begin_1 : decode cX5_begin 1 = .ok (.getfield 12, 3) := by decide +kernel
theorem dX5_begin_4 : decode cX5_begin 4 = .ok (.invokevirtual 40, 3) := by decide +kernel
theorem dX5_begin_7 : decode cX5_begin 7 = .ok (.aload_n 0, 1) := by decide +kernel
theorem dX5_begin_8 : decode cX5_begin 8 = .ok (.getfield 23, 3) := by decide +kernel
theorem dX5_begin_11 : decode cX5_begin 11 = .ok (.iconst 0, 1) := by decide +kernel
theorem dX5_begin_12 : decode cX5_begin 12 = .ok (.putfield 43, 3) := by decide +kernel
theorem dX5_begin_15 : decode cX5_begin 15 = .ok (.aload_n 0, 1) := by decide +kernel
theorem dX5_begin_16 : decode cX5_begin 16 = .ok (.getfield 27, 3) := by decide +kernel
theorem dX5_begin_19 : decode cX5_begin 19 = .ok (.iconst 0, 1) := by decide +kernel
theorem dX5_begin_20 : decode cX5_begin 20 = .ok (.putfield 43, 3) := by decide +kernel
theorem dX5_begin_23 : decode cX5_begin 23 = .ok (.aload_n 0, 1) := by decide +kernel
theorem dX5_begin_24 : decode cX5_begin 24 = .ok (.getfield 30, 3) := by decide +kernel
theorem dX5_begin_27 : decode cX5_begin 27 = .ok (.iconst 0, 1) := by decide +kernel
theorem dX5_begin_28 : decode cX5_begin 28 = .ok (.putfield 43, 3) := by decide +kernel
theorem dX5_begin_31 : decode cX5_begin 31 = .ok (.aload_n 0, 1) := by decide +kernel
theorem dX5_begin_32 : decode cX5_begin 32 = .ok (.getfield 36, 3) := by decide +kernel
theorem dX5_begin_35 : decode cX5_begin 35 = .ok (.iconst 0, 1) := by decide +kernel
theorem dX5_begin_36 : decode cX5_begin 36 = .ok (.putfield 47, 3) := by decide +kernel
theorem dX5_begin_39 : decode cX5_begin 39 = .ok (.aload_n 0, 1) := by decide +kernel
theorem dX5_begin_40 : decode cX5_begin 40 = .ok (.iload_n 1, 1) := by decide +kernel
theorem dX5_begin_41 : decode cX5_begin 41 = .ok (.putfield 48, 3) := by decide +kernel
theorem dX5_begin_44 : decode cX5_begin 44 = .ok (.return_, 1) := by decide +kernel
theorem dX5_copy_0 : decode cX5_copy 0 = .ok (.aload_n 0, 1) := by decide +kernel
theorem dX5_copy_1 : decode cX5_copy 1 = .ok (.getfield 12, 3) := by decide +kernel
theorem dX5_copy_4 : decode cX5_copy 4 = .ok (.aload_n 1, 1) := by decide +kernel
theorem dX5_copy_5 : decode cX5_copy 5 = .ok (.getfield 12, 3) := by decide +kernel
theorem dX5_copy_8 : decode cX5_copy 8 = .ok (.invokevirtual 51, 3) := by decide +kernel
theorem dX5_copy_11 : decode cX5_copy 11 = .ok (.aload_n 0, 1) := by decide +kernel
theorem dX5_copy_12 : decode cX5_copy 12 = .ok (.getfield 23, 3) := by decide +kernel
theorem dX5_copy_15 : decode cX5_copy 15 = .ok (.aload_n 1, 1) := by decide +kernel
theorem dX5_copy_16 : decode cX5_copy 16 = .ok (.getfield 23, 3) := by decide +kernel
theorem dX5_copy_19 : decode cX5_copy 19 = .ok (.invokevirtual 55, 3) := by decide +kernel
theorem dX5_copy_22 : decode cX5_copy 22 = .ok (.aload_n 0, 1) := by decide +kernel
theorem dX5_copy_23 : decode cX5_copy 23 = .ok (.getfield 27, 3) := by decide +kernel
theorem dX5_copy_26 : decode cX5_copy 26 = .ok (.aload_n 1, 1) := by decide +kernel
theorem dX5_copy_27 : decode cX5_copy 27 = .ok (.getfield 27, 3) := by decide +kernel
theorem dX5_copy_30 : decode cX5_copy 30 = .ok (.invokevirtual 55, 3) := by decide +kernel
theorem dX5_copy_33 : decode cX5_copy 33 = .ok (.aload_n 0, 1) := by decide +kernel
theorem dX5_copy_34 : decode cX5_copy 34 = .ok (.getfield 30, 3) := by decide +kernel
theorem dX5_copy_37 : decode cX5_copy 37 = .ok (.aload_n 1, 1) := by decide +kernel
theorem dX5_copy_38 : decode cX5_copy 38 = .ok (.getfield 30, 3) := by decide +kernel
theorem dX5_copy_41 : decode cX5_copy 41 = .ok (.invokevirtual 55, 3) := by decide +kernel
theorem dX5_copy_44 : decode cX5_copy 44 = .ok (.aload_n 0, 1) := by decide +kernel
theorem dX5_copy_45 : decode cX5_copy 45 = .ok (.getfield 36, 3) := by decide +kernel
theorem dX5_copy_48 : decode cX5_copy 48 = .ok (.aload_n 1, 1) := by decide +kernel
theorem dX5_copy_49 : decode cX5_copy 49 = .ok (.getfield 36, 3) := by decide +kernel
theorem dX5_copy_52 : decode cX5_copy 52 = .ok (.invokevirtual 58, 3) := by decide +kernel
theorem dX5_copy_55 : decode cX5_copy 55 = .ok (.aload_n 0, 1) := by decide +kernel
theorem dX5_copy_56 : decode cX5_copy 56 = .ok (.aload_n 1, 1) := by decide +kernel
theorem dX5_copy_57 : decode cX5_copy 57 = .ok (.getfield 48, 3) := by decide +kernel
theorem dX5_copy_60 : decode cX5_copy 60 = .ok (.putfield 48, 3) := by decide +kernel
theorem dX5_copy_63 : decode cX5_copy 63 = .ok (.return_, 1) := by decide +kernel
theorem dJ6_bitCount_0f7a4_0 : decode cJ6_bitCount_0f7a4 0 = .ok (.iload_n 0, 1) := by decide +kernel
theorem dJ6_bitCount_0f7a4_1 : decode cJ6_bitCount_0f7a4 1 = .ok (.iload_n 0, 1) := by decide +kernel
theorem dJ6_bitCount_0f7a4_2 : decode cJ6_bitCount_0f7a4 2 = .ok (.iconst 1, 1) := by decide +kernel
theorem dJ6_bitCount_0f7a4_3 : decode cJ6_bitCount_0f7a4 3 = .ok (.iushr, 1) := by decide +kernel
theorem dJ6_bitCount_0f7a4_4 : decode cJ6_bitCount_0f7a4 4 = .ok (.ldc_w 265, 3) := by decide +kernel
theorem dJ6_bitCount_0f7a4_7 : decode cJ6_bitCount_0f7a4 7 = .ok (.iand, 1) := by decide +kernel
theorem dJ6_bitCount_0f7a4_8 : decode cJ6_bitCount_0f7a4 8 = .ok (.isub, 1) := by decide +kernel
theorem dJ6_bitCount_0f7a4_9 : decode cJ6_bitCount_0f7a4 9 = .ok (.istore_n 0, 1) := by decide +kernel
theorem dJ6_bitCount_0f7a4_10 : decode cJ6_bitCount_0f7a4 10 = .ok (.iload_n 0, 1) := by decide +kernel
theorem dJ6_bitCount_0f7a4_11 : decode cJ6_bitCount_0f7a4 11 = .ok (.ldc_w 266, 3) := by decide +kernel
theorem dJ6_bitCount_0f7a4_14 : decode cJ6_bitCount_0f7a4 14 = .ok (.iand, 1) := by decide +kernel
theorem dJ6_bitCount_0f7a4_15 : decode cJ6_bitCount_0f7a4 15 = .ok (.iload_n 0, 1) := by decide +kernel
theorem dJ6_bitCount_0f7a4_16 : decode cJ6_bitCount_0f7a4 16 = .ok (.iconst 2, 1) := by decide +kernel
theorem dJ6_bitCount_0f7a4_17 : decode cJ6_bitCount_0f7a4 17 = .ok (.iushr, 1) := by decide +kernel
theorem dJ6_bitCount_0f7a4_18 : decode cJ6_bitCount_0f7a4 18 = .ok (.ldc_w 266, 3) := by decide +kernel
theorem dJ6_bitCount_0f7a4_21 : decode cJ6_bitCount_0f7a4 21 = .ok (.iand, 1) := by decide +kernel
theorem dJ6_bitCount_0f7a4_22 : decode cJ6_bitCount_0f7a4 22 = .ok (.iadd, 1) := by decide +kernel
theorem dJ6_bitCount_0f7a4_23 : decode cJ6_bitCount_0f7a4 23 = .ok (.istore_n 0, 1) := by decide +kernel
theorem dJ6_bitCount_0f7a4_24 : decode cJ6_bitCount_0f7a4 24 = .ok (.iload_n 0, 1) := by decide +kernel
theorem dJ6_bitCount_0f7a4_25 : decode cJ6_bitCount_0f7a4 25 = .ok (.iload_n 0, 1) := by decide +kernel
theorem dJ6_bitCount_0f7a4_26 : decode cJ6_bitCount_0f7a4 26 = .ok (.iconst 4, 1) := by decide +kernel
theorem dJ6_bitCount_0f7a4_27 : decode cJ6_bitCount_0f7a4 27 = .ok (.iushr, 1) := by decide +kernel
theorem dJ6_bitCount_0f7a4_28 : decode cJ6_bitCount_0f7a4 28 = .ok (.iadd, 1) := by decide +kernel
theorem dJ6_bitCount_0f7a4_29 : decode cJ6_bitCount_0f7a4 29 = .ok (.ldc_w 267, 3) := by decide +kernel
theorem dJ6_bitCount_0f7a4_32 : decode cJ6_bitCount_0f7a4 32 = .ok (.iand, 1) := by decide +kernel
theorem dJ6_bitCount_0f7a4_33 : decode cJ6_bitCount_0f7a4 33 = .ok (.istore_n 0, 1) := by decide +kernel
theorem dJ6_bitCount_0f7a4_34 : decode cJ6_bitCount_0f7a4 34 = .ok (.iload_n 0, 1) := by decide +kernel
theorem dJ6_bitCount_0f7a4_35 : decode cJ6_bitCount_0f7a4 35 = .ok (.iload_n 0, 1) := by decide +kernel
theorem dJ6_bitCount_0f7a4_36 : decode cJ6_bitCount_0f7a4 36 = .ok (.bipush 8, 2) := by decide +kernel
theorem dJ6_bitCount_0f7a4_38 : decode cJ6_bitCount_0f7a4 38 = .ok (.iushr, 1) := by decide +kernel
theorem dJ6_bitCount_0f7a4_39 : decode cJ6_bitCount_0f7a4 39 = .ok (.iadd, 1) := by decide +kernel
theorem dJ6_bitCount_0f7a4_40 : decode cJ6_bitCount_0f7a4 40 = .ok (.istore_n 0, 1) := by decide +kernel
theorem dJ6_bitCount_0f7a4_41 : decode cJ6_bitCount_0f7a4 41 = .ok (.iload_n 0, 1) := by decide +kernel
theorem dJ6_bitCount_0f7a4_42 : decode cJ6_bitCount_0f7a4 42 = .ok (.iload_n 0, 1) := by decide +kernel
theorem dJ6_bitCount_0f7a4_43 : decode cJ6_bitCount_0f7a4 43 = .ok (.bipush 16, 2) := by decide +kernel
theorem dJ6_bitCount_0f7a4_45 : decode cJ6_bitCount_0f7a4 45 = .ok (.iushr, 1) := by decide +kernel
theorem dJ6_bitCount_0f7a4_46 : decode cJ6_bitCount_0f7a4 46 = .ok (.iadd, 1) := by decide +kernel
theorem dJ6_bitCount_0f7a4_47 : decode cJ6_bitCount_0f7a4 47 = .ok (.istore_n 0, 1) := by decide +kernel
theorem dJ6_bitCount_0f7a4_48 : decode cJ6_bitCount_0f7a4 48 = .ok (.iload_n 0, 1) := by decide +kernel
theorem dJ6_bitCount_0f7a4_49 : decode cJ6_bitCount_0f7a4 49 = .ok (.bipush 63, 2) := by decide +kernel
theorem dJ6_bitCount_0f7a4_51 : decode cJ6_bitCount_0f7a4 51 = .ok (.iand, 1) := by decide +kernel
theorem dJ6_bitCount_0f7a4_52 : decode cJ6_bitCount_0f7a4 52 = .ok (.ireturn, 1) := by decide +kernel
theorem dJ0_length_8abf5_0 : decode cJ0_length_8abf5 0 = .ok (.aload_n 0, 1) := by decide +kernel
theorem dJ0_length_8abf5_1 : decode cJ0_length_8abf5 1 = .ok (.getfield 9, 3) := by decide +kernel
theorem dJ0_length_8abf5_4 : decode cJ0_length_8abf5 4 = .ok (.arraylength, 1) := by decide +kernel
theorem dJ0_length_8abf5_5 : decode cJ0_length_8abf5 5 = .ok (.aload_n 0, 1) := by decide +kernel
theorem dJ0_length_8abf5_6 : decode cJ0_length_8abf5 6 = .ok (.invokevirtual 335, 3) := by decide +kernel
theorem dJ0_length_8abf5_9 : decode cJ0_length_8abf5 9 = .ok (.ishr, 1) := by decide +kernel
theorem dJ0_length_8abf5_10 : decode cJ0_length_8abf5 10 = .ok (.ireturn, 1) := by decide +kernel
theorem dJ0_charAt_5068e_0 : decode cJ0_charAt_5068e 0 = .ok (.aload_n 0, 1) := by decide +kernel
theorem dJ0_charAt_5068e_1 : decode cJ0_charAt_5068e 1 = .ok (.invokevirtual 492, 3) := by decide +kernel
theorem dJ0_charAt_5068e_4 : decode cJ0_charAt_5068e 4 = .ok (.ifCond .eq 12, 3) := by decide +kernel
theorem dJ0_charAt_5068e_7 : decode cJ0_charAt_5068e 7 = .ok (.aload_n 0, 1) := by decide +kernel
theorem dJ0_charAt_5068e_8 : decode cJ0_charAt_5068e 8 = .ok (.getfield 9, 3) := by decide +kernel
theorem dJ0_charAt_5068e_11 : decode cJ0_charAt_5068e 11 = .ok (.iload_n 1, 1) := by decide +kernel
theorem dJ0_charAt_5068e_12 : decode cJ0_charAt_5068e 12 = .ok (.invokestatic 495, 3) := by decide +kernel
theorem dJ0_charAt_5068e_15 : decode cJ0_charAt_5068e 15 = .ok (.ireturn, 1) := by decide +kernel
theorem dJ0_charAt_5068e_16 : decode cJ0_charAt_5068e 16 = .ok (.aload_n 0, 1) := by decide +kernel
theorem dJ0_charAt_5068e_17 : decode cJ0_charAt_5068e 17 = .ok (.getfield 9, 3) := by decide +kernel
theorem dJ0_charAt_5068e_20 : decode cJ0_charAt_5068e 20 = .ok (.iload_n 1, 1) := by decide +kernel
theorem dJ0_charAt_5068e_21 : decode cJ0_charAt_5068e 21 = .ok (.invokestatic 498, 3) := by decide +kernel
theorem dJ0_charAt_5068e_24 : decode cJ0_charAt_5068e 24 = .ok (.ireturn, 1) := by decide +kernel
theorem dJ0_coder_7d493_0 : decode cJ0_coder_7d493 0 = .ok (.getstatic 38, 3) := by decide +kernel
theorem dJ0_coder_7d493_3 : decode cJ0_coder_7d493 3 = .ok (.ifCond .eq 10, 3) := by decide +kernel
theorem dJ0_coder_7d493_6 : decode cJ0_coder_7d493 6 = .ok (.aload_n 0, 1) := by decide +kernel
theorem dJ0_coder_7d493_7 : decode cJ0_coder_7d493 7 = .ok (.getfield 15, 3) := by decide +kernel
theorem dJ0_coder_7d493_10 : decode cJ0_coder_7d493 10 = .ok (.goto 4, 3) := by decide +kernel
theorem dJ0_coder_7d493_13 : decode cJ0_coder_7d493 13 = .ok (.iconst 1, 1) := by decide +kernel
theorem dJ0_coder_7d493_14 : decode cJ0_coder_7d493 14 = .ok (.ireturn, 1) := by decide +kernel
theorem dJ0_isLatin1_aae02_0 : decode cJ0_isLatin1_aae02 0 = .ok (.getstatic 38, 3) := by decide +kernel
theorem dJ0_isLatin1_aae02_3 : decode cJ0_isLatin1_aae02 3 = .ok (.ifCond .eq 14, 3) := by decide +kernel
theorem dJ0_isLatin1_aae02_6 : decode cJ0_isLatin1_aae02 6 = .ok (.aload_n 0, 1) := by decide +kernel
theorem dJ0_isLatin1_aae02_7 : decode cJ0_isLatin1_aae02 7 = .ok (.getfield 15, 3) := by decide +kernel
theorem dJ0_isLatin1_aae02_10 : decode cJ0_isLatin1_aae02 10 = .ok (.ifCond .ne 7, 3) := by decide +kernel
theorem dJ0_isLatin1_aae02_13 : decode cJ0_isLatin1_aae02 13 = .ok (.iconst 1, 1) := by decide +kernel
theorem dJ0_isLatin1_aae02_14 : decode cJ0_isLatin1_aae02 14 = .ok (.goto 4, 3) := by decide +kernel
theorem dJ0_isLatin1_aae02_17 : decode cJ0_isLatin1_aae02 17 = .ok (.iconst 0, 1) := by decide +kernel
theorem dJ0_isLatin1_aae02_18 : decode cJ0_isLatin1_aae02 18 = .ok (.ireturn, 1) := by decide +kernel
theorem dJ0_checkIndex_df160_0 : decode cJ0_checkIndex_df160 0 = .ok (.iload_n 0, 1) := by decide +kernel
theorem dJ0_checkIndex_df160_1 : decode cJ0_checkIndex_df160 1 = .ok (.iload_n 1, 1) := by decide +kernel
theorem dJ0_checkIndex_df160_2 : decode cJ0_checkIndex_df160 2 = .ok (.getstatic 1053, 3) := by decide +kernel
theorem dJ0_checkIndex_df160_5 : decode cJ0_checkIndex_df160 5 = .ok (.invokestatic 1059, 3) := by decide +kernel
theorem dJ0_checkIndex_df160_8 : decode cJ0_checkIndex_df160 8 = .ok (.pop, 1) := by decide +kernel
theorem dJ0_checkIndex_df160_9 : decode cJ0_checkIndex_df160 9 = .ok (.return_, 1) := by decide +kernel
theorem dJ1_charAt_3b067_0 : decode cJ1_charAt_3b067 0 = .ok (.iload_n 1, 1) := by decide +kernel
theorem dJ1_charAt_3b067_1 : decode cJ1_charAt_3b067 1 = .ok (.aload_n 0, 1) := by decide +kernel
theorem dJ1_charAt_3b067_2 : decode cJ1_charAt_3b067 2 = .ok (.arraylength, 1) := by decide +kernel
theorem dJ1_charAt_3b067_3 : decode cJ1_charAt_3b067 3 = .ok (.invokestatic 9, 3) := by decide +kernel
theorem dJ1_charAt_3b067_6 : decode cJ1_charAt_3b067 6 = .ok (.aload_n 0, 1) := by decide +kernel
theorem dJ1_charAt_3b067_7 : decode cJ1_charAt_3b067 7 = .ok (.iload_n 1, 1) := by decide +kernel
theorem dJ1_charAt_3b067_8 : decode cJ1_charAt_3b067 8 = .ok (.baload, 1) := by decide +kernel
theorem dJ1_charAt_3b067_9 : decode cJ1_charAt_3b067 9 = .ok (.sipush 255, 3) := by decide +kernel
theorem dJ1_charAt_3b067_12 : decode cJ1_charAt_3b067 12 = .ok (.iand, 1) := by decide +kernel
theorem dJ1_charAt_3b067_13 : decode cJ1_charAt_3b067 13 = .ok (.i2c, 1) := by decide +kernel
theorem dJ1_charAt_3b067_14 : decode cJ1_charAt_3b067 14 = .ok (.ireturn, 1) := by decide +kernel
theorem dJ7_fill_53178_0 : decode cJ7_fill_53178 0 = .ok (.iconst 0, 1) := by decide +kernel
theorem dJ7_fill_53178_1 : decode cJ7_fill_53178 1 = .ok (.istore_n 2, 1) := by decide +kernel
theorem dJ7_fill_53178_2 : decode cJ7_fill_53178 2 = .ok (.aload_n 0, 1) := by decide +kernel
theorem dJ7_fill_53178_3 : decode cJ7_fill_53178 3 = .ok (.arraylength, 1) := by decide +kernel
theorem dJ7_fill_53178_4 : decode cJ7_fill_53178 4 = .ok (.istore_n 3, 1) := by decide +kernel
theorem dJ7_fill_53178_5 : decode cJ7_fill_53178 5 = .ok (.iload_n 2, 1) := by decide +kernel
theorem dJ7_fill_53178_6 : decode cJ7_fill_53178 6 = .ok (.iload_n 3, 1) := by decide +kernel
theorem dJ7_fill_53178_7 : decode cJ7_fill_53178 7 = .ok (.if_icmp .ge 13, 3) := by decide +kernel
theorem dJ7_fill_53178_10 : decode cJ7_fill_53178 10 = .ok (.aload_n 0, 1) := by decide +kernel
theorem dJ7_fill_53178_11 : decode cJ7_fill_53178 11 = .ok (.iload_n 2, 1) := by decide +kernel
theorem dJ7_fill_53178_12 : decode cJ7_fill_53178 12 = .ok (.iload_n 1, 1) := by decide +kernel
theorem dJ7_fill_53178_13 : decode cJ7_fill_53178 13 = .ok (.iastore, 1) := by decide +kernel
theorem dJ7_fill_53178_14 : decode cJ7_fill_53178 14 = .ok (.iinc 2 1, 3) := by decide +kernel
theorem dJ7_fill_53178_17 : decode cJ7_fill_53178 17 = .ok (.goto (-12), 3) := by decide +kernel
theorem dJ7_fill_53178_20 : decode cJ7_fill_53178 20 = .ok (.return_, 1) := by decide +kernel
theorem dJ3_checkIndex_8e157_0 : decode cJ3_checkIndex_8e157 0 = .ok (.iload_n 0, 1) := by decide +kernel
theorem dJ3_checkIndex_8e157_1 : decode cJ3_checkIndex_8e157 1 = .ok (.ifCond .lt 8, 3) := by decide +kernel
theorem dJ3_checkIndex_8e157_4 : decode cJ3_checkIndex_8e157 4 = .ok (.iload_n 0, 1) := by decide +kernel
theorem dJ3_checkIndex_8e157_5 : decode cJ3_checkIndex_8e157 5 = .ok (.iload_n 1, 1) := by decide +kernel
theorem dJ3_checkIndex_8e157_6 : decode cJ3_checkIndex_8e157 6 = .ok (.if_icmp .lt 10, 3) := by decide +kernel
theorem dJ3_checkIndex_8e157_9 : decode cJ3_checkIndex_8e157 9 = .ok (.aload_n 2, 1) := by decide +kernel
theorem dJ3_checkIndex_8e157_10 : decode cJ3_checkIndex_8e157 10 = .ok (.iload_n 0, 1) := by decide +kernel
theorem dJ3_checkIndex_8e157_11 : decode cJ3_checkIndex_8e157 11 = .ok (.iload_n 1, 1) := by decide +kernel
theorem dJ3_checkIndex_8e157_12 : decode cJ3_checkIndex_8e157 12 = .ok (.invokestatic 95, 3) := by decide +kernel
theorem dJ3_checkIndex_8e157_15 : decode cJ3_checkIndex_8e157 15 = .ok (.athrow, 1) := by decide +kernel
theorem dJ3_checkIndex_8e157_16 : decode cJ3_checkIndex_8e157 16 = .ok (.iload_n 0, 1) := by decide +kernel
theorem dJ3_checkIndex_8e157_17 : decode cJ3_checkIndex_8e157 17 = .ok (.ireturn, 1) := by decide +kernel

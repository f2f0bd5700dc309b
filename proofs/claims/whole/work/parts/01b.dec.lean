theorem dX6_init_0 : decode cX6_init 0 = .ok (.aload_n 0, 1) := by decide +kernel
theorem dX6_init_1 : decode cX6_init 1 = .ok (.invokespecial 3, 3) := by decide +kernel
theorem dX6_init_4 : decode cX6_init 4 = .ok (.aload_n 0, 1) := by decide +kernel
theorem dX6_init_5 : decode cX6_init 5 = .ok (.new 9, 3) := by decide +kernel
theorem dX6_init_8 : decode cX6_init 8 = .ok (.dup, 1) := by decide +kernel
theorem dX6_init_9 : decode cX6_init 9 = .ok (.invokespecial 11, 3) := by decide +kernel
theorem dX6_init_12 : decode cX6_init 12 = .ok (.putfield 12, 3) := by decide +kernel
theorem dX6_init_15 : decode cX6_init 15 = .ok (.aload_n 0, 1) := by decide +kernel
theorem dX6_init_16 : decode cX6_init 16 = .ok (.new 9, 3) := by decide +kernel
theorem dX6_init_19 : decode cX6_init 19 = .ok (.dup, 1) := by decide +kernel
theorem dX6_init_20 : decode cX6_init 20 = .ok (.invokespecial 11, 3) := by decide +kernel
theorem dX6_init_23 : decode cX6_init 23 = .ok (.putfield 16, 3) := by decide +kernel
theorem dX6_init_26 : decode cX6_init 26 = .ok (.aload_n 0, 1) := by decide +kernel
theorem dX6_init_27 : decode cX6_init 27 = .ok (.iconst 2, 1) := by decide +kernel
theorem dX6_init_28 : decode cX6_init 28 = .ok (.anewarray 9, 3) := by decide +kernel
theorem dX6_init_31 : decode cX6_init 31 = .ok (.dup, 1) := by decide +kernel
theorem dX6_init_32 : decode cX6_init 32 = .ok (.iconst 0, 1) := by decide +kernel
theorem dX6_init_33 : decode cX6_init 33 = .ok (.new 9, 3) := by decide +kernel
theorem dX6_init_36 : decode cX6_init 36 = .ok (.dup, 1) := by decide +kernel
theorem dX6_init_37 : decode cX6_init 37 = .ok (.invokespecial 11, 3) := by decide +kernel
theorem dX6_init_40 : decode cX6_init 40 = .ok (.aastore, 1) := by decide +kernel
theorem dX6_init_41 : decode cX6_init 41 = .ok (.dup, 1) := by decide +kernel
theorem dX6_init_42 : decode cX6_init 42 = .ok (.iconst 1, 1) := by decide +kernel
theorem dX6_init_43 : decode cX6_init 43 = .ok (.new 9, 3) := by decide +kernel
theorem dX6_init_46 : decode cX6_init 46 = .ok (.dup, 1) := by decide +kernel
theorem dX6_init_47 : decode cX6_init 47 = .ok (.invokespecial 11, 3) := by decide +kernel
theorem dX6_init_50 : decode cX6_init 50 = .ok (.aastore, 1) := by decide +kernel
theorem dX6_init_51 : decode cX6_init 51 = .ok (.putfield 19, 3) := by decide +kernel
theorem dX6_init_54 : decode cX6_init 54 = .ok (.aload_n 0, 1) := by decide +kernel
theorem dX6_init_55 : decode cX6_init 55 = .ok (.iconst 2, 1) := by decide +kernel
theorem dX6_init_56 : decode cX6_init 56 = .ok (.newarray .boolean, 2) := by decide +kernel
theorem dX6_init_58 : decode cX6_init 58 = .ok (.putfield 23, 3) := by decide +kernel
theorem dX6_init_61 : decode cX6_init 61 = .ok (.aload_n 0, 1) := by decide +kernel
theorem dX6_init_62 : decode cX6_init 62 = .ok (.new 27, 3) := by decide +kernel
theorem dX6_init_65 : decode cX6_init 65 = .ok (.dup, 1) := by decide +kernel
theorem dX6_init_66 : decode cX6_init 66 = .ok (.invokespecial 29, 3) := by decide +kernel
theorem dX6_init_69 : decode cX6_init 69 = .ok (.putfield 30, 3) := by decide +kernel
theorem dX6_init_72 : decode cX6_init 72 = .ok (.aload_n 0, 1) := by decide +kernel
theorem dX6_init_73 : decode cX6_init 73 = .ok (.new 34, 3) := by decide +kernel
theorem dX6_init_76 : decode cX6_init 76 = .ok (.dup, 1) := by decide +kernel
theorem dX6_init_77 : decode cX6_init 77 = .ok (.invokespecial 36, 3) := by decide +kernel
theorem dX6_init_80 : decode cX6_init 80 = .ok (.putfield 37, 3) := by decide +kernel
theorem dX6_init_83 : decode cX6_init 83 = .ok (.aload_n 0, 1) := by decide +kernel
theorem dX6_init_84 : decode cX6_init 84 = .ok (.new 41, 3) := by decide +kernel
theorem dX6_init_87 : decode cX6_init 87 = .ok (.dup, 1) := by decide +kernel
theorem dX6_init_88 : decode cX6_init 88 = .ok (.invokespecial 43, 3) := by decide +kernel
theorem dX6_init_91 : decode cX6_init 91 = .ok (.putfield 44, 3) := by decide +kernel
theorem dX6_init_94 : decode cX6_init 94 = .ok (.aload_n 0, 1) := by decide +kernel
theorem dX6_init_95 : decode cX6_init 95 = .ok (.new 41, 3) := by decide +kernel
theorem dX6_init_98 : decode cX6_init 98 = .ok (.dup, 1) := by decide +kernel
theorem dX6_init_99 : decode cX6_init 99 = .ok (.invokespecial 43, 3) := by decide +kernel
theorem dX6_init_102 : decode cX6_init 102 = .ok (.putfield 48, 3) := by decide +kernel
theorem dX6_init_105 : decode cX6_init 105 = .ok (.aload_n 0, 1) := by decide +kernel
theorem dX6_init_106 : decode cX6_init 106 = .ok (.new 41, 3) := by decide +kernel
theorem dX6_init_109 : decode cX6_init 109 = .ok (.dup, 1) := by decide +kernel
theorem dX6_init_110 : decode cX6_init 110 = .ok (.invokespecial 43, 3) := by decide +kernel
theorem dX6_init_113 : decode cX6_init 113 = .ok (.putfield 51, 3) := by decide +kernel
theorem dX6_init_116 : decode cX6_init 116 = .ok (.aload_n 0, 1) := by decide +kernel
theorem dX6_init_117 : decode cX6_init 117 = .ok (.bipush 6, 2) := by decide +kernel
theorem dX6_init_119 : decode cX6_init 119 = .ok (.newarray .int, 2) := by decide +kernel
theorem dX6_init_121 : decode cX6_init 121 = .ok (.putfield 54, 3) := by decide +kernel
theorem dX6_init_124 : decode cX6_init 124 = .ok (.aload_n 0, 1) := by decide +kernel
theorem dX6_init_125 : decode cX6_init 125 = .ok (.bipush 30, 2) := by decide +kernel
theorem dX6_init_127 : decode cX6_init 127 = .ok (.newarray .int, 2) := by decide +kernel
theorem dX6_init_129 : decode cX6_init 129 = .ok (.putfield 58, 3) := by decide +kernel
theorem dX6_init_132 : decode cX6_init 132 = .ok (.aload_n 0, 1) := by decide +kernel
theorem dX6_init_133 : decode cX6_init 133 = .ok (.bipush 25, 2) := by decide +kernel
theorem dX6_init_135 : decode cX6_init 135 = .ok (.newarray .int, 2) := by decide +kernel
theorem dX6_init_137 : decode cX6_init 137 = .ok (.putfield 61, 3) := by decide +kernel
theorem dX6_init_140 : decode cX6_init 140 = .ok (.aload_n 0, 1) := by decide +kernel
theorem dX6_init_141 : decode cX6_init 141 = .ok (.iconst 1, 1) := by decide +kernel
theorem dX6_init_142 : decode cX6_init 142 = .ok (.putfield 64, 3) := by decide +kernel
theorem dX6_init_145 : decode cX6_init 145 = .ok (.return_, 1) := by decide +kernel
theorem dX6_fell_0 : decode cX6_fell 0 = .ok (.iload_n 1, 1) := by decide +kernel
theorem dX6_fell_1 : decode cX6_fell 1 = .ok (.invokestatic 68, 3) := by decide +kernel
theorem dX6_fell_4 : decode cX6_fell 4 = .ok (.ifCond .ne 10, 3) := by decide +kernel
theorem dX6_fell_7 : decode cX6_fell 7 = .ok (.aload_n 0, 1) := by decide +kernel
theorem dX6_fell_8 : decode cX6_fell 8 = .ok (.bipush (-2), 2) := by decide +kernel
theorem dX6_fell_10 : decode cX6_fell 10 = .ok (.invokevirtual 72, 3) := by decide +kernel
theorem dX6_fell_13 : decode cX6_fell 13 = .ok (.ireturn, 1) := by decide +kernel
theorem dX6_fell_14 : decode cX6_fell 14 = .ok (.aload_n 0, 1) := by decide +kernel
theorem dX6_fell_15 : decode cX6_fell 15 = .ok (.getfield 12, 3) := by decide +kernel
theorem dX6_fell_18 : decode cX6_fell 18 = .ok (.getfield 76, 3) := by decide +kernel
theorem dX6_fell_21 : decode cX6_fell 21 = .ok (.getfield 79, 3) := by decide +kernel
theorem dX6_fell_24 : decode cX6_fell 24 = .ok (.istore_n 2, 1) := by decide +kernel
theorem dX6_fell_25 : decode cX6_fell 25 = .ok (.aload_n 0, 1) := by decide +kernel
theorem dX6_fell_26 : decode cX6_fell 26 = .ok (.getfield 12, 3) := by decide +kernel
theorem dX6_fell_29 : decode cX6_fell 29 = .ok (.iload_n 1, 1) := by decide +kernel
theorem dX6_fell_30 : decode cX6_fell 30 = .ok (.invokevirtual 82, 3) := by decide +kernel
theorem dX6_fell_33 : decode cX6_fell 33 = .ok (.iload_n 2, 1) := by decide +kernel
theorem dX6_fell_34 : decode cX6_fell 34 = .ok (.ireturn, 1) := by decide +kernel
theorem dX6_whistle_0 : decode cX6_whistle 0 = .ok (.iload_n 1, 1) := by decide +kernel
theorem dX6_whistle_1 : decode cX6_whistle 1 = .ok (.invokestatic 86, 3) := by decide +kernel
theorem dX6_whistle_4 : decode cX6_whistle 4 = .ok (.ifCond .eq 10, 3) := by decide +kernel
theorem dX6_whistle_7 : decode cX6_whistle 7 = .ok (.iload_n 2, 1) := by decide +kernel
theorem dX6_whistle_8 : decode cX6_whistle 8 = .ok (.invokestatic 68, 3) := by decide +kernel
theorem dX6_whistle_11 : decode cX6_whistle 11 = .ok (.ifCond .ne 10, 3) := by decide +kernel
theorem dX6_whistle_14 : decode cX6_whistle 14 = .ok (.aload_n 0, 1) := by decide +kernel
theorem dX6_whistle_15 : decode cX6_whistle 15 = .ok (.bipush (-2), 2) := by decide +kernel
theorem dX6_whistle_17 : decode cX6_whistle 17 = .ok (.invokevirtual 72, 3) := by decide +kernel
theorem dX6_whistle_20 : decode cX6_whistle 20 = .ok (.ireturn, 1) := by decide +kernel
theorem dX6_whistle_21 : decode cX6_whistle 21 = .ok (.aload_n 0, 1) := by decide +kernel
theorem dX6_whistle_22 : decode cX6_whistle 22 = .ok (.getfield 12, 3) := by decide +kernel
theorem dX6_whistle_25 : decode cX6_whistle 25 = .ok (.getfield 76, 3) := by decide +kernel
theorem dX6_whistle_28 : decode cX6_whistle 28 = .ok (.getfield 89, 3) := by decide +kernel
theorem dX6_whistle_31 : decode cX6_whistle 31 = .ok (.iconst 3, 1) := by decide +kernel
theorem dX6_whistle_32 : decode cX6_whistle 32 = .ok (.if_icmp .lt 8, 3) := by decide +kernel
theorem dX6_whistle_35 : decode cX6_whistle 35 = .ok (.aload_n 0, 1) := by decide +kernel
theorem dX6_whistle_36 : decode cX6_whistle 36 = .ok (.invokevirtual 92, 3) := by decide +kernel
theorem dX6_whistle_39 : decode cX6_whistle 39 = .ok (.ireturn, 1) := by decide +kernel
theorem dX6_whistle_40 : decode cX6_whistle 40 = .ok (.aload_n 0, 1) := by decide +kernel
theorem dX6_whistle_41 : decode cX6_whistle 41 = .ok (.getfield 12, 3) := by decide +kernel
theorem dX6_whistle_44 : decode cX6_whistle 44 = .ok (.getfield 96, 3) := by decide +kernel
theorem dX6_whistle_47 : decode cX6_whistle 47 = .ok (.iconst 0, 1) := by decide +kernel
theorem dX6_whistle_48 : decode cX6_whistle 48 = .ok (.putfield 100, 3) := by decide +kernel
theorem dX6_whistle_51 : decode cX6_whistle 51 = .ok (.aload_n 0, 1) := by decide +kernel
theorem dX6_whistle_52 : decode cX6_whistle 52 = .ok (.getfield 12, 3) := by decide +kernel
theorem dX6_whistle_55 : decode cX6_whistle 55 = .ok (.getfield 76, 3) := by decide +kernel
theorem dX6_whistle_58 : decode cX6_whistle 58 = .ok (.iload_n 1, 1) := by decide +kernel
theorem dX6_whistle_59 : decode cX6_whistle 59 = .ok (.iload_n 2, 1) := by decide +kernel
theorem dX6_whistle_60 : decode cX6_whistle 60 = .ok (.invokevirtual 105, 3) := by decide +kernel
theorem dX6_whistle_63 : decode cX6_whistle 63 = .ok (.ireturn, 1) := by decide +kernel
theorem dX6_sheep_0 : decode cX6_sheep 0 = .ok (.iload_n 1, 1) := by decide +kernel
theorem dX6_sheep_1 : decode cX6_sheep 1 = .ok (.invokestatic 86, 3) := by decide +kernel
theorem dX6_sheep_4 : decode cX6_sheep 4 = .ok (.ifCond .eq 10, 3) := by decide +kernel
theorem dX6_sheep_7 : decode cX6_sheep 7 = .ok (.iload_n 2, 1) := by decide +kernel
theorem dX6_sheep_8 : decode cX6_sheep 8 = .ok (.invokestatic 68, 3) := by decide +kernel
theorem dX6_sheep_11 : decode cX6_sheep 11 = .ok (.ifCond .ne 10, 3) := by decide +kernel
theorem dX6_sheep_14 : decode cX6_sheep 14 = .ok (.aload_n 0, 1) := by decide +kernel
theorem dX6_sheep_15 : decode cX6_sheep 15 = .ok (.bipush (-2), 2) := by decide +kernel
theorem dX6_sheep_17 : decode cX6_sheep 17 = .ok (.invokevirtual 72, 3) := by decide +kernel
theorem dX6_sheep_20 : decode cX6_sheep 20 = .ok (.ireturn, 1) := by decide +kernel
theorem dX6_sheep_21 : decode cX6_sheep 21 = .ok (.aload_n 0, 1) := by decide +kernel
theorem dX6_sheep_22 : decode cX6_sheep 22 = .ok (.getfield 12, 3) := by decide +kernel
theorem dX6_sheep_25 : decode cX6_sheep 25 = .ok (.getfield 76, 3) := by decide +kernel
theorem dX6_sheep_28 : decode cX6_sheep 28 = .ok (.getfield 79, 3) := by decide +kernel
theorem dX6_sheep_31 : decode cX6_sheep 31 = .ok (.bipush 7, 2) := by decide +kernel
theorem dX6_sheep_33 : decode cX6_sheep 33 = .ok (.if_icmp .lt 8, 3) := by decide +kernel
theorem dX6_sheep_36 : decode cX6_sheep 36 = .ok (.aload_n 0, 1) := by decide +kernel
theorem dX6_sheep_37 : decode cX6_sheep 37 = .ok (.invokevirtual 92, 3) := by decide +kernel
theorem dX6_sheep_40 : decode cX6_sheep 40 = .ok (.ireturn, 1) := by decide +kernel
theorem dX6_sheep_41 : decode cX6_sheep 41 = .ok (.aload_n 0, 1) := by decide +kernel
theorem dX6_sheep_42 : decode cX6_sheep 42 = .ok (.getfield 12, 3) := by decide +kernel
theorem dX6_sheep_45 : decode cX6_sheep 45 = .ok (.getfield 96, 3) := by decide +kernel
theorem dX6_sheep_48 : decode cX6_sheep 48 = .ok (.iconst 0, 1) := by decide +kernel
theorem dX6_sheep_49 : decode cX6_sheep 49 = .ok (.putfield 100, 3) := by decide +kernel
theorem dX6_sheep_52 : decode cX6_sheep 52 = .ok (.aload_n 0, 1) := by decide +kernel
theorem dX6_sheep_53 : decode cX6_sheep 53 = .ok (.getfield 12, 3) := by decide +kernel
theorem dX6_sheep_56 : decode cX6_sheep 56 = .ok (.getfield 76, 3) := by decide +kernel
theorem dX6_sheep_59 : decode cX6_sheep 59 = .ok (.iload_n 1, 1) := by decide +kernel
theorem dX6_sheep_60 : decode cX6_sheep 60 = .ok (.iload_n 2, 1) := by decide +kernel
theorem dX6_sheep_61 : decode cX6_sheep 61 = .ok (.invokevirtual 109, 3) := by decide +kernel
theorem dX6_sheep_64 : decode cX6_sheep 64 = .ok (.ireturn, 1) := by decide +kernel
theorem dX6_fold_0 : decode cX6_fold 0 = .ok (.iload_n 1, 1) := by decide +kernel
theorem dX6_fold_1 : decode cX6_fold 1 = .ok (.invokestatic 68, 3) := by decide +kernel
theorem dX6_fold_4 : decode cX6_fold 4 = .ok (.ifCond .ne 10, 3) := by decide +kernel
theorem dX6_fold_7 : decode cX6_fold 7 = .ok (.aload_n 0, 1) := by decide +kernel
theorem dX6_fold_8 : decode cX6_fold 8 = .ok (.bipush (-2), 2) := by decide +kernel
theorem dX6_fold_10 : decode cX6_fold 10 = .ok (.invokevirtual 72, 3) := by decide +kernel
theorem dX6_fold_13 : decode cX6_fold 13 = .ok (.ireturn, 1) := by decide +kernel
theorem dX6_fold_14 : decode cX6_fold 14 = .ok (.iload_n 1, 1) := by decide +kernel
theorem dX6_fold_15 : decode cX6_fold 15 = .ok (.aload_n 0, 1) := by decide +kernel
theorem dX6_fold_16 : decode cX6_fold 16 = .ok (.getfield 12, 3) := by decide +kernel
theorem dX6_fold_19 : decode cX6_fold 19 = .ok (.getfield 112, 3) := by decide +kernel
theorem dX6_fold_22 : decode cX6_fold 22 = .ok (.if_icmp .ne 8, 3) := by decide +kernel
theorem dX6_fold_25 : decode cX6_fold 25 = .ok (.aload_n 0, 1) := by decide +kernel
theorem dX6_fold_26 : decode cX6_fold 26 = .ok (.invokevirtual 115, 3) := by decide +kernel
theorem dX6_fold_29 : decode cX6_fold 29 = .ok (.ireturn, 1) := by decide +kernel
theorem dX6_fold_30 : decode cX6_fold 30 = .ok (.aload_n 0, 1) := by decide +kernel
theorem dX6_fold_31 : decode cX6_fold 31 = .ok (.getfield 12, 3) := by decide +kernel
theorem dX6_fold_34 : decode cX6_fold 34 = .ok (.getfield 112, 3) := by decide +kernel
theorem dX6_fold_37 : decode cX6_fold 37 = .ok (.istore_n 2, 1) := by decide +kernel
theorem dX6_fold_38 : decode cX6_fold 38 = .ok (.aload_n 0, 1) := by decide +kernel
theorem dX6_fold_39 : decode cX6_fold 39 = .ok (.getfield 12, 3) := by decide +kernel
theorem dX6_fold_42 : decode cX6_fold 42 = .ok (.iload_n 1, 1) := by decide +kernel
theorem dX6_fold_43 : decode cX6_fold 43 = .ok (.putfield 112, 3) := by decide +kernel
theorem dX6_fold_46 : decode cX6_fold 46 = .ok (.aload_n 0, 1) := by decide +kernel
theorem dX6_fold_47 : decode cX6_fold 47 = .ok (.getfield 12, 3) := by decide +kernel
theorem dX6_fold_50 : decode cX6_fold 50 = .ok (.getfield 96, 3) := by decide +kernel
theorem dX6_fold_53 : decode cX6_fold 53 = .ok (.iconst 0, 1) := by decide +kernel
theorem dX6_fold_54 : decode cX6_fold 54 = .ok (.putfield 100, 3) := by decide +kernel
theorem dX6_fold_57 : decode cX6_fold 57 = .ok (.iload_n 2, 1) := by decide +kernel
theorem dX6_fold_58 : decode cX6_fold 58 = .ok (.ireturn, 1) := by decide +kernel
theorem dX6_type_0 : decode cX6_type 0 = .ok (.iload_n 1, 1) := by decide +kernel
theorem dX6_type_1 : decode cX6_type 1 = .ok (.iconst 0, 1) := by decide +kernel
theorem dX6_type_2 : decode cX6_type 2 = .ok (.bipush 127, 2) := by decide +kernel
theorem dX6_type_4 : decode cX6_type 4 = .ok (.invokestatic 118, 3) := by decide +kernel
theorem dX6_type_7 : decode cX6_type 7 = .ok (.ifCond .ne 10, 3) := by decide +kernel
theorem dX6_type_10 : decode cX6_type 10 = .ok (.aload_n 0, 1) := by decide +kernel
theorem dX6_type_11 : decode cX6_type 11 = .ok (.bipush (-2), 2) := by decide +kernel
theorem dX6_type_13 : decode cX6_type 13 = .ok (.invokevirtual 72, 3) := by decide +kernel
theorem dX6_type_16 : decode cX6_type 16 = .ok (.ireturn, 1) := by decide +kernel
theorem dX6_type_17 : decode cX6_type 17 = .ok (.aload_n 0, 1) := by decide +kernel
theorem dX6_type_18 : decode cX6_type 18 = .ok (.getfield 30, 3) := by decide +kernel
theorem dX6_type_21 : decode cX6_type 21 = .ok (.getfield 122, 3) := by decide +kernel
theorem dX6_type_24 : decode cX6_type 24 = .ok (.sipush 150, 3) := by decide +kernel
theorem dX6_type_27 : decode cX6_type 27 = .ok (.if_icmp .lt 8, 3) := by decide +kernel
theorem dX6_type_30 : decode cX6_type 30 = .ok (.aload_n 0, 1) := by decide +kernel
theorem dX6_type_31 : decode cX6_type 31 = .ok (.invokevirtual 92, 3) := by decide +kernel
theorem dX6_type_34 : decode cX6_type 34 = .ok (.ireturn, 1) := by decide +kernel
theorem dX6_type_35 : decode cX6_type 35 = .ok (.aload_n 0, 1) := by decide +kernel
theorem dX6_type_36 : decode cX6_type 36 = .ok (.getfield 30, 3) := by decide +kernel
theorem dX6_type_39 : decode cX6_type 39 = .ok (.iload_n 1, 1) := by decide +kernel
theorem dX6_type_40 : decode cX6_type 40 = .ok (.invokevirtual 123, 3) := by decide +kernel
theorem dX6_type_43 : decode cX6_type 43 = .ok (.aload_n 0, 1) := by decide +kernel
theorem dX6_type_44 : decode cX6_type 44 = .ok (.getfield 30, 3) := by decide +kernel
theorem dX6_type_47 : decode cX6_type 47 = .ok (.getfield 122, 3) := by decide +kernel
theorem dX6_type_50 : decode cX6_type 50 = .ok (.ireturn, 1) := by decide +kernel
theorem dX6_clear_0 : decode cX6_clear 0 = .ok (.aload_n 0, 1) := by decide +kernel
theorem dX6_clear_1 : decode cX6_clear 1 = .ok (.getfield 30, 3) := by decide +kernel
theorem dX6_clear_4 : decode cX6_clear 4 = .ok (.getfield 122, 3) := by decide +kernel
theorem dX6_clear_7 : decode cX6_clear 7 = .ok (.istore_n 1, 1) := by decide +kernel
theorem dX6_clear_8 : decode cX6_clear 8 = .ok (.aload_n 0, 1) := by decide +kernel
theorem dX6_clear_9 : decode cX6_clear 9 = .ok (.getfield 30, 3) := by decide +kernel
theorem dX6_clear_12 : decode cX6_clear 12 = .ok (.iconst 0, 1) := by decide +kernel
theorem dX6_clear_13 : decode cX6_clear 13 = .ok (.putfield 122, 3) := by decide +kernel
theorem dX6_clear_16 : decode cX6_clear 16 = .ok (.iload_n 1, 1) := by decide +kernel
theorem dX6_clear_17 : decode cX6_clear 17 = .ok (.ireturn, 1) := by decide +kernel
theorem dX6_read_0 : decode cX6_read 0 = .ok (.aload_n 0, 1) := by decide +kernel
theorem dX6_read_1 : decode cX6_read 1 = .ok (.getfield 30, 3) := by decide +kernel
theorem dX6_read_4 : decode cX6_read 4 = .ok (.aload_n 0, 1) := by decide +kernel
theorem dX6_read_5 : decode cX6_read 5 = .ok (.getfield 16, 3) := by decide +kernel
theorem dX6_read_8 : decode cX6_read 8 = .ok (.invokevirtual 126, 3) := by decide +kernel
theorem dX6_read_11 : decode cX6_read 11 = .ok (.istore_n 1, 1) := by decide +kernel
theorem dX6_read_12 : decode cX6_read 12 = .ok (.iload_n 1, 1) := by decide +kernel
theorem dX6_read_13 : decode cX6_read 13 = .ok (.ifCond .lt 14, 3) := by decide +kernel
theorem dX6_read_16 : decode cX6_read 16 = .ok (.aload_n 0, 1) := by decide +kernel
theorem dX6_read_17 : decode cX6_read 17 = .ok (.getfield 12, 3) := by decide +kernel
theorem dX6_read_20 : decode cX6_read 20 = .ok (.aload_n 0, 1) := by decide +kernel
theorem dX6_read_21 : decode cX6_read 21 = .ok (.getfield 16, 3) := by decide +kernel
theorem dX6_read_24 : decode cX6_read 24 = .ok (.invokevirtual 130, 3) := by decide +kernel
theorem dX6_read_27 : decode cX6_read 27 = .ok (.iload_n 1, 1) := by decide +kernel
theorem dX6_read_28 : decode cX6_read 28 = .ok (.ireturn, 1) := by decide +kernel
theorem dX6_calls_0 : decode cX6_calls 0 = .ok (.aload_n 0, 1) := by decide +kernel
theorem dX6_calls_1 : decode cX6_calls 1 = .ok (.getfield 12, 3) := by decide +kernel
theorem dX6_calls_4 : decode cX6_calls 4 = .ok (.getfield 76, 3) := by decide +kernel
theorem dX6_calls_7 : decode cX6_calls 7 = .ok (.iload_n 1, 1) := by decide +kernel
theorem dX6_calls_8 : decode cX6_calls 8 = .ok (.invokevirtual 134, 3) := by decide +kernel
theorem dX6_calls_11 : decode cX6_calls 11 = .ok (.ifCond .eq 10, 3) := by decide +kernel
theorem dX6_calls_14 : decode cX6_calls 14 = .ok (.iload_n 2, 1) := by decide +kernel
theorem dX6_calls_15 : decode cX6_calls 15 = .ok (.invokestatic 137, 3) := by decide +kernel
theorem dX6_calls_18 : decode cX6_calls 18 = .ok (.ifCond .ne 10, 3) := by decide +kernel
theorem dX6_calls_21 : decode cX6_calls 21 = .ok (.aload_n 0, 1) := by decide +kernel
theorem dX6_calls_22 : decode cX6_calls 22 = .ok (.bipush (-2), 2) := by decide +kernel
theorem dX6_calls_24 : decode cX6_calls 24 = .ok (.invokevirtual 72, 3) := by decide +kernel
theorem dX6_calls_27 : decode cX6_calls 27 = .ok (.ireturn, 1) := by decide +kernel
theorem dX6_calls_28 : decode cX6_calls 28 = .ok (.aload_n 0, 1) := by decide +kernel
theorem dX6_calls_29 : decode cX6_calls 29 = .ok (.getfield 12, 3) := by decide +kernel
theorem dX6_calls_32 : decode cX6_calls 32 = .ok (.getfield 76, 3) := by decide +kernel
theorem dX6_calls_35 : decode cX6_calls 35 = .ok (.getfield 140, 3) := by decide +kernel
theorem dX6_calls_38 : decode cX6_calls 38 = .ok (.sipush 9999, 3) := by decide +kernel
theorem dX6_calls_41 : decode cX6_calls 41 = .ok (.if_icmp .lt 8, 3) := by decide +kernel
theorem dX6_calls_44 : decode cX6_calls 44 = .ok (.aload_n 0, 1) := by decide +kernel
theorem dX6_calls_45 : decode cX6_calls 45 = .ok (.invokevirtual 115, 3) := by decide +kernel
theorem dX6_calls_48 : decode cX6_calls 48 = .ok (.ireturn, 1) := by decide +kernel
theorem dX6_calls_49 : decode cX6_calls 49 = .ok (.aload_n 0, 1) := by decide +kernel
theorem dX6_calls_50 : decode cX6_calls 50 = .ok (.getfield 12, 3) := by decide +kernel
theorem dX6_calls_53 : decode cX6_calls 53 = .ok (.getfield 96, 3) := by decide +kernel
theorem dX6_calls_56 : decode cX6_calls 56 = .ok (.aload_n 0, 1) := by decide +kernel
theorem dX6_calls_57 : decode cX6_calls 57 = .ok (.getfield 12, 3) := by decide +kernel
theorem dX6_calls_60 : decode cX6_calls 60 = .ok (.getfield 76, 3) := by decide +kernel
theorem dX6_calls_63 : decode cX6_calls 63 = .ok (.invokevirtual 143, 3) := by decide +kernel
theorem dX6_calls_66 : decode cX6_calls 66 = .ok (.aload_n 0, 1) := by decide +kernel
theorem dX6_calls_67 : decode cX6_calls 67 = .ok (.getfield 12, 3) := by decide +kernel
theorem dX6_calls_70 : decode cX6_calls 70 = .ok (.getfield 76, 3) := by decide +kernel
theorem dX6_calls_73 : decode cX6_calls 73 = .ok (.iload_n 1, 1) := by decide +kernel
theorem dX6_calls_74 : decode cX6_calls 74 = .ok (.iload_n 2, 1) := by decide +kernel
theorem dX6_calls_75 : decode cX6_calls 75 = .ok (.invokevirtual 147, 3) := by decide +kernel
theorem dX6_calls_78 : decode cX6_calls 78 = .ok (.ireturn, 1) := by decide +kernel
theorem dX6_steps_0 : decode cX6_steps 0 = .ok (.iload_n 1, 1) := by decide +kernel
theorem dX6_steps_1 : decode cX6_steps 1 = .ok (.iconst 1, 1) := by decide +kernel
theorem dX6_steps_2 : decode cX6_steps 2 = .ok (.bipush 99, 2) := by decide +kernel
theorem dX6_steps_4 : decode cX6_steps 4 = .ok (.invokestatic 118, 3) := by decide +kernel
theorem dX6_steps_7 : decode cX6_steps 7 = .ok (.ifCond .ne 10, 3) := by decide +kernel
theorem dX6_steps_10 : decode cX6_steps 10 = .ok (.aload_n 0, 1) := by decide +kernel
theorem dX6_steps_11 : decode cX6_steps 11 = .ok (.bipush (-2), 2) := by decide +kernel
theorem dX6_steps_13 : decode cX6_steps 13 = .ok (.invokevirtual 72, 3) := by decide +kernel
theorem dX6_steps_16 : decode cX6_steps 16 = .ok (.ireturn, 1) := by decide +kernel
theorem dX6_steps_17 : decode cX6_steps 17 = .ok (.aload_n 0, 1) := by decide +kernel
theorem dX6_steps_18 : decode cX6_steps 18 = .ok (.getfield 12, 3) := by decide +kernel
theorem dX6_steps_21 : decode cX6_steps 21 = .ok (.getfield 96, 3) := by decide +kernel
theorem dX6_steps_24 : decode cX6_steps 24 = .ok (.aload_n 0, 1) := by decide +kernel
theorem dX6_steps_25 : decode cX6_steps 25 = .ok (.getfield 12, 3) := by decide +kernel
theorem dX6_steps_28 : decode cX6_steps 28 = .ok (.getfield 76, 3) := by decide +kernel
theorem dX6_steps_31 : decode cX6_steps 31 = .ok (.invokevirtual 143, 3) := by decide +kernel
theorem dX6_steps_34 : decode cX6_steps 34 = .ok (.aload_n 0, 1) := by decide +kernel
theorem dX6_steps_35 : decode cX6_steps 35 = .ok (.getfield 12, 3) := by decide +kernel
theorem dX6_steps_38 : decode cX6_steps 38 = .ok (.getfield 76, 3) := by decide +kernel
theorem dX6_steps_41 : decode cX6_steps 41 = .ok (.sipush 9999, 3) := by decide +kernel
theorem dX6_steps_44 : decode cX6_steps 44 = .ok (.aload_n 0, 1) := by decide +kernel
theorem dX6_steps_45 : decode cX6_steps 45 = .ok (.getfield 12, 3) := by decide +kernel
theorem dX6_steps_48 : decode cX6_steps 48 = .ok (.getfield 76, 3) := by decide +kernel
theorem dX6_steps_51 : decode cX6_steps 51 = .ok (.getfield 140, 3) := by decide +kernel
theorem dX6_steps_54 : decode cX6_steps 54 = .ok (.iload_n 1, 1) := by decide +kernel
theorem dX6_steps_55 : decode cX6_steps 55 = .ok (.iadd, 1) := by decide +kernel
theorem dX6_steps_56 : decode cX6_steps 56 = .ok (.invokestatic 150, 3) := by decide +kernel
theorem dX6_steps_59 : decode cX6_steps 59 = .ok (.putfield 140, 3) := by decide +kernel
theorem dX6_steps_62 : decode cX6_steps 62 = .ok (.aload_n 0, 1) := by decide +kernel
theorem dX6_steps_63 : decode cX6_steps 63 = .ok (.getfield 12, 3) := by decide +kernel
theorem dX6_steps_66 : decode cX6_steps 66 = .ok (.getfield 76, 3) := by decide +kernel
theorem dX6_steps_69 : decode cX6_steps 69 = .ok (.getfield 140, 3) := by decide +kernel
theorem dX6_steps_72 : decode cX6_steps 72 = .ok (.ireturn, 1) := by decide +kernel
theorem dX6_undo_0 : decode cX6_undo 0 = .ok (.aload_n 0, 1) := by decide +kernel
theorem dX6_undo_1 : decode cX6_undo 1 = .ok (.getfield 12, 3) := by decide +kernel
theorem dX6_undo_4 : decode cX6_undo 4 = .ok (.getfield 96, 3) := by decide +kernel
theorem dX6_undo_7 : decode cX6_undo 7 = .ok (.getfield 100, 3) := by decide +kernel
theorem dX6_undo_10 : decode cX6_undo 10 = .ok (.ifCond .ne 8, 3) := by decide +kernel
theorem dX6_undo_13 : decode cX6_undo 13 = .ok (.aload_n 0, 1) := by decide +kernel
theorem dX6_undo_14 : decode cX6_undo 14 = .ok (.invokevirtual 115, 3) := by decide +kernel
theorem dX6_undo_17 : decode cX6_undo 17 = .ok (.ireturn, 1) := by decide +kernel
theorem dX6_undo_18 : decode cX6_undo 18 = .ok (.aload_n 0, 1) := by decide +kernel
theorem dX6_undo_19 : decode cX6_undo 19 = .ok (.getfield 12, 3) := by decide +kernel
theorem dX6_undo_22 : decode cX6_undo 22 = .ok (.getfield 96, 3) := by decide +kernel
theorem dX6_undo_25 : decode cX6_undo 25 = .ok (.aload_n 0, 1) := by decide +kernel
theorem dX6_undo_26 : decode cX6_undo 26 = .ok (.getfield 12, 3) := by decide +kernel
theorem dX6_undo_29 : decode cX6_undo 29 = .ok (.getfield 76, 3) := by decide +kernel
theorem dX6_undo_32 : decode cX6_undo 32 = .ok (.invokevirtual 155, 3) := by decide +kernel
theorem dX6_undo_35 : decode cX6_undo 35 = .ok (.aload_n 0, 1) := by decide +kernel
theorem dX6_undo_36 : decode cX6_undo 36 = .ok (.getfield 12, 3) := by decide +kernel
theorem dX6_undo_39 : decode cX6_undo 39 = .ok (.getfield 76, 3) := by decide +kernel
theorem dX6_undo_42 : decode cX6_undo 42 = .ok (.getfield 140, 3) := by decide +kernel
theorem dX6_undo_45 : decode cX6_undo 45 = .ok (.ireturn, 1) := by decide +kernel
theorem dX6_of_0 : decode cX6_of 0 = .ok (.aload_n 0, 1) := by decide +kernel
theorem dX6_of_1 : decode cX6_of 1 = .ok (.getfield 12, 3) := by decide +kernel
theorem dX6_of_4 : decode cX6_of 4 = .ok (.getfield 76, 3) := by decide +kernel
theorem dX6_of_7 : decode cX6_of 7 = .ok (.iload_n 1, 1) := by decide +kernel
theorem dX6_of_8 : decode cX6_of 8 = .ok (.invokevirtual 134, 3) := by decide +kernel
theorem dX6_of_11 : decode cX6_of 11 = .ok (.ifCond .eq 12, 3) := by decide +kernel
theorem dX6_of_14 : decode cX6_of 14 = .ok (.iload_n 2, 1) := by decide +kernel
theorem dX6_of_15 : decode cX6_of 15 = .ok (.iconst 0, 1) := by decide +kernel
theorem dX6_of_16 : decode cX6_of 16 = .ok (.iconst 2, 1) := by decide +kernel
theorem dX6_of_17 : decode cX6_of 17 = .ok (.invokestatic 118, 3) := by decide +kernel
theorem dX6_of_20 : decode cX6_of 20 = .ok (.ifCond .ne 10, 3) := by decide +kernel
theorem dX6_of_23 : decode cX6_of 23 = .ok (.aload_n 0, 1) := by decide +kernel
theorem dX6_of_24 : decode cX6_of 24 = .ok (.bipush (-2), 2) := by decide +kernel
theorem dX6_of_26 : decode cX6_of 26 = .ok (.invokevirtual 72, 3) := by decide +kernel
theorem dX6_of_29 : decode cX6_of 29 = .ok (.ireturn, 1) := by decide +kernel
theorem dX6_of_30 : decode cX6_of 30 = .ok (.iload_n 2, 1) := by decide +kernel
theorem dX6_of_31 : decode cX6_of 31 = .ok (.ifCond .ne 16, 3) := by decide +kernel
theorem dX6_of_34 : decode cX6_of 34 = .ok (.aload_n 0, 1) := by decide +kernel
theorem dX6_of_35 : decode cX6_of 35 = .ok (.getfield 12, 3) := by decide +kernel
theorem dX6_of_38 : decode cX6_of 38 = .ok (.getfield 76, 3) := by decide +kernel
theorem dX6_of_41 : decode cX6_of 41 = .ok (.getfield 158, 3) := by decide +kernel
theorem dX6_of_44 : decode cX6_of 44 = .ok (.iload_n 1, 1) := by decide +kernel
theorem dX6_of_45 : decode cX6_of 45 = .ok (.iaload, 1) := by decide +kernel
theorem dX6_of_46 : decode cX6_of 46 = .ok (.ireturn, 1) := by decide +kernel
theorem dX6_of_47 : decode cX6_of 47 = .ok (.iload_n 2, 1) := by decide +kernel
theorem dX6_of_48 : decode cX6_of 48 = .ok (.iconst 1, 1) := by decide +kernel
theorem dX6_of_49 : decode cX6_of 49 = .ok (.if_icmp .ne 18, 3) := by decide +kernel
theorem dX6_of_52 : decode cX6_of 52 = .ok (.aload_n 0, 1) := by decide +kernel
theorem dX6_of_53 : decode cX6_of 53 = .ok (.getfield 12, 3) := by decide +kernel
theorem dX6_of_56 : decode cX6_of 56 = .ok (.getfield 76, 3) := by decide +kernel
theorem dX6_of_59 : decode cX6_of 59 = .ok (.getfield 161, 3) := by decide +kernel
theorem dX6_of_62 : decode cX6_of 62 = .ok (.iload_n 1, 1) := by decide +kernel
theorem dX6_of_63 : decode cX6_of 63 = .ok (.iaload, 1) := by decide +kernel
theorem dX6_of_64 : decode cX6_of 64 = .ok (.goto 14, 3) := by decide +kernel
theorem dX6_of_67 : decode cX6_of 67 = .ok (.aload_n 0, 1) := by decide +kernel
theorem dX6_of_68 : decode cX6_of 68 = .ok (.getfield 12, 3) := by decide +kernel
theorem dX6_of_71 : decode cX6_of 71 = .ok (.getfield 76, 3) := by decide +kernel
theorem dX6_of_74 : decode cX6_of 74 = .ok (.iload_n 1, 1) := by decide +kernel
theorem dX6_of_75 : decode cX6_of 75 = .ok (.invokevirtual 164, 3) := by decide +kernel
theorem dX6_of_78 : decode cX6_of 78 = .ok (.ireturn, 1) := by decide +kernel
theorem dX6_about_0 : decode cX6_about 0 = .ok (.aload_n 0, 1) := by decide +kernel
theorem dX6_about_1 : decode cX6_about 1 = .ok (.getfield 12, 3) := by decide +kernel
theorem dX6_about_4 : decode cX6_about 4 = .ok (.getfield 76, 3) := by decide +kernel
theorem dX6_about_7 : decode cX6_about 7 = .ok (.iload_n 1, 1) := by decide +kernel
theorem dX6_about_8 : decode cX6_about 8 = .ok (.invokevirtual 167, 3) := by decide +kernel
theorem dX6_about_11 : decode cX6_about 11 = .ok (.ifCond .eq 12, 3) := by decide +kernel
theorem dX6_about_14 : decode cX6_about 14 = .ok (.iload_n 2, 1) := by decide +kernel
theorem dX6_about_15 : decode cX6_about 15 = .ok (.iconst 0, 1) := by decide +kernel
theorem dX6_about_16 : decode cX6_about 16 = .ok (.iconst 2, 1) := by decide +kernel
theorem dX6_about_17 : decode cX6_about 17 = .ok (.invokestatic 118, 3) := by decide +kernel
theorem dX6_about_20 : decode cX6_about 20 = .ok (.ifCond .ne 10, 3) := by decide +kernel
theorem dX6_about_23 : decode cX6_about 23 = .ok (.aload_n 0, 1) := by decide +kernel
theorem dX6_about_24 : decode cX6_about 24 = .ok (.bipush (-2), 2) := by decide +kernel
theorem dX6_about_26 : decode cX6_about 26 = .ok (.invokevirtual 72, 3) := by decide +kernel
theorem dX6_about_29 : decode cX6_about 29 = .ok (.ireturn, 1) := by decide +kernel
theorem dX6_about_30 : decode cX6_about 30 = .ok (.iload_n 2, 1) := by decide +kernel
theorem dX6_about_31 : decode cX6_about 31 = .ok (.ifCond .ne 16, 3) := by decide +kernel
theorem dX6_about_34 : decode cX6_about 34 = .ok (.aload_n 0, 1) := by decide +kernel
theorem dX6_about_35 : decode cX6_about 35 = .ok (.getfield 12, 3) := by decide +kernel
theorem dX6_about_38 : decode cX6_about 38 = .ok (.getfield 76, 3) := by decide +kernel
theorem dX6_about_41 : decode cX6_about 41 = .ok (.getfield 170, 3) := by decide +kernel
theorem dX6_about_44 : decode cX6_about 44 = .ok (.iload_n 1, 1) := by decide +kernel
theorem dX6_about_45 : decode cX6_about 45 = .ok (.iaload, 1) := by decide +kernel
theorem dX6_about_46 : decode cX6_about 46 = .ok (.ireturn, 1) := by decide +kernel
theorem dX6_about_47 : decode cX6_about 47 = .ok (.aload_n 0, 1) := by decide +kernel
theorem dX6_about_48 : decode cX6_about 48 = .ok (.getfield 12, 3) := by decide +kernel
theorem dX6_about_51 : decode cX6_about 51 = .ok (.getfield 76, 3) := by decide +kernel
theorem dX6_about_54 : decode cX6_about 54 = .ok (.getfield 173, 3) := by decide +kernel
theorem dX6_about_57 : decode cX6_about 57 = .ok (.iload_n 1, 1) := by decide +kernel
theorem dX6_about_58 : decode cX6_about 58 = .ok (.iaload, 1) := by decide +kernel
theorem dX6_about_59 : decode cX6_about 59 = .ok (.istore_n 3, 1) := by decide +kernel
theorem dX6_about_60 : decode cX6_about 60 = .ok (.iload_n 2, 1) := by decide +kernel
theorem dX6_about_61 : decode cX6_about 61 = .ok (.iconst 1, 1) := by decide +kernel
theorem dX6_about_62 : decode cX6_about 62 = .ok (.if_icmp .ne 7, 3) := by decide +kernel
theorem dX6_about_65 : decode cX6_about 65 = .ok (.iload_n 3, 1) := by decide +kernel
theorem dX6_about_66 : decode cX6_about 66 = .ok (.goto 14, 3) := by decide +kernel
theorem dX6_about_69 : decode cX6_about 69 = .ok (.iload_n 3, 1) := by decide +kernel
theorem dX6_about_70 : decode cX6_about 70 = .ok (.aload_n 0, 1) := by decide +kernel
theorem dX6_about_71 : decode cX6_about 71 = .ok (.getfield 12, 3) := by decide +kernel
theorem dX6_about_74 : decode cX6_about 74 = .ok (.getfield 112, 3) := by decide +kernel
theorem dX6_about_77 : decode cX6_about 77 = .ok (.invokestatic 176, 3) := by decide +kernel
theorem dX6_about_80 : decode cX6_about 80 = .ok (.ireturn, 1) := by decide +kernel
theorem dX6_goes_0 : decode cX6_goes 0 = .ok (.aload_n 0, 1) := by decide +kernel
theorem dX6_goes_1 : decode cX6_goes 1 = .ok (.getfield 12, 3) := by decide +kernel
theorem dX6_goes_4 : decode cX6_goes 4 = .ok (.getfield 76, 3) := by decide +kernel
theorem dX6_goes_7 : decode cX6_goes 7 = .ok (.iload_n 1, 1) := by decide +kernel
theorem dX6_goes_8 : decode cX6_goes 8 = .ok (.invokevirtual 134, 3) := by decide +kernel
theorem dX6_goes_11 : decode cX6_goes 11 = .ok (.ifCond .eq 10, 3) := by decide +kernel
theorem dX6_goes_14 : decode cX6_goes 14 = .ok (.iload_n 2, 1) := by decide +kernel
theorem dX6_goes_15 : decode cX6_goes 15 = .ok (.invokestatic 137, 3) := by decide +kernel
theorem dX6_goes_18 : decode cX6_goes 18 = .ok (.ifCond .ne 10, 3) := by decide +kernel
theorem dX6_goes_21 : decode cX6_goes 21 = .ok (.aload_n 0, 1) := by decide +kernel
theorem dX6_goes_22 : decode cX6_goes 22 = .ok (.bipush (-2), 2) := by decide +kernel
theorem dX6_goes_24 : decode cX6_goes 24 = .ok (.invokevirtual 72, 3) := by decide +kernel
theorem dX6_goes_27 : decode cX6_goes 27 = .ok (.ireturn, 1) := by decide +kernel
theorem dX6_goes_28 : decode cX6_goes 28 = .ok (.aload_n 0, 1) := by decide +kernel
theorem dX6_goes_29 : decode cX6_goes 29 = .ok (.getfield 12, 3) := by decide +kernel
theorem dX6_goes_32 : decode cX6_goes 32 = .ok (.getfield 76, 3) := by decide +kernel
theorem dX6_goes_35 : decode cX6_goes 35 = .ok (.iload_n 1, 1) := by decide +kernel
theorem dX6_goes_36 : decode cX6_goes 36 = .ok (.iload_n 2, 1) := by decide +kernel
theorem dX6_goes_37 : decode cX6_goes 37 = .ok (.invokevirtual 179, 3) := by decide +kernel
theorem dX6_goes_40 : decode cX6_goes 40 = .ok (.ireturn, 1) := by decide +kernel
theorem dX6_gives_0 : decode cX6_gives 0 = .ok (.aload_n 0, 1) := by decide +kernel
theorem dX6_gives_1 : decode cX6_gives 1 = .ok (.getfield 12, 3) := by decide +kernel
theorem dX6_gives_4 : decode cX6_gives 4 = .ok (.getfield 76, 3) := by decide +kernel
theorem dX6_gives_7 : decode cX6_gives 7 = .ok (.iload_n 1, 1) := by decide +kernel
theorem dX6_gives_8 : decode cX6_gives 8 = .ok (.invokevirtual 167, 3) := by decide +kernel
theorem dX6_gives_11 : decode cX6_gives 11 = .ok (.ifCond .eq 24, 3) := by decide +kernel
theorem dX6_gives_14 : decode cX6_gives 14 = .ok (.aload_n 0, 1) := by decide +kernel
theorem dX6_gives_15 : decode cX6_gives 15 = .ok (.getfield 12, 3) := by decide +kernel
theorem dX6_gives_18 : decode cX6_gives 18 = .ok (.getfield 76, 3) := by decide +kernel
theorem dX6_gives_21 : decode cX6_gives 21 = .ok (.iload_n 2, 1) := by decide +kernel
theorem dX6_gives_22 : decode cX6_gives 22 = .ok (.invokevirtual 134, 3) := by decide +kernel
theorem dX6_gives_25 : decode cX6_gives 25 = .ok (.ifCond .eq 10, 3) := by decide +kernel
theorem dX6_gives_28 : decode cX6_gives 28 = .ok (.iload_n 3, 1) := by decide +kernel
theorem dX6_gives_29 : decode cX6_gives 29 = .ok (.invokestatic 137, 3) := by decide +kernel
theorem dX6_gives_32 : decode cX6_gives 32 = .ok (.ifCond .ne 10, 3) := by decide +kernel
theorem dX6_gives_35 : decode cX6_gives 35 = .ok (.aload_n 0, 1) := by decide +kernel
theorem dX6_gives_36 : decode cX6_gives 36 = .ok (.bipush (-2), 2) := by decide +kernel
theorem dX6_gives_38 : decode cX6_gives 38 = .ok (.invokevirtual 72, 3) := by decide +kernel
theorem dX6_gives_41 : decode cX6_gives 41 = .ok (.ireturn, 1) := by decide +kernel
theorem dX6_gives_42 : decode cX6_gives 42 = .ok (.aload_n 0, 1) := by decide +kernel
theorem dX6_gives_43 : decode cX6_gives 43 = .ok (.getfield 12, 3) := by decide +kernel
theorem dX6_gives_46 : decode cX6_gives 46 = .ok (.getfield 76, 3) := by decide +kernel
theorem dX6_gives_49 : decode cX6_gives 49 = .ok (.iload_n 1, 1) := by decide +kernel
theorem dX6_gives_50 : decode cX6_gives 50 = .ok (.iload_n 2, 1) := by decide +kernel
theorem dX6_gives_51 : decode cX6_gives 51 = .ok (.iload_n 3, 1) := by decide +kernel
theorem dX6_gives_52 : decode cX6_gives 52 = .ok (.invokevirtual 182, 3) := by decide +kernel
theorem dX6_gives_55 : decode cX6_gives 55 = .ok (.ireturn, 1) := by decide +kernel
theorem dX6_folded_0 : decode cX6_folded 0 = .ok (.aload_n 0, 1) := by decide +kernel
theorem dX6_folded_1 : decode cX6_folded 1 = .ok (.getfield 12, 3) := by decide +kernel
theorem dX6_folded_4 : decode cX6_folded 4 = .ok (.getfield 76, 3) := by decide +kernel
theorem dX6_folded_7 : decode cX6_folded 7 = .ok (.aload_n 0, 1) := by decide +kernel
theorem dX6_folded_8 : decode cX6_folded 8 = .ok (.getfield 12, 3) := by decide +kernel
theorem dX6_folded_11 : decode cX6_folded 11 = .ok (.getfield 112, 3) := by decide +kernel
theorem dX6_folded_14 : decode cX6_folded 14 = .ok (.invokevirtual 186, 3) := by decide +kernel
theorem dX6_folded_17 : decode cX6_folded 17 = .ok (.ireturn, 1) := by decide +kernel
theorem dX6_drive_0 : decode cX6_drive 0 = .ok (.iload 4, 2) := by decide +kernel
theorem dX6_drive_2 : decode cX6_drive 2 = .ok (.bipush (-2), 2) := by decide +kernel
theorem dX6_drive_4 : decode cX6_drive 4 = .ok (.if_icmp .eq 8, 3) := by decide +kernel
theorem dX6_drive_7 : decode cX6_drive 7 = .ok (.iload 4, 2) := by decide +kernel
theorem dX6_drive_9 : decode cX6_drive 9 = .ok (.ifCond .lt 7, 3) := by decide +kernel
theorem dX6_drive_12 : decode cX6_drive 12 = .ok (.iconst 1, 1) := by decide +kernel
theorem dX6_drive_13 : decode cX6_drive 13 = .ok (.goto 4, 3) := by decide +kernel
theorem dX6_drive_16 : decode cX6_drive 16 = .ok (.iconst 0, 1) := by decide +kernel
theorem dX6_drive_17 : decode cX6_drive 17 = .ok (.istore 5, 2) := by decide +kernel
theorem dX6_drive_19 : decode cX6_drive 19 = .ok (.aload_n 0, 1) := by decide +kernel
theorem dX6_drive_20 : decode cX6_drive 20 = .ok (.getfield 12, 3) := by decide +kernel
theorem dX6_drive_23 : decode cX6_drive 23 = .ok (.getfield 76, 3) := by decide +kernel
theorem dX6_drive_26 : decode cX6_drive 26 = .ok (.iload_n 1, 1) := by decide +kernel
theorem dX6_drive_27 : decode cX6_drive 27 = .ok (.invokevirtual 167, 3) := by decide +kernel
theorem dX6_drive_30 : decode cX6_drive 30 = .ok (.ifCond .eq 29, 3) := by decide +kernel
theorem dX6_drive_33 : decode cX6_drive 33 = .ok (.aload_n 0, 1) := by decide +kernel
theorem dX6_drive_34 : decode cX6_drive 34 = .ok (.getfield 12, 3) := by decide +kernel
theorem dX6_drive_37 : decode cX6_drive 37 = .ok (.getfield 76, 3) := by decide +kernel
theorem dX6_drive_40 : decode cX6_drive 40 = .ok (.iload_n 2, 1) := by decide +kernel
theorem dX6_drive_41 : decode cX6_drive 41 = .ok (.invokevirtual 134, 3) := by decide +kernel
theorem dX6_drive_44 : decode cX6_drive 44 = .ok (.ifCond .eq 15, 3) := by decide +kernel
theorem dX6_drive_47 : decode cX6_drive 47 = .ok (.iload_n 3, 1) := by decide +kernel
theorem dX6_drive_48 : decode cX6_drive 48 = .ok (.invokestatic 68, 3) := by decide +kernel
theorem dX6_drive_51 : decode cX6_drive 51 = .ok (.ifCond .eq 8, 3) := by decide +kernel
theorem dX6_drive_54 : decode cX6_drive 54 = .ok (.iload 5, 2) := by decide +kernel
theorem dX6_drive_56 : decode cX6_drive 56 = .ok (.ifCond .ne 10, 3) := by decide +kernel
theorem dX6_drive_59 : decode cX6_drive 59 = .ok (.aload_n 0, 1) := by decide +kernel
theorem dX6_drive_60 : decode cX6_drive 60 = .ok (.bipush (-10), 2) := by decide +kernel
theorem dX6_drive_62 : decode cX6_drive 62 = .ok (.invokevirtual 72, 3) := by decide +kernel
theorem dX6_drive_65 : decode cX6_drive 65 = .ok (.ireturn, 1) := by decide +kernel
theorem dX6_drive_66 : decode cX6_drive 66 = .ok (.aload_n 0, 1) := by decide +kernel
theorem dX6_drive_67 : decode cX6_drive 67 = .ok (.getfield 37, 3) := by decide +kernel
theorem dX6_drive_70 : decode cX6_drive 70 = .ok (.aload_n 0, 1) := by decide +kernel
theorem dX6_drive_71 : decode cX6_drive 71 = .ok (.getfield 12, 3) := by decide +kernel
theorem dX6_drive_74 : decode cX6_drive 74 = .ok (.getfield 76, 3) := by decide +kernel
theorem dX6_drive_77 : decode cX6_drive 77 = .ok (.iload_n 1, 1) := by decide +kernel
theorem dX6_drive_78 : decode cX6_drive 78 = .ok (.iload_n 2, 1) := by decide +kernel
theorem dX6_drive_79 : decode cX6_drive 79 = .ok (.iload_n 3, 1) := by decide +kernel
theorem dX6_drive_80 : decode cX6_drive 80 = .ok (.invokevirtual 189, 3) := by decide +kernel
theorem dX6_drive_83 : decode cX6_drive 83 = .ok (.istore 6, 2) := by decide +kernel
theorem dX6_drive_85 : decode cX6_drive 85 = .ok (.iload 6, 2) := by decide +kernel
theorem dX6_drive_87 : decode cX6_drive 87 = .ok (.bipush (-6), 2) := by decide +kernel
theorem dX6_drive_89 : decode cX6_drive 89 = .ok (.if_icmp .eq 10, 3) := by decide +kernel
theorem dX6_drive_92 : decode cX6_drive 92 = .ok (.iload 4, 2) := by decide +kernel
theorem dX6_drive_94 : decode cX6_drive 94 = .ok (.bipush (-2), 2) := by decide +kernel
theorem dX6_drive_96 : decode cX6_drive 96 = .ok (.if_icmp .ne 6, 3) := by decide +kernel
theorem dX6_drive_99 : decode cX6_drive 99 = .ok (.iload 6, 2) := by decide +kernel
theorem dX6_drive_101 : decode cX6_drive 101 = .ok (.ireturn, 1) := by decide +kernel
theorem dX6_drive_102 : decode cX6_drive 102 = .ok (.iload 4, 2) := by decide +kernel
theorem dX6_drive_104 : decode cX6_drive 104 = .ok (.iload 6, 2) := by decide +kernel
theorem dX6_drive_106 : decode cX6_drive 106 = .ok (.if_icmp .ge 18, 3) := by decide +kernel
theorem dX6_drive_109 : decode cX6_drive 109 = .ok (.aload_n 0, 1) := by decide +kernel
theorem dX6_drive_110 : decode cX6_drive 110 = .ok (.getfield 37, 3) := by decide +kernel
theorem dX6_drive_113 : decode cX6_drive 113 = .ok (.iload 4, 2) := by decide +kernel
theorem dX6_drive_115 : decode cX6_drive 115 = .ok (.iload 6, 2) := by decide +kernel
theorem dX6_drive_117 : decode cX6_drive 117 = .ok (.iload_n 3, 1) := by decide +kernel
theorem dX6_drive_118 : decode cX6_drive 118 = .ok (.invokevirtual 193, 3) := by decide +kernel
theorem dX6_drive_121 : decode cX6_drive 121 = .ok (.goto 5, 3) := by decide +kernel
theorem dX6_drive_124 : decode cX6_drive 124 = .ok (.bipush (-5), 2) := by decide +kernel
theorem dX6_drive_126 : decode cX6_drive 126 = .ok (.ireturn, 1) := by decide +kernel
theorem dX6_near_0 : decode cX6_near 0 = .ok (.aload_n 0, 1) := by decide +kernel
theorem dX6_near_1 : decode cX6_near 1 = .ok (.getfield 12, 3) := by decide +kernel
theorem dX6_near_4 : decode cX6_near 4 = .ok (.getfield 76, 3) := by decide +kernel
theorem dX6_near_7 : decode cX6_near 7 = .ok (.iload_n 1, 1) := by decide +kernel
theorem dX6_near_8 : decode cX6_near 8 = .ok (.invokevirtual 134, 3) := by decide +kernel
theorem dX6_near_11 : decode cX6_near 11 = .ok (.ifCond .eq 12, 3) := by decide +kernel
theorem dX6_near_14 : decode cX6_near 14 = .ok (.iload_n 2, 1) := by decide +kernel
theorem dX6_near_15 : decode cX6_near 15 = .ok (.iconst 0, 1) := by decide +kernel
theorem dX6_near_16 : decode cX6_near 16 = .ok (.iconst 1, 1) := by decide +kernel
theorem dX6_near_17 : decode cX6_near 17 = .ok (.invokestatic 118, 3) := by decide +kernel
theorem dX6_near_20 : decode cX6_near 20 = .ok (.ifCond .ne 10, 3) := by decide +kernel
theorem dX6_near_23 : decode cX6_near 23 = .ok (.aload_n 0, 1) := by decide +kernel
theorem dX6_near_24 : decode cX6_near 24 = .ok (.bipush (-2), 2) := by decide +kernel
theorem dX6_near_26 : decode cX6_near 26 = .ok (.invokevirtual 72, 3) := by decide +kernel
theorem dX6_near_29 : decode cX6_near 29 = .ok (.ireturn, 1) := by decide +kernel
theorem dX6_near_30 : decode cX6_near 30 = .ok (.iconst 0, 1) := by decide +kernel
theorem dX6_near_31 : decode cX6_near 31 = .ok (.istore_n 3, 1) := by decide +kernel
theorem dX6_near_32 : decode cX6_near 32 = .ok (.iload_n 3, 1) := by decide +kernel
theorem dX6_near_33 : decode cX6_near 33 = .ok (.iconst 5, 1) := by decide +kernel
theorem dX6_near_34 : decode cX6_near 34 = .ok (.if_icmp .ge 53, 3) := by decide +kernel
theorem dX6_near_37 : decode cX6_near 37 = .ok (.aload_n 0, 1) := by decide +kernel
theorem dX6_near_38 : decode cX6_near 38 = .ok (.getfield 44, 3) := by decide +kernel
theorem dX6_near_41 : decode cX6_near 41 = .ok (.aload_n 0, 1) := by decide +kernel
theorem dX6_near_42 : decode cX6_near 42 = .ok (.getfield 12, 3) := by decide +kernel
theorem dX6_near_45 : decode cX6_near 45 = .ok (.getfield 76, 3) := by decide +kernel
theorem dX6_near_48 : decode cX6_near 48 = .ok (.invokevirtual 196, 3) := by decide +kernel
theorem dX6_near_51 : decode cX6_near 51 = .ok (.aload_n 0, 1) := by decide +kernel
theorem dX6_near_52 : decode cX6_near 52 = .ok (.getfield 44, 3) := by decide +kernel
theorem dX6_near_55 : decode cX6_near 55 = .ok (.iload_n 1, 1) := by decide +kernel
theorem dX6_near_56 : decode cX6_near 56 = .ok (.iload_n 3, 1) := by decide +kernel
theorem dX6_near_57 : decode cX6_near 57 = .ok (.invokevirtual 147, 3) := by decide +kernel
theorem dX6_near_60 : decode cX6_near 60 = .ok (.pop, 1) := by decide +kernel
theorem dX6_near_61 : decode cX6_near 61 = .ok (.aload_n 0, 1) := by decide +kernel
theorem dX6_near_62 : decode cX6_near 62 = .ok (.getfield 58, 3) := by decide +kernel
theorem dX6_near_65 : decode cX6_near 65 = .ok (.iload_n 3, 1) := by decide +kernel
theorem dX6_near_66 : decode cX6_near 66 = .ok (.aload_n 0, 1) := by decide +kernel
theorem dX6_near_67 : decode cX6_near 67 = .ok (.getfield 44, 3) := by decide +kernel
theorem dX6_near_70 : decode cX6_near 70 = .ok (.aload_n 0, 1) := by decide +kernel
theorem dX6_near_71 : decode cX6_near 71 = .ok (.getfield 12, 3) := by decide +kernel
theorem dX6_near_74 : decode cX6_near 74 = .ok (.getfield 112, 3) := by decide +kernel
theorem dX6_near_77 : decode cX6_near 77 = .ok (.invokevirtual 198, 3) := by decide +kernel
theorem dX6_near_80 : decode cX6_near 80 = .ok (.iastore, 1) := by decide +kernel
theorem dX6_near_81 : decode cX6_near 81 = .ok (.iinc 3 1, 3) := by decide +kernel
theorem dX6_near_84 : decode cX6_near 84 = .ok (.goto (-52), 3) := by decide +kernel
theorem dX6_near_87 : decode cX6_near 87 = .ok (.aload_n 0, 1) := by decide +kernel
theorem dX6_near_88 : decode cX6_near 88 = .ok (.getfield 58, 3) := by decide +kernel
theorem dX6_near_91 : decode cX6_near 91 = .ok (.iconst 5, 1) := by decide +kernel
theorem dX6_near_92 : decode cX6_near 92 = .ok (.invokestatic 201, 3) := by decide +kernel
theorem dX6_near_95 : decode cX6_near 95 = .ok (.istore_n 3, 1) := by decide +kernel
theorem dX6_near_96 : decode cX6_near 96 = .ok (.iload_n 2, 1) := by decide +kernel
theorem dX6_near_97 : decode cX6_near 97 = .ok (.ifCond .ne 7, 3) := by decide +kernel
theorem dX6_near_100 : decode cX6_near 100 = .ok (.iload_n 3, 1) := by decide +kernel
theorem dX6_near_101 : decode cX6_near 101 = .ok (.goto 9, 3) := by decide +kernel
theorem dX6_near_104 : decode cX6_near 104 = .ok (.aload_n 0, 1) := by decide +kernel
theorem dX6_near_105 : decode cX6_near 105 = .ok (.getfield 58, 3) := by decide +kernel
theorem dX6_near_108 : decode cX6_near 108 = .ok (.iload_n 3, 1) := by decide +kernel
theorem dX6_near_109 : decode cX6_near 109 = .ok (.iaload, 1) := by decide +kernel
theorem dX6_near_110 : decode cX6_near 110 = .ok (.ireturn, 1) := by decide +kernel
theorem dX6_gather_0 : decode cX6_gather 0 = .ok (.aload_n 0, 1) := by decide +kernel
theorem dX6_gather_1 : decode cX6_gather 1 = .ok (.getfield 12, 3) := by decide +kernel
theorem dX6_gather_4 : decode cX6_gather 4 = .ok (.getfield 76, 3) := by decide +kernel
theorem dX6_gather_7 : decode cX6_gather 7 = .ok (.iload_n 1, 1) := by decide +kernel
theorem dX6_gather_8 : decode cX6_gather 8 = .ok (.invokevirtual 134, 3) := by decide +kernel
theorem dX6_gather_11 : decode cX6_gather 11 = .ok (.ifCond .eq 12, 3) := by decide +kernel
theorem dX6_gather_14 : decode cX6_gather 14 = .ok (.iload_n 2, 1) := by decide +kernel
theorem dX6_gather_15 : decode cX6_gather 15 = .ok (.iconst 0, 1) := by decide +kernel
theorem dX6_gather_16 : decode cX6_gather 16 = .ok (.iconst 1, 1) := by decide +kernel
theorem dX6_gather_17 : decode cX6_gather 17 = .ok (.invokestatic 118, 3) := by decide +kernel
theorem dX6_gather_20 : decode cX6_gather 20 = .ok (.ifCond .ne 10, 3) := by decide +kernel
theorem dX6_gather_23 : decode cX6_gather 23 = .ok (.aload_n 0, 1) := by decide +kernel
theorem dX6_gather_24 : decode cX6_gather 24 = .ok (.bipush (-2), 2) := by decide +kernel
theorem dX6_gather_26 : decode cX6_gather 26 = .ok (.invokevirtual 72, 3) := by decide +kernel
theorem dX6_gather_29 : decode cX6_gather 29 = .ok (.ireturn, 1) := by decide +kernel
theorem dX6_gather_30 : decode cX6_gather 30 = .ok (.iconst (-1), 1) := by decide +kernel
theorem dX6_gather_31 : decode cX6_gather 31 = .ok (.istore_n 3, 1) := by decide +kernel
theorem dX6_gather_32 : decode cX6_gather 32 = .ok (.iconst 0, 1) := by decide +kernel
theorem dX6_gather_33 : decode cX6_gather 33 = .ok (.istore 4, 2) := by decide +kernel
theorem dX6_gather_35 : decode cX6_gather 35 = .ok (.iconst 0, 1) := by decide +kernel
theorem dX6_gather_36 : decode cX6_gather 36 = .ok (.istore 5, 2) := by decide +kernel
theorem dX6_gather_38 : decode cX6_gather 38 = .ok (.iload 5, 2) := by decide +kernel
theorem dX6_gather_40 : decode cX6_gather 40 = .ok (.bipush 125, 2) := by decide +kernel
theorem dX6_gather_42 : decode cX6_gather 42 = .ok (.if_icmp .ge 31, 3) := by decide +kernel
theorem dX6_gather_45 : decode cX6_gather 45 = .ok (.aload_n 0, 1) := by decide +kernel
theorem dX6_gather_46 : decode cX6_gather 46 = .ok (.iload_n 1, 1) := by decide +kernel
theorem dX6_gather_47 : decode cX6_gather 47 = .ok (.iload 5, 2) := by decide +kernel
theorem dX6_gather_49 : decode cX6_gather 49 = .ok (.invokevirtual 205, 3) := by decide +kernel
theorem dX6_gather_52 : decode cX6_gather 52 = .ok (.istore 6, 2) := by decide +kernel
theorem dX6_gather_54 : decode cX6_gather 54 = .ok (.iload 6, 2) := by decide +kernel
theorem dX6_gather_56 : decode cX6_gather 56 = .ok (.iload_n 3, 1) := by decide +kernel
theorem dX6_gather_57 : decode cX6_gather 57 = .ok (.if_icmp .le 10, 3) := by decide +kernel
theorem dX6_gather_60 : decode cX6_gather 60 = .ok (.iload 6, 2) := by decide +kernel
theorem dX6_gather_62 : decode cX6_gather 62 = .ok (.istore_n 3, 1) := by decide +kernel
theorem dX6_gather_63 : decode cX6_gather 63 = .ok (.iload 5, 2) := by decide +kernel
theorem dX6_gather_65 : decode cX6_gather 65 = .ok (.istore 4, 2) := by decide +kernel
theorem dX6_gather_67 : decode cX6_gather 67 = .ok (.iinc 5 1, 3) := by decide +kernel
theorem dX6_gather_70 : decode cX6_gather 70 = .ok (.goto (-32), 3) := by decide +kernel
theorem dX6_gather_73 : decode cX6_gather 73 = .ok (.iload_n 2, 1) := by decide +kernel
theorem dX6_gather_74 : decode cX6_gather 74 = .ok (.ifCond .ne 7, 3) := by decide +kernel
theorem dX6_gather_77 : decode cX6_gather 77 = .ok (.iload_n 3, 1) := by decide +kernel
theorem dX6_gather_78 : decode cX6_gather 78 = .ok (.goto 26, 3) := by decide +kernel
theorem dX6_gather_81 : decode cX6_gather 81 = .ok (.bipush 100, 2) := by decide +kernel
theorem dX6_gather_83 : decode cX6_gather 83 = .ok (.iload 4, 2) := by decide +kernel
theorem dX6_gather_85 : decode cX6_gather 85 = .ok (.invokestatic 208, 3) := by decide +kernel
theorem dX6_gather_88 : decode cX6_gather 88 = .ok (.imul, 1) := by decide +kernel
theorem dX6_gather_89 : decode cX6_gather 89 = .ok (.bipush 10, 2) := by decide +kernel
theorem dX6_gather_91 : decode cX6_gather 91 = .ok (.iload 4, 2) := by decide +kernel
theorem dX6_gather_93 : decode cX6_gather 93 = .ok (.invokestatic 211, 3) := by decide +kernel
theorem dX6_gather_96 : decode cX6_gather 96 = .ok (.imul, 1) := by decide +kernel
theorem dX6_gather_97 : decode cX6_gather 97 = .ok (.iadd, 1) := by decide +kernel
theorem dX6_gather_98 : decode cX6_gather 98 = .ok (.iload 4, 2) := by decide +kernel
theorem dX6_gather_100 : decode cX6_gather 100 = .ok (.invokestatic 214, 3) := by decide +kernel
theorem dX6_gather_103 : decode cX6_gather 103 = .ok (.iadd, 1) := by decide +kernel
theorem dX6_gather_104 : decode cX6_gather 104 = .ok (.ireturn, 1) := by decide +kernel
theorem dX6_seen_0 : decode cX6_seen 0 = .ok (.aload_n 0, 1) := by decide +kernel
theorem dX6_seen_1 : decode cX6_seen 1 = .ok (.getfield 12, 3) := by decide +kernel
theorem dX6_seen_4 : decode cX6_seen 4 = .ok (.getfield 76, 3) := by decide +kernel
theorem dX6_seen_7 : decode cX6_seen 7 = .ok (.iload_n 1, 1) := by decide +kernel
theorem dX6_seen_8 : decode cX6_seen 8 = .ok (.invokevirtual 167, 3) := by decide +kernel
theorem dX6_seen_11 : decode cX6_seen 11 = .ok (.ifCond .eq 10, 3) := by decide +kernel
theorem dX6_seen_14 : decode cX6_seen 14 = .ok (.iload_n 2, 1) := by decide +kernel
theorem dX6_seen_15 : decode cX6_seen 15 = .ok (.invokestatic 68, 3) := by decide +kernel
theorem dX6_seen_18 : decode cX6_seen 18 = .ok (.ifCond .ne 10, 3) := by decide +kernel
theorem dX6_seen_21 : decode cX6_seen 21 = .ok (.aload_n 0, 1) := by decide +kernel
theorem dX6_seen_22 : decode cX6_seen 22 = .ok (.bipush (-2), 2) := by decide +kernel
theorem dX6_seen_24 : decode cX6_seen 24 = .ok (.invokevirtual 72, 3) := by decide +kernel
theorem dX6_seen_27 : decode cX6_seen 27 = .ok (.ireturn, 1) := by decide +kernel
theorem dX6_seen_28 : decode cX6_seen 28 = .ok (.aload_n 0, 1) := by decide +kernel
theorem dX6_seen_29 : decode cX6_seen 29 = .ok (.aload_n 0, 1) := by decide +kernel
theorem dX6_seen_30 : decode cX6_seen 30 = .ok (.getfield 12, 3) := by decide +kernel
theorem dX6_seen_33 : decode cX6_seen 33 = .ok (.getfield 217, 3) := by decide +kernel
theorem dX6_seen_36 : decode cX6_seen 36 = .ok (.iload_n 1, 1) := by decide +kernel
theorem dX6_seen_37 : decode cX6_seen 37 = .ok (.iload_n 2, 1) := by decide +kernel
theorem dX6_seen_38 : decode cX6_seen 38 = .ok (.iconst 0, 1) := by decide +kernel
theorem dX6_seen_39 : decode cX6_seen 39 = .ok (.invokevirtual 221, 3) := by decide +kernel
theorem dX6_seen_42 : decode cX6_seen 42 = .ok (.ireturn, 1) := by decide +kernel
theorem dX6_which_0 : decode cX6_which 0 = .ok (.aload_n 0, 1) := by decide +kernel
theorem dX6_which_1 : decode cX6_which 1 = .ok (.getfield 12, 3) := by decide +kernel
theorem dX6_which_4 : decode cX6_which 4 = .ok (.getfield 76, 3) := by decide +kernel
theorem dX6_which_7 : decode cX6_which 7 = .ok (.iload_n 1, 1) := by decide +kernel
theorem dX6_which_8 : decode cX6_which 8 = .ok (.invokevirtual 134, 3) := by decide +kernel
theorem dX6_which_11 : decode cX6_which 11 = .ok (.ifCond .eq 11, 3) := by decide +kernel
theorem dX6_which_14 : decode cX6_which 14 = .ok (.aload_n 0, 1) := by decide +kernel
theorem dX6_which_15 : decode cX6_which 15 = .ok (.iload_n 1, 1) := by decide +kernel
theorem dX6_which_16 : decode cX6_which 16 = .ok (.invokevirtual 225, 3) := by decide +kernel
theorem dX6_which_19 : decode cX6_which 19 = .ok (.goto 9, 3) := by decide +kernel
theorem dX6_which_22 : decode cX6_which 22 = .ok (.aload_n 0, 1) := by decide +kernel
theorem dX6_which_23 : decode cX6_which 23 = .ok (.bipush (-2), 2) := by decide +kernel
theorem dX6_which_25 : decode cX6_which 25 = .ok (.invokevirtual 72, 3) := by decide +kernel
theorem dX6_which_28 : decode cX6_which 28 = .ok (.ireturn, 1) := by decide +kernel
theorem dX6_whose_0 : decode cX6_whose 0 = .ok (.iload_n 1, 1) := by decide +kernel
theorem dX6_whose_1 : decode cX6_whose 1 = .ok (.iconst (-1), 1) := by decide +kernel
theorem dX6_whose_2 : decode cX6_whose 2 = .ok (.if_icmp .ge 10, 3) := by decide +kernel
theorem dX6_whose_5 : decode cX6_whose 5 = .ok (.aload_n 0, 1) := by decide +kernel
theorem dX6_whose_6 : decode cX6_whose 6 = .ok (.bipush (-10), 2) := by decide +kernel
theorem dX6_whose_8 : decode cX6_whose 8 = .ok (.invokevirtual 72, 3) := by decide +kernel
theorem dX6_whose_11 : decode cX6_whose 11 = .ok (.ireturn, 1) := by decide +kernel
theorem dX6_whose_12 : decode cX6_whose 12 = .ok (.iconst 0, 1) := by decide +kernel
theorem dX6_whose_13 : decode cX6_whose 13 = .ok (.istore_n 2, 1) := by decide +kernel
theorem dX6_whose_14 : decode cX6_whose 14 = .ok (.iconst 0, 1) := by decide +kernel
theorem dX6_whose_15 : decode cX6_whose 15 = .ok (.istore_n 3, 1) := by decide +kernel
theorem dX6_whose_16 : decode cX6_whose 16 = .ok (.iload_n 3, 1) := by decide +kernel
theorem dX6_whose_17 : decode cX6_whose 17 = .ok (.aload_n 0, 1) := by decide +kernel
theorem dX6_whose_18 : decode cX6_whose 18 = .ok (.getfield 12, 3) := by decide +kernel
theorem dX6_whose_21 : decode cX6_whose 21 = .ok (.getfield 76, 3) := by decide +kernel
theorem dX6_whose_24 : decode cX6_whose 24 = .ok (.getfield 89, 3) := by decide +kernel
theorem dX6_whose_27 : decode cX6_whose 27 = .ok (.if_icmp .ge 57, 3) := by decide +kernel
theorem dX6_whose_30 : decode cX6_whose 30 = .ok (.aload_n 0, 1) := by decide +kernel
theorem dX6_whose_31 : decode cX6_whose 31 = .ok (.iload_n 3, 1) := by decide +kernel
theorem dX6_whose_32 : decode cX6_whose 32 = .ok (.invokevirtual 225, 3) := by decide +kernel
theorem dX6_whose_35 : decode cX6_whose 35 = .ok (.istore 4, 2) := by decide +kernel
theorem dX6_whose_37 : decode cX6_whose 37 = .ok (.iconst 0, 1) := by decide +kernel
theorem dX6_whose_38 : decode cX6_whose 38 = .ok (.istore 5, 2) := by decide +kernel
theorem dX6_whose_40 : decode cX6_whose 40 = .ok (.iload 5, 2) := by decide +kernel
theorem dX6_whose_42 : decode cX6_whose 42 = .ok (.iconst 5, 1) := by decide +kernel
theorem dX6_whose_43 : decode cX6_whose 43 = .ok (.if_icmp .ge 35, 3) := by decide +kernel
theorem dX6_whose_46 : decode cX6_whose 46 = .ok (.iload 4, 2) := by decide +kernel
theorem dX6_whose_48 : decode cX6_whose 48 = .ok (.iload 5, 2) := by decide +kernel
theorem dX6_whose_50 : decode cX6_whose 50 = .ok (.invokestatic 228, 3) := by decide +kernel
theorem dX6_whose_53 : decode cX6_whose 53 = .ok (.ifCond .eq 19, 3) := by decide +kernel
theorem dX6_whose_56 : decode cX6_whose 56 = .ok (.iload_n 2, 1) := by decide +kernel
theorem dX6_whose_57 : decode cX6_whose 57 = .ok (.iload_n 1, 1) := by decide +kernel
theorem dX6_whose_58 : decode cX6_whose 58 = .ok (.if_icmp .ne 11, 3) := by decide +kernel
theorem dX6_whose_61 : decode cX6_whose 61 = .ok (.bipush 10, 2) := by decide +kernel
theorem dX6_whose_63 : decode cX6_whose 63 = .ok (.iload_n 3, 1) := by decide +kernel
theorem dX6_whose_64 : decode cX6_whose 64 = .ok (.imul, 1) := by decide +kernel
theorem dX6_whose_65 : decode cX6_whose 65 = .ok (.iload 5, 2) := by decide +kernel
theorem dX6_whose_67 : decode cX6_whose 67 = .ok (.iadd, 1) := by decide +kernel
theorem dX6_whose_68 : decode cX6_whose 68 = .ok (.ireturn, 1) := by decide +kernel
theorem dX6_whose_69 : decode cX6_whose 69 = .ok (.iinc 2 1, 3) := by decide +kernel
theorem dX6_whose_72 : decode cX6_whose 72 = .ok (.iinc 5 1, 3) := by decide +kernel
theorem dX6_whose_75 : decode cX6_whose 75 = .ok (.goto (-35), 3) := by decide +kernel
theorem dX6_whose_78 : decode cX6_whose 78 = .ok (.iinc 3 1, 3) := by decide +kernel
theorem dX6_whose_81 : decode cX6_whose 81 = .ok (.goto (-65), 3) := by decide +kernel
theorem dX6_whose_84 : decode cX6_whose 84 = .ok (.iload_n 1, 1) := by decide +kernel
theorem dX6_whose_85 : decode cX6_whose 85 = .ok (.iconst (-1), 1) := by decide +kernel
theorem dX6_whose_86 : decode cX6_whose 86 = .ok (.if_icmp .ne 7, 3) := by decide +kernel
theorem dX6_whose_89 : decode cX6_whose 89 = .ok (.iload_n 2, 1) := by decide +kernel
theorem dX6_whose_90 : decode cX6_whose 90 = .ok (.goto 5, 3) := by decide +kernel
theorem dX6_whose_93 : decode cX6_whose 93 = .ok (.bipush (-5), 2) := by decide +kernel
theorem dX6_whose_95 : decode cX6_whose 95 = .ok (.ireturn, 1) := by decide +kernel
theorem dX6_tell_0 : decode cX6_tell 0 = .ok (.aload_n 0, 1) := by decide +kernel
theorem dX6_tell_1 : decode cX6_tell 1 = .ok (.getfield 12, 3) := by decide +kernel
theorem dX6_tell_4 : decode cX6_tell 4 = .ok (.getfield 76, 3) := by decide +kernel
theorem dX6_tell_7 : decode cX6_tell 7 = .ok (.iload_n 1, 1) := by decide +kernel
theorem dX6_tell_8 : decode cX6_tell 8 = .ok (.invokevirtual 134, 3) := by decide +kernel
theorem dX6_tell_11 : decode cX6_tell 11 = .ok (.ifCond .ne 10, 3) := by decide +kernel
theorem dX6_tell_14 : decode cX6_tell 14 = .ok (.aload_n 0, 1) := by decide +kernel
theorem dX6_tell_15 : decode cX6_tell 15 = .ok (.bipush (-2), 2) := by decide +kernel
theorem dX6_tell_17 : decode cX6_tell 17 = .ok (.invokevirtual 72, 3) := by decide +kernel
theorem dX6_tell_20 : decode cX6_tell 20 = .ok (.ireturn, 1) := by decide +kernel
theorem dX6_tell_21 : decode cX6_tell 21 = .ok (.aload_n 0, 1) := by decide +kernel
theorem dX6_tell_22 : decode cX6_tell 22 = .ok (.iload_n 1, 1) := by decide +kernel
theorem dX6_tell_23 : decode cX6_tell 23 = .ok (.invokevirtual 225, 3) := by decide +kernel
theorem dX6_tell_26 : decode cX6_tell 26 = .ok (.istore_n 2, 1) := by decide +kernel
theorem dX6_tell_27 : decode cX6_tell 27 = .ok (.iload_n 2, 1) := by decide +kernel
theorem dX6_tell_28 : decode cX6_tell 28 = .ok (.ifCond .eq 16, 3) := by decide +kernel
theorem dX6_tell_31 : decode cX6_tell 31 = .ok (.aload_n 0, 1) := by decide +kernel
theorem dX6_tell_32 : decode cX6_tell 32 = .ok (.getfield 12, 3) := by decide +kernel
theorem dX6_tell_35 : decode cX6_tell 35 = .ok (.getfield 76, 3) := by decide +kernel
theorem dX6_tell_38 : decode cX6_tell 38 = .ok (.getfield 79, 3) := by decide +kernel
theorem dX6_tell_41 : decode cX6_tell 41 = .ok (.ifCond .ne 5, 3) := by decide +kernel
theorem dX6_tell_44 : decode cX6_tell 44 = .ok (.iconst (-1), 1) := by decide +kernel
theorem dX6_tell_45 : decode cX6_tell 45 = .ok (.ireturn, 1) := by decide +kernel
theorem dX6_tell_46 : decode cX6_tell 46 = .ok (.iconst 0, 1) := by decide +kernel
theorem dX6_tell_47 : decode cX6_tell 47 = .ok (.istore_n 3, 1) := by decide +kernel
theorem dX6_tell_48 : decode cX6_tell 48 = .ok (.iload_n 3, 1) := by decide +kernel
theorem dX6_tell_49 : decode cX6_tell 49 = .ok (.aload_n 0, 1) := by decide +kernel
theorem dX6_tell_50 : decode cX6_tell 50 = .ok (.getfield 12, 3) := by decide +kernel
theorem dX6_tell_53 : decode cX6_tell 53 = .ok (.getfield 76, 3) := by decide +kernel
theorem dX6_tell_56 : decode cX6_tell 56 = .ok (.getfield 79, 3) := by decide +kernel
theorem dX6_tell_59 : decode cX6_tell 59 = .ok (.if_icmp .ge 22, 3) := by decide +kernel
theorem dX6_tell_62 : decode cX6_tell 62 = .ok (.aload_n 0, 1) := by decide +kernel
theorem dX6_tell_63 : decode cX6_tell 63 = .ok (.getfield 58, 3) := by decide +kernel
theorem dX6_tell_66 : decode cX6_tell 66 = .ok (.iload_n 3, 1) := by decide +kernel
theorem dX6_tell_67 : decode cX6_tell 67 = .ok (.aload_n 0, 1) := by decide +kernel
theorem dX6_tell_68 : decode cX6_tell 68 = .ok (.iload_n 3, 1) := by decide +kernel
theorem dX6_tell_69 : decode cX6_tell 69 = .ok (.iload_n 1, 1) := by decide +kernel
theorem dX6_tell_70 : decode cX6_tell 70 = .ok (.iload_n 2, 1) := by decide +kernel
theorem dX6_tell_71 : decode cX6_tell 71 = .ok (.invokevirtual 232, 3) := by decide +kernel
theorem dX6_tell_74 : decode cX6_tell 74 = .ok (.iastore, 1) := by decide +kernel
theorem dX6_tell_75 : decode cX6_tell 75 = .ok (.iinc 3 1, 3) := by decide +kernel
theorem dX6_tell_78 : decode cX6_tell 78 = .ok (.goto (-30), 3) := by decide +kernel
theorem dX6_tell_81 : decode cX6_tell 81 = .ok (.aload_n 0, 1) := by decide +kernel
theorem dX6_tell_82 : decode cX6_tell 82 = .ok (.getfield 58, 3) := by decide +kernel
theorem dX6_tell_85 : decode cX6_tell 85 = .ok (.aload_n 0, 1) := by decide +kernel
theorem dX6_tell_86 : decode cX6_tell 86 = .ok (.getfield 12, 3) := by decide +kernel
theorem dX6_tell_89 : decode cX6_tell 89 = .ok (.getfield 76, 3) := by decide +kernel
theorem dX6_tell_92 : decode cX6_tell 92 = .ok (.getfield 79, 3) := by decide +kernel
theorem dX6_tell_95 : decode cX6_tell 95 = .ok (.invokestatic 201, 3) := by decide +kernel
theorem dX6_tell_98 : decode cX6_tell 98 = .ok (.ireturn, 1) := by decide +kernel
theorem dX6_note_0 : decode cX6_note 0 = .ok (.aload_n 0, 1) := by decide +kernel
theorem dX6_note_1 : decode cX6_note 1 = .ok (.getfield 12, 3) := by decide +kernel
theorem dX6_note_4 : decode cX6_note 4 = .ok (.getfield 76, 3) := by decide +kernel
theorem dX6_note_7 : decode cX6_note 7 = .ok (.iload_n 1, 1) := by decide +kernel
theorem dX6_note_8 : decode cX6_note 8 = .ok (.invokevirtual 134, 3) := by decide +kernel
theorem dX6_note_11 : decode cX6_note 11 = .ok (.ifCond .eq 23, 3) := by decide +kernel
theorem dX6_note_14 : decode cX6_note 14 = .ok (.iload_n 2, 1) := by decide +kernel
theorem dX6_note_15 : decode cX6_note 15 = .ok (.iconst 0, 1) := by decide +kernel
theorem dX6_note_16 : decode cX6_note 16 = .ok (.bipush 99, 2) := by decide +kernel
theorem dX6_note_18 : decode cX6_note 18 = .ok (.invokestatic 118, 3) := by decide +kernel
theorem dX6_note_21 : decode cX6_note 21 = .ok (.ifCond .eq 13, 3) := by decide +kernel
theorem dX6_note_24 : decode cX6_note 24 = .ok (.iload_n 3, 1) := by decide +kernel
theorem dX6_note_25 : decode cX6_note 25 = .ok (.iconst 0, 1) := by decide +kernel
theorem dX6_note_26 : decode cX6_note 26 = .ok (.bipush 20, 2) := by decide +kernel
theorem dX6_note_28 : decode cX6_note 28 = .ok (.invokestatic 118, 3) := by decide +kernel
theorem dX6_note_31 : decode cX6_note 31 = .ok (.ifCond .ne 10, 3) := by decide +kernel
theorem dX6_note_34 : decode cX6_note 34 = .ok (.aload_n 0, 1) := by decide +kernel
theorem dX6_note_35 : decode cX6_note 35 = .ok (.bipush (-2), 2) := by decide +kernel
theorem dX6_note_37 : decode cX6_note 37 = .ok (.invokevirtual 72, 3) := by decide +kernel
theorem dX6_note_40 : decode cX6_note 40 = .ok (.ireturn, 1) := by decide +kernel
theorem dX6_note_41 : decode cX6_note 41 = .ok (.aload_n 0, 1) := by decide +kernel
theorem dX6_note_42 : decode cX6_note 42 = .ok (.aload_n 0, 1) := by decide +kernel
theorem dX6_note_43 : decode cX6_note 43 = .ok (.getfield 12, 3) := by decide +kernel
theorem dX6_note_46 : decode cX6_note 46 = .ok (.getfield 235, 3) := by decide +kernel
theorem dX6_note_49 : decode cX6_note 49 = .ok (.iload_n 1, 1) := by decide +kernel
theorem dX6_note_50 : decode cX6_note 50 = .ok (.iload_n 2, 1) := by decide +kernel
theorem dX6_note_51 : decode cX6_note 51 = .ok (.iload_n 3, 1) := by decide +kernel
theorem dX6_note_52 : decode cX6_note 52 = .ok (.invokevirtual 221, 3) := by decide +kernel
theorem dX6_note_55 : decode cX6_note 55 = .ok (.ireturn, 1) := by decide +kernel
theorem dX6_mark_0 : decode cX6_mark 0 = .ok (.aload_n 0, 1) := by decide +kernel
theorem dX6_mark_1 : decode cX6_mark 1 = .ok (.getfield 12, 3) := by decide +kernel
theorem dX6_mark_4 : decode cX6_mark 4 = .ok (.getfield 76, 3) := by decide +kernel
theorem dX6_mark_7 : decode cX6_mark 7 = .ok (.iload_n 1, 1) := by decide +kernel
theorem dX6_mark_8 : decode cX6_mark 8 = .ok (.invokevirtual 167, 3) := by decide +kernel
theorem dX6_mark_11 : decode cX6_mark 11 = .ok (.ifCond .eq 23, 3) := by decide +kernel
theorem dX6_mark_14 : decode cX6_mark 14 = .ok (.iload_n 2, 1) := by decide +kernel
theorem dX6_mark_15 : decode cX6_mark 15 = .ok (.iconst 0, 1) := by decide +kernel
theorem dX6_mark_16 : decode cX6_mark 16 = .ok (.bipush 8, 2) := by decide +kernel
theorem dX6_mark_18 : decode cX6_mark 18 = .ok (.invokestatic 118, 3) := by decide +kernel
theorem dX6_mark_21 : decode cX6_mark 21 = .ok (.ifCond .eq 13, 3) := by decide +kernel
theorem dX6_mark_24 : decode cX6_mark 24 = .ok (.iload_n 3, 1) := by decide +kernel
theorem dX6_mark_25 : decode cX6_mark 25 = .ok (.iconst 0, 1) := by decide +kernel
theorem dX6_mark_26 : decode cX6_mark 26 = .ok (.bipush 9, 2) := by decide +kernel
theorem dX6_mark_28 : decode cX6_mark 28 = .ok (.invokestatic 118, 3) := by decide +kernel
theorem dX6_mark_31 : decode cX6_mark 31 = .ok (.ifCond .ne 10, 3) := by decide +kernel
theorem dX6_mark_34 : decode cX6_mark 34 = .ok (.aload_n 0, 1) := by decide +kernel
theorem dX6_mark_35 : decode cX6_mark 35 = .ok (.bipush (-2), 2) := by decide +kernel
theorem dX6_mark_37 : decode cX6_mark 37 = .ok (.invokevirtual 72, 3) := by decide +kernel
theorem dX6_mark_40 : decode cX6_mark 40 = .ok (.ireturn, 1) := by decide +kernel
theorem dX6_mark_41 : decode cX6_mark 41 = .ok (.aload_n 0, 1) := by decide +kernel
theorem dX6_mark_42 : decode cX6_mark 42 = .ok (.aload_n 0, 1) := by decide +kernel
theorem dX6_mark_43 : decode cX6_mark 43 = .ok (.getfield 12, 3) := by decide +kernel
theorem dX6_mark_46 : decode cX6_mark 46 = .ok (.getfield 238, 3) := by decide +kernel
theorem dX6_mark_49 : decode cX6_mark 49 = .ok (.iload_n 1, 1) := by decide +kernel
theorem dX6_mark_50 : decode cX6_mark 50 = .ok (.iload_n 2, 1) := by decide +kernel
theorem dX6_mark_51 : decode cX6_mark 51 = .ok (.iload_n 3, 1) := by decide +kernel
theorem dX6_mark_52 : decode cX6_mark 52 = .ok (.invokevirtual 221, 3) := by decide +kernel
theorem dX6_mark_55 : decode cX6_mark 55 = .ok (.ireturn, 1) := by decide +kernel
theorem dX6_forget_0 : decode cX6_forget 0 = .ok (.iload_n 1, 1) := by decide +kernel
theorem dX6_forget_1 : decode cX6_forget 1 = .ok (.iconst 0, 1) := by decide +kernel
theorem dX6_forget_2 : decode cX6_forget 2 = .ok (.iconst 2, 1) := by decide +kernel
theorem dX6_forget_3 : decode cX6_forget 3 = .ok (.invokestatic 118, 3) := by decide +kernel
theorem dX6_forget_6 : decode cX6_forget 6 = .ok (.ifCond .ne 10, 3) := by decide +kernel
theorem dX6_forget_9 : decode cX6_forget 9 = .ok (.aload_n 0, 1) := by decide +kernel
theorem dX6_forget_10 : decode cX6_forget 10 = .ok (.bipush (-2), 2) := by decide +kernel
theorem dX6_forget_12 : decode cX6_forget 12 = .ok (.invokevirtual 72, 3) := by decide +kernel
theorem dX6_forget_15 : decode cX6_forget 15 = .ok (.ireturn, 1) := by decide +kernel
theorem dX6_forget_16 : decode cX6_forget 16 = .ok (.aload_n 0, 1) := by decide +kernel
theorem dX6_forget_17 : decode cX6_forget 17 = .ok (.getfield 12, 3) := by decide +kernel
theorem dX6_forget_20 : decode cX6_forget 20 = .ok (.getfield 217, 3) := by decide +kernel
theorem dX6_forget_23 : decode cX6_forget 23 = .ok (.astore_n 2, 1) := by decide +kernel
theorem dX6_forget_24 : decode cX6_forget 24 = .ok (.iload_n 1, 1) := by decide +kernel
theorem dX6_forget_25 : decode cX6_forget 25 = .ok (.ifCond .eq 26, 3) := by decide +kernel
theorem dX6_forget_28 : decode cX6_forget 28 = .ok (.iload_n 1, 1) := by decide +kernel
theorem dX6_forget_29 : decode cX6_forget 29 = .ok (.iconst 1, 1) := by decide +kernel
theorem dX6_forget_30 : decode cX6_forget 30 = .ok (.if_icmp .ne 13, 3) := by decide +kernel
theorem dX6_forget_33 : decode cX6_forget 33 = .ok (.aload_n 0, 1) := by decide +kernel
theorem dX6_forget_34 : decode cX6_forget 34 = .ok (.getfield 12, 3) := by decide +kernel
theorem dX6_forget_37 : decode cX6_forget 37 = .ok (.getfield 235, 3) := by decide +kernel
theorem dX6_forget_40 : decode cX6_forget 40 = .ok (.goto 10, 3) := by decide +kernel
theorem dX6_forget_43 : decode cX6_forget 43 = .ok (.aload_n 0, 1) := by decide +kernel
theorem dX6_forget_44 : decode cX6_forget 44 = .ok (.getfield 12, 3) := by decide +kernel
theorem dX6_forget_47 : decode cX6_forget 47 = .ok (.getfield 238, 3) := by decide +kernel
theorem dX6_forget_50 : decode cX6_forget 50 = .ok (.astore_n 2, 1) := by decide +kernel
theorem dX6_forget_51 : decode cX6_forget 51 = .ok (.aload_n 2, 1) := by decide +kernel
theorem dX6_forget_52 : decode cX6_forget 52 = .ok (.getfield 241, 3) := by decide +kernel
theorem dX6_forget_55 : decode cX6_forget 55 = .ok (.istore_n 3, 1) := by decide +kernel
theorem dX6_forget_56 : decode cX6_forget 56 = .ok (.aload_n 2, 1) := by decide +kernel
theorem dX6_forget_57 : decode cX6_forget 57 = .ok (.iconst 0, 1) := by decide +kernel
theorem dX6_forget_58 : decode cX6_forget 58 = .ok (.putfield 241, 3) := by decide +kernel
theorem dX6_forget_61 : decode cX6_forget 61 = .ok (.iload_n 3, 1) := by decide +kernel
theorem dX6_forget_62 : decode cX6_forget 62 = .ok (.ireturn, 1) := by decide +kernel
theorem dX6_is_0 : decode cX6_is 0 = .ok (.aload_n 0, 1) := by decide +kernel
theorem dX6_is_1 : decode cX6_is 1 = .ok (.getfield 12, 3) := by decide +kernel
theorem dX6_is_4 : decode cX6_is 4 = .ok (.getfield 76, 3) := by decide +kernel
theorem dX6_is_7 : decode cX6_is 7 = .ok (.iload_n 1, 1) := by decide +kernel
theorem dX6_is_8 : decode cX6_is 8 = .ok (.invokevirtual 134, 3) := by decide +kernel
theorem dX6_is_11 : decode cX6_is 11 = .ok (.ifCond .eq 12, 3) := by decide +kernel
theorem dX6_is_14 : decode cX6_is 14 = .ok (.aload_n 0, 1) := by decide +kernel
theorem dX6_is_15 : decode cX6_is 15 = .ok (.iconst 0, 1) := by decide +kernel
theorem dX6_is_16 : decode cX6_is 16 = .ok (.iload_n 1, 1) := by decide +kernel
theorem dX6_is_17 : decode cX6_is 17 = .ok (.invokevirtual 244, 3) := by decide +kernel
theorem dX6_is_20 : decode cX6_is 20 = .ok (.goto 9, 3) := by decide +kernel
theorem dX6_is_23 : decode cX6_is 23 = .ok (.aload_n 0, 1) := by decide +kernel
theorem dX6_is_24 : decode cX6_is 24 = .ok (.bipush (-2), 2) := by decide +kernel
theorem dX6_is_26 : decode cX6_is 26 = .ok (.invokevirtual 72, 3) := by decide +kernel
theorem dX6_is_29 : decode cX6_is 29 = .ok (.ireturn, 1) := by decide +kernel
theorem dX6_look_0 : decode cX6_look 0 = .ok (.aload_n 0, 1) := by decide +kernel
theorem dX6_look_1 : decode cX6_look 1 = .ok (.getfield 12, 3) := by decide +kernel
theorem dX6_look_4 : decode cX6_look 4 = .ok (.getfield 76, 3) := by decide +kernel
theorem dX6_look_7 : decode cX6_look 7 = .ok (.iload_n 1, 1) := by decide +kernel
theorem dX6_look_8 : decode cX6_look 8 = .ok (.invokevirtual 134, 3) := by decide +kernel
theorem dX6_look_11 : decode cX6_look 11 = .ok (.ifCond .ne 10, 3) := by decide +kernel
theorem dX6_look_14 : decode cX6_look 14 = .ok (.aload_n 0, 1) := by decide +kernel
theorem dX6_look_15 : decode cX6_look 15 = .ok (.bipush (-2), 2) := by decide +kernel
theorem dX6_look_17 : decode cX6_look 17 = .ok (.invokevirtual 72, 3) := by decide +kernel
theorem dX6_look_20 : decode cX6_look 20 = .ok (.ireturn, 1) := by decide +kernel
theorem dX6_look_21 : decode cX6_look 21 = .ok (.aload_n 0, 1) := by decide +kernel
theorem dX6_look_22 : decode cX6_look 22 = .ok (.iconst 0, 1) := by decide +kernel
theorem dX6_look_23 : decode cX6_look 23 = .ok (.aload_n 0, 1) := by decide +kernel
theorem dX6_look_24 : decode cX6_look 24 = .ok (.iconst 0, 1) := by decide +kernel
theorem dX6_look_25 : decode cX6_look 25 = .ok (.iload_n 1, 1) := by decide +kernel
theorem dX6_look_26 : decode cX6_look 26 = .ok (.invokevirtual 244, 3) := by decide +kernel
theorem dX6_look_29 : decode cX6_look 29 = .ok (.bipush 30, 2) := by decide +kernel
theorem dX6_look_31 : decode cX6_look 31 = .ok (.invokevirtual 248, 3) := by decide +kernel
theorem dX6_look_34 : decode cX6_look 34 = .ok (.ireturn, 1) := by decide +kernel
theorem dX6_kinds_0 : decode cX6_kinds 0 = .ok (.aload_n 0, 1) := by decide +kernel
theorem dX6_kinds_1 : decode cX6_kinds 1 = .ok (.getfield 12, 3) := by decide +kernel
theorem dX6_kinds_4 : decode cX6_kinds 4 = .ok (.getfield 76, 3) := by decide +kernel
theorem dX6_kinds_7 : decode cX6_kinds 7 = .ok (.iload_n 1, 1) := by decide +kernel
theorem dX6_kinds_8 : decode cX6_kinds 8 = .ok (.invokevirtual 167, 3) := by decide +kernel
theorem dX6_kinds_11 : decode cX6_kinds 11 = .ok (.ifCond .eq 12, 3) := by decide +kernel
theorem dX6_kinds_14 : decode cX6_kinds 14 = .ok (.aload_n 0, 1) := by decide +kernel
theorem dX6_kinds_15 : decode cX6_kinds 15 = .ok (.iconst 1, 1) := by decide +kernel
theorem dX6_kinds_16 : decode cX6_kinds 16 = .ok (.iload_n 1, 1) := by decide +kernel
theorem dX6_kinds_17 : decode cX6_kinds 17 = .ok (.invokevirtual 244, 3) := by decide +kernel
theorem dX6_kinds_20 : decode cX6_kinds 20 = .ok (.goto 9, 3) := by decide +kernel
theorem dX6_kinds_23 : decode cX6_kinds 23 = .ok (.aload_n 0, 1) := by decide +kernel
theorem dX6_kinds_24 : decode cX6_kinds 24 = .ok (.bipush (-2), 2) := by decide +kernel
theorem dX6_kinds_26 : decode cX6_kinds 26 = .ok (.invokevirtual 72, 3) := by decide +kernel
theorem dX6_kinds_29 : decode cX6_kinds 29 = .ok (.ireturn, 1) := by decide +kernel
theorem dX6_ask_0 : decode cX6_ask 0 = .ok (.aload_n 0, 1) := by decide +kernel
theorem dX6_ask_1 : decode cX6_ask 1 = .ok (.getfield 12, 3) := by decide +kernel
theorem dX6_ask_4 : decode cX6_ask 4 = .ok (.getfield 76, 3) := by decide +kernel
theorem dX6_ask_7 : decode cX6_ask 7 = .ok (.iload_n 1, 1) := by decide +kernel
theorem dX6_ask_8 : decode cX6_ask 8 = .ok (.invokevirtual 167, 3) := by decide +kernel
theorem dX6_ask_11 : decode cX6_ask 11 = .ok (.ifCond .ne 10, 3) := by decide +kernel
theorem dX6_ask_14 : decode cX6_ask 14 = .ok (.aload_n 0, 1) := by decide +kernel
theorem dX6_ask_15 : decode cX6_ask 15 = .ok (.bipush (-2), 2) := by decide +kernel
theorem dX6_ask_17 : decode cX6_ask 17 = .ok (.invokevirtual 72, 3) := by decide +kernel
theorem dX6_ask_20 : decode cX6_ask 20 = .ok (.ireturn, 1) := by decide +kernel
theorem dX6_ask_21 : decode cX6_ask 21 = .ok (.aload_n 0, 1) := by decide +kernel
theorem dX6_ask_22 : decode cX6_ask 22 = .ok (.iconst 1, 1) := by decide +kernel
theorem dX6_ask_23 : decode cX6_ask 23 = .ok (.aload_n 0, 1) := by decide +kernel
theorem dX6_ask_24 : decode cX6_ask 24 = .ok (.iconst 1, 1) := by decide +kernel
theorem dX6_ask_25 : decode cX6_ask 25 = .ok (.iload_n 1, 1) := by decide +kernel
theorem dX6_ask_26 : decode cX6_ask 26 = .ok (.invokevirtual 244, 3) := by decide +kernel
theorem dX6_ask_29 : decode cX6_ask 29 = .ok (.bipush 9, 2) := by decide +kernel
theorem dX6_ask_31 : decode cX6_ask 31 = .ok (.invokevirtual 248, 3) := by decide +kernel
theorem dX6_ask_34 : decode cX6_ask 34 = .ok (.ireturn, 1) := by decide +kernel
theorem dX6_shepherds_0 : decode cX6_shepherds 0 = .ok (.aload_n 0, 1) := by decide +kernel
theorem dX6_shepherds_1 : decode cX6_shepherds 1 = .ok (.getfield 12, 3) := by decide +kernel
theorem dX6_shepherds_4 : decode cX6_shepherds 4 = .ok (.getfield 76, 3) := by decide +kernel
theorem dX6_shepherds_7 : decode cX6_shepherds 7 = .ok (.iload_n 1, 1) := by decide +kernel
theorem dX6_shepherds_8 : decode cX6_shepherds 8 = .ok (.invokevirtual 134, 3) := by decide +kernel
theorem dX6_shepherds_11 : decode cX6_shepherds 11 = .ok (.ifCond .eq 27, 3) := by decide +kernel
theorem dX6_shepherds_14 : decode cX6_shepherds 14 = .ok (.aload_n 0, 1) := by decide +kernel
theorem dX6_shepherds_15 : decode cX6_shepherds 15 = .ok (.getfield 12, 3) := by decide +kernel
theorem dX6_shepherds_18 : decode cX6_shepherds 18 = .ok (.getfield 76, 3) := by decide +kernel
theorem dX6_shepherds_21 : decode cX6_shepherds 21 = .ok (.iload_n 2, 1) := by decide +kernel
theorem dX6_shepherds_22 : decode cX6_shepherds 22 = .ok (.invokevirtual 134, 3) := by decide +kernel
theorem dX6_shepherds_25 : decode cX6_shepherds 25 = .ok (.ifCond .eq 13, 3) := by decide +kernel
theorem dX6_shepherds_28 : decode cX6_shepherds 28 = .ok (.iload_n 1, 1) := by decide +kernel
theorem dX6_shepherds_29 : decode cX6_shepherds 29 = .ok (.iload_n 2, 1) := by decide +kernel
theorem dX6_shepherds_30 : decode cX6_shepherds 30 = .ok (.if_icmp .eq 8, 3) := by decide +kernel
theorem dX6_shepherds_33 : decode cX6_shepherds 33 = .ok (.iload_n 3, 1) := by decide +kernel
theorem dX6_shepherds_34 : decode cX6_shepherds 34 = .ok (.iconst (-1), 1) := by decide +kernel
theorem dX6_shepherds_35 : decode cX6_shepherds 35 = .ok (.if_icmp .ge 10, 3) := by decide +kernel
theorem dX6_shepherds_38 : decode cX6_shepherds 38 = .ok (.aload_n 0, 1) := by decide +kernel
theorem dX6_shepherds_39 : decode cX6_shepherds 39 = .ok (.bipush (-10), 2) := by decide +kernel
theorem dX6_shepherds_41 : decode cX6_shepherds 41 = .ok (.invokevirtual 72, 3) := by decide +kernel
theorem dX6_shepherds_44 : decode cX6_shepherds 44 = .ok (.ireturn, 1) := by decide +kernel
theorem dX6_shepherds_45 : decode cX6_shepherds 45 = .ok (.aload_n 0, 1) := by decide +kernel
theorem dX6_shepherds_46 : decode cX6_shepherds 46 = .ok (.iload_n 1, 1) := by decide +kernel
theorem dX6_shepherds_47 : decode cX6_shepherds 47 = .ok (.iload_n 2, 1) := by decide +kernel
theorem dX6_shepherds_48 : decode cX6_shepherds 48 = .ok (.invokevirtual 252, 3) := by decide +kernel
theorem dX6_shepherds_51 : decode cX6_shepherds 51 = .ok (.iconst 0, 1) := by decide +kernel
theorem dX6_shepherds_52 : decode cX6_shepherds 52 = .ok (.istore 4, 2) := by decide +kernel
theorem dX6_shepherds_54 : decode cX6_shepherds 54 = .ok (.iconst 0, 1) := by decide +kernel
theorem dX6_shepherds_55 : decode cX6_shepherds 55 = .ok (.istore 5, 2) := by decide +kernel
theorem dX6_shepherds_57 : decode cX6_shepherds 57 = .ok (.iload 5, 2) := by decide +kernel
theorem dX6_shepherds_59 : decode cX6_shepherds 59 = .ok (.iconst 5, 1) := by decide +kernel
theorem dX6_shepherds_60 : decode cX6_shepherds 60 = .ok (.if_icmp .ge 53, 3) := by decide +kernel
theorem dX6_shepherds_63 : decode cX6_shepherds 63 = .ok (.iconst 0, 1) := by decide +kernel
theorem dX6_shepherds_64 : decode cX6_shepherds 64 = .ok (.istore 6, 2) := by decide +kernel
theorem dX6_shepherds_66 : decode cX6_shepherds 66 = .ok (.iload 6, 2) := by decide +kernel
theorem dX6_shepherds_68 : decode cX6_shepherds 68 = .ok (.iconst 5, 1) := by decide +kernel
theorem dX6_shepherds_69 : decode cX6_shepherds 69 = .ok (.if_icmp .ge 38, 3) := by decide +kernel
theorem dX6_shepherds_72 : decode cX6_shepherds 72 = .ok (.aload_n 0, 1) := by decide +kernel
theorem dX6_shepherds_73 : decode cX6_shepherds 73 = .ok (.iload 5, 2) := by decide +kernel
theorem dX6_shepherds_75 : decode cX6_shepherds 75 = .ok (.iload 6, 2) := by decide +kernel
theorem dX6_shepherds_77 : decode cX6_shepherds 77 = .ok (.invokevirtual 256, 3) := by decide +kernel
theorem dX6_shepherds_80 : decode cX6_shepherds 80 = .ok (.ifCond .eq 21, 3) := by decide +kernel
theorem dX6_shepherds_83 : decode cX6_shepherds 83 = .ok (.iload 4, 2) := by decide +kernel
theorem dX6_shepherds_85 : decode cX6_shepherds 85 = .ok (.iload_n 3, 1) := by decide +kernel
theorem dX6_shepherds_86 : decode cX6_shepherds 86 = .ok (.if_icmp .ne 12, 3) := by decide +kernel
theorem dX6_shepherds_89 : decode cX6_shepherds 89 = .ok (.bipush 10, 2) := by decide +kernel
theorem dX6_shepherds_91 : decode cX6_shepherds 91 = .ok (.iload 5, 2) := by decide +kernel
theorem dX6_shepherds_93 : decode cX6_shepherds 93 = .ok (.imul, 1) := by decide +kernel
theorem dX6_shepherds_94 : decode cX6_shepherds 94 = .ok (.iload 6, 2) := by decide +kernel
theorem dX6_shepherds_96 : decode cX6_shepherds 96 = .ok (.iadd, 1) := by decide +kernel
theorem dX6_shepherds_97 : decode cX6_shepherds 97 = .ok (.ireturn, 1) := by decide +kernel
theorem dX6_shepherds_98 : decode cX6_shepherds 98 = .ok (.iinc 4 1, 3) := by decide +kernel
theorem dX6_shepherds_101 : decode cX6_shepherds 101 = .ok (.iinc 6 1, 3) := by decide +kernel
theorem dX6_shepherds_104 : decode cX6_shepherds 104 = .ok (.goto (-38), 3) := by decide +kernel
theorem dX6_shepherds_107 : decode cX6_shepherds 107 = .ok (.iinc 5 1, 3) := by decide +kernel
theorem dX6_shepherds_110 : decode cX6_shepherds 110 = .ok (.goto (-53), 3) := by decide +kernel
theorem dX6_shepherds_113 : decode cX6_shepherds 113 = .ok (.iload_n 3, 1) := by decide +kernel
theorem dX6_shepherds_114 : decode cX6_shepherds 114 = .ok (.iconst (-1), 1) := by decide +kernel
theorem dX6_shepherds_115 : decode cX6_shepherds 115 = .ok (.if_icmp .ne 8, 3) := by decide +kernel
theorem dX6_shepherds_118 : decode cX6_shepherds 118 = .ok (.iload 4, 2) := by decide +kernel
theorem dX6_shepherds_120 : decode cX6_shepherds 120 = .ok (.goto 5, 3) := by decide +kernel
theorem dX6_shepherds_123 : decode cX6_shepherds 123 = .ok (.bipush (-5), 2) := by decide +kernel
theorem dX6_shepherds_125 : decode cX6_shepherds 125 = .ok (.ireturn, 1) := by decide +kernel
theorem dX6_misheard_0 : decode cX6_misheard 0 = .ok (.aload_n 0, 1) := by decide +kernel
theorem dX6_misheard_1 : decode cX6_misheard 1 = .ok (.getfield 12, 3) := by decide +kernel
theorem dX6_misheard_4 : decode cX6_misheard 4 = .ok (.getfield 76, 3) := by decide +kernel
theorem dX6_misheard_7 : decode cX6_misheard 7 = .ok (.iload_n 1, 1) := by decide +kernel
theorem dX6_misheard_8 : decode cX6_misheard 8 = .ok (.invokevirtual 167, 3) := by decide +kernel
theorem dX6_misheard_11 : decode cX6_misheard 11 = .ok (.ifCond .eq 43, 3) := by decide +kernel
theorem dX6_misheard_14 : decode cX6_misheard 14 = .ok (.aload_n 0, 1) := by decide +kernel
theorem dX6_misheard_15 : decode cX6_misheard 15 = .ok (.getfield 12, 3) := by decide +kernel
theorem dX6_misheard_18 : decode cX6_misheard 18 = .ok (.getfield 76, 3) := by decide +kernel
theorem dX6_misheard_21 : decode cX6_misheard 21 = .ok (.iload_n 2, 1) := by decide +kernel
theorem dX6_misheard_22 : decode cX6_misheard 22 = .ok (.invokevirtual 134, 3) := by decide +kernel
theorem dX6_misheard_25 : decode cX6_misheard 25 = .ok (.ifCond .eq 29, 3) := by decide +kernel
theorem dX6_misheard_28 : decode cX6_misheard 28 = .ok (.iload_n 3, 1) := by decide +kernel
theorem dX6_misheard_29 : decode cX6_misheard 29 = .ok (.invokestatic 137, 3) := by decide +kernel
theorem dX6_misheard_32 : decode cX6_misheard 32 = .ok (.ifCond .eq 22, 3) := by decide +kernel
theorem dX6_misheard_35 : decode cX6_misheard 35 = .ok (.iload 4, 2) := by decide +kernel
theorem dX6_misheard_37 : decode cX6_misheard 37 = .ok (.invokestatic 137, 3) := by decide +kernel
theorem dX6_misheard_40 : decode cX6_misheard 40 = .ok (.ifCond .eq 14, 3) := by decide +kernel
theorem dX6_misheard_43 : decode cX6_misheard 43 = .ok (.iload 5, 2) := by decide +kernel
theorem dX6_misheard_45 : decode cX6_misheard 45 = .ok (.iconst 0, 1) := by decide +kernel
theorem dX6_misheard_46 : decode cX6_misheard 46 = .ok (.bipush 10, 2) := by decide +kernel
theorem dX6_misheard_48 : decode cX6_misheard 48 = .ok (.invokestatic 118, 3) := by decide +kernel
theorem dX6_misheard_51 : decode cX6_misheard 51 = .ok (.ifCond .ne 10, 3) := by decide +kernel
theorem dX6_misheard_54 : decode cX6_misheard 54 = .ok (.aload_n 0, 1) := by decide +kernel
theorem dX6_misheard_55 : decode cX6_misheard 55 = .ok (.bipush (-2), 2) := by decide +kernel
theorem dX6_misheard_57 : decode cX6_misheard 57 = .ok (.invokevirtual 72, 3) := by decide +kernel
theorem dX6_misheard_60 : decode cX6_misheard 60 = .ok (.ireturn, 1) := by decide +kernel
theorem dX6_misheard_61 : decode cX6_misheard 61 = .ok (.iconst 0, 1) := by decide +kernel
theorem dX6_misheard_62 : decode cX6_misheard 62 = .ok (.istore 6, 2) := by decide +kernel
theorem dX6_misheard_64 : decode cX6_misheard 64 = .ok (.iconst 0, 1) := by decide +kernel
theorem dX6_misheard_65 : decode cX6_misheard 65 = .ok (.istore 7, 2) := by decide +kernel
theorem dX6_misheard_67 : decode cX6_misheard 67 = .ok (.iload 7, 2) := by decide +kernel
theorem dX6_misheard_69 : decode cX6_misheard 69 = .ok (.iconst 4, 1) := by decide +kernel
theorem dX6_misheard_70 : decode cX6_misheard 70 = .ok (.if_icmp .ge 85, 3) := by decide +kernel
theorem dX6_misheard_73 : decode cX6_misheard 73 = .ok (.iload 7, 2) := by decide +kernel
theorem dX6_misheard_75 : decode cX6_misheard 75 = .ok (.iconst 2, 1) := by decide +kernel
theorem dX6_misheard_76 : decode cX6_misheard 76 = .ok (.idiv, 1) := by decide +kernel
theorem dX6_misheard_77 : decode cX6_misheard 77 = .ok (.istore 8, 2) := by decide +kernel
theorem dX6_misheard_79 : decode cX6_misheard 79 = .ok (.iload 7, 2) := by decide +kernel
theorem dX6_misheard_81 : decode cX6_misheard 81 = .ok (.iconst 2, 1) := by decide +kernel
theorem dX6_misheard_82 : decode cX6_misheard 82 = .ok (.irem, 1) := by decide +kernel
theorem dX6_misheard_83 : decode cX6_misheard 83 = .ok (.istore 9, 2) := by decide +kernel
theorem dX6_misheard_85 : decode cX6_misheard 85 = .ok (.iload 8, 2) := by decide +kernel
theorem dX6_misheard_87 : decode cX6_misheard 87 = .ok (.iconst 1, 1) := by decide +kernel
theorem dX6_misheard_88 : decode cX6_misheard 88 = .ok (.if_icmp .ne 8, 3) := by decide +kernel
theorem dX6_misheard_91 : decode cX6_misheard 91 = .ok (.iload 5, 2) := by decide +kernel
theorem dX6_misheard_93 : decode cX6_misheard 93 = .ok (.goto 8, 3) := by decide +kernel
theorem dX6_misheard_96 : decode cX6_misheard 96 = .ok (.bipush 10, 2) := by decide +kernel
theorem dX6_misheard_98 : decode cX6_misheard 98 = .ok (.iload 5, 2) := by decide +kernel
theorem dX6_misheard_100 : decode cX6_misheard 100 = .ok (.isub, 1) := by decide +kernel
theorem dX6_misheard_101 : decode cX6_misheard 101 = .ok (.iload 9, 2) := by decide +kernel
theorem dX6_misheard_103 : decode cX6_misheard 103 = .ok (.iconst 1, 1) := by decide +kernel
theorem dX6_misheard_104 : decode cX6_misheard 104 = .ok (.if_icmp .ne 8, 3) := by decide +kernel
theorem dX6_misheard_107 : decode cX6_misheard 107 = .ok (.iload 5, 2) := by decide +kernel
theorem dX6_misheard_109 : decode cX6_misheard 109 = .ok (.goto 8, 3) := by decide +kernel
theorem dX6_misheard_112 : decode cX6_misheard 112 = .ok (.bipush 10, 2) := by decide +kernel
theorem dX6_misheard_114 : decode cX6_misheard 114 = .ok (.iload 5, 2) := by decide +kernel
theorem dX6_misheard_116 : decode cX6_misheard 116 = .ok (.isub, 1) := by decide +kernel
theorem dX6_misheard_117 : decode cX6_misheard 117 = .ok (.imul, 1) := by decide +kernel
theorem dX6_misheard_118 : decode cX6_misheard 118 = .ok (.istore 10, 2) := by decide +kernel
theorem dX6_misheard_120 : decode cX6_misheard 120 = .ok (.aload_n 0, 1) := by decide +kernel
theorem dX6_misheard_121 : decode cX6_misheard 121 = .ok (.iload_n 1, 1) := by decide +kernel
theorem dX6_misheard_122 : decode cX6_misheard 122 = .ok (.iload_n 2, 1) := by decide +kernel
theorem dX6_misheard_123 : decode cX6_misheard 123 = .ok (.iload_n 3, 1) := by decide +kernel
theorem dX6_misheard_124 : decode cX6_misheard 124 = .ok (.iload 8, 2) := by decide +kernel
theorem dX6_misheard_126 : decode cX6_misheard 126 = .ok (.iadd, 1) := by decide +kernel
theorem dX6_misheard_127 : decode cX6_misheard 127 = .ok (.iconst 5, 1) := by decide +kernel
theorem dX6_misheard_128 : decode cX6_misheard 128 = .ok (.irem, 1) := by decide +kernel
theorem dX6_misheard_129 : decode cX6_misheard 129 = .ok (.iload 4, 2) := by decide +kernel
theorem dX6_misheard_131 : decode cX6_misheard 131 = .ok (.iload 9, 2) := by decide +kernel
theorem dX6_misheard_133 : decode cX6_misheard 133 = .ok (.iadd, 1) := by decide +kernel
theorem dX6_misheard_134 : decode cX6_misheard 134 = .ok (.iconst 5, 1) := by decide +kernel
theorem dX6_misheard_135 : decode cX6_misheard 135 = .ok (.irem, 1) := by decide +kernel
theorem dX6_misheard_136 : decode cX6_misheard 136 = .ok (.invokevirtual 259, 3) := by decide +kernel
theorem dX6_misheard_139 : decode cX6_misheard 139 = .ok (.ifCond .eq 10, 3) := by decide +kernel
theorem dX6_misheard_142 : decode cX6_misheard 142 = .ok (.iload 6, 2) := by decide +kernel
theorem dX6_misheard_144 : decode cX6_misheard 144 = .ok (.iload 10, 2) := by decide +kernel
theorem dX6_misheard_146 : decode cX6_misheard 146 = .ok (.iadd, 1) := by decide +kernel
theorem dX6_misheard_147 : decode cX6_misheard 147 = .ok (.istore 6, 2) := by decide +kernel
theorem dX6_misheard_149 : decode cX6_misheard 149 = .ok (.iinc 7 1, 3) := by decide +kernel
theorem dX6_misheard_152 : decode cX6_misheard 152 = .ok (.goto (-85), 3) := by decide +kernel
theorem dX6_misheard_155 : decode cX6_misheard 155 = .ok (.aload_n 0, 1) := by decide +kernel
theorem dX6_misheard_156 : decode cX6_misheard 156 = .ok (.iload 6, 2) := by decide +kernel
theorem dX6_misheard_158 : decode cX6_misheard 158 = .ok (.invokevirtual 263, 3) := by decide +kernel
theorem dX6_misheard_161 : decode cX6_misheard 161 = .ok (.iconst 1, 1) := by decide +kernel
theorem dX6_misheard_162 : decode cX6_misheard 162 = .ok (.ireturn, 1) := by decide +kernel
theorem dX6_winters_0 : decode cX6_winters 0 = .ok (.iload_n 1, 1) := by decide +kernel
theorem dX6_winters_1 : decode cX6_winters 1 = .ok (.iconst 0, 1) := by decide +kernel
theorem dX6_winters_2 : decode cX6_winters 2 = .ok (.ldc_w 266, 3) := by decide +kernel
theorem dX6_winters_5 : decode cX6_winters 5 = .ok (.invokestatic 118, 3) := by decide +kernel
theorem dX6_winters_8 : decode cX6_winters 8 = .ok (.ifCond .eq 13, 3) := by decide +kernel
theorem dX6_winters_11 : decode cX6_winters 11 = .ok (.iload_n 2, 1) := by decide +kernel
theorem dX6_winters_12 : decode cX6_winters 12 = .ok (.iconst 0, 1) := by decide +kernel
theorem dX6_winters_13 : decode cX6_winters 13 = .ok (.bipush 60, 2) := by decide +kernel
theorem dX6_winters_15 : decode cX6_winters 15 = .ok (.invokestatic 118, 3) := by decide +kernel
theorem dX6_winters_18 : decode cX6_winters 18 = .ok (.ifCond .ne 10, 3) := by decide +kernel
theorem dX6_winters_21 : decode cX6_winters 21 = .ok (.aload_n 0, 1) := by decide +kernel
theorem dX6_winters_22 : decode cX6_winters 22 = .ok (.bipush (-2), 2) := by decide +kernel
theorem dX6_winters_24 : decode cX6_winters 24 = .ok (.invokevirtual 72, 3) := by decide +kernel
theorem dX6_winters_27 : decode cX6_winters 27 = .ok (.ireturn, 1) := by decide +kernel
theorem dX6_winters_28 : decode cX6_winters 28 = .ok (.aload_n 0, 1) := by decide +kernel
theorem dX6_winters_29 : decode cX6_winters 29 = .ok (.getfield 44, 3) := by decide +kernel
theorem dX6_winters_32 : decode cX6_winters 32 = .ok (.aload_n 0, 1) := by decide +kernel
theorem dX6_winters_33 : decode cX6_winters 33 = .ok (.getfield 12, 3) := by decide +kernel
theorem dX6_winters_36 : decode cX6_winters 36 = .ok (.getfield 76, 3) := by decide +kernel
theorem dX6_winters_39 : decode cX6_winters 39 = .ok (.invokevirtual 196, 3) := by decide +kernel
theorem dX6_winters_42 : decode cX6_winters 42 = .ok (.iload_n 1, 1) := by decide +kernel
theorem dX6_winters_43 : decode cX6_winters 43 = .ok (.i2l, 1) := by decide +kernel
theorem dX6_winters_44 : decode cX6_winters 44 = .ok (.lstore_n 3, 1) := by decide +kernel
theorem dX6_winters_45 : decode cX6_winters 45 = .ok (.iconst 0, 1) := by decide +kernel
theorem dX6_winters_46 : decode cX6_winters 46 = .ok (.istore 5, 2) := by decide +kernel
theorem dX6_winters_48 : decode cX6_winters 48 = .ok (.iload 5, 2) := by decide +kernel
theorem dX6_winters_50 : decode cX6_winters 50 = .ok (.iload_n 2, 1) := by decide +kernel
theorem dX6_winters_51 : decode cX6_winters 51 = .ok (.if_icmp .ge 87, 3) := by decide +kernel
theorem dX6_winters_54 : decode cX6_winters 54 = .ok (.lload_n 3, 1) := by decide +kernel
theorem dX6_winters_55 : decode cX6_winters 55 = .ok (.ldc2_w 267, 3) := by decide +kernel
theorem dX6_winters_58 : decode cX6_winters 58 = .ok (.lmul, 1) := by decide +kernel
theorem dX6_winters_59 : decode cX6_winters 59 = .ok (.ldc2_w 269, 3) := by decide +kernel
theorem dX6_winters_62 : decode cX6_winters 62 = .ok (.ladd, 1) := by decide +kernel
theorem dX6_winters_63 : decode cX6_winters 63 = .ok (.ldc2_w 271, 3) := by decide +kernel
theorem dX6_winters_66 : decode cX6_winters 66 = .ok (.lrem, 1) := by decide +kernel
theorem dX6_winters_67 : decode cX6_winters 67 = .ok (.lstore_n 3, 1) := by decide +kernel
theorem dX6_winters_68 : decode cX6_winters 68 = .ok (.lload_n 3, 1) := by decide +kernel
theorem dX6_winters_69 : decode cX6_winters 69 = .ok (.ldc2_w 273, 3) := by decide +kernel
theorem dX6_winters_72 : decode cX6_winters 72 = .ok (.ldiv, 1) := by decide +kernel
theorem dX6_winters_73 : decode cX6_winters 73 = .ok (.ldc2_w 275, 3) := by decide +kernel
theorem dX6_winters_76 : decode cX6_winters 76 = .ok (.lrem, 1) := by decide +kernel
theorem dX6_winters_77 : decode cX6_winters 77 = .ok (.l2i, 1) := by decide +kernel
theorem dX6_winters_78 : decode cX6_winters 78 = .ok (.istore 6, 2) := by decide +kernel
theorem dX6_winters_80 : decode cX6_winters 80 = .ok (.lload_n 3, 1) := by decide +kernel
theorem dX6_winters_81 : decode cX6_winters 81 = .ok (.ldc2_w 277, 3) := by decide +kernel
theorem dX6_winters_84 : decode cX6_winters 84 = .ok (.ldiv, 1) := by decide +kernel
theorem dX6_winters_85 : decode cX6_winters 85 = .ok (.ldc2_w 279, 3) := by decide +kernel
theorem dX6_winters_88 : decode cX6_winters 88 = .ok (.lrem, 1) := by decide +kernel
theorem dX6_winters_89 : decode cX6_winters 89 = .ok (.l2i, 1) := by decide +kernel
theorem dX6_winters_90 : decode cX6_winters 90 = .ok (.istore 7, 2) := by decide +kernel
theorem dX6_winters_92 : decode cX6_winters 92 = .ok (.aload_n 0, 1) := by decide +kernel
theorem dX6_winters_93 : decode cX6_winters 93 = .ok (.getfield 44, 3) := by decide +kernel
theorem dX6_winters_96 : decode cX6_winters 96 = .ok (.iload 6, 2) := by decide +kernel
theorem dX6_winters_98 : decode cX6_winters 98 = .ok (.invokevirtual 134, 3) := by decide +kernel
theorem dX6_winters_101 : decode cX6_winters 101 = .ok (.ifCond .eq 18, 3) := by decide +kernel
theorem dX6_winters_104 : decode cX6_winters 104 = .ok (.aload_n 0, 1) := by decide +kernel
theorem dX6_winters_105 : decode cX6_winters 105 = .ok (.getfield 44, 3) := by decide +kernel
theorem dX6_winters_108 : decode cX6_winters 108 = .ok (.iload 6, 2) := by decide +kernel
theorem dX6_winters_110 : decode cX6_winters 110 = .ok (.iload 7, 2) := by decide +kernel
theorem dX6_winters_112 : decode cX6_winters 112 = .ok (.invokevirtual 147, 3) := by decide +kernel
theorem dX6_winters_115 : decode cX6_winters 115 = .ok (.pop, 1) := by decide +kernel
theorem dX6_winters_116 : decode cX6_winters 116 = .ok (.goto 16, 3) := by decide +kernel
theorem dX6_winters_119 : decode cX6_winters 119 = .ok (.aload_n 0, 1) := by decide +kernel
theorem dX6_winters_120 : decode cX6_winters 120 = .ok (.getfield 44, 3) := by decide +kernel
theorem dX6_winters_123 : decode cX6_winters 123 = .ok (.dup, 1) := by decide +kernel
theorem dX6_winters_124 : decode cX6_winters 124 = .ok (.getfield 140, 3) := by decide +kernel
theorem dX6_winters_127 : decode cX6_winters 127 = .ok (.iconst 1, 1) := by decide +kernel
theorem dX6_winters_128 : decode cX6_winters 128 = .ok (.iadd, 1) := by decide +kernel
theorem dX6_winters_129 : decode cX6_winters 129 = .ok (.putfield 140, 3) := by decide +kernel
theorem dX6_winters_132 : decode cX6_winters 132 = .ok (.iinc 5 1, 3) := by decide +kernel
theorem dX6_winters_135 : decode cX6_winters 135 = .ok (.goto (-87), 3) := by decide +kernel
theorem dX6_winters_138 : decode cX6_winters 138 = .ok (.aload_n 0, 1) := by decide +kernel
theorem dX6_winters_139 : decode cX6_winters 139 = .ok (.getfield 44, 3) := by decide +kernel
theorem dX6_winters_142 : decode cX6_winters 142 = .ok (.aload_n 0, 1) := by decide +kernel
theorem dX6_winters_143 : decode cX6_winters 143 = .ok (.getfield 12, 3) := by decide +kernel
theorem dX6_winters_146 : decode cX6_winters 146 = .ok (.getfield 112, 3) := by decide +kernel
theorem dX6_winters_149 : decode cX6_winters 149 = .ok (.invokevirtual 281, 3) := by decide +kernel
theorem dX6_winters_152 : decode cX6_winters 152 = .ok (.ireturn, 1) := by decide +kernel
theorem dX6_part_0 : decode cX6_part 0 = .ok (.iload_n 1, 1) := by decide +kernel
theorem dX6_part_1 : decode cX6_part 1 = .ok (.iconst 0, 1) := by decide +kernel
theorem dX6_part_2 : decode cX6_part 2 = .ok (.iconst 1, 1) := by decide +kernel
theorem dX6_part_3 : decode cX6_part 3 = .ok (.invokestatic 118, 3) := by decide +kernel
theorem dX6_part_6 : decode cX6_part 6 = .ok (.ifCond .ne 11, 3) := by decide +kernel
theorem dX6_part_9 : decode cX6_part 9 = .ok (.aload_n 0, 1) := by decide +kernel
theorem dX6_part_10 : decode cX6_part 10 = .ok (.bipush (-2), 2) := by decide +kernel
theorem dX6_part_12 : decode cX6_part 12 = .ok (.invokevirtual 72, 3) := by decide +kernel
theorem dX6_part_15 : decode cX6_part 15 = .ok (.i2l, 1) := by decide +kernel
theorem dX6_part_16 : decode cX6_part 16 = .ok (.lreturn, 1) := by decide +kernel
theorem dX6_part_17 : decode cX6_part 17 = .ok (.iload_n 1, 1) := by decide +kernel
theorem dX6_part_18 : decode cX6_part 18 = .ok (.ifCond .ne 11, 3) := by decide +kernel
theorem dX6_part_21 : decode cX6_part 21 = .ok (.aload_n 0, 1) := by decide +kernel
theorem dX6_part_22 : decode cX6_part 22 = .ok (.getfield 284, 3) := by decide +kernel
theorem dX6_part_25 : decode cX6_part 25 = .ok (.i2l, 1) := by decide +kernel
theorem dX6_part_26 : decode cX6_part 26 = .ok (.goto 8, 3) := by decide +kernel
theorem dX6_part_29 : decode cX6_part 29 = .ok (.aload_n 0, 1) := by decide +kernel
theorem dX6_part_30 : decode cX6_part 30 = .ok (.getfield 64, 3) := by decide +kernel
theorem dX6_part_33 : decode cX6_part 33 = .ok (.i2l, 1) := by decide +kernel
theorem dX6_part_34 : decode cX6_part 34 = .ok (.lreturn, 1) := by decide +kernel
theorem dX6_image_0 : decode cX6_image 0 = .ok (.iload_n 1, 1) := by decide +kernel
theorem dX6_image_1 : decode cX6_image 1 = .ok (.invokestatic 287, 3) := by decide +kernel
theorem dX6_image_4 : decode cX6_image 4 = .ok (.ifCond .ne 10, 3) := by decide +kernel
theorem dX6_image_7 : decode cX6_image 7 = .ok (.aload_n 0, 1) := by decide +kernel
theorem dX6_image_8 : decode cX6_image 8 = .ok (.bipush (-2), 2) := by decide +kernel
theorem dX6_image_10 : decode cX6_image 10 = .ok (.invokevirtual 72, 3) := by decide +kernel
theorem dX6_image_13 : decode cX6_image 13 = .ok (.ireturn, 1) := by decide +kernel
theorem dX6_image_14 : decode cX6_image 14 = .ok (.aload_n 0, 1) := by decide +kernel
theorem dX6_image_15 : decode cX6_image 15 = .ok (.getfield 19, 3) := by decide +kernel
theorem dX6_image_18 : decode cX6_image 18 = .ok (.iload_n 1, 1) := by decide +kernel
theorem dX6_image_19 : decode cX6_image 19 = .ok (.aaload, 1) := by decide +kernel
theorem dX6_image_20 : decode cX6_image 20 = .ok (.aload_n 0, 1) := by decide +kernel
theorem dX6_image_21 : decode cX6_image 21 = .ok (.getfield 12, 3) := by decide +kernel
theorem dX6_image_24 : decode cX6_image 24 = .ok (.invokevirtual 130, 3) := by decide +kernel
theorem dX6_image_27 : decode cX6_image 27 = .ok (.aload_n 0, 1) := by decide +kernel
theorem dX6_image_28 : decode cX6_image 28 = .ok (.getfield 23, 3) := by decide +kernel
theorem dX6_image_31 : decode cX6_image 31 = .ok (.iload_n 1, 1) := by decide +kernel
theorem dX6_image_32 : decode cX6_image 32 = .ok (.iconst 1, 1) := by decide +kernel
theorem dX6_image_33 : decode cX6_image 33 = .ok (.bastore, 1) := by decide +kernel
theorem dX6_image_34 : decode cX6_image 34 = .ok (.iconst 1, 1) := by decide +kernel
theorem dX6_image_35 : decode cX6_image 35 = .ok (.ireturn, 1) := by decide +kernel
theorem dX6_from_0 : decode cX6_from 0 = .ok (.iload_n 1, 1) := by decide +kernel
theorem dX6_from_1 : decode cX6_from 1 = .ok (.invokestatic 287, 3) := by decide +kernel
theorem dX6_from_4 : decode cX6_from 4 = .ok (.ifCond .ne 10, 3) := by decide +kernel
theorem dX6_from_7 : decode cX6_from 7 = .ok (.aload_n 0, 1) := by decide +kernel
theorem dX6_from_8 : decode cX6_from 8 = .ok (.bipush (-2), 2) := by decide +kernel
theorem dX6_from_10 : decode cX6_from 10 = .ok (.invokevirtual 72, 3) := by decide +kernel
theorem dX6_from_13 : decode cX6_from 13 = .ok (.ireturn, 1) := by decide +kernel
theorem dX6_from_14 : decode cX6_from 14 = .ok (.aload_n 0, 1) := by decide +kernel
theorem dX6_from_15 : decode cX6_from 15 = .ok (.getfield 23, 3) := by decide +kernel
theorem dX6_from_18 : decode cX6_from 18 = .ok (.iload_n 1, 1) := by decide +kernel
theorem dX6_from_19 : decode cX6_from 19 = .ok (.baload, 1) := by decide +kernel
theorem dX6_from_20 : decode cX6_from 20 = .ok (.ifCond .ne 8, 3) := by decide +kernel
theorem dX6_from_23 : decode cX6_from 23 = .ok (.aload_n 0, 1) := by decide +kernel
theorem dX6_from_24 : decode cX6_from 24 = .ok (.invokevirtual 115, 3) := by decide +kernel
theorem dX6_from_27 : decode cX6_from 27 = .ok (.ireturn, 1) := by decide +kernel
theorem dX6_from_28 : decode cX6_from 28 = .ok (.aload_n 0, 1) := by decide +kernel
theorem dX6_from_29 : decode cX6_from 29 = .ok (.getfield 12, 3) := by decide +kernel
theorem dX6_from_32 : decode cX6_from 32 = .ok (.aload_n 0, 1) := by decide +kernel
theorem dX6_from_33 : decode cX6_from 33 = .ok (.getfield 19, 3) := by decide +kernel
theorem dX6_from_36 : decode cX6_from 36 = .ok (.iload_n 1, 1) := by decide +kernel
theorem dX6_from_37 : decode cX6_from 37 = .ok (.aaload, 1) := by decide +kernel
theorem dX6_from_38 : decode cX6_from 38 = .ok (.invokevirtual 130, 3) := by decide +kernel
theorem dX6_from_41 : decode cX6_from 41 = .ok (.iconst 1, 1) := by decide +kernel
theorem dX6_from_42 : decode cX6_from 42 = .ok (.ireturn, 1) := by decide +kernel
theorem dX6_status_0 : decode cX6_status 0 = .ok (.iload_n 1, 1) := by decide +kernel
theorem dX6_status_1 : decode cX6_status 1 = .ok (.tableswitch 42 0 2 #[27, 32, 37], 27) := by decide +kernel
theorem dX6_status_28 : decode cX6_status 28 = .ok (.aload_n 0, 1) := by decide +kernel
theorem dX6_status_29 : decode cX6_status 29 = .ok (.getfield 290, 3) := by decide +kernel
theorem dX6_status_32 : decode cX6_status 32 = .ok (.ireturn, 1) := by decide +kernel
theorem dX6_status_33 : decode cX6_status 33 = .ok (.aload_n 0, 1) := by decide +kernel
theorem dX6_status_34 : decode cX6_status 34 = .ok (.getfield 293, 3) := by decide +kernel
theorem dX6_status_37 : decode cX6_status 37 = .ok (.ireturn, 1) := by decide +kernel
theorem dX6_status_38 : decode cX6_status 38 = .ok (.aload_n 0, 1) := by decide +kernel
theorem dX6_status_39 : decode cX6_status 39 = .ok (.getfield 296, 3) := by decide +kernel
theorem dX6_status_42 : decode cX6_status 42 = .ok (.ireturn, 1) := by decide +kernel
theorem dX6_status_43 : decode cX6_status 43 = .ok (.aload_n 0, 1) := by decide +kernel
theorem dX6_status_44 : decode cX6_status 44 = .ok (.iconst (-1), 1) := by decide +kernel
theorem dX6_status_45 : decode cX6_status 45 = .ok (.invokevirtual 72, 3) := by decide +kernel
theorem dX6_status_48 : decode cX6_status 48 = .ok (.ireturn, 1) := by decide +kernel
theorem dX6_count_0 : decode cX6_count 0 = .ok (.iload_n 1, 1) := by decide +kernel
theorem dX6_count_1 : decode cX6_count 1 = .ok (.iconst 0, 1) := by decide +kernel
theorem dX6_count_2 : decode cX6_count 2 = .ok (.bipush 9, 2) := by decide +kernel
theorem dX6_count_4 : decode cX6_count 4 = .ok (.invokestatic 118, 3) := by decide +kernel
theorem dX6_count_7 : decode cX6_count 7 = .ok (.ifCond .eq 11, 3) := by decide +kernel
theorem dX6_count_10 : decode cX6_count 10 = .ok (.aload_n 0, 1) := by decide +kernel
theorem dX6_count_11 : decode cX6_count 11 = .ok (.iload_n 1, 1) := by decide +kernel
theorem dX6_count_12 : decode cX6_count 12 = .ok (.invokevirtual 299, 3) := by decide +kernel
theorem dX6_count_15 : decode cX6_count 15 = .ok (.goto 9, 3) := by decide +kernel
theorem dX6_count_18 : decode cX6_count 18 = .ok (.aload_n 0, 1) := by decide +kernel
theorem dX6_count_19 : decode cX6_count 19 = .ok (.bipush (-2), 2) := by decide +kernel
theorem dX6_count_21 : decode cX6_count 21 = .ok (.invokevirtual 72, 3) := by decide +kernel
theorem dX6_count_24 : decode cX6_count 24 = .ok (.ireturn, 1) := by decide +kernel
theorem dX6_digest_0 : decode cX6_digest 0 = .ok (.ldc2_w 302, 3) := by decide +kernel
theorem dX6_digest_3 : decode cX6_digest 3 = .ok (.lstore_n 1, 1) := by decide +kernel
theorem dX6_digest_4 : decode cX6_digest 4 = .ok (.iconst 0, 1) := by decide +kernel
theorem dX6_digest_5 : decode cX6_digest 5 = .ok (.istore_n 3, 1) := by decide +kernel
theorem dX6_digest_6 : decode cX6_digest 6 = .ok (.iload_n 3, 1) := by decide +kernel
theorem dX6_digest_7 : decode cX6_digest 7 = .ok (.bipush 10, 2) := by decide +kernel
theorem dX6_digest_9 : decode cX6_digest 9 = .ok (.if_icmp .ge 20, 3) := by decide +kernel
theorem dX6_digest_12 : decode cX6_digest 12 = .ok (.lload_n 1, 1) := by decide +kernel
theorem dX6_digest_13 : decode cX6_digest 13 = .ok (.aload_n 0, 1) := by decide +kernel
theorem dX6_digest_14 : decode cX6_digest 14 = .ok (.iload_n 3, 1) := by decide +kernel
theorem dX6_digest_15 : decode cX6_digest 15 = .ok (.invokevirtual 299, 3) := by decide +kernel
theorem dX6_digest_18 : decode cX6_digest 18 = .ok (.i2l, 1) := by decide +kernel
theorem dX6_digest_19 : decode cX6_digest 19 = .ok (.invokestatic 304, 3) := by decide +kernel
theorem dX6_digest_22 : decode cX6_digest 22 = .ok (.lstore_n 1, 1) := by decide +kernel
theorem dX6_digest_23 : decode cX6_digest 23 = .ok (.iinc 3 1, 3) := by decide +kernel
theorem dX6_digest_26 : decode cX6_digest 26 = .ok (.goto (-20), 3) := by decide +kernel
theorem dX6_digest_29 : decode cX6_digest 29 = .ok (.iconst 0, 1) := by decide +kernel
theorem dX6_digest_30 : decode cX6_digest 30 = .ok (.istore_n 3, 1) := by decide +kernel
theorem dX6_digest_31 : decode cX6_digest 31 = .ok (.iload_n 3, 1) := by decide +kernel
theorem dX6_digest_32 : decode cX6_digest 32 = .ok (.aload_n 0, 1) := by decide +kernel
theorem dX6_digest_33 : decode cX6_digest 33 = .ok (.getfield 12, 3) := by decide +kernel
theorem dX6_digest_36 : decode cX6_digest 36 = .ok (.getfield 76, 3) := by decide +kernel
theorem dX6_digest_39 : decode cX6_digest 39 = .ok (.getfield 89, 3) := by decide +kernel
theorem dX6_digest_42 : decode cX6_digest 42 = .ok (.if_icmp .ge 43, 3) := by decide +kernel
theorem dX6_digest_45 : decode cX6_digest 45 = .ok (.lload_n 1, 1) := by decide +kernel
theorem dX6_digest_46 : decode cX6_digest 46 = .ok (.aload_n 0, 1) := by decide +kernel
theorem dX6_digest_47 : decode cX6_digest 47 = .ok (.getfield 12, 3) := by decide +kernel
theorem dX6_digest_50 : decode cX6_digest 50 = .ok (.getfield 76, 3) := by decide +kernel
theorem dX6_digest_53 : decode cX6_digest 53 = .ok (.getfield 158, 3) := by decide +kernel
theorem dX6_digest_56 : decode cX6_digest 56 = .ok (.iload_n 3, 1) := by decide +kernel
theorem dX6_digest_57 : decode cX6_digest 57 = .ok (.iaload, 1) := by decide +kernel
theorem dX6_digest_58 : decode cX6_digest 58 = .ok (.i2l, 1) := by decide +kernel
theorem dX6_digest_59 : decode cX6_digest 59 = .ok (.invokestatic 304, 3) := by decide +kernel
theorem dX6_digest_62 : decode cX6_digest 62 = .ok (.aload_n 0, 1) := by decide +kernel
theorem dX6_digest_63 : decode cX6_digest 63 = .ok (.getfield 12, 3) := by decide +kernel
theorem dX6_digest_66 : decode cX6_digest 66 = .ok (.getfield 76, 3) := by decide +kernel
theorem dX6_digest_69 : decode cX6_digest 69 = .ok (.getfield 161, 3) := by decide +kernel
theorem dX6_digest_72 : decode cX6_digest 72 = .ok (.iload_n 3, 1) := by decide +kernel
theorem dX6_digest_73 : decode cX6_digest 73 = .ok (.iaload, 1) := by decide +kernel
theorem dX6_digest_74 : decode cX6_digest 74 = .ok (.i2l, 1) := by decide +kernel
theorem dX6_digest_75 : decode cX6_digest 75 = .ok (.invokestatic 304, 3) := by decide +kernel
theorem dX6_digest_78 : decode cX6_digest 78 = .ok (.lstore_n 1, 1) := by decide +kernel
theorem dX6_digest_79 : decode cX6_digest 79 = .ok (.iinc 3 1, 3) := by decide +kernel
theorem dX6_digest_82 : decode cX6_digest 82 = .ok (.goto (-51), 3) := by decide +kernel
theorem dX6_digest_85 : decode cX6_digest 85 = .ok (.iconst 0, 1) := by decide +kernel
theorem dX6_digest_86 : decode cX6_digest 86 = .ok (.istore_n 3, 1) := by decide +kernel
theorem dX6_digest_87 : decode cX6_digest 87 = .ok (.iload_n 3, 1) := by decide +kernel
theorem dX6_digest_88 : decode cX6_digest 88 = .ok (.aload_n 0, 1) := by decide +kernel
theorem dX6_digest_89 : decode cX6_digest 89 = .ok (.getfield 12, 3) := by decide +kernel
theorem dX6_digest_92 : decode cX6_digest 92 = .ok (.getfield 76, 3) := by decide +kernel
theorem dX6_digest_95 : decode cX6_digest 95 = .ok (.getfield 79, 3) := by decide +kernel
theorem dX6_digest_98 : decode cX6_digest 98 = .ok (.if_icmp .ge 43, 3) := by decide +kernel
theorem dX6_digest_101 : decode cX6_digest 101 = .ok (.lload_n 1, 1) := by decide +kernel
theorem dX6_digest_102 : decode cX6_digest 102 = .ok (.aload_n 0, 1) := by decide +kernel
theorem dX6_digest_103 : decode cX6_digest 103 = .ok (.getfield 12, 3) := by decide +kernel
theorem dX6_digest_106 : decode cX6_digest 106 = .ok (.getfield 76, 3) := by decide +kernel
theorem dX6_digest_109 : decode cX6_digest 109 = .ok (.getfield 170, 3) := by decide +kernel
theorem dX6_digest_112 : decode cX6_digest 112 = .ok (.iload_n 3, 1) := by decide +kernel
theorem dX6_digest_113 : decode cX6_digest 113 = .ok (.iaload, 1) := by decide +kernel
theorem dX6_digest_114 : decode cX6_digest 114 = .ok (.i2l, 1) := by decide +kernel
theorem dX6_digest_115 : decode cX6_digest 115 = .ok (.invokestatic 304, 3) := by decide +kernel
theorem dX6_digest_118 : decode cX6_digest 118 = .ok (.aload_n 0, 1) := by decide +kernel
theorem dX6_digest_119 : decode cX6_digest 119 = .ok (.getfield 12, 3) := by decide +kernel
theorem dX6_digest_122 : decode cX6_digest 122 = .ok (.getfield 76, 3) := by decide +kernel
theorem dX6_digest_125 : decode cX6_digest 125 = .ok (.getfield 173, 3) := by decide +kernel
theorem dX6_digest_128 : decode cX6_digest 128 = .ok (.iload_n 3, 1) := by decide +kernel
theorem dX6_digest_129 : decode cX6_digest 129 = .ok (.iaload, 1) := by decide +kernel
theorem dX6_digest_130 : decode cX6_digest 130 = .ok (.i2l, 1) := by decide +kernel
theorem dX6_digest_131 : decode cX6_digest 131 = .ok (.invokestatic 304, 3) := by decide +kernel
theorem dX6_digest_134 : decode cX6_digest 134 = .ok (.lstore_n 1, 1) := by decide +kernel
theorem dX6_digest_135 : decode cX6_digest 135 = .ok (.iinc 3 1, 3) := by decide +kernel
theorem dX6_digest_138 : decode cX6_digest 138 = .ok (.goto (-51), 3) := by decide +kernel
theorem dX6_digest_141 : decode cX6_digest 141 = .ok (.lload_n 1, 1) := by decide +kernel
theorem dX6_digest_142 : decode cX6_digest 142 = .ok (.aload_n 0, 1) := by decide +kernel
theorem dX6_digest_143 : decode cX6_digest 143 = .ok (.getfield 12, 3) := by decide +kernel
theorem dX6_digest_146 : decode cX6_digest 146 = .ok (.getfield 217, 3) := by decide +kernel
theorem dX6_digest_149 : decode cX6_digest 149 = .ok (.invokestatic 308, 3) := by decide +kernel
theorem dX6_digest_152 : decode cX6_digest 152 = .ok (.lstore_n 1, 1) := by decide +kernel
theorem dX6_digest_153 : decode cX6_digest 153 = .ok (.lload_n 1, 1) := by decide +kernel
theorem dX6_digest_154 : decode cX6_digest 154 = .ok (.aload_n 0, 1) := by decide +kernel
theorem dX6_digest_155 : decode cX6_digest 155 = .ok (.getfield 12, 3) := by decide +kernel
theorem dX6_digest_158 : decode cX6_digest 158 = .ok (.getfield 235, 3) := by decide +kernel
theorem dX6_digest_161 : decode cX6_digest 161 = .ok (.invokestatic 308, 3) := by decide +kernel
theorem dX6_digest_164 : decode cX6_digest 164 = .ok (.lstore_n 1, 1) := by decide +kernel
theorem dX6_digest_165 : decode cX6_digest 165 = .ok (.lload_n 1, 1) := by decide +kernel
theorem dX6_digest_166 : decode cX6_digest 166 = .ok (.aload_n 0, 1) := by decide +kernel
theorem dX6_digest_167 : decode cX6_digest 167 = .ok (.getfield 12, 3) := by decide +kernel
theorem dX6_digest_170 : decode cX6_digest 170 = .ok (.getfield 238, 3) := by decide +kernel
theorem dX6_digest_173 : decode cX6_digest 173 = .ok (.invokestatic 308, 3) := by decide +kernel
theorem dX6_digest_176 : decode cX6_digest 176 = .ok (.lstore_n 1, 1) := by decide +kernel
theorem dX6_digest_177 : decode cX6_digest 177 = .ok (.lload_n 1, 1) := by decide +kernel
theorem dX6_digest_178 : decode cX6_digest 178 = .ok (.aload_n 0, 1) := by decide +kernel
theorem dX6_digest_179 : decode cX6_digest 179 = .ok (.getfield 284, 3) := by decide +kernel
theorem dX6_digest_182 : decode cX6_digest 182 = .ok (.i2l, 1) := by decide +kernel
theorem dX6_digest_183 : decode cX6_digest 183 = .ok (.invokestatic 304, 3) := by decide +kernel
theorem dX6_digest_186 : decode cX6_digest 186 = .ok (.aload_n 0, 1) := by decide +kernel
theorem dX6_digest_187 : decode cX6_digest 187 = .ok (.getfield 64, 3) := by decide +kernel
theorem dX6_digest_190 : decode cX6_digest 190 = .ok (.i2l, 1) := by decide +kernel
theorem dX6_digest_191 : decode cX6_digest 191 = .ok (.invokestatic 304, 3) := by decide +kernel
theorem dX6_digest_194 : decode cX6_digest 194 = .ok (.lreturn, 1) := by decide +kernel
theorem dX6_refuseBad_0 : decode cX6_refuseBad 0 = .ok (.aload_n 0, 1) := by decide +kernel
theorem dX6_refuseBad_1 : decode cX6_refuseBad 1 = .ok (.dup, 1) := by decide +kernel
theorem dX6_refuseBad_2 : decode cX6_refuseBad 2 = .ok (.getfield 290, 3) := by decide +kernel
theorem dX6_refuseBad_5 : decode cX6_refuseBad 5 = .ok (.iconst 1, 1) := by decide +kernel
theorem dX6_refuseBad_6 : decode cX6_refuseBad 6 = .ok (.iadd, 1) := by decide +kernel
theorem dX6_refuseBad_7 : decode cX6_refuseBad 7 = .ok (.putfield 290, 3) := by decide +kernel
theorem dX6_refuseBad_10 : decode cX6_refuseBad 10 = .ok (.iload_n 1, 1) := by decide +kernel
theorem dX6_refuseBad_11 : decode cX6_refuseBad 11 = .ok (.ireturn, 1) := by decide +kernel
theorem dX6_refuseNo_0 : decode cX6_refuseNo 0 = .ok (.aload_n 0, 1) := by decide +kernel
theorem dX6_refuseNo_1 : decode cX6_refuseNo 1 = .ok (.dup, 1) := by decide +kernel
theorem dX6_refuseNo_2 : decode cX6_refuseNo 2 = .ok (.getfield 293, 3) := by decide +kernel
theorem dX6_refuseNo_5 : decode cX6_refuseNo 5 = .ok (.iconst 1, 1) := by decide +kernel
theorem dX6_refuseNo_6 : decode cX6_refuseNo 6 = .ok (.iadd, 1) := by decide +kernel
theorem dX6_refuseNo_7 : decode cX6_refuseNo 7 = .ok (.putfield 293, 3) := by decide +kernel
theorem dX6_refuseNo_10 : decode cX6_refuseNo 10 = .ok (.bipush (-3), 2) := by decide +kernel
theorem dX6_refuseNo_12 : decode cX6_refuseNo 12 = .ok (.ireturn, 1) := by decide +kernel
theorem dX6_refuseFull_0 : decode cX6_refuseFull 0 = .ok (.aload_n 0, 1) := by decide +kernel
theorem dX6_refuseFull_1 : decode cX6_refuseFull 1 = .ok (.dup, 1) := by decide +kernel
theorem dX6_refuseFull_2 : decode cX6_refuseFull 2 = .ok (.getfield 296, 3) := by decide +kernel
theorem dX6_refuseFull_5 : decode cX6_refuseFull 5 = .ok (.iconst 1, 1) := by decide +kernel
theorem dX6_refuseFull_6 : decode cX6_refuseFull 6 = .ok (.iadd, 1) := by decide +kernel
theorem dX6_refuseFull_7 : decode cX6_refuseFull 7 = .ok (.putfield 296, 3) := by decide +kernel
theorem dX6_refuseFull_10 : decode cX6_refuseFull 10 = .ok (.bipush (-4), 2) := by decide +kernel
theorem dX6_refuseFull_12 : decode cX6_refuseFull 12 = .ok (.ireturn, 1) := by decide +kernel
theorem dX6_isWithin_0 : decode cX6_isWithin 0 = .ok (.iload_n 0, 1) := by decide +kernel
theorem dX6_isWithin_1 : decode cX6_isWithin 1 = .ok (.iload_n 1, 1) := by decide +kernel
theorem dX6_isWithin_2 : decode cX6_isWithin 2 = .ok (.if_icmp .lt 12, 3) := by decide +kernel
theorem dX6_isWithin_5 : decode cX6_isWithin 5 = .ok (.iload_n 0, 1) := by decide +kernel
theorem dX6_isWithin_6 : decode cX6_isWithin 6 = .ok (.iload_n 2, 1) := by decide +kernel
theorem dX6_isWithin_7 : decode cX6_isWithin 7 = .ok (.if_icmp .gt 7, 3) := by decide +kernel
theorem dX6_isWithin_10 : decode cX6_isWithin 10 = .ok (.iconst 1, 1) := by decide +kernel
theorem dX6_isWithin_11 : decode cX6_isWithin 11 = .ok (.goto 4, 3) := by decide +kernel
theorem dX6_isWithin_14 : decode cX6_isWithin 14 = .ok (.iconst 0, 1) := by decide +kernel
theorem dX6_isWithin_15 : decode cX6_isWithin 15 = .ok (.ireturn, 1) := by decide +kernel
theorem dX6_isCell_0 : decode cX6_isCell 0 = .ok (.iload_n 0, 1) := by decide +kernel
theorem dX6_isCell_1 : decode cX6_isCell 1 = .ok (.iconst 0, 1) := by decide +kernel
theorem dX6_isCell_2 : decode cX6_isCell 2 = .ok (.bipush 24, 2) := by decide +kernel
theorem dX6_isCell_4 : decode cX6_isCell 4 = .ok (.invokestatic 118, 3) := by decide +kernel
theorem dX6_isCell_7 : decode cX6_isCell 7 = .ok (.ireturn, 1) := by decide +kernel
theorem dX6_isKind_0 : decode cX6_isKind 0 = .ok (.iload_n 0, 1) := by decide +kernel
theorem dX6_isKind_1 : decode cX6_isKind 1 = .ok (.iconst 0, 1) := by decide +kernel
theorem dX6_isKind_2 : decode cX6_isKind 2 = .ok (.iconst 5, 1) := by decide +kernel
theorem dX6_isKind_3 : decode cX6_isKind 3 = .ok (.invokestatic 118, 3) := by decide +kernel
theorem dX6_isKind_6 : decode cX6_isKind 6 = .ok (.ireturn, 1) := by decide +kernel
theorem dX6_isCall_0 : decode cX6_isCall 0 = .ok (.iload_n 0, 1) := by decide +kernel
theorem dX6_isCall_1 : decode cX6_isCall 1 = .ok (.iconst 0, 1) := by decide +kernel
theorem dX6_isCall_2 : decode cX6_isCall 2 = .ok (.iconst 4, 1) := by decide +kernel
theorem dX6_isCall_3 : decode cX6_isCall 3 = .ok (.invokestatic 118, 3) := by decide +kernel
theorem dX6_isCall_6 : decode cX6_isCall 6 = .ok (.ireturn, 1) := by decide +kernel
theorem dX6_isImage_0 : decode cX6_isImage 0 = .ok (.iload_n 0, 1) := by decide +kernel
theorem dX6_isImage_1 : decode cX6_isImage 1 = .ok (.iconst 0, 1) := by decide +kernel
theorem dX6_isImage_2 : decode cX6_isImage 2 = .ok (.iconst 1, 1) := by decide +kernel
theorem dX6_isImage_3 : decode cX6_isImage 3 = .ok (.invokestatic 118, 3) := by decide +kernel
theorem dX6_isImage_6 : decode cX6_isImage 6 = .ok (.ireturn, 1) := by decide +kernel
theorem dX6_whistleReach_0 : decode cX6_whistleReach 0 = .ok (.iconst 1, 1) := by decide +kernel
theorem dX6_whistleReach_1 : decode cX6_whistleReach 1 = .ok (.istore_n 2, 1) := by decide +kernel
theorem dX6_whistleReach_2 : decode cX6_whistleReach 2 = .ok (.iload_n 2, 1) := by decide +kernel
theorem dX6_whistleReach_3 : decode cX6_whistleReach 3 = .ok (.iconst 1, 1) := by decide +kernel
theorem dX6_whistleReach_4 : decode cX6_whistleReach 4 = .ok (.iadd, 1) := by decide +kernel
theorem dX6_whistleReach_5 : decode cX6_whistleReach 5 = .ok (.istore_n 3, 1) := by decide +kernel
theorem dX6_whistleReach_6 : decode cX6_whistleReach 6 = .ok (.iload_n 1, 1) := by decide +kernel
theorem dX6_whistleReach_7 : decode cX6_whistleReach 7 = .ok (.iconst 3, 1) := by decide +kernel
theorem dX6_whistleReach_8 : decode cX6_whistleReach 8 = .ok (.irem, 1) := by decide +kernel
theorem dX6_whistleReach_9 : decode cX6_whistleReach 9 = .ok (.ifCond .ne 7, 3) := by decide +kernel
theorem dX6_whistleReach_12 : decode cX6_whistleReach 12 = .ok (.iconst 0, 1) := by decide +kernel
theorem dX6_whistleReach_13 : decode cX6_whistleReach 13 = .ok (.goto 4, 3) := by decide +kernel
theorem dX6_whistleReach_16 : decode cX6_whistleReach 16 = .ok (.iload_n 2, 1) := by decide +kernel
theorem dX6_whistleReach_17 : decode cX6_whistleReach 17 = .ok (.istore 4, 2) := by decide +kernel
theorem dX6_whistleReach_19 : decode cX6_whistleReach 19 = .ok (.iload_n 0, 1) := by decide +kernel
theorem dX6_whistleReach_20 : decode cX6_whistleReach 20 = .ok (.tableswitch 86 1 5 #[36, 38, 41, 55, 70], 36) := by decide +kernel
theorem dX6_whistleReach_56 : decode cX6_whistleReach 56 = .ok (.iload_n 3, 1) := by decide +kernel
theorem dX6_whistleReach_57 : decode cX6_whistleReach 57 = .ok (.ireturn, 1) := by decide +kernel
theorem dX6_whistleReach_58 : decode cX6_whistleReach 58 = .ok (.iload 4, 2) := by decide +kernel
theorem dX6_whistleReach_60 : decode cX6_whistleReach 60 = .ok (.ireturn, 1) := by decide +kernel
theorem dX6_whistleReach_61 : decode cX6_whistleReach 61 = .ok (.iload_n 1, 1) := by decide +kernel
theorem dX6_whistleReach_62 : decode cX6_whistleReach 62 = .ok (.iconst 5, 1) := by decide +kernel
theorem dX6_whistleReach_63 : decode cX6_whistleReach 63 = .ok (.irem, 1) := by decide +kernel
theorem dX6_whistleReach_64 : decode cX6_whistleReach 64 = .ok (.ifCond .ne 9, 3) := by decide +kernel
theorem dX6_whistleReach_67 : decode cX6_whistleReach 67 = .ok (.iconst 2, 1) := by decide +kernel
theorem dX6_whistleReach_68 : decode cX6_whistleReach 68 = .ok (.iload_n 3, 1) := by decide +kernel
theorem dX6_whistleReach_69 : decode cX6_whistleReach 69 = .ok (.imul, 1) := by decide +kernel
theorem dX6_whistleReach_70 : decode cX6_whistleReach 70 = .ok (.goto 4, 3) := by decide +kernel
theorem dX6_whistleReach_73 : decode cX6_whistleReach 73 = .ok (.iload_n 3, 1) := by decide +kernel
theorem dX6_whistleReach_74 : decode cX6_whistleReach 74 = .ok (.ireturn, 1) := by decide +kernel
theorem dX6_whistleReach_75 : decode cX6_whistleReach 75 = .ok (.iload_n 1, 1) := by decide +kernel
theorem dX6_whistleReach_76 : decode cX6_whistleReach 76 = .ok (.iconst 2, 1) := by decide +kernel
theorem dX6_whistleReach_77 : decode cX6_whistleReach 77 = .ok (.irem, 1) := by decide +kernel
theorem dX6_whistleReach_78 : decode cX6_whistleReach 78 = .ok (.iconst 1, 1) := by decide +kernel
theorem dX6_whistleReach_79 : decode cX6_whistleReach 79 = .ok (.if_icmp .ne 9, 3) := by decide +kernel
theorem dX6_whistleReach_82 : decode cX6_whistleReach 82 = .ok (.iload_n 2, 1) := by decide +kernel
theorem dX6_whistleReach_83 : decode cX6_whistleReach 83 = .ok (.iconst 1, 1) := by decide +kernel
theorem dX6_whistleReach_84 : decode cX6_whistleReach 84 = .ok (.iadd, 1) := by decide +kernel
theorem dX6_whistleReach_85 : decode cX6_whistleReach 85 = .ok (.goto 4, 3) := by decide +kernel
theorem dX6_whistleReach_88 : decode cX6_whistleReach 88 = .ok (.iload_n 2, 1) := by decide +kernel
theorem dX6_whistleReach_89 : decode cX6_whistleReach 89 = .ok (.ireturn, 1) := by decide +kernel
theorem dX6_whistleReach_90 : decode cX6_whistleReach 90 = .ok (.iload_n 1, 1) := by decide +kernel
theorem dX6_whistleReach_91 : decode cX6_whistleReach 91 = .ok (.bipush 20, 2) := by decide +kernel
theorem dX6_whistleReach_93 : decode cX6_whistleReach 93 = .ok (.if_icmp .lt 10, 3) := by decide +kernel
theorem dX6_whistleReach_96 : decode cX6_whistleReach 96 = .ok (.iload 4, 2) := by decide +kernel
theorem dX6_whistleReach_98 : decode cX6_whistleReach 98 = .ok (.iconst 1, 1) := by decide +kernel
theorem dX6_whistleReach_99 : decode cX6_whistleReach 99 = .ok (.iadd, 1) := by decide +kernel
theorem dX6_whistleReach_100 : decode cX6_whistleReach 100 = .ok (.goto 5, 3) := by decide +kernel
theorem dX6_whistleReach_103 : decode cX6_whistleReach 103 = .ok (.iload 4, 2) := by decide +kernel
theorem dX6_whistleReach_105 : decode cX6_whistleReach 105 = .ok (.ireturn, 1) := by decide +kernel
theorem dX6_whistleReach_106 : decode cX6_whistleReach 106 = .ok (.iload_n 2, 1) := by decide +kernel
theorem dX6_whistleReach_107 : decode cX6_whistleReach 107 = .ok (.ireturn, 1) := by decide +kernel
theorem dX6_sheepReach_0 : decode cX6_sheepReach 0 = .ok (.iload_n 1, 1) := by decide +kernel
theorem dX6_sheepReach_1 : decode cX6_sheepReach 1 = .ok (.iconst 1, 1) := by decide +kernel
theorem dX6_sheepReach_2 : decode cX6_sheepReach 2 = .ok (.if_icmp .gt 7, 3) := by decide +kernel
theorem dX6_sheepReach_5 : decode cX6_sheepReach 5 = .ok (.iconst 1, 1) := by decide +kernel
theorem dX6_sheepReach_6 : decode cX6_sheepReach 6 = .ok (.goto 4, 3) := by decide +kernel
theorem dX6_sheepReach_9 : decode cX6_sheepReach 9 = .ok (.iconst 0, 1) := by decide +kernel
theorem dX6_sheepReach_10 : decode cX6_sheepReach 10 = .ok (.istore_n 2, 1) := by decide +kernel
theorem dX6_sheepReach_11 : decode cX6_sheepReach 11 = .ok (.iload_n 1, 1) := by decide +kernel
theorem dX6_sheepReach_12 : decode cX6_sheepReach 12 = .ok (.ifCond .ne 9, 3) := by decide +kernel
theorem dX6_sheepReach_15 : decode cX6_sheepReach 15 = .ok (.iload_n 2, 1) := by decide +kernel
theorem dX6_sheepReach_16 : decode cX6_sheepReach 16 = .ok (.iconst 2, 1) := by decide +kernel
theorem dX6_sheepReach_17 : decode cX6_sheepReach 17 = .ok (.iadd, 1) := by decide +kernel
theorem dX6_sheepReach_18 : decode cX6_sheepReach 18 = .ok (.goto 4, 3) := by decide +kernel
theorem dX6_sheepReach_21 : decode cX6_sheepReach 21 = .ok (.iload_n 2, 1) := by decide +kernel
theorem dX6_sheepReach_22 : decode cX6_sheepReach 22 = .ok (.istore_n 3, 1) := by decide +kernel
theorem dX6_sheepReach_23 : decode cX6_sheepReach 23 = .ok (.iload_n 1, 1) := by decide +kernel
theorem dX6_sheepReach_24 : decode cX6_sheepReach 24 = .ok (.iconst 2, 1) := by decide +kernel
theorem dX6_sheepReach_25 : decode cX6_sheepReach 25 = .ok (.if_icmp .gt 9, 3) := by decide +kernel
theorem dX6_sheepReach_28 : decode cX6_sheepReach 28 = .ok (.iload_n 2, 1) := by decide +kernel
theorem dX6_sheepReach_29 : decode cX6_sheepReach 29 = .ok (.iconst 1, 1) := by decide +kernel
theorem dX6_sheepReach_30 : decode cX6_sheepReach 30 = .ok (.iadd, 1) := by decide +kernel
theorem dX6_sheepReach_31 : decode cX6_sheepReach 31 = .ok (.goto 4, 3) := by decide +kernel
theorem dX6_sheepReach_34 : decode cX6_sheepReach 34 = .ok (.iload_n 2, 1) := by decide +kernel
theorem dX6_sheepReach_35 : decode cX6_sheepReach 35 = .ok (.istore 4, 2) := by decide +kernel
theorem dX6_sheepReach_37 : decode cX6_sheepReach 37 = .ok (.iload_n 0, 1) := by decide +kernel
theorem dX6_sheepReach_38 : decode cX6_sheepReach 38 = .ok (.tableswitch 73 1 5 #[34, 36, 46, 61, 64], 34) := by decide +kernel
theorem dX6_sheepReach_72 : decode cX6_sheepReach 72 = .ok (.iload_n 3, 1) := by decide +kernel
theorem dX6_sheepReach_73 : decode cX6_sheepReach 73 = .ok (.ireturn, 1) := by decide +kernel
theorem dX6_sheepReach_74 : decode cX6_sheepReach 74 = .ok (.iload_n 1, 1) := by decide +kernel
theorem dX6_sheepReach_75 : decode cX6_sheepReach 75 = .ok (.ifCond .ne 7, 3) := by decide +kernel
theorem dX6_sheepReach_78 : decode cX6_sheepReach 78 = .ok (.iload_n 2, 1) := by decide +kernel
theorem dX6_sheepReach_79 : decode cX6_sheepReach 79 = .ok (.goto 4, 3) := by decide +kernel
theorem dX6_sheepReach_82 : decode cX6_sheepReach 82 = .ok (.iconst 0, 1) := by decide +kernel
theorem dX6_sheepReach_83 : decode cX6_sheepReach 83 = .ok (.ireturn, 1) := by decide +kernel
theorem dX6_sheepReach_84 : decode cX6_sheepReach 84 = .ok (.iload_n 1, 1) := by decide +kernel
theorem dX6_sheepReach_85 : decode cX6_sheepReach 85 = .ok (.iconst 3, 1) := by decide +kernel
theorem dX6_sheepReach_86 : decode cX6_sheepReach 86 = .ok (.if_icmp .gt 11, 3) := by decide +kernel
theorem dX6_sheepReach_89 : decode cX6_sheepReach 89 = .ok (.iconst 1, 1) := by decide +kernel
theorem dX6_sheepReach_90 : decode cX6_sheepReach 90 = .ok (.iload_n 3, 1) := by decide +kernel
theorem dX6_sheepReach_91 : decode cX6_sheepReach 91 = .ok (.invokestatic 312, 3) := by decide +kernel
theorem dX6_sheepReach_94 : decode cX6_sheepReach 94 = .ok (.goto 4, 3) := by decide +kernel
theorem dX6_sheepReach_97 : decode cX6_sheepReach 97 = .ok (.iload_n 3, 1) := by decide +kernel
theorem dX6_sheepReach_98 : decode cX6_sheepReach 98 = .ok (.ireturn, 1) := by decide +kernel
theorem dX6_sheepReach_99 : decode cX6_sheepReach 99 = .ok (.iload 4, 2) := by decide +kernel
theorem dX6_sheepReach_101 : decode cX6_sheepReach 101 = .ok (.ireturn, 1) := by decide +kernel
theorem dX6_sheepReach_102 : decode cX6_sheepReach 102 = .ok (.iconst 3, 1) := by decide +kernel
theorem dX6_sheepReach_103 : decode cX6_sheepReach 103 = .ok (.iconst 2, 1) := by decide +kernel
theorem dX6_sheepReach_104 : decode cX6_sheepReach 104 = .ok (.iload 4, 2) := by decide +kernel
theorem dX6_sheepReach_106 : decode cX6_sheepReach 106 = .ok (.imul, 1) := by decide +kernel
theorem dX6_sheepReach_107 : decode cX6_sheepReach 107 = .ok (.invokestatic 150, 3) := by decide +kernel
theorem dX6_sheepReach_110 : decode cX6_sheepReach 110 = .ok (.ireturn, 1) := by decide +kernel
theorem dX6_sheepReach_111 : decode cX6_sheepReach 111 = .ok (.iload_n 2, 1) := by decide +kernel
theorem dX6_sheepReach_112 : decode cX6_sheepReach 112 = .ok (.ireturn, 1) := by decide +kernel
theorem dX6_kindReach_0 : decode cX6_kindReach 0 = .ok (.iload_n 0, 1) := by decide +kernel
theorem dX6_kindReach_1 : decode cX6_kindReach 1 = .ok (.ifCond .eq 11, 3) := by decide +kernel
theorem dX6_kindReach_4 : decode cX6_kindReach 4 = .ok (.iload_n 1, 1) := by decide +kernel
theorem dX6_kindReach_5 : decode cX6_kindReach 5 = .ok (.iload_n 2, 1) := by decide +kernel
theorem dX6_kindReach_6 : decode cX6_kindReach 6 = .ok (.invokestatic 315, 3) := by decide +kernel
theorem dX6_kindReach_9 : decode cX6_kindReach 9 = .ok (.goto 8, 3) := by decide +kernel
theorem dX6_kindReach_12 : decode cX6_kindReach 12 = .ok (.iload_n 1, 1) := by decide +kernel
theorem dX6_kindReach_13 : decode cX6_kindReach 13 = .ok (.iload_n 2, 1) := by decide +kernel
theorem dX6_kindReach_14 : decode cX6_kindReach 14 = .ok (.invokestatic 318, 3) := by decide +kernel
theorem dX6_kindReach_17 : decode cX6_kindReach 17 = .ok (.ireturn, 1) := by decide +kernel
theorem dX6_farBetween_0 : decode cX6_farBetween 0 = .ok (.iload_n 0, 1) := by decide +kernel
theorem dX6_farBetween_1 : decode cX6_farBetween 1 = .ok (.iconst 5, 1) := by decide +kernel
theorem dX6_farBetween_2 : decode cX6_farBetween 2 = .ok (.idiv, 1) := by decide +kernel
theorem dX6_farBetween_3 : decode cX6_farBetween 3 = .ok (.iload_n 1, 1) := by decide +kernel
theorem dX6_farBetween_4 : decode cX6_farBetween 4 = .ok (.iconst 5, 1) := by decide +kernel
theorem dX6_farBetween_5 : decode cX6_farBetween 5 = .ok (.idiv, 1) := by decide +kernel
theorem dX6_farBetween_6 : decode cX6_farBetween 6 = .ok (.isub, 1) := by decide +kernel
theorem dX6_farBetween_7 : decode cX6_farBetween 7 = .ok (.invokestatic 321, 3) := by decide +kernel
theorem dX6_farBetween_10 : decode cX6_farBetween 10 = .ok (.iload_n 0, 1) := by decide +kernel
theorem dX6_farBetween_11 : decode cX6_farBetween 11 = .ok (.iconst 5, 1) := by decide +kernel
theorem dX6_farBetween_12 : decode cX6_farBetween 12 = .ok (.irem, 1) := by decide +kernel
theorem dX6_farBetween_13 : decode cX6_farBetween 13 = .ok (.iload_n 1, 1) := by decide +kernel
theorem dX6_farBetween_14 : decode cX6_farBetween 14 = .ok (.iconst 5, 1) := by decide +kernel
theorem dX6_farBetween_15 : decode cX6_farBetween 15 = .ok (.irem, 1) := by decide +kernel
theorem dX6_farBetween_16 : decode cX6_farBetween 16 = .ok (.isub, 1) := by decide +kernel
theorem dX6_farBetween_17 : decode cX6_farBetween 17 = .ok (.invokestatic 321, 3) := by decide +kernel
theorem dX6_farBetween_20 : decode cX6_farBetween 20 = .ok (.iadd, 1) := by decide +kernel
theorem dX6_farBetween_21 : decode cX6_farBetween 21 = .ok (.ireturn, 1) := by decide +kernel
theorem dX6_moved_0 : decode cX6_moved 0 = .ok (.iload_n 0, 1) := by decide +kernel
theorem dX6_moved_1 : decode cX6_moved 1 = .ok (.iconst 5, 1) := by decide +kernel
theorem dX6_moved_2 : decode cX6_moved 2 = .ok (.idiv, 1) := by decide +kernel
theorem dX6_moved_3 : decode cX6_moved 3 = .ok (.istore_n 3, 1) := by decide +kernel
theorem dX6_moved_4 : decode cX6_moved 4 = .ok (.iload_n 0, 1) := by decide +kernel
theorem dX6_moved_5 : decode cX6_moved 5 = .ok (.iconst 5, 1) := by decide +kernel
theorem dX6_moved_6 : decode cX6_moved 6 = .ok (.irem, 1) := by decide +kernel
theorem dX6_moved_7 : decode cX6_moved 7 = .ok (.istore 4, 2) := by decide +kernel
theorem dX6_moved_9 : decode cX6_moved 9 = .ok (.iload_n 1, 1) := by decide +kernel
theorem dX6_moved_10 : decode cX6_moved 10 = .ok (.tableswitch 78 0 3 #[30, 41, 54, 65], 30) := by decide +kernel
theorem dX6_moved_40 : decode cX6_moved 40 = .ok (.iconst 0, 1) := by decide +kernel
theorem dX6_moved_41 : decode cX6_moved 41 = .ok (.iload_n 3, 1) := by decide +kernel
theorem dX6_moved_42 : decode cX6_moved 42 = .ok (.iload_n 2, 1) := by decide +kernel
theorem dX6_moved_43 : decode cX6_moved 43 = .ok (.isub, 1) := by decide +kernel
theorem dX6_moved_44 : decode cX6_moved 44 = .ok (.invokestatic 312, 3) := by decide +kernel
theorem dX6_moved_47 : decode cX6_moved 47 = .ok (.istore_n 3, 1) := by decide +kernel
theorem dX6_moved_48 : decode cX6_moved 48 = .ok (.goto 40, 3) := by decide +kernel
theorem dX6_moved_51 : decode cX6_moved 51 = .ok (.iconst 4, 1) := by decide +kernel
theorem dX6_moved_52 : decode cX6_moved 52 = .ok (.iload 4, 2) := by decide +kernel
theorem dX6_moved_54 : decode cX6_moved 54 = .ok (.iload_n 2, 1) := by decide +kernel
theorem dX6_moved_55 : decode cX6_moved 55 = .ok (.iadd, 1) := by decide +kernel
theorem dX6_moved_56 : decode cX6_moved 56 = .ok (.invokestatic 150, 3) := by decide +kernel
theorem dX6_moved_59 : decode cX6_moved 59 = .ok (.istore 4, 2) := by decide +kernel
theorem dX6_moved_61 : decode cX6_moved 61 = .ok (.goto 27, 3) := by decide +kernel
theorem dX6_moved_64 : decode cX6_moved 64 = .ok (.iconst 4, 1) := by decide +kernel
theorem dX6_moved_65 : decode cX6_moved 65 = .ok (.iload_n 3, 1) := by decide +kernel
theorem dX6_moved_66 : decode cX6_moved 66 = .ok (.iload_n 2, 1) := by decide +kernel
theorem dX6_moved_67 : decode cX6_moved 67 = .ok (.iadd, 1) := by decide +kernel
theorem dX6_moved_68 : decode cX6_moved 68 = .ok (.invokestatic 150, 3) := by decide +kernel
theorem dX6_moved_71 : decode cX6_moved 71 = .ok (.istore_n 3, 1) := by decide +kernel
theorem dX6_moved_72 : decode cX6_moved 72 = .ok (.goto 16, 3) := by decide +kernel
theorem dX6_moved_75 : decode cX6_moved 75 = .ok (.iconst 0, 1) := by decide +kernel
theorem dX6_moved_76 : decode cX6_moved 76 = .ok (.iload 4, 2) := by decide +kernel
theorem dX6_moved_78 : decode cX6_moved 78 = .ok (.iload_n 2, 1) := by decide +kernel
theorem dX6_moved_79 : decode cX6_moved 79 = .ok (.isub, 1) := by decide +kernel
theorem dX6_moved_80 : decode cX6_moved 80 = .ok (.invokestatic 312, 3) := by decide +kernel
theorem dX6_moved_83 : decode cX6_moved 83 = .ok (.istore 4, 2) := by decide +kernel
theorem dX6_moved_85 : decode cX6_moved 85 = .ok (.goto 3, 3) := by decide +kernel
theorem dX6_moved_88 : decode cX6_moved 88 = .ok (.iconst 5, 1) := by decide +kernel
theorem dX6_moved_89 : decode cX6_moved 89 = .ok (.iload_n 3, 1) := by decide +kernel
theorem dX6_moved_90 : decode cX6_moved 90 = .ok (.imul, 1) := by decide +kernel
theorem dX6_moved_91 : decode cX6_moved 91 = .ok (.iload 4, 2) := by decide +kernel
theorem dX6_moved_93 : decode cX6_moved 93 = .ok (.iadd, 1) := by decide +kernel
theorem dX6_moved_94 : decode cX6_moved 94 = .ok (.ireturn, 1) := by decide +kernel
theorem dX6_wayFrom_0 : decode cX6_wayFrom 0 = .ok (.iload_n 0, 1) := by decide +kernel
theorem dX6_wayFrom_1 : decode cX6_wayFrom 1 = .ok (.iconst 5, 1) := by decide +kernel
theorem dX6_wayFrom_2 : decode cX6_wayFrom 2 = .ok (.idiv, 1) := by decide +kernel
theorem dX6_wayFrom_3 : decode cX6_wayFrom 3 = .ok (.iload_n 1, 1) := by decide +kernel
theorem dX6_wayFrom_4 : decode cX6_wayFrom 4 = .ok (.iconst 5, 1) := by decide +kernel
theorem dX6_wayFrom_5 : decode cX6_wayFrom 5 = .ok (.idiv, 1) := by decide +kernel
theorem dX6_wayFrom_6 : decode cX6_wayFrom 6 = .ok (.isub, 1) := by decide +kernel
theorem dX6_wayFrom_7 : decode cX6_wayFrom 7 = .ok (.istore_n 2, 1) := by decide +kernel
theorem dX6_wayFrom_8 : decode cX6_wayFrom 8 = .ok (.iload_n 0, 1) := by decide +kernel
theorem dX6_wayFrom_9 : decode cX6_wayFrom 9 = .ok (.iconst 5, 1) := by decide +kernel
theorem dX6_wayFrom_10 : decode cX6_wayFrom 10 = .ok (.irem, 1) := by decide +kernel
theorem dX6_wayFrom_11 : decode cX6_wayFrom 11 = .ok (.iload_n 1, 1) := by decide +kernel
theorem dX6_wayFrom_12 : decode cX6_wayFrom 12 = .ok (.iconst 5, 1) := by decide +kernel
theorem dX6_wayFrom_13 : decode cX6_wayFrom 13 = .ok (.irem, 1) := by decide +kernel
theorem dX6_wayFrom_14 : decode cX6_wayFrom 14 = .ok (.isub, 1) := by decide +kernel
theorem dX6_wayFrom_15 : decode cX6_wayFrom 15 = .ok (.istore_n 3, 1) := by decide +kernel
theorem dX6_wayFrom_16 : decode cX6_wayFrom 16 = .ok (.iload_n 2, 1) := by decide +kernel
theorem dX6_wayFrom_17 : decode cX6_wayFrom 17 = .ok (.ifCond .eq 24, 3) := by decide +kernel
theorem dX6_wayFrom_20 : decode cX6_wayFrom 20 = .ok (.iload_n 2, 1) := by decide +kernel
theorem dX6_wayFrom_21 : decode cX6_wayFrom 21 = .ok (.invokestatic 321, 3) := by decide +kernel
theorem dX6_wayFrom_24 : decode cX6_wayFrom 24 = .ok (.iload_n 3, 1) := by decide +kernel
theorem dX6_wayFrom_25 : decode cX6_wayFrom 25 = .ok (.invokestatic 321, 3) := by decide +kernel
theorem dX6_wayFrom_28 : decode cX6_wayFrom 28 = .ok (.if_icmp .lt 13, 3) := by decide +kernel
theorem dX6_wayFrom_31 : decode cX6_wayFrom 31 = .ok (.iload_n 2, 1) := by decide +kernel
theorem dX6_wayFrom_32 : decode cX6_wayFrom 32 = .ok (.ifCond .le 7, 3) := by decide +kernel
theorem dX6_wayFrom_35 : decode cX6_wayFrom 35 = .ok (.iconst 2, 1) := by decide +kernel
theorem dX6_wayFrom_36 : decode cX6_wayFrom 36 = .ok (.goto 4, 3) := by decide +kernel
theorem dX6_wayFrom_39 : decode cX6_wayFrom 39 = .ok (.iconst 0, 1) := by decide +kernel
theorem dX6_wayFrom_40 : decode cX6_wayFrom 40 = .ok (.ireturn, 1) := by decide +kernel
theorem dX6_wayFrom_41 : decode cX6_wayFrom 41 = .ok (.iload_n 3, 1) := by decide +kernel
theorem dX6_wayFrom_42 : decode cX6_wayFrom 42 = .ok (.ifCond .lt 7, 3) := by decide +kernel
theorem dX6_wayFrom_45 : decode cX6_wayFrom 45 = .ok (.iconst 1, 1) := by decide +kernel
theorem dX6_wayFrom_46 : decode cX6_wayFrom 46 = .ok (.goto 4, 3) := by decide +kernel
theorem dX6_wayFrom_49 : decode cX6_wayFrom 49 = .ok (.iconst 3, 1) := by decide +kernel
theorem dX6_wayFrom_50 : decode cX6_wayFrom 50 = .ok (.ireturn, 1) := by decide +kernel
theorem dX6_givenWay_0 : decode cX6_givenWay 0 = .ok (.iload_n 0, 1) := by decide +kernel
theorem dX6_givenWay_1 : decode cX6_givenWay 1 = .ok (.iload_n 1, 1) := by decide +kernel
theorem dX6_givenWay_2 : decode cX6_givenWay 2 = .ok (.iload_n 2, 1) := by decide +kernel
theorem dX6_givenWay_3 : decode cX6_givenWay 3 = .ok (.invokestatic 176, 3) := by decide +kernel
theorem dX6_givenWay_6 : decode cX6_givenWay 6 = .ok (.invokestatic 315, 3) := by decide +kernel
theorem dX6_givenWay_9 : decode cX6_givenWay 9 = .ok (.istore_n 3, 1) := by decide +kernel
theorem dX6_givenWay_10 : decode cX6_givenWay 10 = .ok (.iload_n 3, 1) := by decide +kernel
theorem dX6_givenWay_11 : decode cX6_givenWay 11 = .ok (.ifCond .ne 7, 3) := by decide +kernel
theorem dX6_givenWay_14 : decode cX6_givenWay 14 = .ok (.iload_n 1, 1) := by decide +kernel
theorem dX6_givenWay_15 : decode cX6_givenWay 15 = .ok (.goto 13, 3) := by decide +kernel
theorem dX6_givenWay_18 : decode cX6_givenWay 18 = .ok (.iload_n 1, 1) := by decide +kernel
theorem dX6_givenWay_19 : decode cX6_givenWay 19 = .ok (.iload_n 1, 1) := by decide +kernel
theorem dX6_givenWay_20 : decode cX6_givenWay 20 = .ok (.iload_n 2, 1) := by decide +kernel
theorem dX6_givenWay_21 : decode cX6_givenWay 21 = .ok (.invokestatic 324, 3) := by decide +kernel
theorem dX6_givenWay_24 : decode cX6_givenWay 24 = .ok (.iload_n 3, 1) := by decide +kernel
theorem dX6_givenWay_25 : decode cX6_givenWay 25 = .ok (.invokestatic 327, 3) := by decide +kernel
theorem dX6_givenWay_28 : decode cX6_givenWay 28 = .ok (.ireturn, 1) := by decide +kernel
theorem dX6_firstOf_0 : decode cX6_firstOf 0 = .ok (.iload_n 0, 1) := by decide +kernel
theorem dX6_firstOf_1 : decode cX6_firstOf 1 = .ok (.bipush 25, 2) := by decide +kernel
theorem dX6_firstOf_3 : decode cX6_firstOf 3 = .ok (.idiv, 1) := by decide +kernel
theorem dX6_firstOf_4 : decode cX6_firstOf 4 = .ok (.ireturn, 1) := by decide +kernel
theorem dX6_secondOf_0 : decode cX6_secondOf 0 = .ok (.iload_n 0, 1) := by decide +kernel
theorem dX6_secondOf_1 : decode cX6_secondOf 1 = .ok (.iconst 5, 1) := by decide +kernel
theorem dX6_secondOf_2 : decode cX6_secondOf 2 = .ok (.idiv, 1) := by decide +kernel
theorem dX6_secondOf_3 : decode cX6_secondOf 3 = .ok (.iconst 5, 1) := by decide +kernel
theorem dX6_secondOf_4 : decode cX6_secondOf 4 = .ok (.irem, 1) := by decide +kernel
theorem dX6_secondOf_5 : decode cX6_secondOf 5 = .ok (.ireturn, 1) := by decide +kernel
theorem dX6_thirdOf_0 : decode cX6_thirdOf 0 = .ok (.iload_n 0, 1) := by decide +kernel
theorem dX6_thirdOf_1 : decode cX6_thirdOf 1 = .ok (.iconst 5, 1) := by decide +kernel
theorem dX6_thirdOf_2 : decode cX6_thirdOf 2 = .ok (.irem, 1) := by decide +kernel
theorem dX6_thirdOf_3 : decode cX6_thirdOf 3 = .ok (.ireturn, 1) := by decide +kernel
theorem dX6_foldedByThree_0 : decode cX6_foldedByThree 0 = .ok (.iload_n 2, 1) := by decide +kernel
theorem dX6_foldedByThree_1 : decode cX6_foldedByThree 1 = .ok (.bipush 25, 2) := by decide +kernel
theorem dX6_foldedByThree_3 : decode cX6_foldedByThree 3 = .ok (.irem, 1) := by decide +kernel
theorem dX6_foldedByThree_4 : decode cX6_foldedByThree 4 = .ok (.ifCond .ne 30, 3) := by decide +kernel
theorem dX6_foldedByThree_7 : decode cX6_foldedByThree 7 = .ok (.aload_n 0, 1) := by decide +kernel
theorem dX6_foldedByThree_8 : decode cX6_foldedByThree 8 = .ok (.getfield 44, 3) := by decide +kernel
theorem dX6_foldedByThree_11 : decode cX6_foldedByThree 11 = .ok (.aload_n 0, 1) := by decide +kernel
theorem dX6_foldedByThree_12 : decode cX6_foldedByThree 12 = .ok (.getfield 12, 3) := by decide +kernel
theorem dX6_foldedByThree_15 : decode cX6_foldedByThree 15 = .ok (.getfield 76, 3) := by decide +kernel
theorem dX6_foldedByThree_18 : decode cX6_foldedByThree 18 = .ok (.invokevirtual 196, 3) := by decide +kernel
theorem dX6_foldedByThree_21 : decode cX6_foldedByThree 21 = .ok (.aload_n 0, 1) := by decide +kernel
theorem dX6_foldedByThree_22 : decode cX6_foldedByThree 22 = .ok (.getfield 44, 3) := by decide +kernel
theorem dX6_foldedByThree_25 : decode cX6_foldedByThree 25 = .ok (.iload_n 1, 1) := by decide +kernel
theorem dX6_foldedByThree_26 : decode cX6_foldedByThree 26 = .ok (.iload_n 2, 1) := by decide +kernel
theorem dX6_foldedByThree_27 : decode cX6_foldedByThree 27 = .ok (.invokestatic 208, 3) := by decide +kernel
theorem dX6_foldedByThree_30 : decode cX6_foldedByThree 30 = .ok (.invokevirtual 147, 3) := by decide +kernel
theorem dX6_foldedByThree_33 : decode cX6_foldedByThree 33 = .ok (.pop, 1) := by decide +kernel
theorem dX6_foldedByThree_34 : decode cX6_foldedByThree 34 = .ok (.iload_n 2, 1) := by decide +kernel
theorem dX6_foldedByThree_35 : decode cX6_foldedByThree 35 = .ok (.iconst 5, 1) := by decide +kernel
theorem dX6_foldedByThree_36 : decode cX6_foldedByThree 36 = .ok (.irem, 1) := by decide +kernel
theorem dX6_foldedByThree_37 : decode cX6_foldedByThree 37 = .ok (.ifCond .ne 27, 3) := by decide +kernel
theorem dX6_foldedByThree_40 : decode cX6_foldedByThree 40 = .ok (.aload_n 0, 1) := by decide +kernel
theorem dX6_foldedByThree_41 : decode cX6_foldedByThree 41 = .ok (.getfield 48, 3) := by decide +kernel
theorem dX6_foldedByThree_44 : decode cX6_foldedByThree 44 = .ok (.aload_n 0, 1) := by decide +kernel
theorem dX6_foldedByThree_45 : decode cX6_foldedByThree 45 = .ok (.getfield 44, 3) := by decide +kernel
theorem dX6_foldedByThree_48 : decode cX6_foldedByThree 48 = .ok (.invokevirtual 196, 3) := by decide +kernel
theorem dX6_foldedByThree_51 : decode cX6_foldedByThree 51 = .ok (.aload_n 0, 1) := by decide +kernel
theorem dX6_foldedByThree_52 : decode cX6_foldedByThree 52 = .ok (.getfield 48, 3) := by decide +kernel
theorem dX6_foldedByThree_55 : decode cX6_foldedByThree 55 = .ok (.iload_n 1, 1) := by decide +kernel
theorem dX6_foldedByThree_56 : decode cX6_foldedByThree 56 = .ok (.iload_n 2, 1) := by decide +kernel
theorem dX6_foldedByThree_57 : decode cX6_foldedByThree 57 = .ok (.invokestatic 211, 3) := by decide +kernel
theorem dX6_foldedByThree_60 : decode cX6_foldedByThree 60 = .ok (.invokevirtual 147, 3) := by decide +kernel
theorem dX6_foldedByThree_63 : decode cX6_foldedByThree 63 = .ok (.pop, 1) := by decide +kernel
theorem dX6_foldedByThree_64 : decode cX6_foldedByThree 64 = .ok (.aload_n 0, 1) := by decide +kernel
theorem dX6_foldedByThree_65 : decode cX6_foldedByThree 65 = .ok (.getfield 51, 3) := by decide +kernel
theorem dX6_foldedByThree_68 : decode cX6_foldedByThree 68 = .ok (.aload_n 0, 1) := by decide +kernel
theorem dX6_foldedByThree_69 : decode cX6_foldedByThree 69 = .ok (.getfield 48, 3) := by decide +kernel
theorem dX6_foldedByThree_72 : decode cX6_foldedByThree 72 = .ok (.invokevirtual 196, 3) := by decide +kernel
theorem dX6_foldedByThree_75 : decode cX6_foldedByThree 75 = .ok (.aload_n 0, 1) := by decide +kernel
theorem dX6_foldedByThree_76 : decode cX6_foldedByThree 76 = .ok (.getfield 51, 3) := by decide +kernel
theorem dX6_foldedByThree_79 : decode cX6_foldedByThree 79 = .ok (.iload_n 1, 1) := by decide +kernel
theorem dX6_foldedByThree_80 : decode cX6_foldedByThree 80 = .ok (.iload_n 2, 1) := by decide +kernel
theorem dX6_foldedByThree_81 : decode cX6_foldedByThree 81 = .ok (.invokestatic 214, 3) := by decide +kernel
theorem dX6_foldedByThree_84 : decode cX6_foldedByThree 84 = .ok (.invokevirtual 147, 3) := by decide +kernel
theorem dX6_foldedByThree_87 : decode cX6_foldedByThree 87 = .ok (.pop, 1) := by decide +kernel
theorem dX6_foldedByThree_88 : decode cX6_foldedByThree 88 = .ok (.aload_n 0, 1) := by decide +kernel
theorem dX6_foldedByThree_89 : decode cX6_foldedByThree 89 = .ok (.getfield 51, 3) := by decide +kernel
theorem dX6_foldedByThree_92 : decode cX6_foldedByThree 92 = .ok (.aload_n 0, 1) := by decide +kernel
theorem dX6_foldedByThree_93 : decode cX6_foldedByThree 93 = .ok (.getfield 12, 3) := by decide +kernel
theorem dX6_foldedByThree_96 : decode cX6_foldedByThree 96 = .ok (.getfield 112, 3) := by decide +kernel
theorem dX6_foldedByThree_99 : decode cX6_foldedByThree 99 = .ok (.invokevirtual 281, 3) := by decide +kernel
theorem dX6_foldedByThree_102 : decode cX6_foldedByThree 102 = .ok (.ireturn, 1) := by decide +kernel
theorem dX6_isFoldedByTwo_0 : decode cX6_isFoldedByTwo 0 = .ok (.aload_n 0, 1) := by decide +kernel
theorem dX6_isFoldedByTwo_1 : decode cX6_isFoldedByTwo 1 = .ok (.getfield 44, 3) := by decide +kernel
theorem dX6_isFoldedByTwo_4 : decode cX6_isFoldedByTwo 4 = .ok (.aload_n 0, 1) := by decide +kernel
theorem dX6_isFoldedByTwo_5 : decode cX6_isFoldedByTwo 5 = .ok (.getfield 12, 3) := by decide +kernel
theorem dX6_isFoldedByTwo_8 : decode cX6_isFoldedByTwo 8 = .ok (.getfield 76, 3) := by decide +kernel
theorem dX6_isFoldedByTwo_11 : decode cX6_isFoldedByTwo 11 = .ok (.invokevirtual 196, 3) := by decide +kernel
theorem dX6_isFoldedByTwo_14 : decode cX6_isFoldedByTwo 14 = .ok (.aload_n 0, 1) := by decide +kernel
theorem dX6_isFoldedByTwo_15 : decode cX6_isFoldedByTwo 15 = .ok (.getfield 44, 3) := by decide +kernel
theorem dX6_isFoldedByTwo_18 : decode cX6_isFoldedByTwo 18 = .ok (.iload_n 2, 1) := by decide +kernel
theorem dX6_isFoldedByTwo_19 : decode cX6_isFoldedByTwo 19 = .ok (.iload_n 3, 1) := by decide +kernel
theorem dX6_isFoldedByTwo_20 : decode cX6_isFoldedByTwo 20 = .ok (.invokevirtual 147, 3) := by decide +kernel
theorem dX6_isFoldedByTwo_23 : decode cX6_isFoldedByTwo 23 = .ok (.pop, 1) := by decide +kernel
theorem dX6_isFoldedByTwo_24 : decode cX6_isFoldedByTwo 24 = .ok (.aload_n 0, 1) := by decide +kernel
theorem dX6_isFoldedByTwo_25 : decode cX6_isFoldedByTwo 25 = .ok (.getfield 44, 3) := by decide +kernel
theorem dX6_isFoldedByTwo_28 : decode cX6_isFoldedByTwo 28 = .ok (.iload_n 2, 1) := by decide +kernel
theorem dX6_isFoldedByTwo_29 : decode cX6_isFoldedByTwo 29 = .ok (.iload 4, 2) := by decide +kernel
theorem dX6_isFoldedByTwo_31 : decode cX6_isFoldedByTwo 31 = .ok (.invokevirtual 147, 3) := by decide +kernel
theorem dX6_isFoldedByTwo_34 : decode cX6_isFoldedByTwo 34 = .ok (.pop, 1) := by decide +kernel
theorem dX6_isFoldedByTwo_35 : decode cX6_isFoldedByTwo 35 = .ok (.aload_n 0, 1) := by decide +kernel
theorem dX6_isFoldedByTwo_36 : decode cX6_isFoldedByTwo 36 = .ok (.getfield 44, 3) := by decide +kernel
theorem dX6_isFoldedByTwo_39 : decode cX6_isFoldedByTwo 39 = .ok (.aload_n 0, 1) := by decide +kernel
theorem dX6_isFoldedByTwo_40 : decode cX6_isFoldedByTwo 40 = .ok (.getfield 12, 3) := by decide +kernel
theorem dX6_isFoldedByTwo_43 : decode cX6_isFoldedByTwo 43 = .ok (.getfield 112, 3) := by decide +kernel
theorem dX6_isFoldedByTwo_46 : decode cX6_isFoldedByTwo 46 = .ok (.invokevirtual 186, 3) := by decide +kernel
theorem dX6_isFoldedByTwo_49 : decode cX6_isFoldedByTwo 49 = .ok (.iload_n 1, 1) := by decide +kernel
theorem dX6_isFoldedByTwo_50 : decode cX6_isFoldedByTwo 50 = .ok (.invokestatic 228, 3) := by decide +kernel
theorem dX6_isFoldedByTwo_53 : decode cX6_isFoldedByTwo 53 = .ok (.ireturn, 1) := by decide +kernel
theorem dX6_foldByBoth_0 : decode cX6_foldByBoth 0 = .ok (.iconst 0, 1) := by decide +kernel
theorem dX6_foldByBoth_1 : decode cX6_foldByBoth 1 = .ok (.istore_n 3, 1) := by decide +kernel
theorem dX6_foldByBoth_2 : decode cX6_foldByBoth 2 = .ok (.iload_n 3, 1) := by decide +kernel
theorem dX6_foldByBoth_3 : decode cX6_foldByBoth 3 = .ok (.iconst 5, 1) := by decide +kernel
theorem dX6_foldByBoth_4 : decode cX6_foldByBoth 4 = .ok (.if_icmp .ge 95, 3) := by decide +kernel
theorem dX6_foldByBoth_7 : decode cX6_foldByBoth 7 = .ok (.aload_n 0, 1) := by decide +kernel
theorem dX6_foldByBoth_8 : decode cX6_foldByBoth 8 = .ok (.getfield 44, 3) := by decide +kernel
theorem dX6_foldByBoth_11 : decode cX6_foldByBoth 11 = .ok (.aload_n 0, 1) := by decide +kernel
theorem dX6_foldByBoth_12 : decode cX6_foldByBoth 12 = .ok (.getfield 12, 3) := by decide +kernel
theorem dX6_foldByBoth_15 : decode cX6_foldByBoth 15 = .ok (.getfield 76, 3) := by decide +kernel
theorem dX6_foldByBoth_18 : decode cX6_foldByBoth 18 = .ok (.invokevirtual 196, 3) := by decide +kernel
theorem dX6_foldByBoth_21 : decode cX6_foldByBoth 21 = .ok (.aload_n 0, 1) := by decide +kernel
theorem dX6_foldByBoth_22 : decode cX6_foldByBoth 22 = .ok (.getfield 44, 3) := by decide +kernel
theorem dX6_foldByBoth_25 : decode cX6_foldByBoth 25 = .ok (.iload_n 1, 1) := by decide +kernel
theorem dX6_foldByBoth_26 : decode cX6_foldByBoth 26 = .ok (.iload_n 3, 1) := by decide +kernel
theorem dX6_foldByBoth_27 : decode cX6_foldByBoth 27 = .ok (.invokevirtual 147, 3) := by decide +kernel
theorem dX6_foldByBoth_30 : decode cX6_foldByBoth 30 = .ok (.pop, 1) := by decide +kernel
theorem dX6_foldByBoth_31 : decode cX6_foldByBoth 31 = .ok (.iconst 0, 1) := by decide +kernel
theorem dX6_foldByBoth_32 : decode cX6_foldByBoth 32 = .ok (.istore 4, 2) := by decide +kernel
theorem dX6_foldByBoth_34 : decode cX6_foldByBoth 34 = .ok (.iload 4, 2) := by decide +kernel
theorem dX6_foldByBoth_36 : decode cX6_foldByBoth 36 = .ok (.iconst 5, 1) := by decide +kernel
theorem dX6_foldByBoth_37 : decode cX6_foldByBoth 37 = .ok (.if_icmp .ge 56, 3) := by decide +kernel
theorem dX6_foldByBoth_40 : decode cX6_foldByBoth 40 = .ok (.aload_n 0, 1) := by decide +kernel
theorem dX6_foldByBoth_41 : decode cX6_foldByBoth 41 = .ok (.getfield 48, 3) := by decide +kernel
theorem dX6_foldByBoth_44 : decode cX6_foldByBoth 44 = .ok (.aload_n 0, 1) := by decide +kernel
theorem dX6_foldByBoth_45 : decode cX6_foldByBoth 45 = .ok (.getfield 44, 3) := by decide +kernel
theorem dX6_foldByBoth_48 : decode cX6_foldByBoth 48 = .ok (.invokevirtual 196, 3) := by decide +kernel
theorem dX6_foldByBoth_51 : decode cX6_foldByBoth 51 = .ok (.aload_n 0, 1) := by decide +kernel
theorem dX6_foldByBoth_52 : decode cX6_foldByBoth 52 = .ok (.getfield 48, 3) := by decide +kernel
theorem dX6_foldByBoth_55 : decode cX6_foldByBoth 55 = .ok (.iload_n 2, 1) := by decide +kernel
theorem dX6_foldByBoth_56 : decode cX6_foldByBoth 56 = .ok (.iload 4, 2) := by decide +kernel
theorem dX6_foldByBoth_58 : decode cX6_foldByBoth 58 = .ok (.invokevirtual 147, 3) := by decide +kernel
theorem dX6_foldByBoth_61 : decode cX6_foldByBoth 61 = .ok (.pop, 1) := by decide +kernel
theorem dX6_foldByBoth_62 : decode cX6_foldByBoth 62 = .ok (.aload_n 0, 1) := by decide +kernel
theorem dX6_foldByBoth_63 : decode cX6_foldByBoth 63 = .ok (.getfield 61, 3) := by decide +kernel
theorem dX6_foldByBoth_66 : decode cX6_foldByBoth 66 = .ok (.iconst 5, 1) := by decide +kernel
theorem dX6_foldByBoth_67 : decode cX6_foldByBoth 67 = .ok (.iload_n 3, 1) := by decide +kernel
theorem dX6_foldByBoth_68 : decode cX6_foldByBoth 68 = .ok (.imul, 1) := by decide +kernel
theorem dX6_foldByBoth_69 : decode cX6_foldByBoth 69 = .ok (.iload 4, 2) := by decide +kernel
theorem dX6_foldByBoth_71 : decode cX6_foldByBoth 71 = .ok (.iadd, 1) := by decide +kernel
theorem dX6_foldByBoth_72 : decode cX6_foldByBoth 72 = .ok (.aload_n 0, 1) := by decide +kernel
theorem dX6_foldByBoth_73 : decode cX6_foldByBoth 73 = .ok (.getfield 48, 3) := by decide +kernel
theorem dX6_foldByBoth_76 : decode cX6_foldByBoth 76 = .ok (.aload_n 0, 1) := by decide +kernel
theorem dX6_foldByBoth_77 : decode cX6_foldByBoth 77 = .ok (.getfield 12, 3) := by decide +kernel
theorem dX6_foldByBoth_80 : decode cX6_foldByBoth 80 = .ok (.getfield 112, 3) := by decide +kernel
theorem dX6_foldByBoth_83 : decode cX6_foldByBoth 83 = .ok (.invokevirtual 281, 3) := by decide +kernel
theorem dX6_foldByBoth_86 : decode cX6_foldByBoth 86 = .ok (.iastore, 1) := by decide +kernel
theorem dX6_foldByBoth_87 : decode cX6_foldByBoth 87 = .ok (.iinc 4 1, 3) := by decide +kernel
theorem dX6_foldByBoth_90 : decode cX6_foldByBoth 90 = .ok (.goto (-56), 3) := by decide +kernel
theorem dX6_foldByBoth_93 : decode cX6_foldByBoth 93 = .ok (.iinc 3 1, 3) := by decide +kernel
theorem dX6_foldByBoth_96 : decode cX6_foldByBoth 96 = .ok (.goto (-94), 3) := by decide +kernel
theorem dX6_foldByBoth_99 : decode cX6_foldByBoth 99 = .ok (.return_, 1) := by decide +kernel
theorem dX6_gainOfFirst_0 : decode cX6_gainOfFirst 0 = .ok (.aload_n 0, 1) := by decide +kernel
theorem dX6_gainOfFirst_1 : decode cX6_gainOfFirst 1 = .ok (.getfield 61, 3) := by decide +kernel
theorem dX6_gainOfFirst_4 : decode cX6_gainOfFirst 4 = .ok (.iconst 5, 1) := by decide +kernel
theorem dX6_gainOfFirst_5 : decode cX6_gainOfFirst 5 = .ok (.iload_n 1, 1) := by decide +kernel
theorem dX6_gainOfFirst_6 : decode cX6_gainOfFirst 6 = .ok (.imul, 1) := by decide +kernel
theorem dX6_gainOfFirst_7 : decode cX6_gainOfFirst 7 = .ok (.iload_n 2, 1) := by decide +kernel
theorem dX6_gainOfFirst_8 : decode cX6_gainOfFirst 8 = .ok (.iadd, 1) := by decide +kernel
theorem dX6_gainOfFirst_9 : decode cX6_gainOfFirst 9 = .ok (.iaload, 1) := by decide +kernel
theorem dX6_gainOfFirst_10 : decode cX6_gainOfFirst 10 = .ok (.iload_n 1, 1) := by decide +kernel
theorem dX6_gainOfFirst_11 : decode cX6_gainOfFirst 11 = .ok (.iconst 4, 1) := by decide +kernel
theorem dX6_gainOfFirst_12 : decode cX6_gainOfFirst 12 = .ok (.if_icmp .ne 7, 3) := by decide +kernel
theorem dX6_gainOfFirst_15 : decode cX6_gainOfFirst 15 = .ok (.iconst 0, 1) := by decide +kernel
theorem dX6_gainOfFirst_16 : decode cX6_gainOfFirst 16 = .ok (.goto 4, 3) := by decide +kernel
theorem dX6_gainOfFirst_19 : decode cX6_gainOfFirst 19 = .ok (.iconst 1, 1) := by decide +kernel
theorem dX6_gainOfFirst_20 : decode cX6_gainOfFirst 20 = .ok (.isub, 1) := by decide +kernel
theorem dX6_gainOfFirst_21 : decode cX6_gainOfFirst 21 = .ok (.ireturn, 1) := by decide +kernel
theorem dX6_gainOfSecond_0 : decode cX6_gainOfSecond 0 = .ok (.aload_n 0, 1) := by decide +kernel
theorem dX6_gainOfSecond_1 : decode cX6_gainOfSecond 1 = .ok (.getfield 12, 3) := by decide +kernel
theorem dX6_gainOfSecond_4 : decode cX6_gainOfSecond 4 = .ok (.getfield 76, 3) := by decide +kernel
theorem dX6_gainOfSecond_7 : decode cX6_gainOfSecond 7 = .ok (.getfield 79, 3) := by decide +kernel
theorem dX6_gainOfSecond_10 : decode cX6_gainOfSecond 10 = .ok (.aload_n 0, 1) := by decide +kernel
theorem dX6_gainOfSecond_11 : decode cX6_gainOfSecond 11 = .ok (.getfield 61, 3) := by decide +kernel
theorem dX6_gainOfSecond_14 : decode cX6_gainOfSecond 14 = .ok (.iconst 5, 1) := by decide +kernel
theorem dX6_gainOfSecond_15 : decode cX6_gainOfSecond 15 = .ok (.iload_n 1, 1) := by decide +kernel
theorem dX6_gainOfSecond_16 : decode cX6_gainOfSecond 16 = .ok (.imul, 1) := by decide +kernel
theorem dX6_gainOfSecond_17 : decode cX6_gainOfSecond 17 = .ok (.iload_n 2, 1) := by decide +kernel
theorem dX6_gainOfSecond_18 : decode cX6_gainOfSecond 18 = .ok (.iadd, 1) := by decide +kernel
theorem dX6_gainOfSecond_19 : decode cX6_gainOfSecond 19 = .ok (.iaload, 1) := by decide +kernel
theorem dX6_gainOfSecond_20 : decode cX6_gainOfSecond 20 = .ok (.isub, 1) := by decide +kernel
theorem dX6_gainOfSecond_21 : decode cX6_gainOfSecond 21 = .ok (.iload_n 2, 1) := by decide +kernel
theorem dX6_gainOfSecond_22 : decode cX6_gainOfSecond 22 = .ok (.iconst 4, 1) := by decide +kernel
theorem dX6_gainOfSecond_23 : decode cX6_gainOfSecond 23 = .ok (.if_icmp .ne 7, 3) := by decide +kernel
theorem dX6_gainOfSecond_26 : decode cX6_gainOfSecond 26 = .ok (.iconst 0, 1) := by decide +kernel
theorem dX6_gainOfSecond_27 : decode cX6_gainOfSecond 27 = .ok (.goto 4, 3) := by decide +kernel
theorem dX6_gainOfSecond_30 : decode cX6_gainOfSecond 30 = .ok (.iconst 1, 1) := by decide +kernel
theorem dX6_gainOfSecond_31 : decode cX6_gainOfSecond 31 = .ok (.isub, 1) := by decide +kernel
theorem dX6_gainOfSecond_32 : decode cX6_gainOfSecond 32 = .ok (.ireturn, 1) := by decide +kernel
theorem dX6_rests_0 : decode cX6_rests 0 = .ok (.iconst 0, 1) := by decide +kernel
theorem dX6_rests_1 : decode cX6_rests 1 = .ok (.istore_n 3, 1) := by decide +kernel
theorem dX6_rests_2 : decode cX6_rests 2 = .ok (.iload_n 3, 1) := by decide +kernel
theorem dX6_rests_3 : decode cX6_rests 3 = .ok (.iconst 5, 1) := by decide +kernel
theorem dX6_rests_4 : decode cX6_rests 4 = .ok (.if_icmp .ge 41, 3) := by decide +kernel
theorem dX6_rests_7 : decode cX6_rests 7 = .ok (.aload_n 0, 1) := by decide +kernel
theorem dX6_rests_8 : decode cX6_rests 8 = .ok (.iload_n 3, 1) := by decide +kernel
theorem dX6_rests_9 : decode cX6_rests 9 = .ok (.iload_n 2, 1) := by decide +kernel
theorem dX6_rests_10 : decode cX6_rests 10 = .ok (.invokevirtual 330, 3) := by decide +kernel
theorem dX6_rests_13 : decode cX6_rests 13 = .ok (.aload_n 0, 1) := by decide +kernel
theorem dX6_rests_14 : decode cX6_rests 14 = .ok (.iload_n 1, 1) := by decide +kernel
theorem dX6_rests_15 : decode cX6_rests 15 = .ok (.iload_n 2, 1) := by decide +kernel
theorem dX6_rests_16 : decode cX6_rests 16 = .ok (.invokevirtual 330, 3) := by decide +kernel
theorem dX6_rests_19 : decode cX6_rests 19 = .ok (.if_icmp .gt 18, 3) := by decide +kernel
theorem dX6_rests_22 : decode cX6_rests 22 = .ok (.aload_n 0, 1) := by decide +kernel
theorem dX6_rests_23 : decode cX6_rests 23 = .ok (.iload_n 1, 1) := by decide +kernel
theorem dX6_rests_24 : decode cX6_rests 24 = .ok (.iload_n 3, 1) := by decide +kernel
theorem dX6_rests_25 : decode cX6_rests 25 = .ok (.invokevirtual 333, 3) := by decide +kernel
theorem dX6_rests_28 : decode cX6_rests 28 = .ok (.aload_n 0, 1) := by decide +kernel
theorem dX6_rests_29 : decode cX6_rests 29 = .ok (.iload_n 1, 1) := by decide +kernel
theorem dX6_rests_30 : decode cX6_rests 30 = .ok (.iload_n 2, 1) := by decide +kernel
theorem dX6_rests_31 : decode cX6_rests 31 = .ok (.invokevirtual 333, 3) := by decide +kernel
theorem dX6_rests_34 : decode cX6_rests 34 = .ok (.if_icmp .le 5, 3) := by decide +kernel
theorem dX6_rests_37 : decode cX6_rests 37 = .ok (.iconst 0, 1) := by decide +kernel
theorem dX6_rests_38 : decode cX6_rests 38 = .ok (.ireturn, 1) := by decide +kernel
theorem dX6_rests_39 : decode cX6_rests 39 = .ok (.iinc 3 1, 3) := by decide +kernel
theorem dX6_rests_42 : decode cX6_rests 42 = .ok (.goto (-40), 3) := by decide +kernel
theorem dX6_rests_45 : decode cX6_rests 45 = .ok (.iconst 1, 1) := by decide +kernel
theorem dX6_rests_46 : decode cX6_rests 46 = .ok (.ireturn, 1) := by decide +kernel
theorem dX6_keepFraction_0 : decode cX6_keepFraction 0 = .ok (.bipush 100, 2) := by decide +kernel
theorem dX6_keepFraction_2 : decode cX6_keepFraction 2 = .ok (.istore_n 2, 1) := by decide +kernel
theorem dX6_keepFraction_3 : decode cX6_keepFraction 3 = .ok (.iload_n 2, 1) := by decide +kernel
theorem dX6_keepFraction_4 : decode cX6_keepFraction 4 = .ok (.iconst 1, 1) := by decide +kernel
theorem dX6_keepFraction_5 : decode cX6_keepFraction 5 = .ok (.if_icmp .le 22, 3) := by decide +kernel
theorem dX6_keepFraction_8 : decode cX6_keepFraction 8 = .ok (.iload_n 1, 1) := by decide +kernel
theorem dX6_keepFraction_9 : decode cX6_keepFraction 9 = .ok (.iload_n 2, 1) := by decide +kernel
theorem dX6_keepFraction_10 : decode cX6_keepFraction 10 = .ok (.irem, 1) := by decide +kernel
theorem dX6_keepFraction_11 : decode cX6_keepFraction 11 = .ok (.ifCond .ne 10, 3) := by decide +kernel
theorem dX6_keepFraction_14 : decode cX6_keepFraction 14 = .ok (.bipush 100, 2) := by decide +kernel
theorem dX6_keepFraction_16 : decode cX6_keepFraction 16 = .ok (.iload_n 2, 1) := by decide +kernel
theorem dX6_keepFraction_17 : decode cX6_keepFraction 17 = .ok (.irem, 1) := by decide +kernel
theorem dX6_keepFraction_18 : decode cX6_keepFraction 18 = .ok (.ifCond .eq 9, 3) := by decide +kernel
theorem dX6_keepFraction_21 : decode cX6_keepFraction 21 = .ok (.iinc 2 (-1), 3) := by decide +kernel
theorem dX6_keepFraction_24 : decode cX6_keepFraction 24 = .ok (.goto (-21), 3) := by decide +kernel
theorem dX6_keepFraction_27 : decode cX6_keepFraction 27 = .ok (.aload_n 0, 1) := by decide +kernel
theorem dX6_keepFraction_28 : decode cX6_keepFraction 28 = .ok (.iload_n 1, 1) := by decide +kernel
theorem dX6_keepFraction_29 : decode cX6_keepFraction 29 = .ok (.iload_n 2, 1) := by decide +kernel
theorem dX6_keepFraction_30 : decode cX6_keepFraction 30 = .ok (.idiv, 1) := by decide +kernel
theorem dX6_keepFraction_31 : decode cX6_keepFraction 31 = .ok (.putfield 284, 3) := by decide +kernel
theorem dX6_keepFraction_34 : decode cX6_keepFraction 34 = .ok (.aload_n 0, 1) := by decide +kernel
theorem dX6_keepFraction_35 : decode cX6_keepFraction 35 = .ok (.bipush 100, 2) := by decide +kernel
theorem dX6_keepFraction_37 : decode cX6_keepFraction 37 = .ok (.iload_n 2, 1) := by decide +kernel
theorem dX6_keepFraction_38 : decode cX6_keepFraction 38 = .ok (.idiv, 1) := by decide +kernel
theorem dX6_keepFraction_39 : decode cX6_keepFraction 39 = .ok (.putfield 64, 3) := by decide +kernel
theorem dX6_keepFraction_42 : decode cX6_keepFraction 42 = .ok (.return_, 1) := by decide +kernel
theorem dX6_addTo_0 : decode cX6_addTo 0 = .ok (.aload_n 1, 1) := by decide +kernel
theorem dX6_addTo_1 : decode cX6_addTo 1 = .ok (.getfield 241, 3) := by decide +kernel
theorem dX6_addTo_4 : decode cX6_addTo 4 = .ok (.aload_n 1, 1) := by decide +kernel
theorem dX6_addTo_5 : decode cX6_addTo 5 = .ok (.getfield 336, 3) := by decide +kernel
theorem dX6_addTo_8 : decode cX6_addTo 8 = .ok (.if_icmp .lt 8, 3) := by decide +kernel
theorem dX6_addTo_11 : decode cX6_addTo 11 = .ok (.aload_n 0, 1) := by decide +kernel
theorem dX6_addTo_12 : decode cX6_addTo 12 = .ok (.invokevirtual 92, 3) := by decide +kernel
theorem dX6_addTo_15 : decode cX6_addTo 15 = .ok (.ireturn, 1) := by decide +kernel
theorem dX6_addTo_16 : decode cX6_addTo 16 = .ok (.aload_n 1, 1) := by decide +kernel
theorem dX6_addTo_17 : decode cX6_addTo 17 = .ok (.iload_n 2, 1) := by decide +kernel
theorem dX6_addTo_18 : decode cX6_addTo 18 = .ok (.iload_n 3, 1) := by decide +kernel
theorem dX6_addTo_19 : decode cX6_addTo 19 = .ok (.iload 4, 2) := by decide +kernel
theorem dX6_addTo_21 : decode cX6_addTo 21 = .ok (.invokevirtual 339, 3) := by decide +kernel
theorem dX6_addTo_24 : decode cX6_addTo 24 = .ok (.aload_n 1, 1) := by decide +kernel
theorem dX6_addTo_25 : decode cX6_addTo 25 = .ok (.getfield 241, 3) := by decide +kernel
theorem dX6_addTo_28 : decode cX6_addTo 28 = .ok (.ireturn, 1) := by decide +kernel
theorem dX6_fittingCalls_0 : decode cX6_fittingCalls 0 = .ok (.iconst 0, 1) := by decide +kernel
theorem dX6_fittingCalls_1 : decode cX6_fittingCalls 1 = .ok (.istore_n 2, 1) := by decide +kernel
theorem dX6_fittingCalls_2 : decode cX6_fittingCalls 2 = .ok (.iconst 0, 1) := by decide +kernel
theorem dX6_fittingCalls_3 : decode cX6_fittingCalls 3 = .ok (.istore_n 3, 1) := by decide +kernel
theorem dX6_fittingCalls_4 : decode cX6_fittingCalls 4 = .ok (.iload_n 3, 1) := by decide +kernel
theorem dX6_fittingCalls_5 : decode cX6_fittingCalls 5 = .ok (.iconst 5, 1) := by decide +kernel
theorem dX6_fittingCalls_6 : decode cX6_fittingCalls 6 = .ok (.if_icmp .ge 24, 3) := by decide +kernel
theorem dX6_fittingCalls_9 : decode cX6_fittingCalls 9 = .ok (.aload_n 0, 1) := by decide +kernel
theorem dX6_fittingCalls_10 : decode cX6_fittingCalls 10 = .ok (.iload_n 1, 1) := by decide +kernel
theorem dX6_fittingCalls_11 : decode cX6_fittingCalls 11 = .ok (.iload_n 3, 1) := by decide +kernel
theorem dX6_fittingCalls_12 : decode cX6_fittingCalls 12 = .ok (.invokevirtual 342, 3) := by decide +kernel
theorem dX6_fittingCalls_15 : decode cX6_fittingCalls 15 = .ok (.ifCond .eq 9, 3) := by decide +kernel
theorem dX6_fittingCalls_18 : decode cX6_fittingCalls 18 = .ok (.iload_n 2, 1) := by decide +kernel
theorem dX6_fittingCalls_19 : decode cX6_fittingCalls 19 = .ok (.iconst 1, 1) := by decide +kernel
theorem dX6_fittingCalls_20 : decode cX6_fittingCalls 20 = .ok (.iload_n 3, 1) := by decide +kernel
theorem dX6_fittingCalls_21 : decode cX6_fittingCalls 21 = .ok (.ishl, 1) := by decide +kernel
theorem dX6_fittingCalls_22 : decode cX6_fittingCalls 22 = .ok (.ior, 1) := by decide +kernel
theorem dX6_fittingCalls_23 : decode cX6_fittingCalls 23 = .ok (.istore_n 2, 1) := by decide +kernel
theorem dX6_fittingCalls_24 : decode cX6_fittingCalls 24 = .ok (.iinc 3 1, 3) := by decide +kernel
theorem dX6_fittingCalls_27 : decode cX6_fittingCalls 27 = .ok (.goto (-23), 3) := by decide +kernel
theorem dX6_fittingCalls_30 : decode cX6_fittingCalls 30 = .ok (.iload_n 2, 1) := by decide +kernel
theorem dX6_fittingCalls_31 : decode cX6_fittingCalls 31 = .ok (.ireturn, 1) := by decide +kernel
theorem dX6_fitsSights_0 : decode cX6_fitsSights 0 = .ok (.iconst 0, 1) := by decide +kernel
theorem dX6_fitsSights_1 : decode cX6_fitsSights 1 = .ok (.istore_n 3, 1) := by decide +kernel
theorem dX6_fitsSights_2 : decode cX6_fitsSights 2 = .ok (.iload_n 3, 1) := by decide +kernel
theorem dX6_fitsSights_3 : decode cX6_fitsSights 3 = .ok (.aload_n 0, 1) := by decide +kernel
theorem dX6_fitsSights_4 : decode cX6_fitsSights 4 = .ok (.getfield 12, 3) := by decide +kernel
theorem dX6_fitsSights_7 : decode cX6_fitsSights 7 = .ok (.getfield 217, 3) := by decide +kernel
theorem dX6_fitsSights_10 : decode cX6_fitsSights 10 = .ok (.getfield 241, 3) := by decide +kernel
theorem dX6_fitsSights_13 : decode cX6_fitsSights 13 = .ok (.if_icmp .ge 50, 3) := by decide +kernel
theorem dX6_fitsSights_16 : decode cX6_fitsSights 16 = .ok (.aload_n 0, 1) := by decide +kernel
theorem dX6_fitsSights_17 : decode cX6_fitsSights 17 = .ok (.getfield 12, 3) := by decide +kernel
theorem dX6_fitsSights_20 : decode cX6_fitsSights 20 = .ok (.getfield 76, 3) := by decide +kernel
theorem dX6_fitsSights_23 : decode cX6_fitsSights 23 = .ok (.aload_n 0, 1) := by decide +kernel
theorem dX6_fitsSights_24 : decode cX6_fitsSights 24 = .ok (.getfield 12, 3) := by decide +kernel
theorem dX6_fitsSights_27 : decode cX6_fitsSights 27 = .ok (.getfield 217, 3) := by decide +kernel
theorem dX6_fitsSights_30 : decode cX6_fitsSights 30 = .ok (.iload_n 3, 1) := by decide +kernel
theorem dX6_fitsSights_31 : decode cX6_fitsSights 31 = .ok (.iconst 0, 1) := by decide +kernel
theorem dX6_fitsSights_32 : decode cX6_fitsSights 32 = .ok (.invokevirtual 345, 3) := by decide +kernel
theorem dX6_fitsSights_35 : decode cX6_fitsSights 35 = .ok (.iload_n 1, 1) := by decide +kernel
theorem dX6_fitsSights_36 : decode cX6_fitsSights 36 = .ok (.iload_n 2, 1) := by decide +kernel
theorem dX6_fitsSights_37 : decode cX6_fitsSights 37 = .ok (.invokevirtual 182, 3) := by decide +kernel
theorem dX6_fitsSights_40 : decode cX6_fitsSights 40 = .ok (.aload_n 0, 1) := by decide +kernel
theorem dX6_fitsSights_41 : decode cX6_fitsSights 41 = .ok (.getfield 12, 3) := by decide +kernel
theorem dX6_fitsSights_44 : decode cX6_fitsSights 44 = .ok (.getfield 217, 3) := by decide +kernel
theorem dX6_fitsSights_47 : decode cX6_fitsSights 47 = .ok (.iload_n 3, 1) := by decide +kernel
theorem dX6_fitsSights_48 : decode cX6_fitsSights 48 = .ok (.iconst 1, 1) := by decide +kernel
theorem dX6_fitsSights_49 : decode cX6_fitsSights 49 = .ok (.invokevirtual 345, 3) := by decide +kernel
theorem dX6_fitsSights_52 : decode cX6_fitsSights 52 = .ok (.if_icmp .eq 5, 3) := by decide +kernel
theorem dX6_fitsSights_55 : decode cX6_fitsSights 55 = .ok (.iconst 0, 1) := by decide +kernel
theorem dX6_fitsSights_56 : decode cX6_fitsSights 56 = .ok (.ireturn, 1) := by decide +kernel
theorem dX6_fitsSights_57 : decode cX6_fitsSights 57 = .ok (.iinc 3 1, 3) := by decide +kernel
theorem dX6_fitsSights_60 : decode cX6_fitsSights 60 = .ok (.goto (-58), 3) := by decide +kernel
theorem dX6_fitsSights_63 : decode cX6_fitsSights 63 = .ok (.iconst 1, 1) := by decide +kernel
theorem dX6_fitsSights_64 : decode cX6_fitsSights 64 = .ok (.ireturn, 1) := by decide +kernel
theorem dX6_fittingKinds_0 : decode cX6_fittingKinds 0 = .ok (.iload_n 1, 1) := by decide +kernel
theorem dX6_fittingKinds_1 : decode cX6_fittingKinds 1 = .ok (.ifCond .eq 13, 3) := by decide +kernel
theorem dX6_fittingKinds_4 : decode cX6_fittingKinds 4 = .ok (.aload_n 0, 1) := by decide +kernel
theorem dX6_fittingKinds_5 : decode cX6_fittingKinds 5 = .ok (.getfield 12, 3) := by decide +kernel
theorem dX6_fittingKinds_8 : decode cX6_fittingKinds 8 = .ok (.getfield 238, 3) := by decide +kernel
theorem dX6_fittingKinds_11 : decode cX6_fittingKinds 11 = .ok (.goto 10, 3) := by decide +kernel
theorem dX6_fittingKinds_14 : decode cX6_fittingKinds 14 = .ok (.aload_n 0, 1) := by decide +kernel
theorem dX6_fittingKinds_15 : decode cX6_fittingKinds 15 = .ok (.getfield 12, 3) := by decide +kernel
theorem dX6_fittingKinds_18 : decode cX6_fittingKinds 18 = .ok (.getfield 235, 3) := by decide +kernel
theorem dX6_fittingKinds_21 : decode cX6_fittingKinds 21 = .ok (.astore_n 3, 1) := by decide +kernel
theorem dX6_fittingKinds_22 : decode cX6_fittingKinds 22 = .ok (.iconst 0, 1) := by decide +kernel
theorem dX6_fittingKinds_23 : decode cX6_fittingKinds 23 = .ok (.istore 4, 2) := by decide +kernel
theorem dX6_fittingKinds_25 : decode cX6_fittingKinds 25 = .ok (.iconst 0, 1) := by decide +kernel
theorem dX6_fittingKinds_26 : decode cX6_fittingKinds 26 = .ok (.istore 5, 2) := by decide +kernel
theorem dX6_fittingKinds_28 : decode cX6_fittingKinds 28 = .ok (.iload 5, 2) := by decide +kernel
theorem dX6_fittingKinds_30 : decode cX6_fittingKinds 30 = .ok (.bipush 6, 2) := by decide +kernel
theorem dX6_fittingKinds_32 : decode cX6_fittingKinds 32 = .ok (.if_icmp .ge 29, 3) := by decide +kernel
theorem dX6_fittingKinds_35 : decode cX6_fittingKinds 35 = .ok (.aload_n 3, 1) := by decide +kernel
theorem dX6_fittingKinds_36 : decode cX6_fittingKinds 36 = .ok (.iload_n 2, 1) := by decide +kernel
theorem dX6_fittingKinds_37 : decode cX6_fittingKinds 37 = .ok (.iload_n 1, 1) := by decide +kernel
theorem dX6_fittingKinds_38 : decode cX6_fittingKinds 38 = .ok (.iload 5, 2) := by decide +kernel
theorem dX6_fittingKinds_40 : decode cX6_fittingKinds 40 = .ok (.invokestatic 348, 3) := by decide +kernel
theorem dX6_fittingKinds_43 : decode cX6_fittingKinds 43 = .ok (.ifCond .eq 12, 3) := by decide +kernel
theorem dX6_fittingKinds_46 : decode cX6_fittingKinds 46 = .ok (.iload 4, 2) := by decide +kernel
theorem dX6_fittingKinds_48 : decode cX6_fittingKinds 48 = .ok (.iconst 1, 1) := by decide +kernel
theorem dX6_fittingKinds_49 : decode cX6_fittingKinds 49 = .ok (.iload 5, 2) := by decide +kernel
theorem dX6_fittingKinds_51 : decode cX6_fittingKinds 51 = .ok (.ishl, 1) := by decide +kernel
theorem dX6_fittingKinds_52 : decode cX6_fittingKinds 52 = .ok (.ior, 1) := by decide +kernel
theorem dX6_fittingKinds_53 : decode cX6_fittingKinds 53 = .ok (.istore 4, 2) := by decide +kernel
theorem dX6_fittingKinds_55 : decode cX6_fittingKinds 55 = .ok (.iinc 5 1, 3) := by decide +kernel
theorem dX6_fittingKinds_58 : decode cX6_fittingKinds 58 = .ok (.goto (-30), 3) := by decide +kernel
theorem dX6_fittingKinds_61 : decode cX6_fittingKinds 61 = .ok (.iload 4, 2) := by decide +kernel
theorem dX6_fittingKinds_63 : decode cX6_fittingKinds 63 = .ok (.ireturn, 1) := by decide +kernel
theorem dX6_fitsRows_0 : decode cX6_fitsRows 0 = .ok (.iconst 0, 1) := by decide +kernel
theorem dX6_fitsRows_1 : decode cX6_fitsRows 1 = .ok (.istore 4, 2) := by decide +kernel
theorem dX6_fitsRows_3 : decode cX6_fitsRows 3 = .ok (.iload 4, 2) := by decide +kernel
theorem dX6_fitsRows_5 : decode cX6_fitsRows 5 = .ok (.aload_n 0, 1) := by decide +kernel
theorem dX6_fitsRows_6 : decode cX6_fitsRows 6 = .ok (.getfield 241, 3) := by decide +kernel
theorem dX6_fitsRows_9 : decode cX6_fitsRows 9 = .ok (.if_icmp .ge 56, 3) := by decide +kernel
theorem dX6_fitsRows_12 : decode cX6_fitsRows 12 = .ok (.iload_n 2, 1) := by decide +kernel
theorem dX6_fitsRows_13 : decode cX6_fitsRows 13 = .ok (.iload_n 3, 1) := by decide +kernel
theorem dX6_fitsRows_14 : decode cX6_fitsRows 14 = .ok (.aload_n 0, 1) := by decide +kernel
theorem dX6_fitsRows_15 : decode cX6_fitsRows 15 = .ok (.iload 4, 2) := by decide +kernel
theorem dX6_fitsRows_17 : decode cX6_fitsRows 17 = .ok (.iconst 1, 1) := by decide +kernel
theorem dX6_fitsRows_18 : decode cX6_fitsRows 18 = .ok (.invokevirtual 345, 3) := by decide +kernel
theorem dX6_fitsRows_21 : decode cX6_fitsRows 21 = .ok (.invokestatic 352, 3) := by decide +kernel
theorem dX6_fitsRows_24 : decode cX6_fitsRows 24 = .ok (.aload_n 0, 1) := by decide +kernel
theorem dX6_fitsRows_25 : decode cX6_fitsRows 25 = .ok (.iload 4, 2) := by decide +kernel
theorem dX6_fitsRows_27 : decode cX6_fitsRows 27 = .ok (.iconst 2, 1) := by decide +kernel
theorem dX6_fitsRows_28 : decode cX6_fitsRows 28 = .ok (.invokevirtual 345, 3) := by decide +kernel
theorem dX6_fitsRows_31 : decode cX6_fitsRows 31 = .ok (.if_icmp .ne 7, 3) := by decide +kernel
theorem dX6_fitsRows_34 : decode cX6_fitsRows 34 = .ok (.iconst 1, 1) := by decide +kernel
theorem dX6_fitsRows_35 : decode cX6_fitsRows 35 = .ok (.goto 4, 3) := by decide +kernel
theorem dX6_fitsRows_38 : decode cX6_fitsRows 38 = .ok (.iconst 0, 1) := by decide +kernel
theorem dX6_fitsRows_39 : decode cX6_fitsRows 39 = .ok (.istore 5, 2) := by decide +kernel
theorem dX6_fitsRows_41 : decode cX6_fitsRows 41 = .ok (.aload_n 0, 1) := by decide +kernel
theorem dX6_fitsRows_42 : decode cX6_fitsRows 42 = .ok (.iload 4, 2) := by decide +kernel
theorem dX6_fitsRows_44 : decode cX6_fitsRows 44 = .ok (.iconst 0, 1) := by decide +kernel
theorem dX6_fitsRows_45 : decode cX6_fitsRows 45 = .ok (.invokevirtual 345, 3) := by decide +kernel
theorem dX6_fitsRows_48 : decode cX6_fitsRows 48 = .ok (.iload_n 1, 1) := by decide +kernel
theorem dX6_fitsRows_49 : decode cX6_fitsRows 49 = .ok (.if_icmp .ne 10, 3) := by decide +kernel
theorem dX6_fitsRows_52 : decode cX6_fitsRows 52 = .ok (.iload 5, 2) := by decide +kernel
theorem dX6_fitsRows_54 : decode cX6_fitsRows 54 = .ok (.ifCond .ne 5, 3) := by decide +kernel
theorem dX6_fitsRows_57 : decode cX6_fitsRows 57 = .ok (.iconst 0, 1) := by decide +kernel
theorem dX6_fitsRows_58 : decode cX6_fitsRows 58 = .ok (.ireturn, 1) := by decide +kernel
theorem dX6_fitsRows_59 : decode cX6_fitsRows 59 = .ok (.iinc 4 1, 3) := by decide +kernel
theorem dX6_fitsRows_62 : decode cX6_fitsRows 62 = .ok (.goto (-59), 3) := by decide +kernel
theorem dX6_fitsRows_65 : decode cX6_fitsRows 65 = .ok (.iconst 1, 1) := by decide +kernel
theorem dX6_fitsRows_66 : decode cX6_fitsRows 66 = .ok (.ireturn, 1) := by decide +kernel
theorem dX6_mostToOneCell_0 : decode cX6_mostToOneCell 0 = .ok (.iconst 0, 1) := by decide +kernel
theorem dX6_mostToOneCell_1 : decode cX6_mostToOneCell 1 = .ok (.istore 4, 2) := by decide +kernel
theorem dX6_mostToOneCell_3 : decode cX6_mostToOneCell 3 = .ok (.iconst 0, 1) := by decide +kernel
theorem dX6_mostToOneCell_4 : decode cX6_mostToOneCell 4 = .ok (.istore 5, 2) := by decide +kernel
theorem dX6_mostToOneCell_6 : decode cX6_mostToOneCell 6 = .ok (.iload 5, 2) := by decide +kernel
theorem dX6_mostToOneCell_8 : decode cX6_mostToOneCell 8 = .ok (.iconst 5, 1) := by decide +kernel
theorem dX6_mostToOneCell_9 : decode cX6_mostToOneCell 9 = .ok (.if_icmp .ge 42, 3) := by decide +kernel
theorem dX6_mostToOneCell_12 : decode cX6_mostToOneCell 12 = .ok (.iload_n 3, 1) := by decide +kernel
theorem dX6_mostToOneCell_13 : decode cX6_mostToOneCell 13 = .ok (.iload 5, 2) := by decide +kernel
theorem dX6_mostToOneCell_15 : decode cX6_mostToOneCell 15 = .ok (.invokestatic 228, 3) := by decide +kernel
theorem dX6_mostToOneCell_18 : decode cX6_mostToOneCell 18 = .ok (.ifCond .eq 27, 3) := by decide +kernel
theorem dX6_mostToOneCell_21 : decode cX6_mostToOneCell 21 = .ok (.aload_n 0, 1) := by decide +kernel
theorem dX6_mostToOneCell_22 : decode cX6_mostToOneCell 22 = .ok (.getfield 54, 3) := by decide +kernel
theorem dX6_mostToOneCell_25 : decode cX6_mostToOneCell 25 = .ok (.iload 4, 2) := by decide +kernel
theorem dX6_mostToOneCell_27 : decode cX6_mostToOneCell 27 = .ok (.aload_n 0, 1) := by decide +kernel
theorem dX6_mostToOneCell_28 : decode cX6_mostToOneCell 28 = .ok (.getfield 12, 3) := by decide +kernel
theorem dX6_mostToOneCell_31 : decode cX6_mostToOneCell 31 = .ok (.getfield 76, 3) := by decide +kernel
theorem dX6_mostToOneCell_34 : decode cX6_mostToOneCell 34 = .ok (.iload_n 1, 1) := by decide +kernel
theorem dX6_mostToOneCell_35 : decode cX6_mostToOneCell 35 = .ok (.iload_n 2, 1) := by decide +kernel
theorem dX6_mostToOneCell_36 : decode cX6_mostToOneCell 36 = .ok (.iload 5, 2) := by decide +kernel
theorem dX6_mostToOneCell_38 : decode cX6_mostToOneCell 38 = .ok (.invokevirtual 182, 3) := by decide +kernel
theorem dX6_mostToOneCell_41 : decode cX6_mostToOneCell 41 = .ok (.iastore, 1) := by decide +kernel
theorem dX6_mostToOneCell_42 : decode cX6_mostToOneCell 42 = .ok (.iinc 4 1, 3) := by decide +kernel
theorem dX6_mostToOneCell_45 : decode cX6_mostToOneCell 45 = .ok (.iinc 5 1, 3) := by decide +kernel
theorem dX6_mostToOneCell_48 : decode cX6_mostToOneCell 48 = .ok (.goto (-42), 3) := by decide +kernel
theorem dX6_mostToOneCell_51 : decode cX6_mostToOneCell 51 = .ok (.aload_n 0, 1) := by decide +kernel
theorem dX6_mostToOneCell_52 : decode cX6_mostToOneCell 52 = .ok (.getfield 54, 3) := by decide +kernel
theorem dX6_mostToOneCell_55 : decode cX6_mostToOneCell 55 = .ok (.iload 4, 2) := by decide +kernel
theorem dX6_mostToOneCell_57 : decode cX6_mostToOneCell 57 = .ok (.invokestatic 355, 3) := by decide +kernel
theorem dX6_mostToOneCell_60 : decode cX6_mostToOneCell 60 = .ok (.ireturn, 1) := by decide +kernel
theorem dX6_partingKindsBest_0 : decode cX6_partingKindsBest 0 = .ok (.iload_n 2, 1) := by decide +kernel
theorem dX6_partingKindsBest_1 : decode cX6_partingKindsBest 1 = .ok (.ifCond .ne 5, 3) := by decide +kernel
theorem dX6_partingKindsBest_4 : decode cX6_partingKindsBest 4 = .ok (.iconst (-1), 1) := by decide +kernel
theorem dX6_partingKindsBest_5 : decode cX6_partingKindsBest 5 = .ok (.ireturn, 1) := by decide +kernel
theorem dX6_partingKindsBest_6 : decode cX6_partingKindsBest 6 = .ok (.iload_n 3, 1) := by decide +kernel
theorem dX6_partingKindsBest_7 : decode cX6_partingKindsBest 7 = .ok (.aload_n 0, 1) := by decide +kernel
theorem dX6_partingKindsBest_8 : decode cX6_partingKindsBest 8 = .ok (.getfield 58, 3) := by decide +kernel
theorem dX6_partingKindsBest_11 : decode cX6_partingKindsBest 11 = .ok (.arraylength, 1) := by decide +kernel
theorem dX6_partingKindsBest_12 : decode cX6_partingKindsBest 12 = .ok (.invokestatic 150, 3) := by decide +kernel
theorem dX6_partingKindsBest_15 : decode cX6_partingKindsBest 15 = .ok (.istore 4, 2) := by decide +kernel
theorem dX6_partingKindsBest_17 : decode cX6_partingKindsBest 17 = .ok (.iconst 0, 1) := by decide +kernel
theorem dX6_partingKindsBest_18 : decode cX6_partingKindsBest 18 = .ok (.istore 5, 2) := by decide +kernel
theorem dX6_partingKindsBest_20 : decode cX6_partingKindsBest 20 = .ok (.iload 5, 2) := by decide +kernel
theorem dX6_partingKindsBest_22 : decode cX6_partingKindsBest 22 = .ok (.iload 4, 2) := by decide +kernel
theorem dX6_partingKindsBest_24 : decode cX6_partingKindsBest 24 = .ok (.if_icmp .ge 24, 3) := by decide +kernel
theorem dX6_partingKindsBest_27 : decode cX6_partingKindsBest 27 = .ok (.aload_n 0, 1) := by decide +kernel
theorem dX6_partingKindsBest_28 : decode cX6_partingKindsBest 28 = .ok (.getfield 58, 3) := by decide +kernel
theorem dX6_partingKindsBest_31 : decode cX6_partingKindsBest 31 = .ok (.iload 5, 2) := by decide +kernel
theorem dX6_partingKindsBest_33 : decode cX6_partingKindsBest 33 = .ok (.aload_n 0, 1) := by decide +kernel
theorem dX6_partingKindsBest_34 : decode cX6_partingKindsBest 34 = .ok (.iload_n 1, 1) := by decide +kernel
theorem dX6_partingKindsBest_35 : decode cX6_partingKindsBest 35 = .ok (.iload_n 2, 1) := by decide +kernel
theorem dX6_partingKindsBest_36 : decode cX6_partingKindsBest 36 = .ok (.iload 5, 2) := by decide +kernel
theorem dX6_partingKindsBest_38 : decode cX6_partingKindsBest 38 = .ok (.invokevirtual 358, 3) := by decide +kernel
theorem dX6_partingKindsBest_41 : decode cX6_partingKindsBest 41 = .ok (.iastore, 1) := by decide +kernel
theorem dX6_partingKindsBest_42 : decode cX6_partingKindsBest 42 = .ok (.iinc 5 1, 3) := by decide +kernel
theorem dX6_partingKindsBest_45 : decode cX6_partingKindsBest 45 = .ok (.goto (-25), 3) := by decide +kernel
theorem dX6_partingKindsBest_48 : decode cX6_partingKindsBest 48 = .ok (.aload_n 0, 1) := by decide +kernel
theorem dX6_partingKindsBest_49 : decode cX6_partingKindsBest 49 = .ok (.getfield 58, 3) := by decide +kernel
theorem dX6_partingKindsBest_52 : decode cX6_partingKindsBest 52 = .ok (.iload 4, 2) := by decide +kernel
theorem dX6_partingKindsBest_54 : decode cX6_partingKindsBest 54 = .ok (.invokestatic 201, 3) := by decide +kernel
theorem dX6_partingKindsBest_57 : decode cX6_partingKindsBest 57 = .ok (.ireturn, 1) := by decide +kernel
theorem dX6_mostKindsAlike_0 : decode cX6_mostKindsAlike 0 = .ok (.iconst 0, 1) := by decide +kernel
theorem dX6_mostKindsAlike_1 : decode cX6_mostKindsAlike 1 = .ok (.istore 4, 2) := by decide +kernel
theorem dX6_mostKindsAlike_3 : decode cX6_mostKindsAlike 3 = .ok (.iconst 0, 1) := by decide +kernel
theorem dX6_mostKindsAlike_4 : decode cX6_mostKindsAlike 4 = .ok (.istore 5, 2) := by decide +kernel
theorem dX6_mostKindsAlike_6 : decode cX6_mostKindsAlike 6 = .ok (.iload 5, 2) := by decide +kernel
theorem dX6_mostKindsAlike_8 : decode cX6_mostKindsAlike 8 = .ok (.bipush 6, 2) := by decide +kernel
theorem dX6_mostKindsAlike_10 : decode cX6_mostKindsAlike 10 = .ok (.if_icmp .ge 35, 3) := by decide +kernel
theorem dX6_mostKindsAlike_13 : decode cX6_mostKindsAlike 13 = .ok (.iload_n 2, 1) := by decide +kernel
theorem dX6_mostKindsAlike_14 : decode cX6_mostKindsAlike 14 = .ok (.iload 5, 2) := by decide +kernel
theorem dX6_mostKindsAlike_16 : decode cX6_mostKindsAlike 16 = .ok (.invokestatic 228, 3) := by decide +kernel
theorem dX6_mostKindsAlike_19 : decode cX6_mostKindsAlike 19 = .ok (.ifCond .eq 20, 3) := by decide +kernel
theorem dX6_mostKindsAlike_22 : decode cX6_mostKindsAlike 22 = .ok (.aload_n 0, 1) := by decide +kernel
theorem dX6_mostKindsAlike_23 : decode cX6_mostKindsAlike 23 = .ok (.getfield 54, 3) := by decide +kernel
theorem dX6_mostKindsAlike_26 : decode cX6_mostKindsAlike 26 = .ok (.iload 4, 2) := by decide +kernel
theorem dX6_mostKindsAlike_28 : decode cX6_mostKindsAlike 28 = .ok (.iload_n 1, 1) := by decide +kernel
theorem dX6_mostKindsAlike_29 : decode cX6_mostKindsAlike 29 = .ok (.iload 5, 2) := by decide +kernel
theorem dX6_mostKindsAlike_31 : decode cX6_mostKindsAlike 31 = .ok (.iload_n 3, 1) := by decide +kernel
theorem dX6_mostKindsAlike_32 : decode cX6_mostKindsAlike 32 = .ok (.invokestatic 352, 3) := by decide +kernel
theorem dX6_mostKindsAlike_35 : decode cX6_mostKindsAlike 35 = .ok (.iastore, 1) := by decide +kernel
theorem dX6_mostKindsAlike_36 : decode cX6_mostKindsAlike 36 = .ok (.iinc 4 1, 3) := by decide +kernel
theorem dX6_mostKindsAlike_39 : decode cX6_mostKindsAlike 39 = .ok (.iinc 5 1, 3) := by decide +kernel
theorem dX6_mostKindsAlike_42 : decode cX6_mostKindsAlike 42 = .ok (.goto (-36), 3) := by decide +kernel
theorem dX6_mostKindsAlike_45 : decode cX6_mostKindsAlike 45 = .ok (.aload_n 0, 1) := by decide +kernel
theorem dX6_mostKindsAlike_46 : decode cX6_mostKindsAlike 46 = .ok (.getfield 54, 3) := by decide +kernel
theorem dX6_mostKindsAlike_49 : decode cX6_mostKindsAlike 49 = .ok (.iload 4, 2) := by decide +kernel
theorem dX6_mostKindsAlike_51 : decode cX6_mostKindsAlike 51 = .ok (.invokestatic 355, 3) := by decide +kernel
theorem dX6_mostKindsAlike_54 : decode cX6_mostKindsAlike 54 = .ok (.ireturn, 1) := by decide +kernel
theorem dX6_mostAlike_0 : decode cX6_mostAlike 0 = .ok (.iload_n 1, 1) := by decide +kernel
theorem dX6_mostAlike_1 : decode cX6_mostAlike 1 = .ok (.aload_n 0, 1) := by decide +kernel
theorem dX6_mostAlike_2 : decode cX6_mostAlike 2 = .ok (.arraylength, 1) := by decide +kernel
theorem dX6_mostAlike_3 : decode cX6_mostAlike 3 = .ok (.invokestatic 150, 3) := by decide +kernel
theorem dX6_mostAlike_6 : decode cX6_mostAlike 6 = .ok (.istore_n 2, 1) := by decide +kernel
theorem dX6_mostAlike_7 : decode cX6_mostAlike 7 = .ok (.iconst 0, 1) := by decide +kernel
theorem dX6_mostAlike_8 : decode cX6_mostAlike 8 = .ok (.istore_n 3, 1) := by decide +kernel
theorem dX6_mostAlike_9 : decode cX6_mostAlike 9 = .ok (.iconst 0, 1) := by decide +kernel
theorem dX6_mostAlike_10 : decode cX6_mostAlike 10 = .ok (.istore 4, 2) := by decide +kernel
theorem dX6_mostAlike_12 : decode cX6_mostAlike 12 = .ok (.iload 4, 2) := by decide +kernel
theorem dX6_mostAlike_14 : decode cX6_mostAlike 14 = .ok (.iload_n 2, 1) := by decide +kernel
theorem dX6_mostAlike_15 : decode cX6_mostAlike 15 = .ok (.if_icmp .ge 48, 3) := by decide +kernel
theorem dX6_mostAlike_18 : decode cX6_mostAlike 18 = .ok (.iconst 0, 1) := by decide +kernel
theorem dX6_mostAlike_19 : decode cX6_mostAlike 19 = .ok (.istore 5, 2) := by decide +kernel
theorem dX6_mostAlike_21 : decode cX6_mostAlike 21 = .ok (.iconst 0, 1) := by decide +kernel
theorem dX6_mostAlike_22 : decode cX6_mostAlike 22 = .ok (.istore 6, 2) := by decide +kernel
theorem dX6_mostAlike_24 : decode cX6_mostAlike 24 = .ok (.iload 6, 2) := by decide +kernel
theorem dX6_mostAlike_26 : decode cX6_mostAlike 26 = .ok (.iload_n 2, 1) := by decide +kernel
theorem dX6_mostAlike_27 : decode cX6_mostAlike 27 = .ok (.if_icmp .ge 23, 3) := by decide +kernel
theorem dX6_mostAlike_30 : decode cX6_mostAlike 30 = .ok (.aload_n 0, 1) := by decide +kernel
theorem dX6_mostAlike_31 : decode cX6_mostAlike 31 = .ok (.iload 6, 2) := by decide +kernel
theorem dX6_mostAlike_33 : decode cX6_mostAlike 33 = .ok (.iaload, 1) := by decide +kernel
theorem dX6_mostAlike_34 : decode cX6_mostAlike 34 = .ok (.aload_n 0, 1) := by decide +kernel
theorem dX6_mostAlike_35 : decode cX6_mostAlike 35 = .ok (.iload 4, 2) := by decide +kernel
theorem dX6_mostAlike_37 : decode cX6_mostAlike 37 = .ok (.iaload, 1) := by decide +kernel
theorem dX6_mostAlike_38 : decode cX6_mostAlike 38 = .ok (.if_icmp .ne 6, 3) := by decide +kernel
theorem dX6_mostAlike_41 : decode cX6_mostAlike 41 = .ok (.iinc 5 1, 3) := by decide +kernel
theorem dX6_mostAlike_44 : decode cX6_mostAlike 44 = .ok (.iinc 6 1, 3) := by decide +kernel
theorem dX6_mostAlike_47 : decode cX6_mostAlike 47 = .ok (.goto (-23), 3) := by decide +kernel
theorem dX6_mostAlike_50 : decode cX6_mostAlike 50 = .ok (.iload_n 3, 1) := by decide +kernel
theorem dX6_mostAlike_51 : decode cX6_mostAlike 51 = .ok (.iload 5, 2) := by decide +kernel
theorem dX6_mostAlike_53 : decode cX6_mostAlike 53 = .ok (.invokestatic 312, 3) := by decide +kernel
theorem dX6_mostAlike_56 : decode cX6_mostAlike 56 = .ok (.istore_n 3, 1) := by decide +kernel
theorem dX6_mostAlike_57 : decode cX6_mostAlike 57 = .ok (.iinc 4 1, 3) := by decide +kernel
theorem dX6_mostAlike_60 : decode cX6_mostAlike 60 = .ok (.goto (-48), 3) := by decide +kernel
theorem dX6_mostAlike_63 : decode cX6_mostAlike 63 = .ok (.iload_n 3, 1) := by decide +kernel
theorem dX6_mostAlike_64 : decode cX6_mostAlike 64 = .ok (.ireturn, 1) := by decide +kernel
theorem dX6_firstLeast_0 : decode cX6_firstLeast 0 = .ok (.iload_n 1, 1) := by decide +kernel
theorem dX6_firstLeast_1 : decode cX6_firstLeast 1 = .ok (.aload_n 0, 1) := by decide +kernel
theorem dX6_firstLeast_2 : decode cX6_firstLeast 2 = .ok (.arraylength, 1) := by decide +kernel
theorem dX6_firstLeast_3 : decode cX6_firstLeast 3 = .ok (.invokestatic 150, 3) := by decide +kernel
theorem dX6_firstLeast_6 : decode cX6_firstLeast 6 = .ok (.istore_n 2, 1) := by decide +kernel
theorem dX6_firstLeast_7 : decode cX6_firstLeast 7 = .ok (.iconst 0, 1) := by decide +kernel
theorem dX6_firstLeast_8 : decode cX6_firstLeast 8 = .ok (.istore_n 3, 1) := by decide +kernel
theorem dX6_firstLeast_9 : decode cX6_firstLeast 9 = .ok (.iconst 1, 1) := by decide +kernel
theorem dX6_firstLeast_10 : decode cX6_firstLeast 10 = .ok (.istore 4, 2) := by decide +kernel
theorem dX6_firstLeast_12 : decode cX6_firstLeast 12 = .ok (.iload 4, 2) := by decide +kernel
theorem dX6_firstLeast_14 : decode cX6_firstLeast 14 = .ok (.iload_n 2, 1) := by decide +kernel
theorem dX6_firstLeast_15 : decode cX6_firstLeast 15 = .ok (.if_icmp .ge 22, 3) := by decide +kernel
theorem dX6_firstLeast_18 : decode cX6_firstLeast 18 = .ok (.aload_n 0, 1) := by decide +kernel
theorem dX6_firstLeast_19 : decode cX6_firstLeast 19 = .ok (.iload 4, 2) := by decide +kernel
theorem dX6_firstLeast_21 : decode cX6_firstLeast 21 = .ok (.iaload, 1) := by decide +kernel
theorem dX6_firstLeast_22 : decode cX6_firstLeast 22 = .ok (.aload_n 0, 1) := by decide +kernel
theorem dX6_firstLeast_23 : decode cX6_firstLeast 23 = .ok (.iload_n 3, 1) := by decide +kernel
theorem dX6_firstLeast_24 : decode cX6_firstLeast 24 = .ok (.iaload, 1) := by decide +kernel
theorem dX6_firstLeast_25 : decode cX6_firstLeast 25 = .ok (.if_icmp .ge 6, 3) := by decide +kernel
theorem dX6_firstLeast_28 : decode cX6_firstLeast 28 = .ok (.iload 4, 2) := by decide +kernel
theorem dX6_firstLeast_30 : decode cX6_firstLeast 30 = .ok (.istore_n 3, 1) := by decide +kernel
theorem dX6_firstLeast_31 : decode cX6_firstLeast 31 = .ok (.iinc 4 1, 3) := by decide +kernel
theorem dX6_firstLeast_34 : decode cX6_firstLeast 34 = .ok (.goto (-22), 3) := by decide +kernel
theorem dX6_firstLeast_37 : decode cX6_firstLeast 37 = .ok (.iload_n 3, 1) := by decide +kernel
theorem dX6_firstLeast_38 : decode cX6_firstLeast 38 = .ok (.ireturn, 1) := by decide +kernel
theorem dX6_hasBit_0 : decode cX6_hasBit 0 = .ok (.iload_n 0, 1) := by decide +kernel
theorem dX6_hasBit_1 : decode cX6_hasBit 1 = .ok (.iload_n 1, 1) := by decide +kernel
theorem dX6_hasBit_2 : decode cX6_hasBit 2 = .ok (.ishr, 1) := by decide +kernel
theorem dX6_hasBit_3 : decode cX6_hasBit 3 = .ok (.iconst 1, 1) := by decide +kernel
theorem dX6_hasBit_4 : decode cX6_hasBit 4 = .ok (.iand, 1) := by decide +kernel
theorem dX6_hasBit_5 : decode cX6_hasBit 5 = .ok (.iconst 1, 1) := by decide +kernel
theorem dX6_hasBit_6 : decode cX6_hasBit 6 = .ok (.if_icmp .ne 7, 3) := by decide +kernel
theorem dX6_hasBit_9 : decode cX6_hasBit 9 = .ok (.iconst 1, 1) := by decide +kernel
theorem dX6_hasBit_10 : decode cX6_hasBit 10 = .ok (.goto 4, 3) := by decide +kernel
theorem dX6_hasBit_13 : decode cX6_hasBit 13 = .ok (.iconst 0, 1) := by decide +kernel
theorem dX6_hasBit_14 : decode cX6_hasBit 14 = .ok (.ireturn, 1) := by decide +kernel
theorem dX6_howMany_0 : decode cX6_howMany 0 = .ok (.iload_n 1, 1) := by decide +kernel
theorem dX6_howMany_1 : decode cX6_howMany 1 = .ok (.tableswitch 154 0 8 #[51, 62, 73, 84, 92, 110, 121, 132, 143], 51) := by decide +kernel
theorem dX6_howMany_52 : decode cX6_howMany 52 = .ok (.aload_n 0, 1) := by decide +kernel
theorem dX6_howMany_53 : decode cX6_howMany 53 = .ok (.getfield 12, 3) := by decide +kernel
theorem dX6_howMany_56 : decode cX6_howMany 56 = .ok (.getfield 76, 3) := by decide +kernel
theorem dX6_howMany_59 : decode cX6_howMany 59 = .ok (.getfield 79, 3) := by decide +kernel
theorem dX6_howMany_62 : decode cX6_howMany 62 = .ok (.ireturn, 1) := by decide +kernel
theorem dX6_howMany_63 : decode cX6_howMany 63 = .ok (.aload_n 0, 1) := by decide +kernel
theorem dX6_howMany_64 : decode cX6_howMany 64 = .ok (.getfield 12, 3) := by decide +kernel
theorem dX6_howMany_67 : decode cX6_howMany 67 = .ok (.getfield 76, 3) := by decide +kernel
theorem dX6_howMany_70 : decode cX6_howMany 70 = .ok (.getfield 89, 3) := by decide +kernel
theorem dX6_howMany_73 : decode cX6_howMany 73 = .ok (.ireturn, 1) := by decide +kernel
theorem dX6_howMany_74 : decode cX6_howMany 74 = .ok (.aload_n 0, 1) := by decide +kernel
theorem dX6_howMany_75 : decode cX6_howMany 75 = .ok (.getfield 12, 3) := by decide +kernel
theorem dX6_howMany_78 : decode cX6_howMany 78 = .ok (.getfield 76, 3) := by decide +kernel
theorem dX6_howMany_81 : decode cX6_howMany 81 = .ok (.getfield 140, 3) := by decide +kernel
theorem dX6_howMany_84 : decode cX6_howMany 84 = .ok (.ireturn, 1) := by decide +kernel
theorem dX6_howMany_85 : decode cX6_howMany 85 = .ok (.aload_n 0, 1) := by decide +kernel
theorem dX6_howMany_86 : decode cX6_howMany 86 = .ok (.getfield 12, 3) := by decide +kernel
theorem dX6_howMany_89 : decode cX6_howMany 89 = .ok (.getfield 112, 3) := by decide +kernel
theorem dX6_howMany_92 : decode cX6_howMany 92 = .ok (.ireturn, 1) := by decide +kernel
theorem dX6_howMany_93 : decode cX6_howMany 93 = .ok (.aload_n 0, 1) := by decide +kernel
theorem dX6_howMany_94 : decode cX6_howMany 94 = .ok (.getfield 12, 3) := by decide +kernel
theorem dX6_howMany_97 : decode cX6_howMany 97 = .ok (.getfield 76, 3) := by decide +kernel
theorem dX6_howMany_100 : decode cX6_howMany 100 = .ok (.aload_n 0, 1) := by decide +kernel
theorem dX6_howMany_101 : decode cX6_howMany 101 = .ok (.getfield 12, 3) := by decide +kernel
theorem dX6_howMany_104 : decode cX6_howMany 104 = .ok (.getfield 112, 3) := by decide +kernel
theorem dX6_howMany_107 : decode cX6_howMany 107 = .ok (.invokevirtual 281, 3) := by decide +kernel
theorem dX6_howMany_110 : decode cX6_howMany 110 = .ok (.ireturn, 1) := by decide +kernel
theorem dX6_howMany_111 : decode cX6_howMany 111 = .ok (.aload_n 0, 1) := by decide +kernel
theorem dX6_howMany_112 : decode cX6_howMany 112 = .ok (.getfield 12, 3) := by decide +kernel
theorem dX6_howMany_115 : decode cX6_howMany 115 = .ok (.getfield 217, 3) := by decide +kernel
theorem dX6_howMany_118 : decode cX6_howMany 118 = .ok (.getfield 241, 3) := by decide +kernel
theorem dX6_howMany_121 : decode cX6_howMany 121 = .ok (.ireturn, 1) := by decide +kernel
theorem dX6_howMany_122 : decode cX6_howMany 122 = .ok (.aload_n 0, 1) := by decide +kernel
theorem dX6_howMany_123 : decode cX6_howMany 123 = .ok (.getfield 12, 3) := by decide +kernel
theorem dX6_howMany_126 : decode cX6_howMany 126 = .ok (.getfield 235, 3) := by decide +kernel
theorem dX6_howMany_129 : decode cX6_howMany 129 = .ok (.getfield 241, 3) := by decide +kernel
theorem dX6_howMany_132 : decode cX6_howMany 132 = .ok (.ireturn, 1) := by decide +kernel
theorem dX6_howMany_133 : decode cX6_howMany 133 = .ok (.aload_n 0, 1) := by decide +kernel
theorem dX6_howMany_134 : decode cX6_howMany 134 = .ok (.getfield 12, 3) := by decide +kernel
theorem dX6_howMany_137 : decode cX6_howMany 137 = .ok (.getfield 238, 3) := by decide +kernel
theorem dX6_howMany_140 : decode cX6_howMany 140 = .ok (.getfield 241, 3) := by decide +kernel
theorem dX6_howMany_143 : decode cX6_howMany 143 = .ok (.ireturn, 1) := by decide +kernel
theorem dX6_howMany_144 : decode cX6_howMany 144 = .ok (.aload_n 0, 1) := by decide +kernel
theorem dX6_howMany_145 : decode cX6_howMany 145 = .ok (.getfield 12, 3) := by decide +kernel
theorem dX6_howMany_148 : decode cX6_howMany 148 = .ok (.getfield 96, 3) := by decide +kernel
theorem dX6_howMany_151 : decode cX6_howMany 151 = .ok (.getfield 100, 3) := by decide +kernel
theorem dX6_howMany_154 : decode cX6_howMany 154 = .ok (.ireturn, 1) := by decide +kernel
theorem dX6_howMany_155 : decode cX6_howMany 155 = .ok (.aload_n 0, 1) := by decide +kernel
theorem dX6_howMany_156 : decode cX6_howMany 156 = .ok (.getfield 30, 3) := by decide +kernel
theorem dX6_howMany_159 : decode cX6_howMany 159 = .ok (.getfield 122, 3) := by decide +kernel
theorem dX6_howMany_162 : decode cX6_howMany 162 = .ok (.ireturn, 1) := by decide +kernel
theorem dX6_digested_0 : decode cX6_digested 0 = .ok (.ldc2_w 361, 3) := by decide +kernel
theorem dX6_digested_3 : decode cX6_digested 3 = .ok (.lload_n 0, 1) := by decide +kernel
theorem dX6_digested_4 : decode cX6_digested 4 = .ok (.lmul, 1) := by decide +kernel
theorem dX6_digested_5 : decode cX6_digested 5 = .ok (.lload_n 2, 1) := by decide +kernel
theorem dX6_digested_6 : decode cX6_digested 6 = .ok (.ladd, 1) := by decide +kernel
theorem dX6_digested_7 : decode cX6_digested 7 = .ok (.lreturn, 1) := by decide +kernel
theorem dX6_digestedRows_0 : decode cX6_digestedRows 0 = .ok (.lload_n 0, 1) := by decide +kernel
theorem dX6_digestedRows_1 : decode cX6_digestedRows 1 = .ok (.lstore_n 3, 1) := by decide +kernel
theorem dX6_digestedRows_2 : decode cX6_digestedRows 2 = .ok (.iconst 0, 1) := by decide +kernel
theorem dX6_digestedRows_3 : decode cX6_digestedRows 3 = .ok (.istore 5, 2) := by decide +kernel
theorem dX6_digestedRows_5 : decode cX6_digestedRows 5 = .ok (.iload 5, 2) := by decide +kernel
theorem dX6_digestedRows_7 : decode cX6_digestedRows 7 = .ok (.aload_n 2, 1) := by decide +kernel
theorem dX6_digestedRows_8 : decode cX6_digestedRows 8 = .ok (.getfield 241, 3) := by decide +kernel
theorem dX6_digestedRows_11 : decode cX6_digestedRows 11 = .ok (.if_icmp .ge 41, 3) := by decide +kernel
theorem dX6_digestedRows_14 : decode cX6_digestedRows 14 = .ok (.iconst 0, 1) := by decide +kernel
theorem dX6_digestedRows_15 : decode cX6_digestedRows 15 = .ok (.istore 6, 2) := by decide +kernel
theorem dX6_digestedRows_17 : decode cX6_digestedRows 17 = .ok (.iload 6, 2) := by decide +kernel
theorem dX6_digestedRows_19 : decode cX6_digestedRows 19 = .ok (.aload_n 2, 1) := by decide +kernel
theorem dX6_digestedRows_20 : decode cX6_digestedRows 20 = .ok (.getfield 363, 3) := by decide +kernel
theorem dX6_digestedRows_23 : decode cX6_digestedRows 23 = .ok (.if_icmp .ge 23, 3) := by decide +kernel
theorem dX6_digestedRows_26 : decode cX6_digestedRows 26 = .ok (.lload_n 3, 1) := by decide +kernel
theorem dX6_digestedRows_27 : decode cX6_digestedRows 27 = .ok (.aload_n 2, 1) := by decide +kernel
theorem dX6_digestedRows_28 : decode cX6_digestedRows 28 = .ok (.iload 5, 2) := by decide +kernel
theorem dX6_digestedRows_30 : decode cX6_digestedRows 30 = .ok (.iload 6, 2) := by decide +kernel
theorem dX6_digestedRows_32 : decode cX6_digestedRows 32 = .ok (.invokevirtual 345, 3) := by decide +kernel
theorem dX6_digestedRows_35 : decode cX6_digestedRows 35 = .ok (.i2l, 1) := by decide +kernel
theorem dX6_digestedRows_36 : decode cX6_digestedRows 36 = .ok (.invokestatic 304, 3) := by decide +kernel
theorem dX6_digestedRows_39 : decode cX6_digestedRows 39 = .ok (.lstore_n 3, 1) := by decide +kernel
theorem dX6_digestedRows_40 : decode cX6_digestedRows 40 = .ok (.iinc 6 1, 3) := by decide +kernel
theorem dX6_digestedRows_43 : decode cX6_digestedRows 43 = .ok (.goto (-26), 3) := by decide +kernel
theorem dX6_digestedRows_46 : decode cX6_digestedRows 46 = .ok (.iinc 5 1, 3) := by decide +kernel
theorem dX6_digestedRows_49 : decode cX6_digestedRows 49 = .ok (.goto (-44), 3) := by decide +kernel
theorem dX6_digestedRows_52 : decode cX6_digestedRows 52 = .ok (.lload_n 3, 1) := by decide +kernel
theorem dX6_digestedRows_53 : decode cX6_digestedRows 53 = .ok (.lreturn, 1) := by decide +kernel

/-! what stands at each place of the code -/
theorem dX7_init_0 : decode cX7_init 0 = .ok (.aload_n 0, 1) := by decide +kernel
theorem dX7_init_1 : decode cX7_init 1 = .ok (.invokespecial 1, 3) := by decide +kernel
theorem dX7_init_4 : decode cX7_init 4 = .ok (.aload_n 0, 1) := by decide +kernel
theorem dX7_init_5 : decode cX7_init 5 = .ok (.sipush 252, 3) := by decide +kernel
theorem dX7_init_8 : decode cX7_init 8 = .ok (.newarray .int, 2) := by decide +kernel
theorem dX7_init_10 : decode cX7_init 10 = .ok (.putfield 7, 3) := by decide +kernel
theorem dX7_init_13 : decode cX7_init 13 = .ok (.aload_n 0, 1) := by decide +kernel
theorem dX7_init_14 : decode cX7_init 14 = .ok (.iconst 2, 1) := by decide +kernel
theorem dX7_init_15 : decode cX7_init 15 = .ok (.newarray .boolean, 2) := by decide +kernel
theorem dX7_init_17 : decode cX7_init 17 = .ok (.putfield 13, 3) := by decide +kernel
theorem dX7_init_20 : decode cX7_init 20 = .ok (.aload_n 0, 1) := by decide +kernel
theorem dX7_init_21 : decode cX7_init 21 = .ok (.sipush 912, 3) := by decide +kernel
theorem dX7_init_24 : decode cX7_init 24 = .ok (.newarray .int, 2) := by decide +kernel
theorem dX7_init_26 : decode cX7_init 26 = .ok (.putfield 17, 3) := by decide +kernel
theorem dX7_init_29 : decode cX7_init 29 = .ok (.aload_n 0, 1) := by decide +kernel
theorem dX7_init_30 : decode cX7_init 30 = .ok (.sipush 320, 3) := by decide +kernel
theorem dX7_init_33 : decode cX7_init 33 = .ok (.newarray .int, 2) := by decide +kernel
theorem dX7_init_35 : decode cX7_init 35 = .ok (.putfield 20, 3) := by decide +kernel
theorem dX7_init_38 : decode cX7_init 38 = .ok (.aload_n 0, 1) := by decide +kernel
theorem dX7_init_39 : decode cX7_init 39 = .ok (.bipush 8, 2) := by decide +kernel
theorem dX7_init_41 : decode cX7_init 41 = .ok (.newarray .int, 2) := by decide +kernel
theorem dX7_init_43 : decode cX7_init 43 = .ok (.putfield 23, 3) := by decide +kernel
theorem dX7_init_46 : decode cX7_init 46 = .ok (.aload_n 0, 1) := by decide +kernel
theorem dX7_init_47 : decode cX7_init 47 = .ok (.bipush 8, 2) := by decide +kernel
theorem dX7_init_49 : decode cX7_init 49 = .ok (.newarray .int, 2) := by decide +kernel
theorem dX7_init_51 : decode cX7_init 51 = .ok (.putfield 26, 3) := by decide +kernel
theorem dX7_init_54 : decode cX7_init 54 = .ok (.aload_n 0, 1) := by decide +kernel
theorem dX7_init_55 : decode cX7_init 55 = .ok (.bipush 120, 2) := by decide +kernel
theorem dX7_init_57 : decode cX7_init 57 = .ok (.newarray .int, 2) := by decide +kernel
theorem dX7_init_59 : decode cX7_init 59 = .ok (.putfield 29, 3) := by decide +kernel
theorem dX7_init_62 : decode cX7_init 62 = .ok (.aload_n 0, 1) := by decide +kernel
theorem dX7_init_63 : decode cX7_init 63 = .ok (.bipush 16, 2) := by decide +kernel
theorem dX7_init_65 : decode cX7_init 65 = .ok (.newarray .int, 2) := by decide +kernel
theorem dX7_init_67 : decode cX7_init 67 = .ok (.putfield 32, 3) := by decide +kernel
theorem dX7_init_70 : decode cX7_init 70 = .ok (.aload_n 0, 1) := by decide +kernel
theorem dX7_init_71 : decode cX7_init 71 = .ok (.bipush 40, 2) := by decide +kernel
theorem dX7_init_73 : decode cX7_init 73 = .ok (.newarray .int, 2) := by decide +kernel
theorem dX7_init_75 : decode cX7_init 75 = .ok (.putfield 35, 3) := by decide +kernel
theorem dX7_init_78 : decode cX7_init 78 = .ok (.aload_n 0, 1) := by decide +kernel
theorem dX7_init_79 : decode cX7_init 79 = .ok (.bipush 7, 2) := by decide +kernel
theorem dX7_init_81 : decode cX7_init 81 = .ok (.newarray .boolean, 2) := by decide +kernel
theorem dX7_init_83 : decode cX7_init 83 = .ok (.putfield 38, 3) := by decide +kernel
theorem dX7_init_86 : decode cX7_init 86 = .ok (.iconst 0, 1) := by decide +kernel
theorem dX7_init_87 : decode cX7_init 87 = .ok (.istore_n 1, 1) := by decide +kernel
theorem dX7_init_88 : decode cX7_init 88 = .ok (.iload_n 1, 1) := by decide +kernel
theorem dX7_init_89 : decode cX7_init 89 = .ok (.bipush 8, 2) := by decide +kernel
theorem dX7_init_91 : decode cX7_init 91 = .ok (.if_icmp .ge 16, 3) := by decide +kernel
theorem dX7_init_94 : decode cX7_init 94 = .ok (.aload_n 0, 1) := by decide +kernel
theorem dX7_init_95 : decode cX7_init 95 = .ok (.getfield 23, 3) := by decide +kernel
theorem dX7_init_98 : decode cX7_init 98 = .ok (.iload_n 1, 1) := by decide +kernel
theorem dX7_init_99 : decode cX7_init 99 = .ok (.iconst (-1), 1) := by decide +kernel
theorem dX7_init_100 : decode cX7_init 100 = .ok (.iastore, 1) := by decide +kernel
theorem dX7_init_101 : decode cX7_init 101 = .ok (.iinc 1 1, 3) := by decide +kernel
theorem dX7_init_104 : decode cX7_init 104 = .ok (.goto (-16), 3) := by decide +kernel
theorem dX7_init_107 : decode cX7_init 107 = .ok (.return_, 1) := by decide +kernel
theorem dX7_in_0 : decode cX7_in 0 = .ok (.lload_n 0, 1) := by decide +kernel
theorem dX7_in_1 : decode cX7_in 1 = .ok (.lload_n 2, 1) := by decide +kernel
theorem dX7_in_2 : decode cX7_in 2 = .ok (.lcmp, 1) := by decide +kernel
theorem dX7_in_3 : decode cX7_in 3 = .ok (.ifCond .lt 14, 3) := by decide +kernel
theorem dX7_in_6 : decode cX7_in 6 = .ok (.lload_n 0, 1) := by decide +kernel
theorem dX7_in_7 : decode cX7_in 7 = .ok (.lload 4, 2) := by decide +kernel
theorem dX7_in_9 : decode cX7_in 9 = .ok (.lcmp, 1) := by decide +kernel
theorem dX7_in_10 : decode cX7_in 10 = .ok (.ifCond .gt 7, 3) := by decide +kernel
theorem dX7_in_13 : decode cX7_in 13 = .ok (.iconst 1, 1) := by decide +kernel
theorem dX7_in_14 : decode cX7_in 14 = .ok (.goto 4, 3) := by decide +kernel
theorem dX7_in_17 : decode cX7_in 17 = .ok (.iconst 0, 1) := by decide +kernel
theorem dX7_in_18 : decode cX7_in 18 = .ok (.ireturn, 1) := by decide +kernel
theorem dX7_has_0 : decode cX7_has 0 = .ok (.iload_n 0, 1) := by decide +kernel
theorem dX7_has_1 : decode cX7_has 1 = .ok (.iload_n 1, 1) := by decide +kernel
theorem dX7_has_2 : decode cX7_has 2 = .ok (.ishr, 1) := by decide +kernel
theorem dX7_has_3 : decode cX7_has 3 = .ok (.iconst 1, 1) := by decide +kernel
theorem dX7_has_4 : decode cX7_has 4 = .ok (.iand, 1) := by decide +kernel
theorem dX7_has_5 : decode cX7_has 5 = .ok (.iconst 1, 1) := by decide +kernel
theorem dX7_has_6 : decode cX7_has 6 = .ok (.if_icmp .ne 7, 3) := by decide +kernel
theorem dX7_has_9 : decode cX7_has 9 = .ok (.iconst 1, 1) := by decide +kernel
theorem dX7_has_10 : decode cX7_has 10 = .ok (.goto 4, 3) := by decide +kernel
theorem dX7_has_13 : decode cX7_has 13 = .ok (.iconst 0, 1) := by decide +kernel
theorem dX7_has_14 : decode cX7_has 14 = .ok (.ireturn, 1) := by decide +kernel
theorem dX7_ones_0 : decode cX7_ones 0 = .ok (.iconst 0, 1) := by decide +kernel
theorem dX7_ones_1 : decode cX7_ones 1 = .ok (.istore_n 1, 1) := by decide +kernel
theorem dX7_ones_2 : decode cX7_ones 2 = .ok (.iconst 0, 1) := by decide +kernel
theorem dX7_ones_3 : decode cX7_ones 3 = .ok (.istore_n 2, 1) := by decide +kernel
theorem dX7_ones_4 : decode cX7_ones 4 = .ok (.iload_n 2, 1) := by decide +kernel
theorem dX7_ones_5 : decode cX7_ones 5 = .ok (.bipush 7, 2) := by decide +kernel
theorem dX7_ones_7 : decode cX7_ones 7 = .ok (.if_icmp .ge 17, 3) := by decide +kernel
theorem dX7_ones_10 : decode cX7_ones 10 = .ok (.iload_n 1, 1) := by decide +kernel
theorem dX7_ones_11 : decode cX7_ones 11 = .ok (.iload_n 0, 1) := by decide +kernel
theorem dX7_ones_12 : decode cX7_ones 12 = .ok (.iload_n 2, 1) := by decide +kernel
theorem dX7_ones_13 : decode cX7_ones 13 = .ok (.ishr, 1) := by decide +kernel
theorem dX7_ones_14 : decode cX7_ones 14 = .ok (.iconst 1, 1) := by decide +kernel
theorem dX7_ones_15 : decode cX7_ones 15 = .ok (.iand, 1) := by decide +kernel
theorem dX7_ones_16 : decode cX7_ones 16 = .ok (.iadd, 1) := by decide +kernel
theorem dX7_ones_17 : decode cX7_ones 17 = .ok (.istore_n 1, 1) := by decide +kernel
theorem dX7_ones_18 : decode cX7_ones 18 = .ok (.iinc 2 1, 3) := by decide +kernel
theorem dX7_ones_21 : decode cX7_ones 21 = .ok (.goto (-17), 3) := by decide +kernel
theorem dX7_ones_24 : decode cX7_ones 24 = .ok (.iload_n 1, 1) := by decide +kernel
theorem dX7_ones_25 : decode cX7_ones 25 = .ok (.ireturn, 1) := by decide +kernel
theorem dX7_found_0 : decode cX7_found 0 = .ok (.aload_n 0, 1) := by decide +kernel
theorem dX7_found_1 : decode cX7_found 1 = .ok (.iload_n 1, 1) := by decide +kernel
theorem dX7_found_2 : decode cX7_found 2 = .ok (.putfield 41, 3) := by decide +kernel
theorem dX7_found_5 : decode cX7_found 5 = .ok (.ldc 45, 2) := by decide +kernel
theorem dX7_found_7 : decode cX7_found 7 = .ok (.iload_n 1, 1) := by decide +kernel
theorem dX7_found_8 : decode cX7_found 8 = .ok (.isub, 1) := by decide +kernel
theorem dX7_found_9 : decode cX7_found 9 = .ok (.ireturn, 1) := by decide +kernel
theorem dX7_good_0 : decode cX7_good 0 = .ok (.aload_n 0, 1) := by decide +kernel
theorem dX7_good_1 : decode cX7_good 1 = .ok (.iconst 0, 1) := by decide +kernel
theorem dX7_good_2 : decode cX7_good 2 = .ok (.putfield 41, 3) := by decide +kernel
theorem dX7_good_5 : decode cX7_good 5 = .ok (.iload_n 1, 1) := by decide +kernel
theorem dX7_good_6 : decode cX7_good 6 = .ok (.ireturn, 1) := by decide +kernel
theorem dX7_isRow_0 : decode cX7_isRow 0 = .ok (.iload_n 0, 1) := by decide +kernel
theorem dX7_isRow_1 : decode cX7_isRow 1 = .ok (.i2l, 1) := by decide +kernel
theorem dX7_isRow_2 : decode cX7_isRow 2 = .ok (.lconst 0, 1) := by decide +kernel
theorem dX7_isRow_3 : decode cX7_isRow 3 = .ok (.ldc2_w 46, 3) := by decide +kernel
theorem dX7_isRow_6 : decode cX7_isRow 6 = .ok (.invokestatic 48, 3) := by decide +kernel
theorem dX7_isRow_9 : decode cX7_isRow 9 = .ok (.ireturn, 1) := by decide +kernel
theorem dX7_row_0 : decode cX7_row 0 = .ok (.iload_n 1, 1) := by decide +kernel
theorem dX7_row_1 : decode cX7_row 1 = .ok (.invokestatic 52, 3) := by decide +kernel
theorem dX7_row_4 : decode cX7_row 4 = .ok (.ifCond .eq 21, 3) := by decide +kernel
theorem dX7_row_7 : decode cX7_row 7 = .ok (.iload_n 2, 1) := by decide +kernel
theorem dX7_row_8 : decode cX7_row 8 = .ok (.i2l, 1) := by decide +kernel
theorem dX7_row_9 : decode cX7_row 9 = .ok (.lconst 0, 1) := by decide +kernel
theorem dX7_row_10 : decode cX7_row 10 = .ok (.ldc2_w 56, 3) := by decide +kernel
theorem dX7_row_13 : decode cX7_row 13 = .ok (.invokestatic 48, 3) := by decide +kernel
theorem dX7_row_16 : decode cX7_row 16 = .ok (.ifCond .eq 9, 3) := by decide +kernel
theorem dX7_row_19 : decode cX7_row 19 = .ok (.iload_n 3, 1) := by decide +kernel
theorem dX7_row_20 : decode cX7_row 20 = .ok (.bipush 40, 2) := by decide +kernel
theorem dX7_row_22 : decode cX7_row 22 = .ok (.if_icmp .le 6, 3) := by decide +kernel
theorem dX7_row_25 : decode cX7_row 25 = .ok (.ldc 58, 2) := by decide +kernel
theorem dX7_row_27 : decode cX7_row 27 = .ok (.ireturn, 1) := by decide +kernel
theorem dX7_row_28 : decode cX7_row 28 = .ok (.iload_n 3, 1) := by decide +kernel
theorem dX7_row_29 : decode cX7_row 29 = .ok (.ifCond .ge 9, 3) := by decide +kernel
theorem dX7_row_32 : decode cX7_row 32 = .ok (.aload_n 0, 1) := by decide +kernel
theorem dX7_row_33 : decode cX7_row 33 = .ok (.iconst 4, 1) := by decide +kernel
theorem dX7_row_34 : decode cX7_row 34 = .ok (.invokevirtual 59, 3) := by decide +kernel
theorem dX7_row_37 : decode cX7_row 37 = .ok (.ireturn, 1) := by decide +kernel
theorem dX7_row_38 : decode cX7_row 38 = .ok (.aload_n 0, 1) := by decide +kernel
theorem dX7_row_39 : decode cX7_row 39 = .ok (.getfield 23, 3) := by decide +kernel
theorem dX7_row_42 : decode cX7_row 42 = .ok (.iload_n 1, 1) := by decide +kernel
theorem dX7_row_43 : decode cX7_row 43 = .ok (.iload_n 3, 1) := by decide +kernel
theorem dX7_row_44 : decode cX7_row 44 = .ok (.iastore, 1) := by decide +kernel
theorem dX7_row_45 : decode cX7_row 45 = .ok (.aload_n 0, 1) := by decide +kernel
theorem dX7_row_46 : decode cX7_row 46 = .ok (.getfield 26, 3) := by decide +kernel
theorem dX7_row_49 : decode cX7_row 49 = .ok (.iload_n 1, 1) := by decide +kernel
theorem dX7_row_50 : decode cX7_row 50 = .ok (.iload_n 2, 1) := by decide +kernel
theorem dX7_row_51 : decode cX7_row 51 = .ok (.iastore, 1) := by decide +kernel
theorem dX7_row_52 : decode cX7_row 52 = .ok (.iconst 0, 1) := by decide +kernel
theorem dX7_row_53 : decode cX7_row 53 = .ok (.istore 4, 2) := by decide +kernel
theorem dX7_row_55 : decode cX7_row 55 = .ok (.iload 4, 2) := by decide +kernel
theorem dX7_row_57 : decode cX7_row 57 = .ok (.bipush 40, 2) := by decide +kernel
theorem dX7_row_59 : decode cX7_row 59 = .ok (.if_icmp .ge 22, 3) := by decide +kernel
theorem dX7_row_62 : decode cX7_row 62 = .ok (.aload_n 0, 1) := by decide +kernel
theorem dX7_row_63 : decode cX7_row 63 = .ok (.getfield 20, 3) := by decide +kernel
theorem dX7_row_66 : decode cX7_row 66 = .ok (.bipush 40, 2) := by decide +kernel
theorem dX7_row_68 : decode cX7_row 68 = .ok (.iload_n 1, 1) := by decide +kernel
theorem dX7_row_69 : decode cX7_row 69 = .ok (.imul, 1) := by decide +kernel
theorem dX7_row_70 : decode cX7_row 70 = .ok (.iload 4, 2) := by decide +kernel
theorem dX7_row_72 : decode cX7_row 72 = .ok (.iadd, 1) := by decide +kernel
theorem dX7_row_73 : decode cX7_row 73 = .ok (.iconst 0, 1) := by decide +kernel
theorem dX7_row_74 : decode cX7_row 74 = .ok (.iastore, 1) := by decide +kernel
theorem dX7_row_75 : decode cX7_row 75 = .ok (.iinc 4 1, 3) := by decide +kernel
theorem dX7_row_78 : decode cX7_row 78 = .ok (.goto (-23), 3) := by decide +kernel
theorem dX7_row_81 : decode cX7_row 81 = .ok (.aload_n 0, 1) := by decide +kernel
theorem dX7_row_82 : decode cX7_row 82 = .ok (.iload_n 3, 1) := by decide +kernel
theorem dX7_row_83 : decode cX7_row 83 = .ok (.invokevirtual 63, 3) := by decide +kernel
theorem dX7_row_86 : decode cX7_row 86 = .ok (.ireturn, 1) := by decide +kernel
theorem dX7_set_0 : decode cX7_set 0 = .ok (.iload_n 1, 1) := by decide +kernel
theorem dX7_set_1 : decode cX7_set 1 = .ok (.invokestatic 52, 3) := by decide +kernel
theorem dX7_set_4 : decode cX7_set 4 = .ok (.ifCond .ne 6, 3) := by decide +kernel
theorem dX7_set_7 : decode cX7_set 7 = .ok (.ldc 58, 2) := by decide +kernel
theorem dX7_set_9 : decode cX7_set 9 = .ok (.ireturn, 1) := by decide +kernel
theorem dX7_set_10 : decode cX7_set 10 = .ok (.aload_n 0, 1) := by decide +kernel
theorem dX7_set_11 : decode cX7_set 11 = .ok (.getfield 23, 3) := by decide +kernel
theorem dX7_set_14 : decode cX7_set 14 = .ok (.iload_n 1, 1) := by decide +kernel
theorem dX7_set_15 : decode cX7_set 15 = .ok (.iaload, 1) := by decide +kernel
theorem dX7_set_16 : decode cX7_set 16 = .ok (.ifCond .ge 9, 3) := by decide +kernel
theorem dX7_set_19 : decode cX7_set 19 = .ok (.aload_n 0, 1) := by decide +kernel
theorem dX7_set_20 : decode cX7_set 20 = .ok (.iconst 1, 1) := by decide +kernel
theorem dX7_set_21 : decode cX7_set 21 = .ok (.invokevirtual 59, 3) := by decide +kernel
theorem dX7_set_24 : decode cX7_set 24 = .ok (.ireturn, 1) := by decide +kernel
theorem dX7_set_25 : decode cX7_set 25 = .ok (.iload_n 2, 1) := by decide +kernel
theorem dX7_set_26 : decode cX7_set 26 = .ok (.i2l, 1) := by decide +kernel
theorem dX7_set_27 : decode cX7_set 27 = .ok (.lconst 0, 1) := by decide +kernel
theorem dX7_set_28 : decode cX7_set 28 = .ok (.aload_n 0, 1) := by decide +kernel
theorem dX7_set_29 : decode cX7_set 29 = .ok (.getfield 23, 3) := by decide +kernel
theorem dX7_set_32 : decode cX7_set 32 = .ok (.iload_n 1, 1) := by decide +kernel
theorem dX7_set_33 : decode cX7_set 33 = .ok (.iaload, 1) := by decide +kernel
theorem dX7_set_34 : decode cX7_set 34 = .ok (.iconst 1, 1) := by decide +kernel
theorem dX7_set_35 : decode cX7_set 35 = .ok (.isub, 1) := by decide +kernel
theorem dX7_set_36 : decode cX7_set 36 = .ok (.i2l, 1) := by decide +kernel
theorem dX7_set_37 : decode cX7_set 37 = .ok (.invokestatic 48, 3) := by decide +kernel
theorem dX7_set_40 : decode cX7_set 40 = .ok (.ifCond .ne 9, 3) := by decide +kernel
theorem dX7_set_43 : decode cX7_set 43 = .ok (.aload_n 0, 1) := by decide +kernel
theorem dX7_set_44 : decode cX7_set 44 = .ok (.iconst 2, 1) := by decide +kernel
theorem dX7_set_45 : decode cX7_set 45 = .ok (.invokevirtual 59, 3) := by decide +kernel
theorem dX7_set_48 : decode cX7_set 48 = .ok (.ireturn, 1) := by decide +kernel
theorem dX7_set_49 : decode cX7_set 49 = .ok (.aload_n 0, 1) := by decide +kernel
theorem dX7_set_50 : decode cX7_set 50 = .ok (.getfield 20, 3) := by decide +kernel
theorem dX7_set_53 : decode cX7_set 53 = .ok (.bipush 40, 2) := by decide +kernel
theorem dX7_set_55 : decode cX7_set 55 = .ok (.iload_n 1, 1) := by decide +kernel
theorem dX7_set_56 : decode cX7_set 56 = .ok (.imul, 1) := by decide +kernel
theorem dX7_set_57 : decode cX7_set 57 = .ok (.iload_n 2, 1) := by decide +kernel
theorem dX7_set_58 : decode cX7_set 58 = .ok (.iadd, 1) := by decide +kernel
theorem dX7_set_59 : decode cX7_set 59 = .ok (.aload_n 0, 1) := by decide +kernel
theorem dX7_set_60 : decode cX7_set 60 = .ok (.getfield 26, 3) := by decide +kernel
theorem dX7_set_63 : decode cX7_set 63 = .ok (.iload_n 1, 1) := by decide +kernel
theorem dX7_set_64 : decode cX7_set 64 = .ok (.iaload, 1) := by decide +kernel
theorem dX7_set_65 : decode cX7_set 65 = .ok (.ifCond .ne 8, 3) := by decide +kernel
theorem dX7_set_68 : decode cX7_set 68 = .ok (.iload_n 3, 1) := by decide +kernel
theorem dX7_set_69 : decode cX7_set 69 = .ok (.i2b, 1) := by decide +kernel
theorem dX7_set_70 : decode cX7_set 70 = .ok (.goto 19, 3) := by decide +kernel
theorem dX7_set_73 : decode cX7_set 73 = .ok (.aload_n 0, 1) := by decide +kernel
theorem dX7_set_74 : decode cX7_set 74 = .ok (.getfield 26, 3) := by decide +kernel
theorem dX7_set_77 : decode cX7_set 77 = .ok (.iload_n 1, 1) := by decide +kernel
theorem dX7_set_78 : decode cX7_set 78 = .ok (.iaload, 1) := by decide +kernel
theorem dX7_set_79 : decode cX7_set 79 = .ok (.iconst 1, 1) := by decide +kernel
theorem dX7_set_80 : decode cX7_set 80 = .ok (.if_icmp .ne 8, 3) := by decide +kernel
theorem dX7_set_83 : decode cX7_set 83 = .ok (.iload_n 3, 1) := by decide +kernel
theorem dX7_set_84 : decode cX7_set 84 = .ok (.i2s, 1) := by decide +kernel
theorem dX7_set_85 : decode cX7_set 85 = .ok (.goto 4, 3) := by decide +kernel
theorem dX7_set_88 : decode cX7_set 88 = .ok (.iload_n 3, 1) := by decide +kernel
theorem dX7_set_89 : decode cX7_set 89 = .ok (.iastore, 1) := by decide +kernel
theorem dX7_set_90 : decode cX7_set 90 = .ok (.aload_n 0, 1) := by decide +kernel
theorem dX7_set_91 : decode cX7_set 91 = .ok (.aload_n 0, 1) := by decide +kernel
theorem dX7_set_92 : decode cX7_set 92 = .ok (.getfield 20, 3) := by decide +kernel
theorem dX7_set_95 : decode cX7_set 95 = .ok (.bipush 40, 2) := by decide +kernel
theorem dX7_set_97 : decode cX7_set 97 = .ok (.iload_n 1, 1) := by decide +kernel
theorem dX7_set_98 : decode cX7_set 98 = .ok (.imul, 1) := by decide +kernel
theorem dX7_set_99 : decode cX7_set 99 = .ok (.iload_n 2, 1) := by decide +kernel
theorem dX7_set_100 : decode cX7_set 100 = .ok (.iadd, 1) := by decide +kernel
theorem dX7_set_101 : decode cX7_set 101 = .ok (.iaload, 1) := by decide +kernel
theorem dX7_set_102 : decode cX7_set 102 = .ok (.invokevirtual 63, 3) := by decide +kernel
theorem dX7_set_105 : decode cX7_set 105 = .ok (.ireturn, 1) := by decide +kernel
theorem dX7_fits_0 : decode cX7_fits 0 = .ok (.iload_n 0, 1) := by decide +kernel
theorem dX7_fits_1 : decode cX7_fits 1 = .ok (.ifCond .lt 18, 3) := by decide +kernel
theorem dX7_fits_4 : decode cX7_fits 4 = .ok (.iload_n 0, 1) := by decide +kernel
theorem dX7_fits_5 : decode cX7_fits 5 = .ok (.i2l, 1) := by decide +kernel
theorem dX7_fits_6 : decode cX7_fits 6 = .ok (.iload_n 1, 1) := by decide +kernel
theorem dX7_fits_7 : decode cX7_fits 7 = .ok (.i2l, 1) := by decide +kernel
theorem dX7_fits_8 : decode cX7_fits 8 = .ok (.ladd, 1) := by decide +kernel
theorem dX7_fits_9 : decode cX7_fits 9 = .ok (.iload_n 2, 1) := by decide +kernel
theorem dX7_fits_10 : decode cX7_fits 10 = .ok (.i2l, 1) := by decide +kernel
theorem dX7_fits_11 : decode cX7_fits 11 = .ok (.lcmp, 1) := by decide +kernel
theorem dX7_fits_12 : decode cX7_fits 12 = .ok (.ifCond .gt 7, 3) := by decide +kernel
theorem dX7_fits_15 : decode cX7_fits 15 = .ok (.iconst 1, 1) := by decide +kernel
theorem dX7_fits_16 : decode cX7_fits 16 = .ok (.goto 4, 3) := by decide +kernel
theorem dX7_fits_19 : decode cX7_fits 19 = .ok (.iconst 0, 1) := by decide +kernel
theorem dX7_fits_20 : decode cX7_fits 20 = .ok (.ireturn, 1) := by decide +kernel
theorem dX7_copy_0 : decode cX7_copy 0 = .ok (.iload_n 1, 1) := by decide +kernel
theorem dX7_copy_1 : decode cX7_copy 1 = .ok (.invokestatic 52, 3) := by decide +kernel
theorem dX7_copy_4 : decode cX7_copy 4 = .ok (.ifCond .eq 10, 3) := by decide +kernel
theorem dX7_copy_7 : decode cX7_copy 7 = .ok (.iload_n 3, 1) := by decide +kernel
theorem dX7_copy_8 : decode cX7_copy 8 = .ok (.invokestatic 52, 3) := by decide +kernel
theorem dX7_copy_11 : decode cX7_copy 11 = .ok (.ifCond .ne 6, 3) := by decide +kernel
theorem dX7_copy_14 : decode cX7_copy 14 = .ok (.ldc 58, 2) := by decide +kernel
theorem dX7_copy_16 : decode cX7_copy 16 = .ok (.ireturn, 1) := by decide +kernel
theorem dX7_copy_17 : decode cX7_copy 17 = .ok (.aload_n 0, 1) := by decide +kernel
theorem dX7_copy_18 : decode cX7_copy 18 = .ok (.getfield 23, 3) := by decide +kernel
theorem dX7_copy_21 : decode cX7_copy 21 = .ok (.iload_n 1, 1) := by decide +kernel
theorem dX7_copy_22 : decode cX7_copy 22 = .ok (.iaload, 1) := by decide +kernel
theorem dX7_copy_23 : decode cX7_copy 23 = .ok (.ifCond .lt 12, 3) := by decide +kernel
theorem dX7_copy_26 : decode cX7_copy 26 = .ok (.aload_n 0, 1) := by decide +kernel
theorem dX7_copy_27 : decode cX7_copy 27 = .ok (.getfield 23, 3) := by decide +kernel
theorem dX7_copy_30 : decode cX7_copy 30 = .ok (.iload_n 3, 1) := by decide +kernel
theorem dX7_copy_31 : decode cX7_copy 31 = .ok (.iaload, 1) := by decide +kernel
theorem dX7_copy_32 : decode cX7_copy 32 = .ok (.ifCond .ge 9, 3) := by decide +kernel
theorem dX7_copy_35 : decode cX7_copy 35 = .ok (.aload_n 0, 1) := by decide +kernel
theorem dX7_copy_36 : decode cX7_copy 36 = .ok (.iconst 1, 1) := by decide +kernel
theorem dX7_copy_37 : decode cX7_copy 37 = .ok (.invokevirtual 59, 3) := by decide +kernel
theorem dX7_copy_40 : decode cX7_copy 40 = .ok (.ireturn, 1) := by decide +kernel
theorem dX7_copy_41 : decode cX7_copy 41 = .ok (.aload_n 0, 1) := by decide +kernel
theorem dX7_copy_42 : decode cX7_copy 42 = .ok (.getfield 26, 3) := by decide +kernel
theorem dX7_copy_45 : decode cX7_copy 45 = .ok (.iload_n 1, 1) := by decide +kernel
theorem dX7_copy_46 : decode cX7_copy 46 = .ok (.iaload, 1) := by decide +kernel
theorem dX7_copy_47 : decode cX7_copy 47 = .ok (.aload_n 0, 1) := by decide +kernel
theorem dX7_copy_48 : decode cX7_copy 48 = .ok (.getfield 26, 3) := by decide +kernel
theorem dX7_copy_51 : decode cX7_copy 51 = .ok (.iload_n 3, 1) := by decide +kernel
theorem dX7_copy_52 : decode cX7_copy 52 = .ok (.iaload, 1) := by decide +kernel
theorem dX7_copy_53 : decode cX7_copy 53 = .ok (.if_icmp .eq 9, 3) := by decide +kernel
theorem dX7_copy_56 : decode cX7_copy 56 = .ok (.aload_n 0, 1) := by decide +kernel
theorem dX7_copy_57 : decode cX7_copy 57 = .ok (.iconst 5, 1) := by decide +kernel
theorem dX7_copy_58 : decode cX7_copy 58 = .ok (.invokevirtual 59, 3) := by decide +kernel
theorem dX7_copy_61 : decode cX7_copy 61 = .ok (.ireturn, 1) := by decide +kernel
theorem dX7_copy_62 : decode cX7_copy 62 = .ok (.iload 5, 2) := by decide +kernel
theorem dX7_copy_64 : decode cX7_copy 64 = .ok (.ifCond .lt 34, 3) := by decide +kernel
theorem dX7_copy_67 : decode cX7_copy 67 = .ok (.iload_n 2, 1) := by decide +kernel
theorem dX7_copy_68 : decode cX7_copy 68 = .ok (.iload 5, 2) := by decide +kernel
theorem dX7_copy_70 : decode cX7_copy 70 = .ok (.aload_n 0, 1) := by decide +kernel
theorem dX7_copy_71 : decode cX7_copy 71 = .ok (.getfield 23, 3) := by decide +kernel
theorem dX7_copy_74 : decode cX7_copy 74 = .ok (.iload_n 1, 1) := by decide +kernel
theorem dX7_copy_75 : decode cX7_copy 75 = .ok (.iaload, 1) := by decide +kernel
theorem dX7_copy_76 : decode cX7_copy 76 = .ok (.invokestatic 66, 3) := by decide +kernel
theorem dX7_copy_79 : decode cX7_copy 79 = .ok (.ifCond .eq 19, 3) := by decide +kernel
theorem dX7_copy_82 : decode cX7_copy 82 = .ok (.iload 4, 2) := by decide +kernel
theorem dX7_copy_84 : decode cX7_copy 84 = .ok (.iload 5, 2) := by decide +kernel
theorem dX7_copy_86 : decode cX7_copy 86 = .ok (.aload_n 0, 1) := by decide +kernel
theorem dX7_copy_87 : decode cX7_copy 87 = .ok (.getfield 23, 3) := by decide +kernel
theorem dX7_copy_90 : decode cX7_copy 90 = .ok (.iload_n 3, 1) := by decide +kernel
theorem dX7_copy_91 : decode cX7_copy 91 = .ok (.iaload, 1) := by decide +kernel
theorem dX7_copy_92 : decode cX7_copy 92 = .ok (.invokestatic 66, 3) := by decide +kernel
theorem dX7_copy_95 : decode cX7_copy 95 = .ok (.ifCond .ne 9, 3) := by decide +kernel
theorem dX7_copy_98 : decode cX7_copy 98 = .ok (.aload_n 0, 1) := by decide +kernel
theorem dX7_copy_99 : decode cX7_copy 99 = .ok (.iconst 2, 1) := by decide +kernel
theorem dX7_copy_100 : decode cX7_copy 100 = .ok (.invokevirtual 59, 3) := by decide +kernel
theorem dX7_copy_103 : decode cX7_copy 103 = .ok (.ireturn, 1) := by decide +kernel
theorem dX7_copy_104 : decode cX7_copy 104 = .ok (.iconst 0, 1) := by decide +kernel
theorem dX7_copy_105 : decode cX7_copy 105 = .ok (.istore 6, 2) := by decide +kernel
theorem dX7_copy_107 : decode cX7_copy 107 = .ok (.iload 6, 2) := by decide +kernel
theorem dX7_copy_109 : decode cX7_copy 109 = .ok (.iload 5, 2) := by decide +kernel
theorem dX7_copy_111 : decode cX7_copy 111 = .ok (.if_icmp .ge 30, 3) := by decide +kernel
theorem dX7_copy_114 : decode cX7_copy 114 = .ok (.aload_n 0, 1) := by decide +kernel
theorem dX7_copy_115 : decode cX7_copy 115 = .ok (.getfield 35, 3) := by decide +kernel
theorem dX7_copy_118 : decode cX7_copy 118 = .ok (.iload 6, 2) := by decide +kernel
theorem dX7_copy_120 : decode cX7_copy 120 = .ok (.aload_n 0, 1) := by decide +kernel
theorem dX7_copy_121 : decode cX7_copy 121 = .ok (.getfield 20, 3) := by decide +kernel
theorem dX7_copy_124 : decode cX7_copy 124 = .ok (.bipush 40, 2) := by decide +kernel
theorem dX7_copy_126 : decode cX7_copy 126 = .ok (.iload_n 1, 1) := by decide +kernel
theorem dX7_copy_127 : decode cX7_copy 127 = .ok (.imul, 1) := by decide +kernel
theorem dX7_copy_128 : decode cX7_copy 128 = .ok (.iload_n 2, 1) := by decide +kernel
theorem dX7_copy_129 : decode cX7_copy 129 = .ok (.iadd, 1) := by decide +kernel
theorem dX7_copy_130 : decode cX7_copy 130 = .ok (.iload 6, 2) := by decide +kernel
theorem dX7_copy_132 : decode cX7_copy 132 = .ok (.iadd, 1) := by decide +kernel
theorem dX7_copy_133 : decode cX7_copy 133 = .ok (.iaload, 1) := by decide +kernel
theorem dX7_copy_134 : decode cX7_copy 134 = .ok (.iastore, 1) := by decide +kernel
theorem dX7_copy_135 : decode cX7_copy 135 = .ok (.iinc 6 1, 3) := by decide +kernel
theorem dX7_copy_138 : decode cX7_copy 138 = .ok (.goto (-31), 3) := by decide +kernel
theorem dX7_copy_141 : decode cX7_copy 141 = .ok (.iconst 0, 1) := by decide +kernel
theorem dX7_copy_142 : decode cX7_copy 142 = .ok (.istore 6, 2) := by decide +kernel
theorem dX7_copy_144 : decode cX7_copy 144 = .ok (.iload 6, 2) := by decide +kernel
theorem dX7_copy_146 : decode cX7_copy 146 = .ok (.iload 5, 2) := by decide +kernel
theorem dX7_copy_148 : decode cX7_copy 148 = .ok (.if_icmp .ge 31, 3) := by decide +kernel
theorem dX7_copy_151 : decode cX7_copy 151 = .ok (.aload_n 0, 1) := by decide +kernel
theorem dX7_copy_152 : decode cX7_copy 152 = .ok (.getfield 20, 3) := by decide +kernel
theorem dX7_copy_155 : decode cX7_copy 155 = .ok (.bipush 40, 2) := by decide +kernel
theorem dX7_copy_157 : decode cX7_copy 157 = .ok (.iload_n 3, 1) := by decide +kernel
theorem dX7_copy_158 : decode cX7_copy 158 = .ok (.imul, 1) := by decide +kernel
theorem dX7_copy_159 : decode cX7_copy 159 = .ok (.iload 4, 2) := by decide +kernel
theorem dX7_copy_161 : decode cX7_copy 161 = .ok (.iadd, 1) := by decide +kernel
theorem dX7_copy_162 : decode cX7_copy 162 = .ok (.iload 6, 2) := by decide +kernel
theorem dX7_copy_164 : decode cX7_copy 164 = .ok (.iadd, 1) := by decide +kernel
theorem dX7_copy_165 : decode cX7_copy 165 = .ok (.aload_n 0, 1) := by decide +kernel
theorem dX7_copy_166 : decode cX7_copy 166 = .ok (.getfield 35, 3) := by decide +kernel
theorem dX7_copy_169 : decode cX7_copy 169 = .ok (.iload 6, 2) := by decide +kernel
theorem dX7_copy_171 : decode cX7_copy 171 = .ok (.iaload, 1) := by decide +kernel
theorem dX7_copy_172 : decode cX7_copy 172 = .ok (.iastore, 1) := by decide +kernel
theorem dX7_copy_173 : decode cX7_copy 173 = .ok (.iinc 6 1, 3) := by decide +kernel
theorem dX7_copy_176 : decode cX7_copy 176 = .ok (.goto (-32), 3) := by decide +kernel
theorem dX7_copy_179 : decode cX7_copy 179 = .ok (.aload_n 0, 1) := by decide +kernel
theorem dX7_copy_180 : decode cX7_copy 180 = .ok (.iload 5, 2) := by decide +kernel
theorem dX7_copy_182 : decode cX7_copy 182 = .ok (.invokevirtual 63, 3) := by decide +kernel
theorem dX7_copy_185 : decode cX7_copy 185 = .ok (.ireturn, 1) := by decide +kernel
theorem dX7_drop_0 : decode cX7_drop 0 = .ok (.iload_n 1, 1) := by decide +kernel
theorem dX7_drop_1 : decode cX7_drop 1 = .ok (.invokestatic 52, 3) := by decide +kernel
theorem dX7_drop_4 : decode cX7_drop 4 = .ok (.ifCond .ne 6, 3) := by decide +kernel
theorem dX7_drop_7 : decode cX7_drop 7 = .ok (.ldc 58, 2) := by decide +kernel
theorem dX7_drop_9 : decode cX7_drop 9 = .ok (.ireturn, 1) := by decide +kernel
theorem dX7_drop_10 : decode cX7_drop 10 = .ok (.aload_n 0, 1) := by decide +kernel
theorem dX7_drop_11 : decode cX7_drop 11 = .ok (.getfield 23, 3) := by decide +kernel
theorem dX7_drop_14 : decode cX7_drop 14 = .ok (.iload_n 1, 1) := by decide +kernel
theorem dX7_drop_15 : decode cX7_drop 15 = .ok (.iaload, 1) := by decide +kernel
theorem dX7_drop_16 : decode cX7_drop 16 = .ok (.ifCond .ge 9, 3) := by decide +kernel
theorem dX7_drop_19 : decode cX7_drop 19 = .ok (.aload_n 0, 1) := by decide +kernel
theorem dX7_drop_20 : decode cX7_drop 20 = .ok (.iconst 1, 1) := by decide +kernel
theorem dX7_drop_21 : decode cX7_drop 21 = .ok (.invokevirtual 59, 3) := by decide +kernel
theorem dX7_drop_24 : decode cX7_drop 24 = .ok (.ireturn, 1) := by decide +kernel
theorem dX7_drop_25 : decode cX7_drop 25 = .ok (.aload_n 0, 1) := by decide +kernel
theorem dX7_drop_26 : decode cX7_drop 26 = .ok (.getfield 23, 3) := by decide +kernel
theorem dX7_drop_29 : decode cX7_drop 29 = .ok (.iload_n 1, 1) := by decide +kernel
theorem dX7_drop_30 : decode cX7_drop 30 = .ok (.iaload, 1) := by decide +kernel
theorem dX7_drop_31 : decode cX7_drop 31 = .ok (.istore_n 2, 1) := by decide +kernel
theorem dX7_drop_32 : decode cX7_drop 32 = .ok (.aload_n 0, 1) := by decide +kernel
theorem dX7_drop_33 : decode cX7_drop 33 = .ok (.getfield 23, 3) := by decide +kernel
theorem dX7_drop_36 : decode cX7_drop 36 = .ok (.iload_n 1, 1) := by decide +kernel
theorem dX7_drop_37 : decode cX7_drop 37 = .ok (.iconst (-1), 1) := by decide +kernel
theorem dX7_drop_38 : decode cX7_drop 38 = .ok (.iastore, 1) := by decide +kernel
theorem dX7_drop_39 : decode cX7_drop 39 = .ok (.aload_n 0, 1) := by decide +kernel
theorem dX7_drop_40 : decode cX7_drop 40 = .ok (.iload_n 2, 1) := by decide +kernel
theorem dX7_drop_41 : decode cX7_drop 41 = .ok (.invokevirtual 63, 3) := by decide +kernel
theorem dX7_drop_44 : decode cX7_drop 44 = .ok (.ireturn, 1) := by decide +kernel
theorem dX7_against_0 : decode cX7_against 0 = .ok (.aload_n 0, 1) := by decide +kernel
theorem dX7_against_1 : decode cX7_against 1 = .ok (.getfield 23, 3) := by decide +kernel
theorem dX7_against_4 : decode cX7_against 4 = .ok (.iload_n 1, 1) := by decide +kernel
theorem dX7_against_5 : decode cX7_against 5 = .ok (.iaload, 1) := by decide +kernel
theorem dX7_against_6 : decode cX7_against 6 = .ok (.ifCond .ge 9, 3) := by decide +kernel
theorem dX7_against_9 : decode cX7_against 9 = .ok (.aload_n 0, 1) := by decide +kernel
theorem dX7_against_10 : decode cX7_against 10 = .ok (.iconst 1, 1) := by decide +kernel
theorem dX7_against_11 : decode cX7_against 11 = .ok (.invokevirtual 59, 3) := by decide +kernel
theorem dX7_against_14 : decode cX7_against 14 = .ok (.ireturn, 1) := by decide +kernel
theorem dX7_against_15 : decode cX7_against 15 = .ok (.iload_n 2, 1) := by decide +kernel
theorem dX7_against_16 : decode cX7_against 16 = .ok (.iload_n 3, 1) := by decide +kernel
theorem dX7_against_17 : decode cX7_against 17 = .ok (.aload_n 0, 1) := by decide +kernel
theorem dX7_against_18 : decode cX7_against 18 = .ok (.getfield 23, 3) := by decide +kernel
theorem dX7_against_21 : decode cX7_against 21 = .ok (.iload_n 1, 1) := by decide +kernel
theorem dX7_against_22 : decode cX7_against 22 = .ok (.iaload, 1) := by decide +kernel
theorem dX7_against_23 : decode cX7_against 23 = .ok (.invokestatic 66, 3) := by decide +kernel
theorem dX7_against_26 : decode cX7_against 26 = .ok (.ifCond .eq 7, 3) := by decide +kernel
theorem dX7_against_29 : decode cX7_against 29 = .ok (.iconst 0, 1) := by decide +kernel
theorem dX7_against_30 : decode cX7_against 30 = .ok (.goto 8, 3) := by decide +kernel
theorem dX7_against_33 : decode cX7_against 33 = .ok (.aload_n 0, 1) := by decide +kernel
theorem dX7_against_34 : decode cX7_against 34 = .ok (.iconst 2, 1) := by decide +kernel
theorem dX7_against_35 : decode cX7_against 35 = .ok (.invokevirtual 59, 3) := by decide +kernel
theorem dX7_against_38 : decode cX7_against 38 = .ok (.ireturn, 1) := by decide +kernel
theorem dX7_feed_0 : decode cX7_feed 0 = .ok (.iload_n 1, 1) := by decide +kernel
theorem dX7_feed_1 : decode cX7_feed 1 = .ok (.i2l, 1) := by decide +kernel
theorem dX7_feed_2 : decode cX7_feed 2 = .ok (.lconst 0, 1) := by decide +kernel
theorem dX7_feed_3 : decode cX7_feed 3 = .ok (.ldc2_w 70, 3) := by decide +kernel
theorem dX7_feed_6 : decode cX7_feed 6 = .ok (.invokestatic 48, 3) := by decide +kernel
theorem dX7_feed_9 : decode cX7_feed 9 = .ok (.ifCond .ne 6, 3) := by decide +kernel
theorem dX7_feed_12 : decode cX7_feed 12 = .ok (.ldc 58, 2) := by decide +kernel
theorem dX7_feed_14 : decode cX7_feed 14 = .ok (.ireturn, 1) := by decide +kernel
theorem dX7_feed_15 : decode cX7_feed 15 = .ok (.aload_n 0, 1) := by decide +kernel
theorem dX7_feed_16 : decode cX7_feed 16 = .ok (.getfield 72, 3) := by decide +kernel
theorem dX7_feed_19 : decode cX7_feed 19 = .ok (.bipush 120, 2) := by decide +kernel
theorem dX7_feed_21 : decode cX7_feed 21 = .ok (.if_icmp .ne 6, 3) := by decide +kernel
theorem dX7_feed_24 : decode cX7_feed 24 = .ok (.ldc 75, 2) := by decide +kernel
theorem dX7_feed_26 : decode cX7_feed 26 = .ok (.ireturn, 1) := by decide +kernel
theorem dX7_feed_27 : decode cX7_feed 27 = .ok (.aload_n 0, 1) := by decide +kernel
theorem dX7_feed_28 : decode cX7_feed 28 = .ok (.getfield 29, 3) := by decide +kernel
theorem dX7_feed_31 : decode cX7_feed 31 = .ok (.aload_n 0, 1) := by decide +kernel
theorem dX7_feed_32 : decode cX7_feed 32 = .ok (.getfield 72, 3) := by decide +kernel
theorem dX7_feed_35 : decode cX7_feed 35 = .ok (.iload_n 1, 1) := by decide +kernel
theorem dX7_feed_36 : decode cX7_feed 36 = .ok (.iastore, 1) := by decide +kernel
theorem dX7_feed_37 : decode cX7_feed 37 = .ok (.aload_n 0, 1) := by decide +kernel
theorem dX7_feed_38 : decode cX7_feed 38 = .ok (.dup, 1) := by decide +kernel
theorem dX7_feed_39 : decode cX7_feed 39 = .ok (.getfield 72, 3) := by decide +kernel
theorem dX7_feed_42 : decode cX7_feed 42 = .ok (.iconst 1, 1) := by decide +kernel
theorem dX7_feed_43 : decode cX7_feed 43 = .ok (.iadd, 1) := by decide +kernel
theorem dX7_feed_44 : decode cX7_feed 44 = .ok (.putfield 72, 3) := by decide +kernel
theorem dX7_feed_47 : decode cX7_feed 47 = .ok (.aload_n 0, 1) := by decide +kernel
theorem dX7_feed_48 : decode cX7_feed 48 = .ok (.getfield 72, 3) := by decide +kernel
theorem dX7_feed_51 : decode cX7_feed 51 = .ok (.ireturn, 1) := by decide +kernel
theorem dX7_byteAt_0 : decode cX7_byteAt 0 = .ok (.iload_n 1, 1) := by decide +kernel
theorem dX7_byteAt_1 : decode cX7_byteAt 1 = .ok (.aload_n 0, 1) := by decide +kernel
theorem dX7_byteAt_2 : decode cX7_byteAt 2 = .ok (.getfield 72, 3) := by decide +kernel
theorem dX7_byteAt_5 : decode cX7_byteAt 5 = .ok (.if_icmp .ge 12, 3) := by decide +kernel
theorem dX7_byteAt_8 : decode cX7_byteAt 8 = .ok (.aload_n 0, 1) := by decide +kernel
theorem dX7_byteAt_9 : decode cX7_byteAt 9 = .ok (.getfield 29, 3) := by decide +kernel
theorem dX7_byteAt_12 : decode cX7_byteAt 12 = .ok (.iload_n 1, 1) := by decide +kernel
theorem dX7_byteAt_13 : decode cX7_byteAt 13 = .ok (.iaload, 1) := by decide +kernel
theorem dX7_byteAt_14 : decode cX7_byteAt 14 = .ok (.goto 4, 3) := by decide +kernel
theorem dX7_byteAt_17 : decode cX7_byteAt 17 = .ok (.iconst (-1), 1) := by decide +kernel
theorem dX7_byteAt_18 : decode cX7_byteAt 18 = .ok (.ireturn, 1) := by decide +kernel
theorem dX7_fails_0 : decode cX7_fails 0 = .ok (.aload_n 0, 1) := by decide +kernel
theorem dX7_fails_1 : decode cX7_fails 1 = .ok (.iload_n 1, 1) := by decide +kernel
theorem dX7_fails_2 : decode cX7_fails 2 = .ok (.putfield 76, 3) := by decide +kernel
theorem dX7_fails_5 : decode cX7_fails 5 = .ok (.aload_n 0, 1) := by decide +kernel
theorem dX7_fails_6 : decode cX7_fails 6 = .ok (.iload_n 2, 1) := by decide +kernel
theorem dX7_fails_7 : decode cX7_fails 7 = .ok (.putfield 79, 3) := by decide +kernel
theorem dX7_fails_10 : decode cX7_fails 10 = .ok (.iconst 0, 1) := by decide +kernel
theorem dX7_fails_11 : decode cX7_fails 11 = .ok (.ireturn, 1) := by decide +kernel
theorem dX7_takes_0 : decode cX7_takes 0 = .ok (.aload_n 0, 1) := by decide +kernel
theorem dX7_takes_1 : decode cX7_takes 1 = .ok (.aload_n 0, 1) := by decide +kernel
theorem dX7_takes_2 : decode cX7_takes 2 = .ok (.getfield 82, 3) := by decide +kernel
theorem dX7_takes_5 : decode cX7_takes 5 = .ok (.invokevirtual 85, 3) := by decide +kernel
theorem dX7_takes_8 : decode cX7_takes 8 = .ok (.iload_n 1, 1) := by decide +kernel
theorem dX7_takes_9 : decode cX7_takes 9 = .ok (.if_icmp .eq 13, 3) := by decide +kernel
theorem dX7_takes_12 : decode cX7_takes 12 = .ok (.aload_n 0, 1) := by decide +kernel
theorem dX7_takes_13 : decode cX7_takes 13 = .ok (.iconst 1, 1) := by decide +kernel
theorem dX7_takes_14 : decode cX7_takes 14 = .ok (.aload_n 0, 1) := by decide +kernel
theorem dX7_takes_15 : decode cX7_takes 15 = .ok (.getfield 82, 3) := by decide +kernel
theorem dX7_takes_18 : decode cX7_takes 18 = .ok (.invokevirtual 88, 3) := by decide +kernel
theorem dX7_takes_21 : decode cX7_takes 21 = .ok (.ireturn, 1) := by decide +kernel
theorem dX7_takes_22 : decode cX7_takes 22 = .ok (.aload_n 0, 1) := by decide +kernel
theorem dX7_takes_23 : decode cX7_takes 23 = .ok (.dup, 1) := by decide +kernel
theorem dX7_takes_24 : decode cX7_takes 24 = .ok (.getfield 82, 3) := by decide +kernel
theorem dX7_takes_27 : decode cX7_takes 27 = .ok (.iconst 1, 1) := by decide +kernel
theorem dX7_takes_28 : decode cX7_takes 28 = .ok (.iadd, 1) := by decide +kernel
theorem dX7_takes_29 : decode cX7_takes 29 = .ok (.putfield 82, 3) := by decide +kernel
theorem dX7_takes_32 : decode cX7_takes 32 = .ok (.iconst 1, 1) := by decide +kernel
theorem dX7_takes_33 : decode cX7_takes 33 = .ok (.ireturn, 1) := by decide +kernel
theorem dX7_takesNumber_0 : decode cX7_takesNumber 0 = .ok (.aload_n 0, 1) := by decide +kernel
theorem dX7_takesNumber_1 : decode cX7_takesNumber 1 = .ok (.getfield 82, 3) := by decide +kernel
theorem dX7_takesNumber_4 : decode cX7_takesNumber 4 = .ok (.istore 4, 2) := by decide +kernel
theorem dX7_takesNumber_6 : decode cX7_takesNumber 6 = .ok (.aload_n 0, 1) := by decide +kernel
theorem dX7_takesNumber_7 : decode cX7_takesNumber 7 = .ok (.iconst 0, 1) := by decide +kernel
theorem dX7_takesNumber_8 : decode cX7_takesNumber 8 = .ok (.putfield 92, 3) := by decide +kernel
theorem dX7_takesNumber_11 : decode cX7_takesNumber 11 = .ok (.aload_n 0, 1) := by decide +kernel
theorem dX7_takesNumber_12 : decode cX7_takesNumber 12 = .ok (.aload_n 0, 1) := by decide +kernel
theorem dX7_takesNumber_13 : decode cX7_takesNumber 13 = .ok (.getfield 82, 3) := by decide +kernel
theorem dX7_takesNumber_16 : decode cX7_takesNumber 16 = .ok (.invokevirtual 85, 3) := by decide +kernel
theorem dX7_takesNumber_19 : decode cX7_takesNumber 19 = .ok (.i2l, 1) := by decide +kernel
theorem dX7_takesNumber_20 : decode cX7_takesNumber 20 = .ok (.ldc2_w 95, 3) := by decide +kernel
theorem dX7_takesNumber_23 : decode cX7_takesNumber 23 = .ok (.ldc2_w 97, 3) := by decide +kernel
theorem dX7_takesNumber_26 : decode cX7_takesNumber 26 = .ok (.invokestatic 48, 3) := by decide +kernel
theorem dX7_takesNumber_29 : decode cX7_takesNumber 29 = .ok (.ifCond .eq 57, 3) := by decide +kernel
theorem dX7_takesNumber_32 : decode cX7_takesNumber 32 = .ok (.aload_n 0, 1) := by decide +kernel
theorem dX7_takesNumber_33 : decode cX7_takesNumber 33 = .ok (.aload_n 0, 1) := by decide +kernel
theorem dX7_takesNumber_34 : decode cX7_takesNumber 34 = .ok (.getfield 82, 3) := by decide +kernel
theorem dX7_takesNumber_37 : decode cX7_takesNumber 37 = .ok (.iload 4, 2) := by decide +kernel
theorem dX7_takesNumber_39 : decode cX7_takesNumber 39 = .ok (.isub, 1) := by decide +kernel
theorem dX7_takesNumber_40 : decode cX7_takesNumber 40 = .ok (.iconst 2, 1) := by decide +kernel
theorem dX7_takesNumber_41 : decode cX7_takesNumber 41 = .ok (.if_icmp .ge 25, 3) := by decide +kernel
theorem dX7_takesNumber_44 : decode cX7_takesNumber 44 = .ok (.bipush 10, 2) := by decide +kernel
theorem dX7_takesNumber_46 : decode cX7_takesNumber 46 = .ok (.aload_n 0, 1) := by decide +kernel
theorem dX7_takesNumber_47 : decode cX7_takesNumber 47 = .ok (.getfield 92, 3) := by decide +kernel
theorem dX7_takesNumber_50 : decode cX7_takesNumber 50 = .ok (.imul, 1) := by decide +kernel
theorem dX7_takesNumber_51 : decode cX7_takesNumber 51 = .ok (.aload_n 0, 1) := by decide +kernel
theorem dX7_takesNumber_52 : decode cX7_takesNumber 52 = .ok (.aload_n 0, 1) := by decide +kernel
theorem dX7_takesNumber_53 : decode cX7_takesNumber 53 = .ok (.getfield 82, 3) := by decide +kernel
theorem dX7_takesNumber_56 : decode cX7_takesNumber 56 = .ok (.invokevirtual 85, 3) := by decide +kernel
theorem dX7_takesNumber_59 : decode cX7_takesNumber 59 = .ok (.iadd, 1) := by decide +kernel
theorem dX7_takesNumber_60 : decode cX7_takesNumber 60 = .ok (.bipush 48, 2) := by decide +kernel
theorem dX7_takesNumber_62 : decode cX7_takesNumber 62 = .ok (.isub, 1) := by decide +kernel
theorem dX7_takesNumber_63 : decode cX7_takesNumber 63 = .ok (.goto 7, 3) := by decide +kernel
theorem dX7_takesNumber_66 : decode cX7_takesNumber 66 = .ok (.aload_n 0, 1) := by decide +kernel
theorem dX7_takesNumber_67 : decode cX7_takesNumber 67 = .ok (.getfield 92, 3) := by decide +kernel
theorem dX7_takesNumber_70 : decode cX7_takesNumber 70 = .ok (.putfield 92, 3) := by decide +kernel
theorem dX7_takesNumber_73 : decode cX7_takesNumber 73 = .ok (.aload_n 0, 1) := by decide +kernel
theorem dX7_takesNumber_74 : decode cX7_takesNumber 74 = .ok (.dup, 1) := by decide +kernel
theorem dX7_takesNumber_75 : decode cX7_takesNumber 75 = .ok (.getfield 82, 3) := by decide +kernel
theorem dX7_takesNumber_78 : decode cX7_takesNumber 78 = .ok (.iconst 1, 1) := by decide +kernel
theorem dX7_takesNumber_79 : decode cX7_takesNumber 79 = .ok (.iadd, 1) := by decide +kernel
theorem dX7_takesNumber_80 : decode cX7_takesNumber 80 = .ok (.putfield 82, 3) := by decide +kernel
theorem dX7_takesNumber_83 : decode cX7_takesNumber 83 = .ok (.goto (-72), 3) := by decide +kernel
theorem dX7_takesNumber_86 : decode cX7_takesNumber 86 = .ok (.aload_n 0, 1) := by decide +kernel
theorem dX7_takesNumber_87 : decode cX7_takesNumber 87 = .ok (.getfield 82, 3) := by decide +kernel
theorem dX7_takesNumber_90 : decode cX7_takesNumber 90 = .ok (.iload 4, 2) := by decide +kernel
theorem dX7_takesNumber_92 : decode cX7_takesNumber 92 = .ok (.if_icmp .eq 14, 3) := by decide +kernel
theorem dX7_takesNumber_95 : decode cX7_takesNumber 95 = .ok (.aload_n 0, 1) := by decide +kernel
theorem dX7_takesNumber_96 : decode cX7_takesNumber 96 = .ok (.getfield 82, 3) := by decide +kernel
theorem dX7_takesNumber_99 : decode cX7_takesNumber 99 = .ok (.iload 4, 2) := by decide +kernel
theorem dX7_takesNumber_101 : decode cX7_takesNumber 101 = .ok (.isub, 1) := by decide +kernel
theorem dX7_takesNumber_102 : decode cX7_takesNumber 102 = .ok (.iconst 2, 1) := by decide +kernel
theorem dX7_takesNumber_103 : decode cX7_takesNumber 103 = .ok (.if_icmp .le 11, 3) := by decide +kernel
theorem dX7_takesNumber_106 : decode cX7_takesNumber 106 = .ok (.aload_n 0, 1) := by decide +kernel
theorem dX7_takesNumber_107 : decode cX7_takesNumber 107 = .ok (.iconst 1, 1) := by decide +kernel
theorem dX7_takesNumber_108 : decode cX7_takesNumber 108 = .ok (.iload 4, 2) := by decide +kernel
theorem dX7_takesNumber_110 : decode cX7_takesNumber 110 = .ok (.invokevirtual 88, 3) := by decide +kernel
theorem dX7_takesNumber_113 : decode cX7_takesNumber 113 = .ok (.ireturn, 1) := by decide +kernel
theorem dX7_takesNumber_114 : decode cX7_takesNumber 114 = .ok (.aload_n 0, 1) := by decide +kernel
theorem dX7_takesNumber_115 : decode cX7_takesNumber 115 = .ok (.getfield 92, 3) := by decide +kernel
theorem dX7_takesNumber_118 : decode cX7_takesNumber 118 = .ok (.i2l, 1) := by decide +kernel
theorem dX7_takesNumber_119 : decode cX7_takesNumber 119 = .ok (.iload_n 1, 1) := by decide +kernel
theorem dX7_takesNumber_120 : decode cX7_takesNumber 120 = .ok (.i2l, 1) := by decide +kernel
theorem dX7_takesNumber_121 : decode cX7_takesNumber 121 = .ok (.iload_n 2, 1) := by decide +kernel
theorem dX7_takesNumber_122 : decode cX7_takesNumber 122 = .ok (.i2l, 1) := by decide +kernel
theorem dX7_takesNumber_123 : decode cX7_takesNumber 123 = .ok (.invokestatic 48, 3) := by decide +kernel
theorem dX7_takesNumber_126 : decode cX7_takesNumber 126 = .ok (.ifCond .eq 11, 3) := by decide +kernel
theorem dX7_takesNumber_129 : decode cX7_takesNumber 129 = .ok (.aload_n 0, 1) := by decide +kernel
theorem dX7_takesNumber_130 : decode cX7_takesNumber 130 = .ok (.iload_n 3, 1) := by decide +kernel
theorem dX7_takesNumber_131 : decode cX7_takesNumber 131 = .ok (.invokevirtual 99, 3) := by decide +kernel
theorem dX7_takesNumber_134 : decode cX7_takesNumber 134 = .ok (.goto 10, 3) := by decide +kernel
theorem dX7_takesNumber_137 : decode cX7_takesNumber 137 = .ok (.aload_n 0, 1) := by decide +kernel
theorem dX7_takesNumber_138 : decode cX7_takesNumber 138 = .ok (.iconst 2, 1) := by decide +kernel
theorem dX7_takesNumber_139 : decode cX7_takesNumber 139 = .ok (.iload 4, 2) := by decide +kernel
theorem dX7_takesNumber_141 : decode cX7_takesNumber 141 = .ok (.invokevirtual 88, 3) := by decide +kernel
theorem dX7_takesNumber_144 : decode cX7_takesNumber 144 = .ok (.ireturn, 1) := by decide +kernel
theorem dX7_takesLaw_0 : decode cX7_takesLaw 0 = .ok (.iconst 0, 1) := by decide +kernel
theorem dX7_takesLaw_1 : decode cX7_takesLaw 1 = .ok (.istore_n 1, 1) := by decide +kernel
theorem dX7_takesLaw_2 : decode cX7_takesLaw 2 = .ok (.iload_n 1, 1) := by decide +kernel
theorem dX7_takesLaw_3 : decode cX7_takesLaw 3 = .ok (.bipush 63, 2) := by decide +kernel
theorem dX7_takesLaw_5 : decode cX7_takesLaw 5 = .ok (.if_icmp .ge 20, 3) := by decide +kernel
theorem dX7_takesLaw_8 : decode cX7_takesLaw 8 = .ok (.aload_n 0, 1) := by decide +kernel
theorem dX7_takesLaw_9 : decode cX7_takesLaw 9 = .ok (.getfield 7, 3) := by decide +kernel
theorem dX7_takesLaw_12 : decode cX7_takesLaw 12 = .ok (.sipush 189, 3) := by decide +kernel
theorem dX7_takesLaw_15 : decode cX7_takesLaw 15 = .ok (.iload_n 1, 1) := by decide +kernel
theorem dX7_takesLaw_16 : decode cX7_takesLaw 16 = .ok (.iadd, 1) := by decide +kernel
theorem dX7_takesLaw_17 : decode cX7_takesLaw 17 = .ok (.iconst 0, 1) := by decide +kernel
theorem dX7_takesLaw_18 : decode cX7_takesLaw 18 = .ok (.iastore, 1) := by decide +kernel
theorem dX7_takesLaw_19 : decode cX7_takesLaw 19 = .ok (.iinc 1 1, 3) := by decide +kernel
theorem dX7_takesLaw_22 : decode cX7_takesLaw 22 = .ok (.goto (-20), 3) := by decide +kernel
theorem dX7_takesLaw_25 : decode cX7_takesLaw 25 = .ok (.aload_n 0, 1) := by decide +kernel
theorem dX7_takesLaw_26 : decode cX7_takesLaw 26 = .ok (.getfield 7, 3) := by decide +kernel
theorem dX7_takesLaw_29 : decode cX7_takesLaw 29 = .ok (.sipush 227, 3) := by decide +kernel
theorem dX7_takesLaw_32 : decode cX7_takesLaw 32 = .ok (.iconst 1, 1) := by decide +kernel
theorem dX7_takesLaw_33 : decode cX7_takesLaw 33 = .ok (.iastore, 1) := by decide +kernel
theorem dX7_takesLaw_34 : decode cX7_takesLaw 34 = .ok (.aload_n 0, 1) := by decide +kernel
theorem dX7_takesLaw_35 : decode cX7_takesLaw 35 = .ok (.bipush 107, 2) := by decide +kernel
theorem dX7_takesLaw_37 : decode cX7_takesLaw 37 = .ok (.invokevirtual 99, 3) := by decide +kernel
theorem dX7_takesLaw_40 : decode cX7_takesLaw 40 = .ok (.ifCond .eq 14, 3) := by decide +kernel
theorem dX7_takesLaw_43 : decode cX7_takesLaw 43 = .ok (.aload_n 0, 1) := by decide +kernel
theorem dX7_takesLaw_44 : decode cX7_takesLaw 44 = .ok (.iconst 0, 1) := by decide +kernel
theorem dX7_takesLaw_45 : decode cX7_takesLaw 45 = .ok (.iconst 3, 1) := by decide +kernel
theorem dX7_takesLaw_46 : decode cX7_takesLaw 46 = .ok (.bipush 44, 2) := by decide +kernel
theorem dX7_takesLaw_48 : decode cX7_takesLaw 48 = .ok (.invokevirtual 102, 3) := by decide +kernel
theorem dX7_takesLaw_51 : decode cX7_takesLaw 51 = .ok (.ifCond .ne 5, 3) := by decide +kernel
theorem dX7_takesLaw_54 : decode cX7_takesLaw 54 = .ok (.iconst 0, 1) := by decide +kernel
theorem dX7_takesLaw_55 : decode cX7_takesLaw 55 = .ok (.ireturn, 1) := by decide +kernel
theorem dX7_takesLaw_56 : decode cX7_takesLaw 56 = .ok (.aload_n 0, 1) := by decide +kernel
theorem dX7_takesLaw_57 : decode cX7_takesLaw 57 = .ok (.getfield 7, 3) := by decide +kernel
theorem dX7_takesLaw_60 : decode cX7_takesLaw 60 = .ok (.sipush 228, 3) := by decide +kernel
theorem dX7_takesLaw_63 : decode cX7_takesLaw 63 = .ok (.aload_n 0, 1) := by decide +kernel
theorem dX7_takesLaw_64 : decode cX7_takesLaw 64 = .ok (.getfield 92, 3) := by decide +kernel
theorem dX7_takesLaw_67 : decode cX7_takesLaw 67 = .ok (.iastore, 1) := by decide +kernel
theorem dX7_takesLaw_68 : decode cX7_takesLaw 68 = .ok (.aload_n 0, 1) := by decide +kernel
theorem dX7_takesLaw_69 : decode cX7_takesLaw 69 = .ok (.iconst 1, 1) := by decide +kernel
theorem dX7_takesLaw_70 : decode cX7_takesLaw 70 = .ok (.bipush 9, 2) := by decide +kernel
theorem dX7_takesLaw_72 : decode cX7_takesLaw 72 = .ok (.bipush 59, 2) := by decide +kernel
theorem dX7_takesLaw_74 : decode cX7_takesLaw 74 = .ok (.invokevirtual 102, 3) := by decide +kernel
theorem dX7_takesLaw_77 : decode cX7_takesLaw 77 = .ok (.ifCond .ne 5, 3) := by decide +kernel
theorem dX7_takesLaw_80 : decode cX7_takesLaw 80 = .ok (.iconst 0, 1) := by decide +kernel
theorem dX7_takesLaw_81 : decode cX7_takesLaw 81 = .ok (.ireturn, 1) := by decide +kernel
theorem dX7_takesLaw_82 : decode cX7_takesLaw 82 = .ok (.aload_n 0, 1) := by decide +kernel
theorem dX7_takesLaw_83 : decode cX7_takesLaw 83 = .ok (.getfield 7, 3) := by decide +kernel
theorem dX7_takesLaw_86 : decode cX7_takesLaw 86 = .ok (.sipush 229, 3) := by decide +kernel
theorem dX7_takesLaw_89 : decode cX7_takesLaw 89 = .ok (.aload_n 0, 1) := by decide +kernel
theorem dX7_takesLaw_90 : decode cX7_takesLaw 90 = .ok (.getfield 92, 3) := by decide +kernel
theorem dX7_takesLaw_93 : decode cX7_takesLaw 93 = .ok (.iastore, 1) := by decide +kernel
theorem dX7_takesLaw_94 : decode cX7_takesLaw 94 = .ok (.iconst 1, 1) := by decide +kernel
theorem dX7_takesLaw_95 : decode cX7_takesLaw 95 = .ok (.ireturn, 1) := by decide +kernel
theorem dX7_kindOf_0 : decode cX7_kindOf 0 = .ok (.iload_n 0, 1) := by decide +kernel
theorem dX7_kindOf_1 : decode cX7_kindOf 1 = .ok (.bipush 112, 2) := by decide +kernel
theorem dX7_kindOf_3 : decode cX7_kindOf 3 = .ok (.if_icmp .ne 7, 3) := by decide +kernel
theorem dX7_kindOf_6 : decode cX7_kindOf 6 = .ok (.iconst 1, 1) := by decide +kernel
theorem dX7_kindOf_7 : decode cX7_kindOf 7 = .ok (.goto 44, 3) := by decide +kernel
theorem dX7_kindOf_10 : decode cX7_kindOf 10 = .ok (.iload_n 0, 1) := by decide +kernel
theorem dX7_kindOf_11 : decode cX7_kindOf 11 = .ok (.bipush 108, 2) := by decide +kernel
theorem dX7_kindOf_13 : decode cX7_kindOf 13 = .ok (.if_icmp .ne 7, 3) := by decide +kernel
theorem dX7_kindOf_16 : decode cX7_kindOf 16 = .ok (.iconst 2, 1) := by decide +kernel
theorem dX7_kindOf_17 : decode cX7_kindOf 17 = .ok (.goto 34, 3) := by decide +kernel
theorem dX7_kindOf_20 : decode cX7_kindOf 20 = .ok (.iload_n 0, 1) := by decide +kernel
theorem dX7_kindOf_21 : decode cX7_kindOf 21 = .ok (.bipush 115, 2) := by decide +kernel
theorem dX7_kindOf_23 : decode cX7_kindOf 23 = .ok (.if_icmp .ne 7, 3) := by decide +kernel
theorem dX7_kindOf_26 : decode cX7_kindOf 26 = .ok (.iconst 3, 1) := by decide +kernel
theorem dX7_kindOf_27 : decode cX7_kindOf 27 = .ok (.goto 24, 3) := by decide +kernel
theorem dX7_kindOf_30 : decode cX7_kindOf 30 = .ok (.iload_n 0, 1) := by decide +kernel
theorem dX7_kindOf_31 : decode cX7_kindOf 31 = .ok (.bipush 100, 2) := by decide +kernel
theorem dX7_kindOf_33 : decode cX7_kindOf 33 = .ok (.if_icmp .ne 7, 3) := by decide +kernel
theorem dX7_kindOf_36 : decode cX7_kindOf 36 = .ok (.iconst 4, 1) := by decide +kernel
theorem dX7_kindOf_37 : decode cX7_kindOf 37 = .ok (.goto 14, 3) := by decide +kernel
theorem dX7_kindOf_40 : decode cX7_kindOf 40 = .ok (.iload_n 0, 1) := by decide +kernel
theorem dX7_kindOf_41 : decode cX7_kindOf 41 = .ok (.bipush 116, 2) := by decide +kernel
theorem dX7_kindOf_43 : decode cX7_kindOf 43 = .ok (.if_icmp .ne 7, 3) := by decide +kernel
theorem dX7_kindOf_46 : decode cX7_kindOf 46 = .ok (.iconst 5, 1) := by decide +kernel
theorem dX7_kindOf_47 : decode cX7_kindOf 47 = .ok (.goto 4, 3) := by decide +kernel
theorem dX7_kindOf_50 : decode cX7_kindOf 50 = .ok (.iconst 0, 1) := by decide +kernel
theorem dX7_kindOf_51 : decode cX7_kindOf 51 = .ok (.ireturn, 1) := by decide +kernel
theorem dX7_takesChild_0 : decode cX7_takesChild 0 = .ok (.aload_n 0, 1) := by decide +kernel
theorem dX7_takesChild_1 : decode cX7_takesChild 1 = .ok (.getfield 7, 3) := by decide +kernel
theorem dX7_takesChild_4 : decode cX7_takesChild 4 = .ok (.sipush 230, 3) := by decide +kernel
theorem dX7_takesChild_7 : decode cX7_takesChild 7 = .ok (.iaload, 1) := by decide +kernel
theorem dX7_takesChild_8 : decode cX7_takesChild 8 = .ok (.istore_n 1, 1) := by decide +kernel
theorem dX7_takesChild_9 : decode cX7_takesChild 9 = .ok (.aload_n 0, 1) := by decide +kernel
theorem dX7_takesChild_10 : decode cX7_takesChild 10 = .ok (.aload_n 0, 1) := by decide +kernel
theorem dX7_takesChild_11 : decode cX7_takesChild 11 = .ok (.getfield 82, 3) := by decide +kernel
theorem dX7_takesChild_14 : decode cX7_takesChild 14 = .ok (.invokevirtual 85, 3) := by decide +kernel
theorem dX7_takesChild_17 : decode cX7_takesChild 17 = .ok (.invokestatic 105, 3) := by decide +kernel
theorem dX7_takesChild_20 : decode cX7_takesChild 20 = .ok (.istore_n 2, 1) := by decide +kernel
theorem dX7_takesChild_21 : decode cX7_takesChild 21 = .ok (.iload_n 2, 1) := by decide +kernel
theorem dX7_takesChild_22 : decode cX7_takesChild 22 = .ok (.ifCond .ne 13, 3) := by decide +kernel
theorem dX7_takesChild_25 : decode cX7_takesChild 25 = .ok (.aload_n 0, 1) := by decide +kernel
theorem dX7_takesChild_26 : decode cX7_takesChild 26 = .ok (.iconst 1, 1) := by decide +kernel
theorem dX7_takesChild_27 : decode cX7_takesChild 27 = .ok (.aload_n 0, 1) := by decide +kernel
theorem dX7_takesChild_28 : decode cX7_takesChild 28 = .ok (.getfield 82, 3) := by decide +kernel
theorem dX7_takesChild_31 : decode cX7_takesChild 31 = .ok (.invokevirtual 88, 3) := by decide +kernel
theorem dX7_takesChild_34 : decode cX7_takesChild 34 = .ok (.ireturn, 1) := by decide +kernel
theorem dX7_takesChild_35 : decode cX7_takesChild 35 = .ok (.iload_n 1, 1) := by decide +kernel
theorem dX7_takesChild_36 : decode cX7_takesChild 36 = .ok (.bipush 7, 2) := by decide +kernel
theorem dX7_takesChild_38 : decode cX7_takesChild 38 = .ok (.if_icmp .ne 13, 3) := by decide +kernel
theorem dX7_takesChild_41 : decode cX7_takesChild 41 = .ok (.aload_n 0, 1) := by decide +kernel
theorem dX7_takesChild_42 : decode cX7_takesChild 42 = .ok (.iconst 3, 1) := by decide +kernel
theorem dX7_takesChild_43 : decode cX7_takesChild 43 = .ok (.aload_n 0, 1) := by decide +kernel
theorem dX7_takesChild_44 : decode cX7_takesChild 44 = .ok (.getfield 82, 3) := by decide +kernel
theorem dX7_takesChild_47 : decode cX7_takesChild 47 = .ok (.invokevirtual 88, 3) := by decide +kernel
theorem dX7_takesChild_50 : decode cX7_takesChild 50 = .ok (.ireturn, 1) := by decide +kernel
theorem dX7_takesChild_51 : decode cX7_takesChild 51 = .ok (.aload_n 0, 1) := by decide +kernel
theorem dX7_takesChild_52 : decode cX7_takesChild 52 = .ok (.dup, 1) := by decide +kernel
theorem dX7_takesChild_53 : decode cX7_takesChild 53 = .ok (.getfield 82, 3) := by decide +kernel
theorem dX7_takesChild_56 : decode cX7_takesChild 56 = .ok (.iconst 1, 1) := by decide +kernel
theorem dX7_takesChild_57 : decode cX7_takesChild 57 = .ok (.iadd, 1) := by decide +kernel
theorem dX7_takesChild_58 : decode cX7_takesChild 58 = .ok (.putfield 82, 3) := by decide +kernel
theorem dX7_takesChild_61 : decode cX7_takesChild 61 = .ok (.aload_n 0, 1) := by decide +kernel
theorem dX7_takesChild_62 : decode cX7_takesChild 62 = .ok (.getfield 7, 3) := by decide +kernel
theorem dX7_takesChild_65 : decode cX7_takesChild 65 = .ok (.sipush 231, 3) := by decide +kernel
theorem dX7_takesChild_68 : decode cX7_takesChild 68 = .ok (.iload_n 1, 1) := by decide +kernel
theorem dX7_takesChild_69 : decode cX7_takesChild 69 = .ok (.iadd, 1) := by decide +kernel
theorem dX7_takesChild_70 : decode cX7_takesChild 70 = .ok (.iload_n 2, 1) := by decide +kernel
theorem dX7_takesChild_71 : decode cX7_takesChild 71 = .ok (.iastore, 1) := by decide +kernel
theorem dX7_takesChild_72 : decode cX7_takesChild 72 = .ok (.aload_n 0, 1) := by decide +kernel
theorem dX7_takesChild_73 : decode cX7_takesChild 73 = .ok (.getfield 7, 3) := by decide +kernel
theorem dX7_takesChild_76 : decode cX7_takesChild 76 = .ok (.sipush 218, 3) := by decide +kernel
theorem dX7_takesChild_79 : decode cX7_takesChild 79 = .ok (.iload_n 1, 1) := by decide +kernel
theorem dX7_takesChild_80 : decode cX7_takesChild 80 = .ok (.iadd, 1) := by decide +kernel
theorem dX7_takesChild_81 : decode cX7_takesChild 81 = .ok (.iload_n 1, 1) := by decide +kernel
theorem dX7_takesChild_82 : decode cX7_takesChild 82 = .ok (.iastore, 1) := by decide +kernel
theorem dX7_takesChild_83 : decode cX7_takesChild 83 = .ok (.aload_n 0, 1) := by decide +kernel
theorem dX7_takesChild_84 : decode cX7_takesChild 84 = .ok (.iconst 1, 1) := by decide +kernel
theorem dX7_takesChild_85 : decode cX7_takesChild 85 = .ok (.bipush 9, 2) := by decide +kernel
theorem dX7_takesChild_87 : decode cX7_takesChild 87 = .ok (.bipush 44, 2) := by decide +kernel
theorem dX7_takesChild_89 : decode cX7_takesChild 89 = .ok (.invokevirtual 102, 3) := by decide +kernel
theorem dX7_takesChild_92 : decode cX7_takesChild 92 = .ok (.ifCond .ne 5, 3) := by decide +kernel
theorem dX7_takesChild_95 : decode cX7_takesChild 95 = .ok (.iconst 0, 1) := by decide +kernel
theorem dX7_takesChild_96 : decode cX7_takesChild 96 = .ok (.ireturn, 1) := by decide +kernel
theorem dX7_takesChild_97 : decode cX7_takesChild 97 = .ok (.aload_n 0, 1) := by decide +kernel
theorem dX7_takesChild_98 : decode cX7_takesChild 98 = .ok (.getfield 7, 3) := by decide +kernel
theorem dX7_takesChild_101 : decode cX7_takesChild 101 = .ok (.sipush 190, 3) := by decide +kernel
theorem dX7_takesChild_104 : decode cX7_takesChild 104 = .ok (.iload_n 1, 1) := by decide +kernel
theorem dX7_takesChild_105 : decode cX7_takesChild 105 = .ok (.iadd, 1) := by decide +kernel
theorem dX7_takesChild_106 : decode cX7_takesChild 106 = .ok (.aload_n 0, 1) := by decide +kernel
theorem dX7_takesChild_107 : decode cX7_takesChild 107 = .ok (.getfield 92, 3) := by decide +kernel
theorem dX7_takesChild_110 : decode cX7_takesChild 110 = .ok (.iastore, 1) := by decide +kernel
theorem dX7_takesChild_111 : decode cX7_takesChild 111 = .ok (.aload_n 0, 1) := by decide +kernel
theorem dX7_takesChild_112 : decode cX7_takesChild 112 = .ok (.iconst 0, 1) := by decide +kernel
theorem dX7_takesChild_113 : decode cX7_takesChild 113 = .ok (.bipush 9, 2) := by decide +kernel
theorem dX7_takesChild_115 : decode cX7_takesChild 115 = .ok (.bipush 44, 2) := by decide +kernel
theorem dX7_takesChild_117 : decode cX7_takesChild 117 = .ok (.invokevirtual 102, 3) := by decide +kernel
theorem dX7_takesChild_120 : decode cX7_takesChild 120 = .ok (.ifCond .ne 5, 3) := by decide +kernel
theorem dX7_takesChild_123 : decode cX7_takesChild 123 = .ok (.iconst 0, 1) := by decide +kernel
theorem dX7_takesChild_124 : decode cX7_takesChild 124 = .ok (.ireturn, 1) := by decide +kernel
theorem dX7_takesChild_125 : decode cX7_takesChild 125 = .ok (.aload_n 0, 1) := by decide +kernel
theorem dX7_takesChild_126 : decode cX7_takesChild 126 = .ok (.getfield 7, 3) := by decide +kernel
theorem dX7_takesChild_129 : decode cX7_takesChild 129 = .ok (.sipush 238, 3) := by decide +kernel
theorem dX7_takesChild_132 : decode cX7_takesChild 132 = .ok (.iload_n 1, 1) := by decide +kernel
theorem dX7_takesChild_133 : decode cX7_takesChild 133 = .ok (.iadd, 1) := by decide +kernel
theorem dX7_takesChild_134 : decode cX7_takesChild 134 = .ok (.aload_n 0, 1) := by decide +kernel
theorem dX7_takesChild_135 : decode cX7_takesChild 135 = .ok (.getfield 92, 3) := by decide +kernel
theorem dX7_takesChild_138 : decode cX7_takesChild 138 = .ok (.iastore, 1) := by decide +kernel
theorem dX7_takesChild_139 : decode cX7_takesChild 139 = .ok (.aload_n 0, 1) := by decide +kernel
theorem dX7_takesChild_140 : decode cX7_takesChild 140 = .ok (.iconst 0, 1) := by decide +kernel
theorem dX7_takesChild_141 : decode cX7_takesChild 141 = .ok (.bipush 9, 2) := by decide +kernel
theorem dX7_takesChild_143 : decode cX7_takesChild 143 = .ok (.bipush 59, 2) := by decide +kernel
theorem dX7_takesChild_145 : decode cX7_takesChild 145 = .ok (.invokevirtual 102, 3) := by decide +kernel
theorem dX7_takesChild_148 : decode cX7_takesChild 148 = .ok (.ifCond .ne 5, 3) := by decide +kernel
theorem dX7_takesChild_151 : decode cX7_takesChild 151 = .ok (.iconst 0, 1) := by decide +kernel
theorem dX7_takesChild_152 : decode cX7_takesChild 152 = .ok (.ireturn, 1) := by decide +kernel
theorem dX7_takesChild_153 : decode cX7_takesChild 153 = .ok (.aload_n 0, 1) := by decide +kernel
theorem dX7_takesChild_154 : decode cX7_takesChild 154 = .ok (.getfield 7, 3) := by decide +kernel
theorem dX7_takesChild_157 : decode cX7_takesChild 157 = .ok (.sipush 245, 3) := by decide +kernel
theorem dX7_takesChild_160 : decode cX7_takesChild 160 = .ok (.iload_n 1, 1) := by decide +kernel
theorem dX7_takesChild_161 : decode cX7_takesChild 161 = .ok (.iadd, 1) := by decide +kernel
theorem dX7_takesChild_162 : decode cX7_takesChild 162 = .ok (.aload_n 0, 1) := by decide +kernel
theorem dX7_takesChild_163 : decode cX7_takesChild 163 = .ok (.getfield 92, 3) := by decide +kernel
theorem dX7_takesChild_166 : decode cX7_takesChild 166 = .ok (.iastore, 1) := by decide +kernel
theorem dX7_takesChild_167 : decode cX7_takesChild 167 = .ok (.aload_n 0, 1) := by decide +kernel
theorem dX7_takesChild_168 : decode cX7_takesChild 168 = .ok (.getfield 7, 3) := by decide +kernel
theorem dX7_takesChild_171 : decode cX7_takesChild 171 = .ok (.sipush 230, 3) := by decide +kernel
theorem dX7_takesChild_174 : decode cX7_takesChild 174 = .ok (.dup2, 1) := by decide +kernel
theorem dX7_takesChild_175 : decode cX7_takesChild 175 = .ok (.iaload, 1) := by decide +kernel
theorem dX7_takesChild_176 : decode cX7_takesChild 176 = .ok (.iconst 1, 1) := by decide +kernel
theorem dX7_takesChild_177 : decode cX7_takesChild 177 = .ok (.iadd, 1) := by decide +kernel
theorem dX7_takesChild_178 : decode cX7_takesChild 178 = .ok (.iastore, 1) := by decide +kernel
theorem dX7_takesChild_179 : decode cX7_takesChild 179 = .ok (.iconst 1, 1) := by decide +kernel
theorem dX7_takesChild_180 : decode cX7_takesChild 180 = .ok (.ireturn, 1) := by decide +kernel
theorem dX7_copyAll_0 : decode cX7_copyAll 0 = .ok (.iconst 0, 1) := by decide +kernel
theorem dX7_copyAll_1 : decode cX7_copyAll 1 = .ok (.istore_n 3, 1) := by decide +kernel
theorem dX7_copyAll_2 : decode cX7_copyAll 2 = .ok (.iload_n 3, 1) := by decide +kernel
theorem dX7_copyAll_3 : decode cX7_copyAll 3 = .ok (.bipush 63, 2) := by decide +kernel
theorem dX7_copyAll_5 : decode cX7_copyAll 5 = .ok (.if_icmp .ge 25, 3) := by decide +kernel
theorem dX7_copyAll_8 : decode cX7_copyAll 8 = .ok (.aload_n 0, 1) := by decide +kernel
theorem dX7_copyAll_9 : decode cX7_copyAll 9 = .ok (.getfield 7, 3) := by decide +kernel
theorem dX7_copyAll_12 : decode cX7_copyAll 12 = .ok (.iload_n 2, 1) := by decide +kernel
theorem dX7_copyAll_13 : decode cX7_copyAll 13 = .ok (.iload_n 3, 1) := by decide +kernel
theorem dX7_copyAll_14 : decode cX7_copyAll 14 = .ok (.iadd, 1) := by decide +kernel
theorem dX7_copyAll_15 : decode cX7_copyAll 15 = .ok (.aload_n 0, 1) := by decide +kernel
theorem dX7_copyAll_16 : decode cX7_copyAll 16 = .ok (.getfield 7, 3) := by decide +kernel
theorem dX7_copyAll_19 : decode cX7_copyAll 19 = .ok (.iload_n 1, 1) := by decide +kernel
theorem dX7_copyAll_20 : decode cX7_copyAll 20 = .ok (.iload_n 3, 1) := by decide +kernel
theorem dX7_copyAll_21 : decode cX7_copyAll 21 = .ok (.iadd, 1) := by decide +kernel
theorem dX7_copyAll_22 : decode cX7_copyAll 22 = .ok (.iaload, 1) := by decide +kernel
theorem dX7_copyAll_23 : decode cX7_copyAll 23 = .ok (.iastore, 1) := by decide +kernel
theorem dX7_copyAll_24 : decode cX7_copyAll 24 = .ok (.iinc 3 1, 3) := by decide +kernel
theorem dX7_copyAll_27 : decode cX7_copyAll 27 = .ok (.goto (-25), 3) := by decide +kernel
theorem dX7_copyAll_30 : decode cX7_copyAll 30 = .ok (.return_, 1) := by decide +kernel
theorem dX7_room_0 : decode cX7_room 0 = .ok (.aload_n 0, 1) := by decide +kernel
theorem dX7_room_1 : decode cX7_room 1 = .ok (.iconst 0, 1) := by decide +kernel
theorem dX7_room_2 : decode cX7_room 2 = .ok (.putfield 82, 3) := by decide +kernel
theorem dX7_room_5 : decode cX7_room 5 = .ok (.aload_n 0, 1) := by decide +kernel
theorem dX7_room_6 : decode cX7_room 6 = .ok (.invokevirtual 108, 3) := by decide +kernel
theorem dX7_room_9 : decode cX7_room 9 = .ok (.istore_n 1, 1) := by decide +kernel
theorem dX7_room_10 : decode cX7_room 10 = .ok (.iload_n 1, 1) := by decide +kernel
theorem dX7_room_11 : decode cX7_room 11 = .ok (.ifCond .eq 33, 3) := by decide +kernel
theorem dX7_room_14 : decode cX7_room 14 = .ok (.aload_n 0, 1) := by decide +kernel
theorem dX7_room_15 : decode cX7_room 15 = .ok (.getfield 82, 3) := by decide +kernel
theorem dX7_room_18 : decode cX7_room 18 = .ok (.aload_n 0, 1) := by decide +kernel
theorem dX7_room_19 : decode cX7_room 19 = .ok (.getfield 72, 3) := by decide +kernel
theorem dX7_room_22 : decode cX7_room 22 = .ok (.if_icmp .lt 14, 3) := by decide +kernel
theorem dX7_room_25 : decode cX7_room 25 = .ok (.aload_n 0, 1) := by decide +kernel
theorem dX7_room_26 : decode cX7_room 26 = .ok (.getfield 7, 3) := by decide +kernel
theorem dX7_room_29 : decode cX7_room 29 = .ok (.sipush 230, 3) := by decide +kernel
theorem dX7_room_32 : decode cX7_room 32 = .ok (.iaload, 1) := by decide +kernel
theorem dX7_room_33 : decode cX7_room 33 = .ok (.ifCond .ne 11, 3) := by decide +kernel
theorem dX7_room_36 : decode cX7_room 36 = .ok (.aload_n 0, 1) := by decide +kernel
theorem dX7_room_37 : decode cX7_room 37 = .ok (.invokevirtual 112, 3) := by decide +kernel
theorem dX7_room_40 : decode cX7_room 40 = .ok (.istore_n 1, 1) := by decide +kernel
theorem dX7_room_41 : decode cX7_room 41 = .ok (.goto (-31), 3) := by decide +kernel
theorem dX7_room_44 : decode cX7_room 44 = .ok (.aload_n 0, 1) := by decide +kernel
theorem dX7_room_45 : decode cX7_room 45 = .ok (.iconst 0, 1) := by decide +kernel
theorem dX7_room_46 : decode cX7_room 46 = .ok (.putfield 72, 3) := by decide +kernel
theorem dX7_room_49 : decode cX7_room 49 = .ok (.iload_n 1, 1) := by decide +kernel
theorem dX7_room_50 : decode cX7_room 50 = .ok (.ifCond .ne 11, 3) := by decide +kernel
theorem dX7_room_53 : decode cX7_room 53 = .ok (.ldc 115, 2) := by decide +kernel
theorem dX7_room_55 : decode cX7_room 55 = .ok (.aload_n 0, 1) := by decide +kernel
theorem dX7_room_56 : decode cX7_room 56 = .ok (.getfield 79, 3) := by decide +kernel
theorem dX7_room_59 : decode cX7_room 59 = .ok (.isub, 1) := by decide +kernel
theorem dX7_room_60 : decode cX7_room 60 = .ok (.ireturn, 1) := by decide +kernel
theorem dX7_room_61 : decode cX7_room 61 = .ok (.aload_n 0, 1) := by decide +kernel
theorem dX7_room_62 : decode cX7_room 62 = .ok (.sipush 189, 3) := by decide +kernel
theorem dX7_room_65 : decode cX7_room 65 = .ok (.iconst 0, 1) := by decide +kernel
theorem dX7_room_66 : decode cX7_room 66 = .ok (.invokevirtual 116, 3) := by decide +kernel
theorem dX7_room_69 : decode cX7_room 69 = .ok (.aload_n 0, 1) := by decide +kernel
theorem dX7_room_70 : decode cX7_room 70 = .ok (.iconst 0, 1) := by decide +kernel
theorem dX7_room_71 : decode cX7_room 71 = .ok (.putfield 120, 3) := by decide +kernel
theorem dX7_room_74 : decode cX7_room 74 = .ok (.aload_n 0, 1) := by decide +kernel
theorem dX7_room_75 : decode cX7_room 75 = .ok (.getfield 7, 3) := by decide +kernel
theorem dX7_room_78 : decode cX7_room 78 = .ok (.bipush 41, 2) := by decide +kernel
theorem dX7_room_80 : decode cX7_room 80 = .ok (.iaload, 1) := by decide +kernel
theorem dX7_room_81 : decode cX7_room 81 = .ok (.ireturn, 1) := by decide +kernel
theorem dX7_fault_0 : decode cX7_fault 0 = .ok (.aload_n 0, 1) := by decide +kernel
theorem dX7_fault_1 : decode cX7_fault 1 = .ok (.getfield 76, 3) := by decide +kernel
theorem dX7_fault_4 : decode cX7_fault 4 = .ok (.ireturn, 1) := by decide +kernel
theorem dX7_isRoom_0 : decode cX7_isRoom 0 = .ok (.aload_n 0, 1) := by decide +kernel
theorem dX7_isRoom_1 : decode cX7_isRoom 1 = .ok (.getfield 7, 3) := by decide +kernel
theorem dX7_isRoom_4 : decode cX7_isRoom 4 = .ok (.bipush 38, 2) := by decide +kernel
theorem dX7_isRoom_6 : decode cX7_isRoom 6 = .ok (.iaload, 1) := by decide +kernel
theorem dX7_isRoom_7 : decode cX7_isRoom 7 = .ok (.iconst 1, 1) := by decide +kernel
theorem dX7_isRoom_8 : decode cX7_isRoom 8 = .ok (.if_icmp .ne 7, 3) := by decide +kernel
theorem dX7_isRoom_11 : decode cX7_isRoom 11 = .ok (.iconst 1, 1) := by decide +kernel
theorem dX7_isRoom_12 : decode cX7_isRoom 12 = .ok (.goto 4, 3) := by decide +kernel
theorem dX7_isRoom_15 : decode cX7_isRoom 15 = .ok (.iconst 0, 1) := by decide +kernel
theorem dX7_isRoom_16 : decode cX7_isRoom 16 = .ok (.ireturn, 1) := by decide +kernel
theorem dX7_isChild_0 : decode cX7_isChild 0 = .ok (.iload_n 1, 1) := by decide +kernel
theorem dX7_isChild_1 : decode cX7_isChild 1 = .ok (.i2l, 1) := by decide +kernel
theorem dX7_isChild_2 : decode cX7_isChild 2 = .ok (.lconst 0, 1) := by decide +kernel
theorem dX7_isChild_3 : decode cX7_isChild 3 = .ok (.aload_n 0, 1) := by decide +kernel
theorem dX7_isChild_4 : decode cX7_isChild 4 = .ok (.getfield 7, 3) := by decide +kernel
theorem dX7_isChild_7 : decode cX7_isChild 7 = .ok (.bipush 41, 2) := by decide +kernel
theorem dX7_isChild_9 : decode cX7_isChild 9 = .ok (.iaload, 1) := by decide +kernel
theorem dX7_isChild_10 : decode cX7_isChild 10 = .ok (.iconst 1, 1) := by decide +kernel
theorem dX7_isChild_11 : decode cX7_isChild 11 = .ok (.isub, 1) := by decide +kernel
theorem dX7_isChild_12 : decode cX7_isChild 12 = .ok (.i2l, 1) := by decide +kernel
theorem dX7_isChild_13 : decode cX7_isChild 13 = .ok (.invokestatic 48, 3) := by decide +kernel
theorem dX7_isChild_16 : decode cX7_isChild 16 = .ok (.ireturn, 1) := by decide +kernel
theorem dX7_off_0 : decode cX7_off 0 = .ok (.iload_n 0, 1) := by decide +kernel
theorem dX7_off_1 : decode cX7_off 1 = .ok (.iload_n 1, 1) := by decide +kernel
theorem dX7_off_2 : decode cX7_off 2 = .ok (.if_icmp .ge 9, 3) := by decide +kernel
theorem dX7_off_5 : decode cX7_off 5 = .ok (.iload_n 1, 1) := by decide +kernel
theorem dX7_off_6 : decode cX7_off 6 = .ok (.iload_n 0, 1) := by decide +kernel
theorem dX7_off_7 : decode cX7_off 7 = .ok (.isub, 1) := by decide +kernel
theorem dX7_off_8 : decode cX7_off 8 = .ok (.goto 6, 3) := by decide +kernel
theorem dX7_off_11 : decode cX7_off 11 = .ok (.iload_n 0, 1) := by decide +kernel
theorem dX7_off_12 : decode cX7_off 12 = .ok (.iload_n 1, 1) := by decide +kernel
theorem dX7_off_13 : decode cX7_off 13 = .ok (.isub, 1) := by decide +kernel
theorem dX7_off_14 : decode cX7_off 14 = .ok (.ireturn, 1) := by decide +kernel
theorem dX7_isOut_0 : decode cX7_isOut 0 = .ok (.aload_n 0, 1) := by decide +kernel
theorem dX7_isOut_1 : decode cX7_isOut 1 = .ok (.getfield 7, 3) := by decide +kernel
theorem dX7_isOut_4 : decode cX7_isOut 4 = .ok (.iload_n 1, 1) := by decide +kernel
theorem dX7_isOut_5 : decode cX7_isOut 5 = .ok (.bipush 36, 2) := by decide +kernel
theorem dX7_isOut_7 : decode cX7_isOut 7 = .ok (.iadd, 1) := by decide +kernel
theorem dX7_isOut_8 : decode cX7_isOut 8 = .ok (.iaload, 1) := by decide +kernel
theorem dX7_isOut_9 : decode cX7_isOut 9 = .ok (.iload_n 2, 1) := by decide +kernel
theorem dX7_isOut_10 : decode cX7_isOut 10 = .ok (.invokestatic 123, 3) := by decide +kernel
theorem dX7_isOut_13 : decode cX7_isOut 13 = .ok (.ireturn, 1) := by decide +kernel
theorem dX7_noiseAt_0 : decode cX7_noiseAt 0 = .ok (.iconst 0, 1) := by decide +kernel
theorem dX7_noiseAt_1 : decode cX7_noiseAt 1 = .ok (.istore_n 3, 1) := by decide +kernel
theorem dX7_noiseAt_2 : decode cX7_noiseAt 2 = .ok (.iconst 0, 1) := by decide +kernel
theorem dX7_noiseAt_3 : decode cX7_noiseAt 3 = .ok (.istore 4, 2) := by decide +kernel
theorem dX7_noiseAt_5 : decode cX7_noiseAt 5 = .ok (.iload 4, 2) := by decide +kernel
theorem dX7_noiseAt_7 : decode cX7_noiseAt 7 = .ok (.aload_n 0, 1) := by decide +kernel
theorem dX7_noiseAt_8 : decode cX7_noiseAt 8 = .ok (.getfield 7, 3) := by decide +kernel
theorem dX7_noiseAt_11 : decode cX7_noiseAt 11 = .ok (.iload_n 1, 1) := by decide +kernel
theorem dX7_noiseAt_12 : decode cX7_noiseAt 12 = .ok (.bipush 41, 2) := by decide +kernel
theorem dX7_noiseAt_14 : decode cX7_noiseAt 14 = .ok (.iadd, 1) := by decide +kernel
theorem dX7_noiseAt_15 : decode cX7_noiseAt 15 = .ok (.iaload, 1) := by decide +kernel
theorem dX7_noiseAt_16 : decode cX7_noiseAt 16 = .ok (.if_icmp .ge 135, 3) := by decide +kernel
theorem dX7_noiseAt_19 : decode cX7_noiseAt 19 = .ok (.iload 4, 2) := by decide +kernel
theorem dX7_noiseAt_21 : decode cX7_noiseAt 21 = .ok (.iload_n 2, 1) := by decide +kernel
theorem dX7_noiseAt_22 : decode cX7_noiseAt 22 = .ok (.if_icmp .eq 123, 3) := by decide +kernel
theorem dX7_noiseAt_25 : decode cX7_noiseAt 25 = .ok (.aload_n 0, 1) := by decide +kernel
theorem dX7_noiseAt_26 : decode cX7_noiseAt 26 = .ok (.getfield 7, 3) := by decide +kernel
theorem dX7_noiseAt_29 : decode cX7_noiseAt 29 = .ok (.iload_n 1, 1) := by decide +kernel
theorem dX7_noiseAt_30 : decode cX7_noiseAt 30 = .ok (.bipush 8, 2) := by decide +kernel
theorem dX7_noiseAt_32 : decode cX7_noiseAt 32 = .ok (.iadd, 1) := by decide +kernel
theorem dX7_noiseAt_33 : decode cX7_noiseAt 33 = .ok (.iload 4, 2) := by decide +kernel
theorem dX7_noiseAt_35 : decode cX7_noiseAt 35 = .ok (.iadd, 1) := by decide +kernel
theorem dX7_noiseAt_36 : decode cX7_noiseAt 36 = .ok (.iaload, 1) := by decide +kernel
theorem dX7_noiseAt_37 : decode cX7_noiseAt 37 = .ok (.iconst 1, 1) := by decide +kernel
theorem dX7_noiseAt_38 : decode cX7_noiseAt 38 = .ok (.if_icmp .ne 107, 3) := by decide +kernel
theorem dX7_noiseAt_41 : decode cX7_noiseAt 41 = .ok (.aload_n 0, 1) := by decide +kernel
theorem dX7_noiseAt_42 : decode cX7_noiseAt 42 = .ok (.iload_n 1, 1) := by decide +kernel
theorem dX7_noiseAt_43 : decode cX7_noiseAt 43 = .ok (.iload 4, 2) := by decide +kernel
theorem dX7_noiseAt_45 : decode cX7_noiseAt 45 = .ok (.invokevirtual 126, 3) := by decide +kernel
theorem dX7_noiseAt_48 : decode cX7_noiseAt 48 = .ok (.ifCond .ne 97, 3) := by decide +kernel
theorem dX7_noiseAt_51 : decode cX7_noiseAt 51 = .ok (.aload_n 0, 1) := by decide +kernel
theorem dX7_noiseAt_52 : decode cX7_noiseAt 52 = .ok (.getfield 7, 3) := by decide +kernel
theorem dX7_noiseAt_55 : decode cX7_noiseAt 55 = .ok (.iload_n 1, 1) := by decide +kernel
theorem dX7_noiseAt_56 : decode cX7_noiseAt 56 = .ok (.bipush 42, 2) := by decide +kernel
theorem dX7_noiseAt_58 : decode cX7_noiseAt 58 = .ok (.iadd, 1) := by decide +kernel
theorem dX7_noiseAt_59 : decode cX7_noiseAt 59 = .ok (.iload 4, 2) := by decide +kernel
theorem dX7_noiseAt_61 : decode cX7_noiseAt 61 = .ok (.iadd, 1) := by decide +kernel
theorem dX7_noiseAt_62 : decode cX7_noiseAt 62 = .ok (.iaload, 1) := by decide +kernel
theorem dX7_noiseAt_63 : decode cX7_noiseAt 63 = .ok (.iconst 2, 1) := by decide +kernel
theorem dX7_noiseAt_64 : decode cX7_noiseAt 64 = .ok (.if_icmp .ne 20, 3) := by decide +kernel
theorem dX7_noiseAt_67 : decode cX7_noiseAt 67 = .ok (.iconst 2, 1) := by decide +kernel
theorem dX7_noiseAt_68 : decode cX7_noiseAt 68 = .ok (.aload_n 0, 1) := by decide +kernel
theorem dX7_noiseAt_69 : decode cX7_noiseAt 69 = .ok (.getfield 7, 3) := by decide +kernel
theorem dX7_noiseAt_72 : decode cX7_noiseAt 72 = .ok (.iload_n 1, 1) := by decide +kernel
theorem dX7_noiseAt_73 : decode cX7_noiseAt 73 = .ok (.bipush 56, 2) := by decide +kernel
theorem dX7_noiseAt_75 : decode cX7_noiseAt 75 = .ok (.iadd, 1) := by decide +kernel
theorem dX7_noiseAt_76 : decode cX7_noiseAt 76 = .ok (.iload 4, 2) := by decide +kernel
theorem dX7_noiseAt_78 : decode cX7_noiseAt 78 = .ok (.iadd, 1) := by decide +kernel
theorem dX7_noiseAt_79 : decode cX7_noiseAt 79 = .ok (.iaload, 1) := by decide +kernel
theorem dX7_noiseAt_80 : decode cX7_noiseAt 80 = .ok (.imul, 1) := by decide +kernel
theorem dX7_noiseAt_81 : decode cX7_noiseAt 81 = .ok (.goto 15, 3) := by decide +kernel
theorem dX7_noiseAt_84 : decode cX7_noiseAt 84 = .ok (.aload_n 0, 1) := by decide +kernel
theorem dX7_noiseAt_85 : decode cX7_noiseAt 85 = .ok (.getfield 7, 3) := by decide +kernel
theorem dX7_noiseAt_88 : decode cX7_noiseAt 88 = .ok (.iload_n 1, 1) := by decide +kernel
theorem dX7_noiseAt_89 : decode cX7_noiseAt 89 = .ok (.bipush 56, 2) := by decide +kernel
theorem dX7_noiseAt_91 : decode cX7_noiseAt 91 = .ok (.iadd, 1) := by decide +kernel
theorem dX7_noiseAt_92 : decode cX7_noiseAt 92 = .ok (.iload 4, 2) := by decide +kernel
theorem dX7_noiseAt_94 : decode cX7_noiseAt 94 = .ok (.iadd, 1) := by decide +kernel
theorem dX7_noiseAt_95 : decode cX7_noiseAt 95 = .ok (.iaload, 1) := by decide +kernel
theorem dX7_noiseAt_96 : decode cX7_noiseAt 96 = .ok (.istore 5, 2) := by decide +kernel
theorem dX7_noiseAt_98 : decode cX7_noiseAt 98 = .ok (.aload_n 0, 1) := by decide +kernel
theorem dX7_noiseAt_99 : decode cX7_noiseAt 99 = .ok (.getfield 7, 3) := by decide +kernel
theorem dX7_noiseAt_102 : decode cX7_noiseAt 102 = .ok (.iload_n 1, 1) := by decide +kernel
theorem dX7_noiseAt_103 : decode cX7_noiseAt 103 = .ok (.bipush 29, 2) := by decide +kernel
theorem dX7_noiseAt_105 : decode cX7_noiseAt 105 = .ok (.iadd, 1) := by decide +kernel
theorem dX7_noiseAt_106 : decode cX7_noiseAt 106 = .ok (.iload 4, 2) := by decide +kernel
theorem dX7_noiseAt_108 : decode cX7_noiseAt 108 = .ok (.iadd, 1) := by decide +kernel
theorem dX7_noiseAt_109 : decode cX7_noiseAt 109 = .ok (.iaload, 1) := by decide +kernel
theorem dX7_noiseAt_110 : decode cX7_noiseAt 110 = .ok (.aload_n 0, 1) := by decide +kernel
theorem dX7_noiseAt_111 : decode cX7_noiseAt 111 = .ok (.getfield 7, 3) := by decide +kernel
theorem dX7_noiseAt_114 : decode cX7_noiseAt 114 = .ok (.iload_n 1, 1) := by decide +kernel
theorem dX7_noiseAt_115 : decode cX7_noiseAt 115 = .ok (.bipush 29, 2) := by decide +kernel
theorem dX7_noiseAt_117 : decode cX7_noiseAt 117 = .ok (.iadd, 1) := by decide +kernel
theorem dX7_noiseAt_118 : decode cX7_noiseAt 118 = .ok (.iload_n 2, 1) := by decide +kernel
theorem dX7_noiseAt_119 : decode cX7_noiseAt 119 = .ok (.iadd, 1) := by decide +kernel
theorem dX7_noiseAt_120 : decode cX7_noiseAt 120 = .ok (.iaload, 1) := by decide +kernel
theorem dX7_noiseAt_121 : decode cX7_noiseAt 121 = .ok (.invokestatic 129, 3) := by decide +kernel
theorem dX7_noiseAt_124 : decode cX7_noiseAt 124 = .ok (.istore 6, 2) := by decide +kernel
theorem dX7_noiseAt_126 : decode cX7_noiseAt 126 = .ok (.iload_n 3, 1) := by decide +kernel
theorem dX7_noiseAt_127 : decode cX7_noiseAt 127 = .ok (.iload 5, 2) := by decide +kernel
theorem dX7_noiseAt_129 : decode cX7_noiseAt 129 = .ok (.iload 6, 2) := by decide +kernel
theorem dX7_noiseAt_131 : decode cX7_noiseAt 131 = .ok (.if_icmp .le 11, 3) := by decide +kernel
theorem dX7_noiseAt_134 : decode cX7_noiseAt 134 = .ok (.iload 5, 2) := by decide +kernel
theorem dX7_noiseAt_136 : decode cX7_noiseAt 136 = .ok (.iload 6, 2) := by decide +kernel
theorem dX7_noiseAt_138 : decode cX7_noiseAt 138 = .ok (.isub, 1) := by decide +kernel
theorem dX7_noiseAt_139 : decode cX7_noiseAt 139 = .ok (.goto 4, 3) := by decide +kernel
theorem dX7_noiseAt_142 : decode cX7_noiseAt 142 = .ok (.iconst 0, 1) := by decide +kernel
theorem dX7_noiseAt_143 : decode cX7_noiseAt 143 = .ok (.iadd, 1) := by decide +kernel
theorem dX7_noiseAt_144 : decode cX7_noiseAt 144 = .ok (.istore_n 3, 1) := by decide +kernel
theorem dX7_noiseAt_145 : decode cX7_noiseAt 145 = .ok (.iinc 4 1, 3) := by decide +kernel
theorem dX7_noiseAt_148 : decode cX7_noiseAt 148 = .ok (.goto (-143), 3) := by decide +kernel
theorem dX7_noiseAt_151 : decode cX7_noiseAt 151 = .ok (.iload_n 3, 1) := by decide +kernel
theorem dX7_noiseAt_152 : decode cX7_noiseAt 152 = .ok (.ireturn, 1) := by decide +kernel
theorem dX7_bears_0 : decode cX7_bears 0 = .ok (.aload_n 0, 1) := by decide +kernel
theorem dX7_bears_1 : decode cX7_bears 1 = .ok (.getfield 7, 3) := by decide +kernel
theorem dX7_bears_4 : decode cX7_bears 4 = .ok (.iload_n 1, 1) := by decide +kernel
theorem dX7_bears_5 : decode cX7_bears 5 = .ok (.bipush 42, 2) := by decide +kernel
theorem dX7_bears_7 : decode cX7_bears 7 = .ok (.iadd, 1) := by decide +kernel
theorem dX7_bears_8 : decode cX7_bears 8 = .ok (.iload_n 2, 1) := by decide +kernel
theorem dX7_bears_9 : decode cX7_bears 9 = .ok (.iadd, 1) := by decide +kernel
theorem dX7_bears_10 : decode cX7_bears 10 = .ok (.iaload, 1) := by decide +kernel
theorem dX7_bears_11 : decode cX7_bears 11 = .ok (.iconst 4, 1) := by decide +kernel
theorem dX7_bears_12 : decode cX7_bears 12 = .ok (.if_icmp .lt 19, 3) := by decide +kernel
theorem dX7_bears_15 : decode cX7_bears 15 = .ok (.iconst 2, 1) := by decide +kernel
theorem dX7_bears_16 : decode cX7_bears 16 = .ok (.aload_n 0, 1) := by decide +kernel
theorem dX7_bears_17 : decode cX7_bears 17 = .ok (.getfield 7, 3) := by decide +kernel
theorem dX7_bears_20 : decode cX7_bears 20 = .ok (.iload_n 1, 1) := by decide +kernel
theorem dX7_bears_21 : decode cX7_bears 21 = .ok (.bipush 49, 2) := by decide +kernel
theorem dX7_bears_23 : decode cX7_bears 23 = .ok (.iadd, 1) := by decide +kernel
theorem dX7_bears_24 : decode cX7_bears 24 = .ok (.iload_n 2, 1) := by decide +kernel
theorem dX7_bears_25 : decode cX7_bears 25 = .ok (.iadd, 1) := by decide +kernel
theorem dX7_bears_26 : decode cX7_bears 26 = .ok (.iaload, 1) := by decide +kernel
theorem dX7_bears_27 : decode cX7_bears 27 = .ok (.imul, 1) := by decide +kernel
theorem dX7_bears_28 : decode cX7_bears 28 = .ok (.goto 14, 3) := by decide +kernel
theorem dX7_bears_31 : decode cX7_bears 31 = .ok (.aload_n 0, 1) := by decide +kernel
theorem dX7_bears_32 : decode cX7_bears 32 = .ok (.getfield 7, 3) := by decide +kernel
theorem dX7_bears_35 : decode cX7_bears 35 = .ok (.iload_n 1, 1) := by decide +kernel
theorem dX7_bears_36 : decode cX7_bears 36 = .ok (.bipush 49, 2) := by decide +kernel
theorem dX7_bears_38 : decode cX7_bears 38 = .ok (.iadd, 1) := by decide +kernel
theorem dX7_bears_39 : decode cX7_bears 39 = .ok (.iload_n 2, 1) := by decide +kernel
theorem dX7_bears_40 : decode cX7_bears 40 = .ok (.iadd, 1) := by decide +kernel
theorem dX7_bears_41 : decode cX7_bears 41 = .ok (.iaload, 1) := by decide +kernel
theorem dX7_bears_42 : decode cX7_bears 42 = .ok (.ireturn, 1) := by decide +kernel
theorem dX7_wakesUp_0 : decode cX7_wakesUp 0 = .ok (.aload_n 0, 1) := by decide +kernel
theorem dX7_wakesUp_1 : decode cX7_wakesUp 1 = .ok (.getfield 7, 3) := by decide +kernel
theorem dX7_wakesUp_4 : decode cX7_wakesUp 4 = .ok (.iload_n 1, 1) := by decide +kernel
theorem dX7_wakesUp_5 : decode cX7_wakesUp 5 = .ok (.bipush 42, 2) := by decide +kernel
theorem dX7_wakesUp_7 : decode cX7_wakesUp 7 = .ok (.iadd, 1) := by decide +kernel
theorem dX7_wakesUp_8 : decode cX7_wakesUp 8 = .ok (.iload_n 2, 1) := by decide +kernel
theorem dX7_wakesUp_9 : decode cX7_wakesUp 9 = .ok (.iadd, 1) := by decide +kernel
theorem dX7_wakesUp_10 : decode cX7_wakesUp 10 = .ok (.iaload, 1) := by decide +kernel
theorem dX7_wakesUp_11 : decode cX7_wakesUp 11 = .ok (.iconst 5, 1) := by decide +kernel
theorem dX7_wakesUp_12 : decode cX7_wakesUp 12 = .ok (.if_icmp .ne 7, 3) := by decide +kernel
theorem dX7_wakesUp_15 : decode cX7_wakesUp 15 = .ok (.iconst 1, 1) := by decide +kernel
theorem dX7_wakesUp_16 : decode cX7_wakesUp 16 = .ok (.goto 4, 3) := by decide +kernel
theorem dX7_wakesUp_19 : decode cX7_wakesUp 19 = .ok (.iconst 0, 1) := by decide +kernel
theorem dX7_wakesUp_20 : decode cX7_wakesUp 20 = .ok (.istore_n 3, 1) := by decide +kernel
theorem dX7_wakesUp_21 : decode cX7_wakesUp 21 = .ok (.aload_n 0, 1) := by decide +kernel
theorem dX7_wakesUp_22 : decode cX7_wakesUp 22 = .ok (.getfield 7, 3) := by decide +kernel
theorem dX7_wakesUp_25 : decode cX7_wakesUp 25 = .ok (.iload_n 1, 1) := by decide +kernel
theorem dX7_wakesUp_26 : decode cX7_wakesUp 26 = .ok (.bipush 8, 2) := by decide +kernel
theorem dX7_wakesUp_28 : decode cX7_wakesUp 28 = .ok (.iadd, 1) := by decide +kernel
theorem dX7_wakesUp_29 : decode cX7_wakesUp 29 = .ok (.iload_n 2, 1) := by decide +kernel
theorem dX7_wakesUp_30 : decode cX7_wakesUp 30 = .ok (.iadd, 1) := by decide +kernel
theorem dX7_wakesUp_31 : decode cX7_wakesUp 31 = .ok (.iload_n 3, 1) := by decide +kernel
theorem dX7_wakesUp_32 : decode cX7_wakesUp 32 = .ok (.ifCond .eq 7, 3) := by decide +kernel
theorem dX7_wakesUp_35 : decode cX7_wakesUp 35 = .ok (.iconst 0, 1) := by decide +kernel
theorem dX7_wakesUp_36 : decode cX7_wakesUp 36 = .ok (.goto 4, 3) := by decide +kernel
theorem dX7_wakesUp_39 : decode cX7_wakesUp 39 = .ok (.iconst 1, 1) := by decide +kernel
theorem dX7_wakesUp_40 : decode cX7_wakesUp 40 = .ok (.iastore, 1) := by decide +kernel
theorem dX7_wakesUp_41 : decode cX7_wakesUp 41 = .ok (.aload_n 0, 1) := by decide +kernel
theorem dX7_wakesUp_42 : decode cX7_wakesUp 42 = .ok (.getfield 7, 3) := by decide +kernel
theorem dX7_wakesUp_45 : decode cX7_wakesUp 45 = .ok (.iload_n 1, 1) := by decide +kernel
theorem dX7_wakesUp_46 : decode cX7_wakesUp 46 = .ok (.bipush 15, 2) := by decide +kernel
theorem dX7_wakesUp_48 : decode cX7_wakesUp 48 = .ok (.iadd, 1) := by decide +kernel
theorem dX7_wakesUp_49 : decode cX7_wakesUp 49 = .ok (.iload_n 2, 1) := by decide +kernel
theorem dX7_wakesUp_50 : decode cX7_wakesUp 50 = .ok (.iadd, 1) := by decide +kernel
theorem dX7_wakesUp_51 : decode cX7_wakesUp 51 = .ok (.iload_n 3, 1) := by decide +kernel
theorem dX7_wakesUp_52 : decode cX7_wakesUp 52 = .ok (.ifCond .eq 7, 3) := by decide +kernel
theorem dX7_wakesUp_55 : decode cX7_wakesUp 55 = .ok (.iconst 0, 1) := by decide +kernel
theorem dX7_wakesUp_56 : decode cX7_wakesUp 56 = .ok (.goto 12, 3) := by decide +kernel
theorem dX7_wakesUp_59 : decode cX7_wakesUp 59 = .ok (.aload_n 0, 1) := by decide +kernel
theorem dX7_wakesUp_60 : decode cX7_wakesUp 60 = .ok (.getfield 7, 3) := by decide +kernel
theorem dX7_wakesUp_63 : decode cX7_wakesUp 63 = .ok (.iload_n 1, 1) := by decide +kernel
theorem dX7_wakesUp_64 : decode cX7_wakesUp 64 = .ok (.bipush 40, 2) := by decide +kernel
theorem dX7_wakesUp_66 : decode cX7_wakesUp 66 = .ok (.iadd, 1) := by decide +kernel
theorem dX7_wakesUp_67 : decode cX7_wakesUp 67 = .ok (.iaload, 1) := by decide +kernel
theorem dX7_wakesUp_68 : decode cX7_wakesUp 68 = .ok (.iastore, 1) := by decide +kernel
theorem dX7_wakesUp_69 : decode cX7_wakesUp 69 = .ok (.aload_n 0, 1) := by decide +kernel
theorem dX7_wakesUp_70 : decode cX7_wakesUp 70 = .ok (.getfield 7, 3) := by decide +kernel
theorem dX7_wakesUp_73 : decode cX7_wakesUp 73 = .ok (.iload_n 1, 1) := by decide +kernel
theorem dX7_wakesUp_74 : decode cX7_wakesUp 74 = .ok (.bipush 22, 2) := by decide +kernel
theorem dX7_wakesUp_76 : decode cX7_wakesUp 76 = .ok (.iadd, 1) := by decide +kernel
theorem dX7_wakesUp_77 : decode cX7_wakesUp 77 = .ok (.iload_n 2, 1) := by decide +kernel
theorem dX7_wakesUp_78 : decode cX7_wakesUp 78 = .ok (.iadd, 1) := by decide +kernel
theorem dX7_wakesUp_79 : decode cX7_wakesUp 79 = .ok (.iconst 0, 1) := by decide +kernel
theorem dX7_wakesUp_80 : decode cX7_wakesUp 80 = .ok (.iastore, 1) := by decide +kernel
theorem dX7_wakesUp_81 : decode cX7_wakesUp 81 = .ok (.return_, 1) := by decide +kernel
theorem dX7_weepsOn_0 : decode cX7_weepsOn 0 = .ok (.aload_n 0, 1) := by decide +kernel
theorem dX7_weepsOn_1 : decode cX7_weepsOn 1 = .ok (.getfield 7, 3) := by decide +kernel
theorem dX7_weepsOn_4 : decode cX7_weepsOn 4 = .ok (.iload_n 1, 1) := by decide +kernel
theorem dX7_weepsOn_5 : decode cX7_weepsOn 5 = .ok (.bipush 15, 2) := by decide +kernel
theorem dX7_weepsOn_7 : decode cX7_weepsOn 7 = .ok (.iadd, 1) := by decide +kernel
theorem dX7_weepsOn_8 : decode cX7_weepsOn 8 = .ok (.iload_n 2, 1) := by decide +kernel
theorem dX7_weepsOn_9 : decode cX7_weepsOn 9 = .ok (.iadd, 1) := by decide +kernel
theorem dX7_weepsOn_10 : decode cX7_weepsOn 10 = .ok (.dup2, 1) := by decide +kernel
theorem dX7_weepsOn_11 : decode cX7_weepsOn 11 = .ok (.iaload, 1) := by decide +kernel
theorem dX7_weepsOn_12 : decode cX7_weepsOn 12 = .ok (.iload_n 3, 1) := by decide +kernel
theorem dX7_weepsOn_13 : decode cX7_weepsOn 13 = .ok (.isub, 1) := by decide +kernel
theorem dX7_weepsOn_14 : decode cX7_weepsOn 14 = .ok (.iastore, 1) := by decide +kernel
theorem dX7_weepsOn_15 : decode cX7_weepsOn 15 = .ok (.aload_n 0, 1) := by decide +kernel
theorem dX7_weepsOn_16 : decode cX7_weepsOn 16 = .ok (.getfield 7, 3) := by decide +kernel
theorem dX7_weepsOn_19 : decode cX7_weepsOn 19 = .ok (.iload_n 1, 1) := by decide +kernel
theorem dX7_weepsOn_20 : decode cX7_weepsOn 20 = .ok (.bipush 15, 2) := by decide +kernel
theorem dX7_weepsOn_22 : decode cX7_weepsOn 22 = .ok (.iadd, 1) := by decide +kernel
theorem dX7_weepsOn_23 : decode cX7_weepsOn 23 = .ok (.iload_n 2, 1) := by decide +kernel
theorem dX7_weepsOn_24 : decode cX7_weepsOn 24 = .ok (.iadd, 1) := by decide +kernel
theorem dX7_weepsOn_25 : decode cX7_weepsOn 25 = .ok (.iaload, 1) := by decide +kernel
theorem dX7_weepsOn_26 : decode cX7_weepsOn 26 = .ok (.ifCond .gt 39, 3) := by decide +kernel
theorem dX7_weepsOn_29 : decode cX7_weepsOn 29 = .ok (.aload_n 0, 1) := by decide +kernel
theorem dX7_weepsOn_30 : decode cX7_weepsOn 30 = .ok (.getfield 7, 3) := by decide +kernel
theorem dX7_weepsOn_33 : decode cX7_weepsOn 33 = .ok (.iload_n 1, 1) := by decide +kernel
theorem dX7_weepsOn_34 : decode cX7_weepsOn 34 = .ok (.bipush 15, 2) := by decide +kernel
theorem dX7_weepsOn_36 : decode cX7_weepsOn 36 = .ok (.iadd, 1) := by decide +kernel
theorem dX7_weepsOn_37 : decode cX7_weepsOn 37 = .ok (.iload_n 2, 1) := by decide +kernel
theorem dX7_weepsOn_38 : decode cX7_weepsOn 38 = .ok (.iadd, 1) := by decide +kernel
theorem dX7_weepsOn_39 : decode cX7_weepsOn 39 = .ok (.iconst 0, 1) := by decide +kernel
theorem dX7_weepsOn_40 : decode cX7_weepsOn 40 = .ok (.iastore, 1) := by decide +kernel
theorem dX7_weepsOn_41 : decode cX7_weepsOn 41 = .ok (.aload_n 0, 1) := by decide +kernel
theorem dX7_weepsOn_42 : decode cX7_weepsOn 42 = .ok (.getfield 7, 3) := by decide +kernel
theorem dX7_weepsOn_45 : decode cX7_weepsOn 45 = .ok (.iload_n 1, 1) := by decide +kernel
theorem dX7_weepsOn_46 : decode cX7_weepsOn 46 = .ok (.bipush 8, 2) := by decide +kernel
theorem dX7_weepsOn_48 : decode cX7_weepsOn 48 = .ok (.iadd, 1) := by decide +kernel
theorem dX7_weepsOn_49 : decode cX7_weepsOn 49 = .ok (.iload_n 2, 1) := by decide +kernel
theorem dX7_weepsOn_50 : decode cX7_weepsOn 50 = .ok (.iadd, 1) := by decide +kernel
theorem dX7_weepsOn_51 : decode cX7_weepsOn 51 = .ok (.iconst 0, 1) := by decide +kernel
theorem dX7_weepsOn_52 : decode cX7_weepsOn 52 = .ok (.iastore, 1) := by decide +kernel
theorem dX7_weepsOn_53 : decode cX7_weepsOn 53 = .ok (.aload_n 0, 1) := by decide +kernel
theorem dX7_weepsOn_54 : decode cX7_weepsOn 54 = .ok (.getfield 7, 3) := by decide +kernel
theorem dX7_weepsOn_57 : decode cX7_weepsOn 57 = .ok (.iload_n 1, 1) := by decide +kernel
theorem dX7_weepsOn_58 : decode cX7_weepsOn 58 = .ok (.bipush 22, 2) := by decide +kernel
theorem dX7_weepsOn_60 : decode cX7_weepsOn 60 = .ok (.iadd, 1) := by decide +kernel
theorem dX7_weepsOn_61 : decode cX7_weepsOn 61 = .ok (.iload_n 2, 1) := by decide +kernel
theorem dX7_weepsOn_62 : decode cX7_weepsOn 62 = .ok (.iadd, 1) := by decide +kernel
theorem dX7_weepsOn_63 : decode cX7_weepsOn 63 = .ok (.iconst 0, 1) := by decide +kernel
theorem dX7_weepsOn_64 : decode cX7_weepsOn 64 = .ok (.iastore, 1) := by decide +kernel
theorem dX7_weepsOn_65 : decode cX7_weepsOn 65 = .ok (.return_, 1) := by decide +kernel
theorem dX7_liesOn_0 : decode cX7_liesOn 0 = .ok (.aload_n 0, 1) := by decide +kernel
theorem dX7_liesOn_1 : decode cX7_liesOn 1 = .ok (.getfield 7, 3) := by decide +kernel
theorem dX7_liesOn_4 : decode cX7_liesOn 4 = .ok (.iload_n 1, 1) := by decide +kernel
theorem dX7_liesOn_5 : decode cX7_liesOn 5 = .ok (.bipush 37, 2) := by decide +kernel
theorem dX7_liesOn_7 : decode cX7_liesOn 7 = .ok (.iadd, 1) := by decide +kernel
theorem dX7_liesOn_8 : decode cX7_liesOn 8 = .ok (.iaload, 1) := by decide +kernel
theorem dX7_liesOn_9 : decode cX7_liesOn 9 = .ok (.iload_n 2, 1) := by decide +kernel
theorem dX7_liesOn_10 : decode cX7_liesOn 10 = .ok (.invokestatic 123, 3) := by decide +kernel
theorem dX7_liesOn_13 : decode cX7_liesOn 13 = .ok (.istore 4, 2) := by decide +kernel
theorem dX7_liesOn_15 : decode cX7_liesOn 15 = .ok (.iload 4, 2) := by decide +kernel
theorem dX7_liesOn_17 : decode cX7_liesOn 17 = .ok (.ifCond .eq 7, 3) := by decide +kernel
theorem dX7_liesOn_20 : decode cX7_liesOn 20 = .ok (.iconst 2, 1) := by decide +kernel
theorem dX7_liesOn_21 : decode cX7_liesOn 21 = .ok (.goto 23, 3) := by decide +kernel
theorem dX7_liesOn_24 : decode cX7_liesOn 24 = .ok (.aload_n 0, 1) := by decide +kernel
theorem dX7_liesOn_25 : decode cX7_liesOn 25 = .ok (.getfield 7, 3) := by decide +kernel
theorem dX7_liesOn_28 : decode cX7_liesOn 28 = .ok (.iload_n 1, 1) := by decide +kernel
theorem dX7_liesOn_29 : decode cX7_liesOn 29 = .ok (.bipush 42, 2) := by decide +kernel
theorem dX7_liesOn_31 : decode cX7_liesOn 31 = .ok (.iadd, 1) := by decide +kernel
theorem dX7_liesOn_32 : decode cX7_liesOn 32 = .ok (.iload_n 2, 1) := by decide +kernel
theorem dX7_liesOn_33 : decode cX7_liesOn 33 = .ok (.iadd, 1) := by decide +kernel
theorem dX7_liesOn_34 : decode cX7_liesOn 34 = .ok (.iaload, 1) := by decide +kernel
theorem dX7_liesOn_35 : decode cX7_liesOn 35 = .ok (.iconst 3, 1) := by decide +kernel
theorem dX7_liesOn_36 : decode cX7_liesOn 36 = .ok (.if_icmp .ne 7, 3) := by decide +kernel
theorem dX7_liesOn_39 : decode cX7_liesOn 39 = .ok (.iconst 0, 1) := by decide +kernel
theorem dX7_liesOn_40 : decode cX7_liesOn 40 = .ok (.goto 4, 3) := by decide +kernel
theorem dX7_liesOn_43 : decode cX7_liesOn 43 = .ok (.iconst 1, 1) := by decide +kernel
theorem dX7_liesOn_44 : decode cX7_liesOn 44 = .ok (.istore 5, 2) := by decide +kernel
theorem dX7_liesOn_46 : decode cX7_liesOn 46 = .ok (.aload_n 0, 1) := by decide +kernel
theorem dX7_liesOn_47 : decode cX7_liesOn 47 = .ok (.getfield 7, 3) := by decide +kernel
theorem dX7_liesOn_50 : decode cX7_liesOn 50 = .ok (.iload_n 1, 1) := by decide +kernel
theorem dX7_liesOn_51 : decode cX7_liesOn 51 = .ok (.bipush 22, 2) := by decide +kernel
theorem dX7_liesOn_53 : decode cX7_liesOn 53 = .ok (.iadd, 1) := by decide +kernel

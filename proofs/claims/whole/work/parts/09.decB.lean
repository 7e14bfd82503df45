/-! what stands at each place of the code -/
theorem dX6_init_0 : decode cX6_init 0 = .ok (.aload_n 0, 1) := by decide +kernel
theorem dX6_init_1 : decode cX6_init 1 = .ok (.invokespecial 1, 3) := by decide +kernel
theorem dX6_init_4 : decode cX6_init 4 = .ok (.aload_n 0, 1) := by decide +kernel
theorem dX6_init_5 : decode cX6_init 5 = .ok (.bipush 8, 2) := by decide +kernel
theorem dX6_init_7 : decode cX6_init 7 = .ok (.anewarray 9, 3) := by decide +kernel
theorem dX6_init_10 : decode cX6_init 10 = .ok (.putfield 11, 3) := by decide +kernel
theorem dX6_init_13 : decode cX6_init 13 = .ok (.aload_n 0, 1) := by decide +kernel
theorem dX6_init_14 : decode cX6_init 14 = .ok (.new 15, 3) := by decide +kernel
theorem dX6_init_17 : decode cX6_init 17 = .ok (.dup, 1) := by decide +kernel
theorem dX6_init_18 : decode cX6_init 18 = .ok (.invokespecial 17, 3) := by decide +kernel
theorem dX6_init_21 : decode cX6_init 21 = .ok (.putfield 18, 3) := by decide +kernel
theorem dX6_init_24 : decode cX6_init 24 = .ok (.aload_n 0, 1) := by decide +kernel
theorem dX6_init_25 : decode cX6_init 25 = .ok (.new 22, 3) := by decide +kernel
theorem dX6_init_28 : decode cX6_init 28 = .ok (.dup, 1) := by decide +kernel
theorem dX6_init_29 : decode cX6_init 29 = .ok (.invokespecial 24, 3) := by decide +kernel
theorem dX6_init_32 : decode cX6_init 32 = .ok (.putfield 25, 3) := by decide +kernel
theorem dX6_init_35 : decode cX6_init 35 = .ok (.aload_n 0, 1) := by decide +kernel
theorem dX6_init_36 : decode cX6_init 36 = .ok (.new 22, 3) := by decide +kernel
theorem dX6_init_39 : decode cX6_init 39 = .ok (.dup, 1) := by decide +kernel
theorem dX6_init_40 : decode cX6_init 40 = .ok (.invokespecial 24, 3) := by decide +kernel
theorem dX6_init_43 : decode cX6_init 43 = .ok (.putfield 29, 3) := by decide +kernel
theorem dX6_init_46 : decode cX6_init 46 = .ok (.aload_n 0, 1) := by decide +kernel
theorem dX6_init_47 : decode cX6_init 47 = .ok (.iconst 2, 1) := by decide +kernel
theorem dX6_init_48 : decode cX6_init 48 = .ok (.anewarray 22, 3) := by decide +kernel
theorem dX6_init_51 : decode cX6_init 51 = .ok (.putfield 32, 3) := by decide +kernel
theorem dX6_init_54 : decode cX6_init 54 = .ok (.aload_n 0, 1) := by decide +kernel
theorem dX6_init_55 : decode cX6_init 55 = .ok (.new 36, 3) := by decide +kernel
theorem dX6_init_58 : decode cX6_init 58 = .ok (.dup, 1) := by decide +kernel
theorem dX6_init_59 : decode cX6_init 59 = .ok (.invokespecial 38, 3) := by decide +kernel
theorem dX6_init_62 : decode cX6_init 62 = .ok (.putfield 39, 3) := by decide +kernel
theorem dX6_init_65 : decode cX6_init 65 = .ok (.aload_n 0, 1) := by decide +kernel
theorem dX6_init_66 : decode cX6_init 66 = .ok (.new 43, 3) := by decide +kernel
theorem dX6_init_69 : decode cX6_init 69 = .ok (.dup, 1) := by decide +kernel
theorem dX6_init_70 : decode cX6_init 70 = .ok (.invokespecial 45, 3) := by decide +kernel
theorem dX6_init_73 : decode cX6_init 73 = .ok (.putfield 46, 3) := by decide +kernel
theorem dX6_init_76 : decode cX6_init 76 = .ok (.aload_n 0, 1) := by decide +kernel
theorem dX6_init_77 : decode cX6_init 77 = .ok (.new 50, 3) := by decide +kernel
theorem dX6_init_80 : decode cX6_init 80 = .ok (.dup, 1) := by decide +kernel
theorem dX6_init_81 : decode cX6_init 81 = .ok (.invokespecial 52, 3) := by decide +kernel
theorem dX6_init_84 : decode cX6_init 84 = .ok (.putfield 53, 3) := by decide +kernel
theorem dX6_init_87 : decode cX6_init 87 = .ok (.iconst 0, 1) := by decide +kernel
theorem dX6_init_88 : decode cX6_init 88 = .ok (.istore_n 1, 1) := by decide +kernel
theorem dX6_init_89 : decode cX6_init 89 = .ok (.iload_n 1, 1) := by decide +kernel
theorem dX6_init_90 : decode cX6_init 90 = .ok (.bipush 8, 2) := by decide +kernel
theorem dX6_init_92 : decode cX6_init 92 = .ok (.if_icmp .ge 22, 3) := by decide +kernel
theorem dX6_init_95 : decode cX6_init 95 = .ok (.aload_n 0, 1) := by decide +kernel
theorem dX6_init_96 : decode cX6_init 96 = .ok (.getfield 11, 3) := by decide +kernel
theorem dX6_init_99 : decode cX6_init 99 = .ok (.iload_n 1, 1) := by decide +kernel
theorem dX6_init_100 : decode cX6_init 100 = .ok (.new 9, 3) := by decide +kernel
theorem dX6_init_103 : decode cX6_init 103 = .ok (.dup, 1) := by decide +kernel
theorem dX6_init_104 : decode cX6_init 104 = .ok (.invokespecial 57, 3) := by decide +kernel
theorem dX6_init_107 : decode cX6_init 107 = .ok (.aastore, 1) := by decide +kernel
theorem dX6_init_108 : decode cX6_init 108 = .ok (.iinc 1 1, 3) := by decide +kernel
theorem dX6_init_111 : decode cX6_init 111 = .ok (.goto (-22), 3) := by decide +kernel
theorem dX6_init_114 : decode cX6_init 114 = .ok (.iconst 0, 1) := by decide +kernel
theorem dX6_init_115 : decode cX6_init 115 = .ok (.istore_n 1, 1) := by decide +kernel
theorem dX6_init_116 : decode cX6_init 116 = .ok (.iload_n 1, 1) := by decide +kernel
theorem dX6_init_117 : decode cX6_init 117 = .ok (.iconst 2, 1) := by decide +kernel
theorem dX6_init_118 : decode cX6_init 118 = .ok (.if_icmp .ge 22, 3) := by decide +kernel
theorem dX6_init_121 : decode cX6_init 121 = .ok (.aload_n 0, 1) := by decide +kernel
theorem dX6_init_122 : decode cX6_init 122 = .ok (.getfield 32, 3) := by decide +kernel
theorem dX6_init_125 : decode cX6_init 125 = .ok (.iload_n 1, 1) := by decide +kernel
theorem dX6_init_126 : decode cX6_init 126 = .ok (.new 22, 3) := by decide +kernel
theorem dX6_init_129 : decode cX6_init 129 = .ok (.dup, 1) := by decide +kernel
theorem dX6_init_130 : decode cX6_init 130 = .ok (.invokespecial 24, 3) := by decide +kernel
theorem dX6_init_133 : decode cX6_init 133 = .ok (.aastore, 1) := by decide +kernel
theorem dX6_init_134 : decode cX6_init 134 = .ok (.iinc 1 1, 3) := by decide +kernel
theorem dX6_init_137 : decode cX6_init 137 = .ok (.goto (-21), 3) := by decide +kernel
theorem dX6_init_140 : decode cX6_init 140 = .ok (.return_, 1) := by decide +kernel
theorem dX6_row_0 : decode cX6_row 0 = .ok (.iload_n 1, 1) := by decide +kernel
theorem dX6_row_1 : decode cX6_row 1 = .ok (.invokestatic 58, 3) := by decide +kernel
theorem dX6_row_4 : decode cX6_row 4 = .ok (.ifCond .ne 18, 3) := by decide +kernel
theorem dX6_row_7 : decode cX6_row 7 = .ok (.iload_n 2, 1) := by decide +kernel
theorem dX6_row_8 : decode cX6_row 8 = .ok (.iconst 0, 1) := by decide +kernel
theorem dX6_row_9 : decode cX6_row 9 = .ok (.iconst 2, 1) := by decide +kernel
theorem dX6_row_10 : decode cX6_row 10 = .ok (.invokestatic 62, 3) := by decide +kernel
theorem dX6_row_13 : decode cX6_row 13 = .ok (.ifCond .ne 9, 3) := by decide +kernel
theorem dX6_row_16 : decode cX6_row 16 = .ok (.iload_n 3, 1) := by decide +kernel
theorem dX6_row_17 : decode cX6_row 17 = .ok (.bipush 40, 2) := by decide +kernel
theorem dX6_row_19 : decode cX6_row 19 = .ok (.if_icmp .le 6, 3) := by decide +kernel
theorem dX6_row_22 : decode cX6_row 22 = .ok (.ldc 66, 2) := by decide +kernel
theorem dX6_row_24 : decode cX6_row 24 = .ok (.ireturn, 1) := by decide +kernel
theorem dX6_row_25 : decode cX6_row 25 = .ok (.iload_n 3, 1) := by decide +kernel
theorem dX6_row_26 : decode cX6_row 26 = .ok (.ifCond .ge 9, 3) := by decide +kernel
theorem dX6_row_29 : decode cX6_row 29 = .ok (.aload_n 0, 1) := by decide +kernel
theorem dX6_row_30 : decode cX6_row 30 = .ok (.iconst 4, 1) := by decide +kernel
theorem dX6_row_31 : decode cX6_row 31 = .ok (.invokevirtual 67, 3) := by decide +kernel
theorem dX6_row_34 : decode cX6_row 34 = .ok (.ireturn, 1) := by decide +kernel
theorem dX6_row_35 : decode cX6_row 35 = .ok (.aload_n 0, 1) := by decide +kernel
theorem dX6_row_36 : decode cX6_row 36 = .ok (.getfield 11, 3) := by decide +kernel
theorem dX6_row_39 : decode cX6_row 39 = .ok (.iload_n 1, 1) := by decide +kernel
theorem dX6_row_40 : decode cX6_row 40 = .ok (.aaload, 1) := by decide +kernel
theorem dX6_row_41 : decode cX6_row 41 = .ok (.iload_n 2, 1) := by decide +kernel
theorem dX6_row_42 : decode cX6_row 42 = .ok (.iload_n 3, 1) := by decide +kernel
theorem dX6_row_43 : decode cX6_row 43 = .ok (.invokevirtual 71, 3) := by decide +kernel
theorem dX6_row_46 : decode cX6_row 46 = .ok (.aload_n 0, 1) := by decide +kernel
theorem dX6_row_47 : decode cX6_row 47 = .ok (.iload_n 3, 1) := by decide +kernel
theorem dX6_row_48 : decode cX6_row 48 = .ok (.invokevirtual 75, 3) := by decide +kernel
theorem dX6_row_51 : decode cX6_row 51 = .ok (.ireturn, 1) := by decide +kernel
theorem dX6_set_0 : decode cX6_set 0 = .ok (.iload_n 1, 1) := by decide +kernel
theorem dX6_set_1 : decode cX6_set 1 = .ok (.invokestatic 58, 3) := by decide +kernel
theorem dX6_set_4 : decode cX6_set 4 = .ok (.ifCond .eq 6, 3) := by decide +kernel
theorem dX6_set_7 : decode cX6_set 7 = .ok (.ldc 66, 2) := by decide +kernel
theorem dX6_set_9 : decode cX6_set 9 = .ok (.ireturn, 1) := by decide +kernel
theorem dX6_set_10 : decode cX6_set 10 = .ok (.aload_n 0, 1) := by decide +kernel
theorem dX6_set_11 : decode cX6_set 11 = .ok (.getfield 11, 3) := by decide +kernel
theorem dX6_set_14 : decode cX6_set 14 = .ok (.iload_n 1, 1) := by decide +kernel
theorem dX6_set_15 : decode cX6_set 15 = .ok (.aaload, 1) := by decide +kernel
theorem dX6_set_16 : decode cX6_set 16 = .ok (.iload_n 2, 1) := by decide +kernel
theorem dX6_set_17 : decode cX6_set 17 = .ok (.iconst 1, 1) := by decide +kernel
theorem dX6_set_18 : decode cX6_set 18 = .ok (.invokevirtual 78, 3) := by decide +kernel
theorem dX6_set_21 : decode cX6_set 21 = .ok (.istore 4, 2) := by decide +kernel
theorem dX6_set_23 : decode cX6_set 23 = .ok (.iload 4, 2) := by decide +kernel
theorem dX6_set_25 : decode cX6_set 25 = .ok (.ifCond .eq 10, 3) := by decide +kernel
theorem dX6_set_28 : decode cX6_set 28 = .ok (.aload_n 0, 1) := by decide +kernel
theorem dX6_set_29 : decode cX6_set 29 = .ok (.iload 4, 2) := by decide +kernel
theorem dX6_set_31 : decode cX6_set 31 = .ok (.invokevirtual 67, 3) := by decide +kernel
theorem dX6_set_34 : decode cX6_set 34 = .ok (.ireturn, 1) := by decide +kernel
theorem dX6_set_35 : decode cX6_set 35 = .ok (.aload_n 0, 1) := by decide +kernel
theorem dX6_set_36 : decode cX6_set 36 = .ok (.getfield 11, 3) := by decide +kernel
theorem dX6_set_39 : decode cX6_set 39 = .ok (.iload_n 1, 1) := by decide +kernel
theorem dX6_set_40 : decode cX6_set 40 = .ok (.aaload, 1) := by decide +kernel
theorem dX6_set_41 : decode cX6_set 41 = .ok (.getfield 82, 3) := by decide +kernel
theorem dX6_set_44 : decode cX6_set 44 = .ok (.iload_n 2, 1) := by decide +kernel
theorem dX6_set_45 : decode cX6_set 45 = .ok (.aload_n 0, 1) := by decide +kernel
theorem dX6_set_46 : decode cX6_set 46 = .ok (.getfield 11, 3) := by decide +kernel
theorem dX6_set_49 : decode cX6_set 49 = .ok (.iload_n 1, 1) := by decide +kernel
theorem dX6_set_50 : decode cX6_set 50 = .ok (.aaload, 1) := by decide +kernel
theorem dX6_set_51 : decode cX6_set 51 = .ok (.iload_n 3, 1) := by decide +kernel
theorem dX6_set_52 : decode cX6_set 52 = .ok (.invokevirtual 86, 3) := by decide +kernel
theorem dX6_set_55 : decode cX6_set 55 = .ok (.iastore, 1) := by decide +kernel
theorem dX6_set_56 : decode cX6_set 56 = .ok (.aload_n 0, 1) := by decide +kernel
theorem dX6_set_57 : decode cX6_set 57 = .ok (.aload_n 0, 1) := by decide +kernel
theorem dX6_set_58 : decode cX6_set 58 = .ok (.getfield 11, 3) := by decide +kernel
theorem dX6_set_61 : decode cX6_set 61 = .ok (.iload_n 1, 1) := by decide +kernel
theorem dX6_set_62 : decode cX6_set 62 = .ok (.aaload, 1) := by decide +kernel
theorem dX6_set_63 : decode cX6_set 63 = .ok (.getfield 82, 3) := by decide +kernel
theorem dX6_set_66 : decode cX6_set 66 = .ok (.iload_n 2, 1) := by decide +kernel
theorem dX6_set_67 : decode cX6_set 67 = .ok (.iaload, 1) := by decide +kernel
theorem dX6_set_68 : decode cX6_set 68 = .ok (.invokevirtual 75, 3) := by decide +kernel
theorem dX6_set_71 : decode cX6_set 71 = .ok (.ireturn, 1) := by decide +kernel
theorem dX6_copy_0 : decode cX6_copy 0 = .ok (.iload_n 1, 1) := by decide +kernel
theorem dX6_copy_1 : decode cX6_copy 1 = .ok (.invokestatic 58, 3) := by decide +kernel
theorem dX6_copy_4 : decode cX6_copy 4 = .ok (.ifCond .ne 10, 3) := by decide +kernel
theorem dX6_copy_7 : decode cX6_copy 7 = .ok (.iload_n 3, 1) := by decide +kernel
theorem dX6_copy_8 : decode cX6_copy 8 = .ok (.invokestatic 58, 3) := by decide +kernel
theorem dX6_copy_11 : decode cX6_copy 11 = .ok (.ifCond .eq 6, 3) := by decide +kernel
theorem dX6_copy_14 : decode cX6_copy 14 = .ok (.ldc 66, 2) := by decide +kernel
theorem dX6_copy_16 : decode cX6_copy 16 = .ok (.ireturn, 1) := by decide +kernel
theorem dX6_copy_17 : decode cX6_copy 17 = .ok (.aload_n 0, 1) := by decide +kernel
theorem dX6_copy_18 : decode cX6_copy 18 = .ok (.getfield 11, 3) := by decide +kernel
theorem dX6_copy_21 : decode cX6_copy 21 = .ok (.iload_n 1, 1) := by decide +kernel
theorem dX6_copy_22 : decode cX6_copy 22 = .ok (.aaload, 1) := by decide +kernel
theorem dX6_copy_23 : decode cX6_copy 23 = .ok (.getfield 89, 3) := by decide +kernel
theorem dX6_copy_26 : decode cX6_copy 26 = .ok (.iconst (-1), 1) := by decide +kernel
theorem dX6_copy_27 : decode cX6_copy 27 = .ok (.if_icmp .eq 16, 3) := by decide +kernel
theorem dX6_copy_30 : decode cX6_copy 30 = .ok (.aload_n 0, 1) := by decide +kernel
theorem dX6_copy_31 : decode cX6_copy 31 = .ok (.getfield 11, 3) := by decide +kernel
theorem dX6_copy_34 : decode cX6_copy 34 = .ok (.iload_n 3, 1) := by decide +kernel
theorem dX6_copy_35 : decode cX6_copy 35 = .ok (.aaload, 1) := by decide +kernel
theorem dX6_copy_36 : decode cX6_copy 36 = .ok (.getfield 89, 3) := by decide +kernel
theorem dX6_copy_39 : decode cX6_copy 39 = .ok (.iconst (-1), 1) := by decide +kernel
theorem dX6_copy_40 : decode cX6_copy 40 = .ok (.if_icmp .ne 9, 3) := by decide +kernel
theorem dX6_copy_43 : decode cX6_copy 43 = .ok (.aload_n 0, 1) := by decide +kernel
theorem dX6_copy_44 : decode cX6_copy 44 = .ok (.iconst 1, 1) := by decide +kernel
theorem dX6_copy_45 : decode cX6_copy 45 = .ok (.invokevirtual 67, 3) := by decide +kernel
theorem dX6_copy_48 : decode cX6_copy 48 = .ok (.ireturn, 1) := by decide +kernel
theorem dX6_copy_49 : decode cX6_copy 49 = .ok (.aload_n 0, 1) := by decide +kernel
theorem dX6_copy_50 : decode cX6_copy 50 = .ok (.getfield 11, 3) := by decide +kernel
theorem dX6_copy_53 : decode cX6_copy 53 = .ok (.iload_n 1, 1) := by decide +kernel
theorem dX6_copy_54 : decode cX6_copy 54 = .ok (.aaload, 1) := by decide +kernel
theorem dX6_copy_55 : decode cX6_copy 55 = .ok (.getfield 89, 3) := by decide +kernel
theorem dX6_copy_58 : decode cX6_copy 58 = .ok (.aload_n 0, 1) := by decide +kernel
theorem dX6_copy_59 : decode cX6_copy 59 = .ok (.getfield 11, 3) := by decide +kernel
theorem dX6_copy_62 : decode cX6_copy 62 = .ok (.iload_n 3, 1) := by decide +kernel
theorem dX6_copy_63 : decode cX6_copy 63 = .ok (.aaload, 1) := by decide +kernel
theorem dX6_copy_64 : decode cX6_copy 64 = .ok (.getfield 89, 3) := by decide +kernel
theorem dX6_copy_67 : decode cX6_copy 67 = .ok (.if_icmp .eq 9, 3) := by decide +kernel
theorem dX6_copy_70 : decode cX6_copy 70 = .ok (.aload_n 0, 1) := by decide +kernel
theorem dX6_copy_71 : decode cX6_copy 71 = .ok (.iconst 5, 1) := by decide +kernel
theorem dX6_copy_72 : decode cX6_copy 72 = .ok (.invokevirtual 67, 3) := by decide +kernel
theorem dX6_copy_75 : decode cX6_copy 75 = .ok (.ireturn, 1) := by decide +kernel
theorem dX6_copy_76 : decode cX6_copy 76 = .ok (.aload_n 0, 1) := by decide +kernel
theorem dX6_copy_77 : decode cX6_copy 77 = .ok (.getfield 11, 3) := by decide +kernel
theorem dX6_copy_80 : decode cX6_copy 80 = .ok (.iload_n 1, 1) := by decide +kernel
theorem dX6_copy_81 : decode cX6_copy 81 = .ok (.aaload, 1) := by decide +kernel
theorem dX6_copy_82 : decode cX6_copy 82 = .ok (.iload_n 2, 1) := by decide +kernel
theorem dX6_copy_83 : decode cX6_copy 83 = .ok (.iload 5, 2) := by decide +kernel
theorem dX6_copy_85 : decode cX6_copy 85 = .ok (.invokevirtual 93, 3) := by decide +kernel
theorem dX6_copy_88 : decode cX6_copy 88 = .ok (.ifCond .ne 19, 3) := by decide +kernel
theorem dX6_copy_91 : decode cX6_copy 91 = .ok (.aload_n 0, 1) := by decide +kernel
theorem dX6_copy_92 : decode cX6_copy 92 = .ok (.getfield 11, 3) := by decide +kernel
theorem dX6_copy_95 : decode cX6_copy 95 = .ok (.iload_n 3, 1) := by decide +kernel
theorem dX6_copy_96 : decode cX6_copy 96 = .ok (.aaload, 1) := by decide +kernel
theorem dX6_copy_97 : decode cX6_copy 97 = .ok (.iload 4, 2) := by decide +kernel
theorem dX6_copy_99 : decode cX6_copy 99 = .ok (.iload 5, 2) := by decide +kernel
theorem dX6_copy_101 : decode cX6_copy 101 = .ok (.invokevirtual 93, 3) := by decide +kernel
theorem dX6_copy_104 : decode cX6_copy 104 = .ok (.ifCond .eq 9, 3) := by decide +kernel
theorem dX6_copy_107 : decode cX6_copy 107 = .ok (.aload_n 0, 1) := by decide +kernel
theorem dX6_copy_108 : decode cX6_copy 108 = .ok (.iconst 2, 1) := by decide +kernel
theorem dX6_copy_109 : decode cX6_copy 109 = .ok (.invokevirtual 67, 3) := by decide +kernel
theorem dX6_copy_112 : decode cX6_copy 112 = .ok (.ireturn, 1) := by decide +kernel
theorem dX6_copy_113 : decode cX6_copy 113 = .ok (.aload_n 0, 1) := by decide +kernel
theorem dX6_copy_114 : decode cX6_copy 114 = .ok (.getfield 11, 3) := by decide +kernel
theorem dX6_copy_117 : decode cX6_copy 117 = .ok (.iload_n 1, 1) := by decide +kernel
theorem dX6_copy_118 : decode cX6_copy 118 = .ok (.aaload, 1) := by decide +kernel
theorem dX6_copy_119 : decode cX6_copy 119 = .ok (.getfield 82, 3) := by decide +kernel
theorem dX6_copy_122 : decode cX6_copy 122 = .ok (.iload_n 2, 1) := by decide +kernel
theorem dX6_copy_123 : decode cX6_copy 123 = .ok (.aload_n 0, 1) := by decide +kernel
theorem dX6_copy_124 : decode cX6_copy 124 = .ok (.getfield 11, 3) := by decide +kernel
theorem dX6_copy_127 : decode cX6_copy 127 = .ok (.iload_n 3, 1) := by decide +kernel
theorem dX6_copy_128 : decode cX6_copy 128 = .ok (.aaload, 1) := by decide +kernel
theorem dX6_copy_129 : decode cX6_copy 129 = .ok (.getfield 82, 3) := by decide +kernel
theorem dX6_copy_132 : decode cX6_copy 132 = .ok (.iload 4, 2) := by decide +kernel
theorem dX6_copy_134 : decode cX6_copy 134 = .ok (.iload 5, 2) := by decide +kernel
theorem dX6_copy_136 : decode cX6_copy 136 = .ok (.invokestatic 97, 3) := by decide +kernel
theorem dX6_copy_139 : decode cX6_copy 139 = .ok (.aload_n 0, 1) := by decide +kernel
theorem dX6_copy_140 : decode cX6_copy 140 = .ok (.iload 5, 2) := by decide +kernel
theorem dX6_copy_142 : decode cX6_copy 142 = .ok (.invokevirtual 75, 3) := by decide +kernel
theorem dX6_copy_145 : decode cX6_copy 145 = .ok (.ireturn, 1) := by decide +kernel
theorem dX6_drop_0 : decode cX6_drop 0 = .ok (.iload_n 1, 1) := by decide +kernel
theorem dX6_drop_1 : decode cX6_drop 1 = .ok (.invokestatic 58, 3) := by decide +kernel
theorem dX6_drop_4 : decode cX6_drop 4 = .ok (.ifCond .eq 6, 3) := by decide +kernel
theorem dX6_drop_7 : decode cX6_drop 7 = .ok (.ldc 66, 2) := by decide +kernel
theorem dX6_drop_9 : decode cX6_drop 9 = .ok (.ireturn, 1) := by decide +kernel
theorem dX6_drop_10 : decode cX6_drop 10 = .ok (.aload_n 0, 1) := by decide +kernel
theorem dX6_drop_11 : decode cX6_drop 11 = .ok (.getfield 11, 3) := by decide +kernel
theorem dX6_drop_14 : decode cX6_drop 14 = .ok (.iload_n 1, 1) := by decide +kernel
theorem dX6_drop_15 : decode cX6_drop 15 = .ok (.aaload, 1) := by decide +kernel
theorem dX6_drop_16 : decode cX6_drop 16 = .ok (.getfield 89, 3) := by decide +kernel
theorem dX6_drop_19 : decode cX6_drop 19 = .ok (.iconst (-1), 1) := by decide +kernel
theorem dX6_drop_20 : decode cX6_drop 20 = .ok (.if_icmp .ne 9, 3) := by decide +kernel
theorem dX6_drop_23 : decode cX6_drop 23 = .ok (.aload_n 0, 1) := by decide +kernel
theorem dX6_drop_24 : decode cX6_drop 24 = .ok (.iconst 1, 1) := by decide +kernel
theorem dX6_drop_25 : decode cX6_drop 25 = .ok (.invokevirtual 67, 3) := by decide +kernel
theorem dX6_drop_28 : decode cX6_drop 28 = .ok (.ireturn, 1) := by decide +kernel
theorem dX6_drop_29 : decode cX6_drop 29 = .ok (.aload_n 0, 1) := by decide +kernel
theorem dX6_drop_30 : decode cX6_drop 30 = .ok (.getfield 11, 3) := by decide +kernel
theorem dX6_drop_33 : decode cX6_drop 33 = .ok (.iload_n 1, 1) := by decide +kernel
theorem dX6_drop_34 : decode cX6_drop 34 = .ok (.aaload, 1) := by decide +kernel
theorem dX6_drop_35 : decode cX6_drop 35 = .ok (.iconst (-1), 1) := by decide +kernel
theorem dX6_drop_36 : decode cX6_drop 36 = .ok (.putfield 89, 3) := by decide +kernel
theorem dX6_drop_39 : decode cX6_drop 39 = .ok (.aload_n 0, 1) := by decide +kernel
theorem dX6_drop_40 : decode cX6_drop 40 = .ok (.aload_n 0, 1) := by decide +kernel
theorem dX6_drop_41 : decode cX6_drop 41 = .ok (.getfield 11, 3) := by decide +kernel
theorem dX6_drop_44 : decode cX6_drop 44 = .ok (.iload_n 1, 1) := by decide +kernel
theorem dX6_drop_45 : decode cX6_drop 45 = .ok (.aaload, 1) := by decide +kernel
theorem dX6_drop_46 : decode cX6_drop 46 = .ok (.getfield 103, 3) := by decide +kernel
theorem dX6_drop_49 : decode cX6_drop 49 = .ok (.invokevirtual 75, 3) := by decide +kernel
theorem dX6_drop_52 : decode cX6_drop 52 = .ok (.ireturn, 1) := by decide +kernel
theorem dX6_feed_0 : decode cX6_feed 0 = .ok (.iload_n 1, 1) := by decide +kernel
theorem dX6_feed_1 : decode cX6_feed 1 = .ok (.iconst 0, 1) := by decide +kernel
theorem dX6_feed_2 : decode cX6_feed 2 = .ok (.sipush 255, 3) := by decide +kernel
theorem dX6_feed_5 : decode cX6_feed 5 = .ok (.invokestatic 62, 3) := by decide +kernel
theorem dX6_feed_8 : decode cX6_feed 8 = .ok (.ifCond .eq 6, 3) := by decide +kernel
theorem dX6_feed_11 : decode cX6_feed 11 = .ok (.ldc 66, 2) := by decide +kernel
theorem dX6_feed_13 : decode cX6_feed 13 = .ok (.ireturn, 1) := by decide +kernel
theorem dX6_feed_14 : decode cX6_feed 14 = .ok (.aload_n 0, 1) := by decide +kernel
theorem dX6_feed_15 : decode cX6_feed 15 = .ok (.getfield 18, 3) := by decide +kernel
theorem dX6_feed_18 : decode cX6_feed 18 = .ok (.getfield 106, 3) := by decide +kernel
theorem dX6_feed_21 : decode cX6_feed 21 = .ok (.bipush 120, 2) := by decide +kernel
theorem dX6_feed_23 : decode cX6_feed 23 = .ok (.if_icmp .lt 6, 3) := by decide +kernel
theorem dX6_feed_26 : decode cX6_feed 26 = .ok (.ldc 109, 2) := by decide +kernel
theorem dX6_feed_28 : decode cX6_feed 28 = .ok (.ireturn, 1) := by decide +kernel
theorem dX6_feed_29 : decode cX6_feed 29 = .ok (.aload_n 0, 1) := by decide +kernel
theorem dX6_feed_30 : decode cX6_feed 30 = .ok (.getfield 18, 3) := by decide +kernel
theorem dX6_feed_33 : decode cX6_feed 33 = .ok (.getfield 110, 3) := by decide +kernel
theorem dX6_feed_36 : decode cX6_feed 36 = .ok (.aload_n 0, 1) := by decide +kernel
theorem dX6_feed_37 : decode cX6_feed 37 = .ok (.getfield 18, 3) := by decide +kernel
theorem dX6_feed_40 : decode cX6_feed 40 = .ok (.getfield 106, 3) := by decide +kernel
theorem dX6_feed_43 : decode cX6_feed 43 = .ok (.iload_n 1, 1) := by decide +kernel
theorem dX6_feed_44 : decode cX6_feed 44 = .ok (.iastore, 1) := by decide +kernel
theorem dX6_feed_45 : decode cX6_feed 45 = .ok (.aload_n 0, 1) := by decide +kernel
theorem dX6_feed_46 : decode cX6_feed 46 = .ok (.getfield 18, 3) := by decide +kernel
theorem dX6_feed_49 : decode cX6_feed 49 = .ok (.dup, 1) := by decide +kernel
theorem dX6_feed_50 : decode cX6_feed 50 = .ok (.getfield 106, 3) := by decide +kernel
theorem dX6_feed_53 : decode cX6_feed 53 = .ok (.iconst 1, 1) := by decide +kernel
theorem dX6_feed_54 : decode cX6_feed 54 = .ok (.iadd, 1) := by decide +kernel
theorem dX6_feed_55 : decode cX6_feed 55 = .ok (.putfield 106, 3) := by decide +kernel
theorem dX6_feed_58 : decode cX6_feed 58 = .ok (.aload_n 0, 1) := by decide +kernel
theorem dX6_feed_59 : decode cX6_feed 59 = .ok (.getfield 18, 3) := by decide +kernel
theorem dX6_feed_62 : decode cX6_feed 62 = .ok (.getfield 106, 3) := by decide +kernel
theorem dX6_feed_65 : decode cX6_feed 65 = .ok (.ireturn, 1) := by decide +kernel
theorem dX6_room_0 : decode cX6_room 0 = .ok (.aload_n 0, 1) := by decide +kernel
theorem dX6_room_1 : decode cX6_room 1 = .ok (.getfield 18, 3) := by decide +kernel
theorem dX6_room_4 : decode cX6_room 4 = .ok (.aload_n 0, 1) := by decide +kernel
theorem dX6_room_5 : decode cX6_room 5 = .ok (.getfield 29, 3) := by decide +kernel
theorem dX6_room_8 : decode cX6_room 8 = .ok (.invokevirtual 113, 3) := by decide +kernel
theorem dX6_room_11 : decode cX6_room 11 = .ok (.istore_n 1, 1) := by decide +kernel
theorem dX6_room_12 : decode cX6_room 12 = .ok (.aload_n 0, 1) := by decide +kernel
theorem dX6_room_13 : decode cX6_room 13 = .ok (.getfield 18, 3) := by decide +kernel
theorem dX6_room_16 : decode cX6_room 16 = .ok (.iconst 0, 1) := by decide +kernel
theorem dX6_room_17 : decode cX6_room 17 = .ok (.putfield 106, 3) := by decide +kernel
theorem dX6_room_20 : decode cX6_room 20 = .ok (.iload_n 1, 1) := by decide +kernel
theorem dX6_room_21 : decode cX6_room 21 = .ok (.ifCond .lt 19, 3) := by decide +kernel
theorem dX6_room_24 : decode cX6_room 24 = .ok (.aload_n 0, 1) := by decide +kernel
theorem dX6_room_25 : decode cX6_room 25 = .ok (.aload_n 0, 1) := by decide +kernel
theorem dX6_room_26 : decode cX6_room 26 = .ok (.getfield 18, 3) := by decide +kernel
theorem dX6_room_29 : decode cX6_room 29 = .ok (.getfield 117, 3) := by decide +kernel
theorem dX6_room_32 : decode cX6_room 32 = .ok (.putfield 120, 3) := by decide +kernel
theorem dX6_room_35 : decode cX6_room 35 = .ok (.ldc 123, 2) := by decide +kernel
theorem dX6_room_37 : decode cX6_room 37 = .ok (.iload_n 1, 1) := by decide +kernel
theorem dX6_room_38 : decode cX6_room 38 = .ok (.isub, 1) := by decide +kernel
theorem dX6_room_39 : decode cX6_room 39 = .ok (.ireturn, 1) := by decide +kernel
theorem dX6_room_40 : decode cX6_room 40 = .ok (.aload_n 0, 1) := by decide +kernel
theorem dX6_room_41 : decode cX6_room 41 = .ok (.getfield 25, 3) := by decide +kernel
theorem dX6_room_44 : decode cX6_room 44 = .ok (.aload_n 0, 1) := by decide +kernel
theorem dX6_room_45 : decode cX6_room 45 = .ok (.getfield 29, 3) := by decide +kernel
theorem dX6_room_48 : decode cX6_room 48 = .ok (.invokevirtual 124, 3) := by decide +kernel
theorem dX6_room_51 : decode cX6_room 51 = .ok (.aload_n 0, 1) := by decide +kernel
theorem dX6_room_52 : decode cX6_room 52 = .ok (.getfield 39, 3) := by decide +kernel
theorem dX6_room_55 : decode cX6_room 55 = .ok (.invokevirtual 128, 3) := by decide +kernel
theorem dX6_room_58 : decode cX6_room 58 = .ok (.aload_n 0, 1) := by decide +kernel
theorem dX6_room_59 : decode cX6_room 59 = .ok (.getfield 25, 3) := by decide +kernel
theorem dX6_room_62 : decode cX6_room 62 = .ok (.getfield 131, 3) := by decide +kernel
theorem dX6_room_65 : decode cX6_room 65 = .ok (.ireturn, 1) := by decide +kernel
theorem dX6_fault_0 : decode cX6_fault 0 = .ok (.aload_n 0, 1) := by decide +kernel
theorem dX6_fault_1 : decode cX6_fault 1 = .ok (.getfield 120, 3) := by decide +kernel
theorem dX6_fault_4 : decode cX6_fault 4 = .ok (.ireturn, 1) := by decide +kernel
theorem dX6_undo_0 : decode cX6_undo 0 = .ok (.aload_n 0, 1) := by decide +kernel
theorem dX6_undo_1 : decode cX6_undo 1 = .ok (.getfield 39, 3) := by decide +kernel
theorem dX6_undo_4 : decode cX6_undo 4 = .ok (.getfield 134, 3) := by decide +kernel
theorem dX6_undo_7 : decode cX6_undo 7 = .ok (.ifCond .ne 6, 3) := by decide +kernel
theorem dX6_undo_10 : decode cX6_undo 10 = .ok (.ldc 135, 2) := by decide +kernel
theorem dX6_undo_12 : decode cX6_undo 12 = .ok (.ireturn, 1) := by decide +kernel
theorem dX6_undo_13 : decode cX6_undo 13 = .ok (.aload_n 0, 1) := by decide +kernel
theorem dX6_undo_14 : decode cX6_undo 14 = .ok (.getfield 39, 3) := by decide +kernel
theorem dX6_undo_17 : decode cX6_undo 17 = .ok (.aload_n 0, 1) := by decide +kernel
theorem dX6_undo_18 : decode cX6_undo 18 = .ok (.getfield 25, 3) := by decide +kernel
theorem dX6_undo_21 : decode cX6_undo 21 = .ok (.invokevirtual 136, 3) := by decide +kernel
theorem dX6_undo_24 : decode cX6_undo 24 = .ok (.aload_n 0, 1) := by decide +kernel
theorem dX6_undo_25 : decode cX6_undo 25 = .ok (.getfield 39, 3) := by decide +kernel
theorem dX6_undo_28 : decode cX6_undo 28 = .ok (.getfield 134, 3) := by decide +kernel
theorem dX6_undo_31 : decode cX6_undo 31 = .ok (.ireturn, 1) := by decide +kernel
theorem dX6_minutes_0 : decode cX6_minutes 0 = .ok (.aload_n 0, 1) := by decide +kernel
theorem dX6_minutes_1 : decode cX6_minutes 1 = .ok (.invokevirtual 139, 3) := by decide +kernel
theorem dX6_minutes_4 : decode cX6_minutes 4 = .ok (.ifCond .eq 6, 3) := by decide +kernel
theorem dX6_minutes_7 : decode cX6_minutes 7 = .ok (.ldc 135, 2) := by decide +kernel
theorem dX6_minutes_9 : decode cX6_minutes 9 = .ok (.ireturn, 1) := by decide +kernel
theorem dX6_minutes_10 : decode cX6_minutes 10 = .ok (.iload_n 1, 1) := by decide +kernel
theorem dX6_minutes_11 : decode cX6_minutes 11 = .ok (.iconst 1, 1) := by decide +kernel
theorem dX6_minutes_12 : decode cX6_minutes 12 = .ok (.bipush 24, 2) := by decide +kernel
theorem dX6_minutes_14 : decode cX6_minutes 14 = .ok (.invokestatic 62, 3) := by decide +kernel
theorem dX6_minutes_17 : decode cX6_minutes 17 = .ok (.ifCond .eq 6, 3) := by decide +kernel
theorem dX6_minutes_20 : decode cX6_minutes 20 = .ok (.ldc 66, 2) := by decide +kernel
theorem dX6_minutes_22 : decode cX6_minutes 22 = .ok (.ireturn, 1) := by decide +kernel
theorem dX6_minutes_23 : decode cX6_minutes 23 = .ok (.aload_n 0, 1) := by decide +kernel
theorem dX6_minutes_24 : decode cX6_minutes 24 = .ok (.getfield 25, 3) := by decide +kernel
theorem dX6_minutes_27 : decode cX6_minutes 27 = .ok (.getfield 143, 3) := by decide +kernel
theorem dX6_minutes_30 : decode cX6_minutes 30 = .ok (.iload_n 1, 1) := by decide +kernel
theorem dX6_minutes_31 : decode cX6_minutes 31 = .ok (.iadd, 1) := by decide +kernel
theorem dX6_minutes_32 : decode cX6_minutes 32 = .ok (.sipush 999, 3) := by decide +kernel
theorem dX6_minutes_35 : decode cX6_minutes 35 = .ok (.if_icmp .le 6, 3) := by decide +kernel
theorem dX6_minutes_38 : decode cX6_minutes 38 = .ok (.ldc 109, 2) := by decide +kernel
theorem dX6_minutes_40 : decode cX6_minutes 40 = .ok (.ireturn, 1) := by decide +kernel
theorem dX6_minutes_41 : decode cX6_minutes 41 = .ok (.iconst 0, 1) := by decide +kernel
theorem dX6_minutes_42 : decode cX6_minutes 42 = .ok (.istore_n 2, 1) := by decide +kernel
theorem dX6_minutes_43 : decode cX6_minutes 43 = .ok (.iload_n 2, 1) := by decide +kernel
theorem dX6_minutes_44 : decode cX6_minutes 44 = .ok (.iload_n 1, 1) := by decide +kernel
theorem dX6_minutes_45 : decode cX6_minutes 45 = .ok (.if_icmp .ge 28, 3) := by decide +kernel
theorem dX6_minutes_48 : decode cX6_minutes 48 = .ok (.aload_n 0, 1) := by decide +kernel
theorem dX6_minutes_49 : decode cX6_minutes 49 = .ok (.getfield 39, 3) := by decide +kernel
theorem dX6_minutes_52 : decode cX6_minutes 52 = .ok (.aload_n 0, 1) := by decide +kernel
theorem dX6_minutes_53 : decode cX6_minutes 53 = .ok (.getfield 25, 3) := by decide +kernel
theorem dX6_minutes_56 : decode cX6_minutes 56 = .ok (.invokevirtual 146, 3) := by decide +kernel
theorem dX6_minutes_59 : decode cX6_minutes 59 = .ok (.aload_n 0, 1) := by decide +kernel
theorem dX6_minutes_60 : decode cX6_minutes 60 = .ok (.getfield 25, 3) := by decide +kernel
theorem dX6_minutes_63 : decode cX6_minutes 63 = .ok (.invokevirtual 149, 3) := by decide +kernel
theorem dX6_minutes_66 : decode cX6_minutes 66 = .ok (.pop, 1) := by decide +kernel
theorem dX6_minutes_67 : decode cX6_minutes 67 = .ok (.iinc 2 1, 3) := by decide +kernel
theorem dX6_minutes_70 : decode cX6_minutes 70 = .ok (.goto (-27), 3) := by decide +kernel
theorem dX6_minutes_73 : decode cX6_minutes 73 = .ok (.aload_n 0, 1) := by decide +kernel
theorem dX6_minutes_74 : decode cX6_minutes 74 = .ok (.getfield 25, 3) := by decide +kernel
theorem dX6_minutes_77 : decode cX6_minutes 77 = .ok (.iconst 2, 1) := by decide +kernel
theorem dX6_minutes_78 : decode cX6_minutes 78 = .ok (.invokevirtual 152, 3) := by decide +kernel
theorem dX6_minutes_81 : decode cX6_minutes 81 = .ok (.ireturn, 1) := by decide +kernel
theorem dX6_hand_0 : decode cX6_hand 0 = .ok (.aload_n 0, 1) := by decide +kernel
theorem dX6_hand_1 : decode cX6_hand 1 = .ok (.iload_n 1, 1) := by decide +kernel
theorem dX6_hand_2 : decode cX6_hand 2 = .ok (.invokevirtual 155, 3) := by decide +kernel
theorem dX6_hand_5 : decode cX6_hand 5 = .ok (.ifCond .ne 12, 3) := by decide +kernel
theorem dX6_hand_8 : decode cX6_hand 8 = .ok (.iload_n 2, 1) := by decide +kernel
theorem dX6_hand_9 : decode cX6_hand 9 = .ok (.iconst 0, 1) := by decide +kernel
theorem dX6_hand_10 : decode cX6_hand 10 = .ok (.iconst 1, 1) := by decide +kernel
theorem dX6_hand_11 : decode cX6_hand 11 = .ok (.invokestatic 62, 3) := by decide +kernel
theorem dX6_hand_14 : decode cX6_hand 14 = .ok (.ifCond .eq 6, 3) := by decide +kernel
theorem dX6_hand_17 : decode cX6_hand 17 = .ok (.ldc 66, 2) := by decide +kernel
theorem dX6_hand_19 : decode cX6_hand 19 = .ok (.ireturn, 1) := by decide +kernel
theorem dX6_hand_20 : decode cX6_hand 20 = .ok (.aload_n 0, 1) := by decide +kernel
theorem dX6_hand_21 : decode cX6_hand 21 = .ok (.getfield 25, 3) := by decide +kernel
theorem dX6_hand_24 : decode cX6_hand 24 = .ok (.getfield 158, 3) := by decide +kernel
theorem dX6_hand_27 : decode cX6_hand 27 = .ok (.iload_n 1, 1) := by decide +kernel
theorem dX6_hand_28 : decode cX6_hand 28 = .ok (.invokestatic 161, 3) := by decide +kernel
theorem dX6_hand_31 : decode cX6_hand 31 = .ok (.iload_n 2, 1) := by decide +kernel
theorem dX6_hand_32 : decode cX6_hand 32 = .ok (.iconst 1, 1) := by decide +kernel
theorem dX6_hand_33 : decode cX6_hand 33 = .ok (.if_icmp .ne 7, 3) := by decide +kernel
theorem dX6_hand_36 : decode cX6_hand 36 = .ok (.iconst 1, 1) := by decide +kernel
theorem dX6_hand_37 : decode cX6_hand 37 = .ok (.goto 4, 3) := by decide +kernel
theorem dX6_hand_40 : decode cX6_hand 40 = .ok (.iconst 0, 1) := by decide +kernel
theorem dX6_hand_41 : decode cX6_hand 41 = .ok (.if_icmp .ne 6, 3) := by decide +kernel
theorem dX6_hand_44 : decode cX6_hand 44 = .ok (.ldc 135, 2) := by decide +kernel
theorem dX6_hand_46 : decode cX6_hand 46 = .ok (.ireturn, 1) := by decide +kernel
theorem dX6_hand_47 : decode cX6_hand 47 = .ok (.iload_n 2, 1) := by decide +kernel
theorem dX6_hand_48 : decode cX6_hand 48 = .ok (.iconst 1, 1) := by decide +kernel
theorem dX6_hand_49 : decode cX6_hand 49 = .ok (.if_icmp .ne 26, 3) := by decide +kernel
theorem dX6_hand_52 : decode cX6_hand 52 = .ok (.aload_n 0, 1) := by decide +kernel
theorem dX6_hand_53 : decode cX6_hand 53 = .ok (.getfield 25, 3) := by decide +kernel
theorem dX6_hand_56 : decode cX6_hand 56 = .ok (.getfield 158, 3) := by decide +kernel
theorem dX6_hand_59 : decode cX6_hand 59 = .ok (.invokestatic 164, 3) := by decide +kernel
theorem dX6_hand_62 : decode cX6_hand 62 = .ok (.aload_n 0, 1) := by decide +kernel
theorem dX6_hand_63 : decode cX6_hand 63 = .ok (.getfield 25, 3) := by decide +kernel
theorem dX6_hand_66 : decode cX6_hand 66 = .ok (.getfield 169, 3) := by decide +kernel
theorem dX6_hand_69 : decode cX6_hand 69 = .ok (.if_icmp .lt 6, 3) := by decide +kernel
theorem dX6_hand_72 : decode cX6_hand 72 = .ok (.ldc 109, 2) := by decide +kernel
theorem dX6_hand_74 : decode cX6_hand 74 = .ok (.ireturn, 1) := by decide +kernel
theorem dX6_hand_75 : decode cX6_hand 75 = .ok (.aload_n 0, 1) := by decide +kernel
theorem dX6_hand_76 : decode cX6_hand 76 = .ok (.getfield 39, 3) := by decide +kernel
theorem dX6_hand_79 : decode cX6_hand 79 = .ok (.aload_n 0, 1) := by decide +kernel
theorem dX6_hand_80 : decode cX6_hand 80 = .ok (.getfield 25, 3) := by decide +kernel
theorem dX6_hand_83 : decode cX6_hand 83 = .ok (.invokevirtual 146, 3) := by decide +kernel
theorem dX6_hand_86 : decode cX6_hand 86 = .ok (.aload_n 0, 1) := by decide +kernel
theorem dX6_hand_87 : decode cX6_hand 87 = .ok (.getfield 25, 3) := by decide +kernel
theorem dX6_hand_90 : decode cX6_hand 90 = .ok (.dup, 1) := by decide +kernel
theorem dX6_hand_91 : decode cX6_hand 91 = .ok (.getfield 158, 3) := by decide +kernel
theorem dX6_hand_94 : decode cX6_hand 94 = .ok (.iconst 1, 1) := by decide +kernel
theorem dX6_hand_95 : decode cX6_hand 95 = .ok (.iload_n 1, 1) := by decide +kernel
theorem dX6_hand_96 : decode cX6_hand 96 = .ok (.ishl, 1) := by decide +kernel
theorem dX6_hand_97 : decode cX6_hand 97 = .ok (.ixor, 1) := by decide +kernel
theorem dX6_hand_98 : decode cX6_hand 98 = .ok (.putfield 158, 3) := by decide +kernel
theorem dX6_hand_101 : decode cX6_hand 101 = .ok (.aload_n 0, 1) := by decide +kernel
theorem dX6_hand_102 : decode cX6_hand 102 = .ok (.getfield 25, 3) := by decide +kernel
theorem dX6_hand_105 : decode cX6_hand 105 = .ok (.getfield 158, 3) := by decide +kernel
theorem dX6_hand_108 : decode cX6_hand 108 = .ok (.ireturn, 1) := by decide +kernel
theorem dX6_carry_0 : decode cX6_carry 0 = .ok (.aload_n 0, 1) := by decide +kernel
theorem dX6_carry_1 : decode cX6_carry 1 = .ok (.iload_n 1, 1) := by decide +kernel
theorem dX6_carry_2 : decode cX6_carry 2 = .ok (.invokevirtual 155, 3) := by decide +kernel
theorem dX6_carry_5 : decode cX6_carry 5 = .ok (.ifCond .ne 12, 3) := by decide +kernel
theorem dX6_carry_8 : decode cX6_carry 8 = .ok (.iload_n 2, 1) := by decide +kernel
theorem dX6_carry_9 : decode cX6_carry 9 = .ok (.iconst 0, 1) := by decide +kernel
theorem dX6_carry_10 : decode cX6_carry 10 = .ok (.iconst 1, 1) := by decide +kernel
theorem dX6_carry_11 : decode cX6_carry 11 = .ok (.invokestatic 62, 3) := by decide +kernel
theorem dX6_carry_14 : decode cX6_carry 14 = .ok (.ifCond .eq 6, 3) := by decide +kernel
theorem dX6_carry_17 : decode cX6_carry 17 = .ok (.ldc 66, 2) := by decide +kernel
theorem dX6_carry_19 : decode cX6_carry 19 = .ok (.ireturn, 1) := by decide +kernel
theorem dX6_carry_20 : decode cX6_carry 20 = .ok (.aload_n 0, 1) := by decide +kernel
theorem dX6_carry_21 : decode cX6_carry 21 = .ok (.getfield 25, 3) := by decide +kernel
theorem dX6_carry_24 : decode cX6_carry 24 = .ok (.getfield 172, 3) := by decide +kernel
theorem dX6_carry_27 : decode cX6_carry 27 = .ok (.iload_n 1, 1) := by decide +kernel
theorem dX6_carry_28 : decode cX6_carry 28 = .ok (.invokestatic 161, 3) := by decide +kernel
theorem dX6_carry_31 : decode cX6_carry 31 = .ok (.iload_n 2, 1) := by decide +kernel
theorem dX6_carry_32 : decode cX6_carry 32 = .ok (.iconst 1, 1) := by decide +kernel
theorem dX6_carry_33 : decode cX6_carry 33 = .ok (.if_icmp .ne 7, 3) := by decide +kernel
theorem dX6_carry_36 : decode cX6_carry 36 = .ok (.iconst 1, 1) := by decide +kernel
theorem dX6_carry_37 : decode cX6_carry 37 = .ok (.goto 4, 3) := by decide +kernel
theorem dX6_carry_40 : decode cX6_carry 40 = .ok (.iconst 0, 1) := by decide +kernel
theorem dX6_carry_41 : decode cX6_carry 41 = .ok (.if_icmp .ne 6, 3) := by decide +kernel
theorem dX6_carry_44 : decode cX6_carry 44 = .ok (.ldc 135, 2) := by decide +kernel
theorem dX6_carry_46 : decode cX6_carry 46 = .ok (.ireturn, 1) := by decide +kernel
theorem dX6_carry_47 : decode cX6_carry 47 = .ok (.aload_n 0, 1) := by decide +kernel
theorem dX6_carry_48 : decode cX6_carry 48 = .ok (.getfield 39, 3) := by decide +kernel
theorem dX6_carry_51 : decode cX6_carry 51 = .ok (.aload_n 0, 1) := by decide +kernel
theorem dX6_carry_52 : decode cX6_carry 52 = .ok (.getfield 25, 3) := by decide +kernel
theorem dX6_carry_55 : decode cX6_carry 55 = .ok (.invokevirtual 146, 3) := by decide +kernel
theorem dX6_carry_58 : decode cX6_carry 58 = .ok (.aload_n 0, 1) := by decide +kernel
theorem dX6_carry_59 : decode cX6_carry 59 = .ok (.getfield 25, 3) := by decide +kernel
theorem dX6_carry_62 : decode cX6_carry 62 = .ok (.dup, 1) := by decide +kernel
theorem dX6_carry_63 : decode cX6_carry 63 = .ok (.getfield 172, 3) := by decide +kernel
theorem dX6_carry_66 : decode cX6_carry 66 = .ok (.iconst 1, 1) := by decide +kernel
theorem dX6_carry_67 : decode cX6_carry 67 = .ok (.iload_n 1, 1) := by decide +kernel
theorem dX6_carry_68 : decode cX6_carry 68 = .ok (.ishl, 1) := by decide +kernel
theorem dX6_carry_69 : decode cX6_carry 69 = .ok (.ixor, 1) := by decide +kernel
theorem dX6_carry_70 : decode cX6_carry 70 = .ok (.putfield 172, 3) := by decide +kernel
theorem dX6_carry_73 : decode cX6_carry 73 = .ok (.aload_n 0, 1) := by decide +kernel
theorem dX6_carry_74 : decode cX6_carry 74 = .ok (.getfield 25, 3) := by decide +kernel
theorem dX6_carry_77 : decode cX6_carry 77 = .ok (.getfield 172, 3) := by decide +kernel
theorem dX6_carry_80 : decode cX6_carry 80 = .ok (.ireturn, 1) := by decide +kernel
theorem dX6_change_0 : decode cX6_change 0 = .ok (.aload_n 0, 1) := by decide +kernel
theorem dX6_change_1 : decode cX6_change 1 = .ok (.iload_n 1, 1) := by decide +kernel
theorem dX6_change_2 : decode cX6_change 2 = .ok (.invokevirtual 155, 3) := by decide +kernel
theorem dX6_change_5 : decode cX6_change 5 = .ok (.ifCond .ne 16, 3) := by decide +kernel
theorem dX6_change_8 : decode cX6_change 8 = .ok (.aload_n 0, 1) := by decide +kernel
theorem dX6_change_9 : decode cX6_change 9 = .ok (.iload_n 2, 1) := by decide +kernel
theorem dX6_change_10 : decode cX6_change 10 = .ok (.invokevirtual 155, 3) := by decide +kernel
theorem dX6_change_13 : decode cX6_change 13 = .ok (.ifCond .ne 8, 3) := by decide +kernel
theorem dX6_change_16 : decode cX6_change 16 = .ok (.iload_n 1, 1) := by decide +kernel
theorem dX6_change_17 : decode cX6_change 17 = .ok (.iload_n 2, 1) := by decide +kernel
theorem dX6_change_18 : decode cX6_change 18 = .ok (.if_icmp .ne 6, 3) := by decide +kernel
theorem dX6_change_21 : decode cX6_change 21 = .ok (.ldc 66, 2) := by decide +kernel
theorem dX6_change_23 : decode cX6_change 23 = .ok (.ireturn, 1) := by decide +kernel
theorem dX6_change_24 : decode cX6_change 24 = .ok (.aload_n 0, 1) := by decide +kernel
theorem dX6_change_25 : decode cX6_change 25 = .ok (.getfield 39, 3) := by decide +kernel
theorem dX6_change_28 : decode cX6_change 28 = .ok (.aload_n 0, 1) := by decide +kernel
theorem dX6_change_29 : decode cX6_change 29 = .ok (.getfield 25, 3) := by decide +kernel
theorem dX6_change_32 : decode cX6_change 32 = .ok (.invokevirtual 146, 3) := by decide +kernel
theorem dX6_change_35 : decode cX6_change 35 = .ok (.aload_n 0, 1) := by decide +kernel
theorem dX6_change_36 : decode cX6_change 36 = .ok (.getfield 25, 3) := by decide +kernel
theorem dX6_change_39 : decode cX6_change 39 = .ok (.iload_n 1, 1) := by decide +kernel
theorem dX6_change_40 : decode cX6_change 40 = .ok (.iload_n 2, 1) := by decide +kernel
theorem dX6_change_41 : decode cX6_change 41 = .ok (.invokevirtual 175, 3) := by decide +kernel
theorem dX6_change_44 : decode cX6_change 44 = .ok (.aload_n 0, 1) := by decide +kernel
theorem dX6_change_45 : decode cX6_change 45 = .ok (.getfield 25, 3) := by decide +kernel
theorem dX6_change_48 : decode cX6_change 48 = .ok (.getfield 178, 3) := by decide +kernel
theorem dX6_change_51 : decode cX6_change 51 = .ok (.iload_n 1, 1) := by decide +kernel
theorem dX6_change_52 : decode cX6_change 52 = .ok (.iaload, 1) := by decide +kernel
theorem dX6_change_53 : decode cX6_change 53 = .ok (.ireturn, 1) := by decide +kernel
theorem dX6_lorry_0 : decode cX6_lorry 0 = .ok (.aload_n 0, 1) := by decide +kernel
theorem dX6_lorry_1 : decode cX6_lorry 1 = .ok (.invokevirtual 139, 3) := by decide +kernel
theorem dX6_lorry_4 : decode cX6_lorry 4 = .ok (.ifCond .eq 6, 3) := by decide +kernel
theorem dX6_lorry_7 : decode cX6_lorry 7 = .ok (.ldc 135, 2) := by decide +kernel
theorem dX6_lorry_9 : decode cX6_lorry 9 = .ok (.ireturn, 1) := by decide +kernel
theorem dX6_lorry_10 : decode cX6_lorry 10 = .ok (.iload_n 1, 1) := by decide +kernel
theorem dX6_lorry_11 : decode cX6_lorry 11 = .ok (.iconst 0, 1) := by decide +kernel
theorem dX6_lorry_12 : decode cX6_lorry 12 = .ok (.bipush 99, 2) := by decide +kernel
theorem dX6_lorry_14 : decode cX6_lorry 14 = .ok (.invokestatic 62, 3) := by decide +kernel
theorem dX6_lorry_17 : decode cX6_lorry 17 = .ok (.ifCond .eq 6, 3) := by decide +kernel
theorem dX6_lorry_20 : decode cX6_lorry 20 = .ok (.ldc 66, 2) := by decide +kernel
theorem dX6_lorry_22 : decode cX6_lorry 22 = .ok (.ireturn, 1) := by decide +kernel
theorem dX6_lorry_23 : decode cX6_lorry 23 = .ok (.aload_n 0, 1) := by decide +kernel
theorem dX6_lorry_24 : decode cX6_lorry 24 = .ok (.getfield 39, 3) := by decide +kernel
theorem dX6_lorry_27 : decode cX6_lorry 27 = .ok (.aload_n 0, 1) := by decide +kernel
theorem dX6_lorry_28 : decode cX6_lorry 28 = .ok (.getfield 25, 3) := by decide +kernel
theorem dX6_lorry_31 : decode cX6_lorry 31 = .ok (.invokevirtual 146, 3) := by decide +kernel
theorem dX6_lorry_34 : decode cX6_lorry 34 = .ok (.aload_n 0, 1) := by decide +kernel
theorem dX6_lorry_35 : decode cX6_lorry 35 = .ok (.getfield 25, 3) := by decide +kernel
theorem dX6_lorry_38 : decode cX6_lorry 38 = .ok (.iload_n 1, 1) := by decide +kernel
theorem dX6_lorry_39 : decode cX6_lorry 39 = .ok (.invokevirtual 181, 3) := by decide +kernel
theorem dX6_lorry_42 : decode cX6_lorry 42 = .ok (.ireturn, 1) := by decide +kernel
theorem dX6_need_0 : decode cX6_need 0 = .ok (.aload_n 0, 1) := by decide +kernel
theorem dX6_need_1 : decode cX6_need 1 = .ok (.iload_n 1, 1) := by decide +kernel
theorem dX6_need_2 : decode cX6_need 2 = .ok (.invokevirtual 155, 3) := by decide +kernel
theorem dX6_need_5 : decode cX6_need 5 = .ok (.ifCond .ne 13, 3) := by decide +kernel
theorem dX6_need_8 : decode cX6_need 8 = .ok (.iload_n 2, 1) := by decide +kernel
theorem dX6_need_9 : decode cX6_need 9 = .ok (.iconst 1, 1) := by decide +kernel
theorem dX6_need_10 : decode cX6_need 10 = .ok (.bipush 9, 2) := by decide +kernel
theorem dX6_need_12 : decode cX6_need 12 = .ok (.invokestatic 62, 3) := by decide +kernel
theorem dX6_need_15 : decode cX6_need 15 = .ok (.ifCond .eq 6, 3) := by decide +kernel
theorem dX6_need_18 : decode cX6_need 18 = .ok (.ldc 66, 2) := by decide +kernel
theorem dX6_need_20 : decode cX6_need 20 = .ok (.ireturn, 1) := by decide +kernel
theorem dX6_need_21 : decode cX6_need 21 = .ok (.aload_n 0, 1) := by decide +kernel
theorem dX6_need_22 : decode cX6_need 22 = .ok (.getfield 39, 3) := by decide +kernel
theorem dX6_need_25 : decode cX6_need 25 = .ok (.aload_n 0, 1) := by decide +kernel
theorem dX6_need_26 : decode cX6_need 26 = .ok (.getfield 25, 3) := by decide +kernel
theorem dX6_need_29 : decode cX6_need 29 = .ok (.invokevirtual 146, 3) := by decide +kernel
theorem dX6_need_32 : decode cX6_need 32 = .ok (.aload_n 0, 1) := by decide +kernel
theorem dX6_need_33 : decode cX6_need 33 = .ok (.getfield 25, 3) := by decide +kernel
theorem dX6_need_36 : decode cX6_need 36 = .ok (.getfield 184, 3) := by decide +kernel
theorem dX6_need_39 : decode cX6_need 39 = .ok (.iload_n 1, 1) := by decide +kernel
theorem dX6_need_40 : decode cX6_need 40 = .ok (.iaload, 1) := by decide +kernel
theorem dX6_need_41 : decode cX6_need 41 = .ok (.istore_n 3, 1) := by decide +kernel
theorem dX6_need_42 : decode cX6_need 42 = .ok (.aload_n 0, 1) := by decide +kernel
theorem dX6_need_43 : decode cX6_need 43 = .ok (.getfield 25, 3) := by decide +kernel
theorem dX6_need_46 : decode cX6_need 46 = .ok (.getfield 184, 3) := by decide +kernel
theorem dX6_need_49 : decode cX6_need 49 = .ok (.iload_n 1, 1) := by decide +kernel
theorem dX6_need_50 : decode cX6_need 50 = .ok (.iload_n 2, 1) := by decide +kernel
theorem dX6_need_51 : decode cX6_need 51 = .ok (.iastore, 1) := by decide +kernel
theorem dX6_need_52 : decode cX6_need 52 = .ok (.iload_n 3, 1) := by decide +kernel
theorem dX6_need_53 : decode cX6_need 53 = .ok (.ireturn, 1) := by decide +kernel
theorem dX6_child_0 : decode cX6_child 0 = .ok (.aload_n 0, 1) := by decide +kernel
theorem dX6_child_1 : decode cX6_child 1 = .ok (.iload_n 1, 1) := by decide +kernel
theorem dX6_child_2 : decode cX6_child 2 = .ok (.invokevirtual 155, 3) := by decide +kernel
theorem dX6_child_5 : decode cX6_child 5 = .ok (.ifCond .eq 6, 3) := by decide +kernel
theorem dX6_child_8 : decode cX6_child 8 = .ok (.ldc 66, 2) := by decide +kernel
theorem dX6_child_10 : decode cX6_child 10 = .ok (.ireturn, 1) := by decide +kernel
theorem dX6_child_11 : decode cX6_child 11 = .ok (.iload_n 2, 1) := by decide +kernel
theorem dX6_child_12 : decode cX6_child 12 = .ok (.tableswitch 134 0 7 #[48, 58, 68, 78, 88, 98, 108, 118], 48) := by decide +kernel
theorem dX6_child_60 : decode cX6_child 60 = .ok (.aload_n 0, 1) := by decide +kernel
theorem dX6_child_61 : decode cX6_child 61 = .ok (.getfield 25, 3) := by decide +kernel
theorem dX6_child_64 : decode cX6_child 64 = .ok (.getfield 184, 3) := by decide +kernel
theorem dX6_child_67 : decode cX6_child 67 = .ok (.iload_n 1, 1) := by decide +kernel
theorem dX6_child_68 : decode cX6_child 68 = .ok (.iaload, 1) := by decide +kernel
theorem dX6_child_69 : decode cX6_child 69 = .ok (.ireturn, 1) := by decide +kernel
theorem dX6_child_70 : decode cX6_child 70 = .ok (.aload_n 0, 1) := by decide +kernel
theorem dX6_child_71 : decode cX6_child 71 = .ok (.getfield 25, 3) := by decide +kernel
theorem dX6_child_74 : decode cX6_child 74 = .ok (.getfield 187, 3) := by decide +kernel
theorem dX6_child_77 : decode cX6_child 77 = .ok (.iload_n 1, 1) := by decide +kernel
theorem dX6_child_78 : decode cX6_child 78 = .ok (.iaload, 1) := by decide +kernel
theorem dX6_child_79 : decode cX6_child 79 = .ok (.ireturn, 1) := by decide +kernel
theorem dX6_child_80 : decode cX6_child 80 = .ok (.aload_n 0, 1) := by decide +kernel
theorem dX6_child_81 : decode cX6_child 81 = .ok (.getfield 25, 3) := by decide +kernel
theorem dX6_child_84 : decode cX6_child 84 = .ok (.getfield 190, 3) := by decide +kernel
theorem dX6_child_87 : decode cX6_child 87 = .ok (.iload_n 1, 1) := by decide +kernel
theorem dX6_child_88 : decode cX6_child 88 = .ok (.iaload, 1) := by decide +kernel
theorem dX6_child_89 : decode cX6_child 89 = .ok (.ireturn, 1) := by decide +kernel
theorem dX6_child_90 : decode cX6_child 90 = .ok (.aload_n 0, 1) := by decide +kernel
theorem dX6_child_91 : decode cX6_child 91 = .ok (.getfield 25, 3) := by decide +kernel
theorem dX6_child_94 : decode cX6_child 94 = .ok (.getfield 178, 3) := by decide +kernel
theorem dX6_child_97 : decode cX6_child 97 = .ok (.iload_n 1, 1) := by decide +kernel
theorem dX6_child_98 : decode cX6_child 98 = .ok (.iaload, 1) := by decide +kernel
theorem dX6_child_99 : decode cX6_child 99 = .ok (.ireturn, 1) := by decide +kernel
theorem dX6_child_100 : decode cX6_child 100 = .ok (.aload_n 0, 1) := by decide +kernel
theorem dX6_child_101 : decode cX6_child 101 = .ok (.getfield 25, 3) := by decide +kernel
theorem dX6_child_104 : decode cX6_child 104 = .ok (.getfield 193, 3) := by decide +kernel
theorem dX6_child_107 : decode cX6_child 107 = .ok (.iload_n 1, 1) := by decide +kernel
theorem dX6_child_108 : decode cX6_child 108 = .ok (.iaload, 1) := by decide +kernel
theorem dX6_child_109 : decode cX6_child 109 = .ok (.ireturn, 1) := by decide +kernel
theorem dX6_child_110 : decode cX6_child 110 = .ok (.aload_n 0, 1) := by decide +kernel
theorem dX6_child_111 : decode cX6_child 111 = .ok (.getfield 25, 3) := by decide +kernel
theorem dX6_child_114 : decode cX6_child 114 = .ok (.getfield 196, 3) := by decide +kernel
theorem dX6_child_117 : decode cX6_child 117 = .ok (.iload_n 1, 1) := by decide +kernel
theorem dX6_child_118 : decode cX6_child 118 = .ok (.iaload, 1) := by decide +kernel
theorem dX6_child_119 : decode cX6_child 119 = .ok (.ireturn, 1) := by decide +kernel
theorem dX6_child_120 : decode cX6_child 120 = .ok (.aload_n 0, 1) := by decide +kernel
theorem dX6_child_121 : decode cX6_child 121 = .ok (.getfield 25, 3) := by decide +kernel
theorem dX6_child_124 : decode cX6_child 124 = .ok (.getfield 199, 3) := by decide +kernel
theorem dX6_child_127 : decode cX6_child 127 = .ok (.iload_n 1, 1) := by decide +kernel
theorem dX6_child_128 : decode cX6_child 128 = .ok (.iaload, 1) := by decide +kernel
theorem dX6_child_129 : decode cX6_child 129 = .ok (.ireturn, 1) := by decide +kernel
theorem dX6_child_130 : decode cX6_child 130 = .ok (.aload_n 0, 1) := by decide +kernel
theorem dX6_child_131 : decode cX6_child 131 = .ok (.getfield 25, 3) := by decide +kernel
theorem dX6_child_134 : decode cX6_child 134 = .ok (.iload_n 1, 1) := by decide +kernel
theorem dX6_child_135 : decode cX6_child 135 = .ok (.aload_n 0, 1) := by decide +kernel
theorem dX6_child_136 : decode cX6_child 136 = .ok (.getfield 25, 3) := by decide +kernel
theorem dX6_child_139 : decode cX6_child 139 = .ok (.invokevirtual 202, 3) := by decide +kernel
theorem dX6_child_142 : decode cX6_child 142 = .ok (.invokevirtual 206, 3) := by decide +kernel
theorem dX6_child_145 : decode cX6_child 145 = .ok (.ireturn, 1) := by decide +kernel
theorem dX6_child_146 : decode cX6_child 146 = .ok (.ldc 66, 2) := by decide +kernel
theorem dX6_child_148 : decode cX6_child 148 = .ok (.ireturn, 1) := by decide +kernel
theorem dX6_stand_0 : decode cX6_stand 0 = .ok (.aload_n 0, 1) := by decide +kernel
theorem dX6_stand_1 : decode cX6_stand 1 = .ok (.invokevirtual 139, 3) := by decide +kernel
theorem dX6_stand_4 : decode cX6_stand 4 = .ok (.ifCond .eq 6, 3) := by decide +kernel
theorem dX6_stand_7 : decode cX6_stand 7 = .ok (.ldc 135, 2) := by decide +kernel
theorem dX6_stand_9 : decode cX6_stand 9 = .ok (.ireturn, 1) := by decide +kernel
theorem dX6_stand_10 : decode cX6_stand 10 = .ok (.iload_n 1, 1) := by decide +kernel
theorem dX6_stand_11 : decode cX6_stand 11 = .ok (.tableswitch 76 0 4 #[33, 42, 51, 60, 68], 33) := by decide +kernel
theorem dX6_stand_44 : decode cX6_stand 44 = .ok (.aload_n 0, 1) := by decide +kernel
theorem dX6_stand_45 : decode cX6_stand 45 = .ok (.getfield 25, 3) := by decide +kernel
theorem dX6_stand_48 : decode cX6_stand 48 = .ok (.iconst 0, 1) := by decide +kernel
theorem dX6_stand_49 : decode cX6_stand 49 = .ok (.invokevirtual 152, 3) := by decide +kernel
theorem dX6_stand_52 : decode cX6_stand 52 = .ok (.ireturn, 1) := by decide +kernel
theorem dX6_stand_53 : decode cX6_stand 53 = .ok (.aload_n 0, 1) := by decide +kernel
theorem dX6_stand_54 : decode cX6_stand 54 = .ok (.getfield 25, 3) := by decide +kernel
theorem dX6_stand_57 : decode cX6_stand 57 = .ok (.iconst 1, 1) := by decide +kernel
theorem dX6_stand_58 : decode cX6_stand 58 = .ok (.invokevirtual 152, 3) := by decide +kernel
theorem dX6_stand_61 : decode cX6_stand 61 = .ok (.ireturn, 1) := by decide +kernel
theorem dX6_stand_62 : decode cX6_stand 62 = .ok (.aload_n 0, 1) := by decide +kernel
theorem dX6_stand_63 : decode cX6_stand 63 = .ok (.getfield 25, 3) := by decide +kernel
theorem dX6_stand_66 : decode cX6_stand 66 = .ok (.iconst 2, 1) := by decide +kernel
theorem dX6_stand_67 : decode cX6_stand 67 = .ok (.invokevirtual 152, 3) := by decide +kernel
theorem dX6_stand_70 : decode cX6_stand 70 = .ok (.ireturn, 1) := by decide +kernel
theorem dX6_stand_71 : decode cX6_stand 71 = .ok (.aload_n 0, 1) := by decide +kernel
theorem dX6_stand_72 : decode cX6_stand 72 = .ok (.getfield 25, 3) := by decide +kernel
theorem dX6_stand_75 : decode cX6_stand 75 = .ok (.getfield 172, 3) := by decide +kernel
theorem dX6_stand_78 : decode cX6_stand 78 = .ok (.ireturn, 1) := by decide +kernel
theorem dX6_stand_79 : decode cX6_stand 79 = .ok (.aload_n 0, 1) := by decide +kernel
theorem dX6_stand_80 : decode cX6_stand 80 = .ok (.getfield 25, 3) := by decide +kernel
theorem dX6_stand_83 : decode cX6_stand 83 = .ok (.getfield 158, 3) := by decide +kernel
theorem dX6_stand_86 : decode cX6_stand 86 = .ok (.ireturn, 1) := by decide +kernel
theorem dX6_stand_87 : decode cX6_stand 87 = .ok (.ldc 66, 2) := by decide +kernel
theorem dX6_stand_89 : decode cX6_stand 89 = .ok (.ireturn, 1) := by decide +kernel
theorem dX6_ahead_0 : decode cX6_ahead 0 = .ok (.aload_n 0, 1) := by decide +kernel
theorem dX6_ahead_1 : decode cX6_ahead 1 = .ok (.invokevirtual 139, 3) := by decide +kernel
theorem dX6_ahead_4 : decode cX6_ahead 4 = .ok (.ifCond .eq 6, 3) := by decide +kernel
theorem dX6_ahead_7 : decode cX6_ahead 7 = .ok (.ldc 135, 2) := by decide +kernel
theorem dX6_ahead_9 : decode cX6_ahead 9 = .ok (.ireturn, 1) := by decide +kernel
theorem dX6_ahead_10 : decode cX6_ahead 10 = .ok (.iload_n 1, 1) := by decide +kernel
theorem dX6_ahead_11 : decode cX6_ahead 11 = .ok (.iconst 0, 1) := by decide +kernel
theorem dX6_ahead_12 : decode cX6_ahead 12 = .ok (.bipush 60, 2) := by decide +kernel
theorem dX6_ahead_14 : decode cX6_ahead 14 = .ok (.invokestatic 62, 3) := by decide +kernel
theorem dX6_ahead_17 : decode cX6_ahead 17 = .ok (.ifCond .ne 12, 3) := by decide +kernel
theorem dX6_ahead_20 : decode cX6_ahead 20 = .ok (.iload_n 2, 1) := by decide +kernel
theorem dX6_ahead_21 : decode cX6_ahead 21 = .ok (.iconst 0, 1) := by decide +kernel
theorem dX6_ahead_22 : decode cX6_ahead 22 = .ok (.iconst 2, 1) := by decide +kernel
theorem dX6_ahead_23 : decode cX6_ahead 23 = .ok (.invokestatic 62, 3) := by decide +kernel
theorem dX6_ahead_26 : decode cX6_ahead 26 = .ok (.ifCond .eq 6, 3) := by decide +kernel
theorem dX6_ahead_29 : decode cX6_ahead 29 = .ok (.ldc 66, 2) := by decide +kernel
theorem dX6_ahead_31 : decode cX6_ahead 31 = .ok (.ireturn, 1) := by decide +kernel
theorem dX6_ahead_32 : decode cX6_ahead 32 = .ok (.aload_n 0, 1) := by decide +kernel
theorem dX6_ahead_33 : decode cX6_ahead 33 = .ok (.getfield 46, 3) := by decide +kernel
theorem dX6_ahead_36 : decode cX6_ahead 36 = .ok (.aload_n 0, 1) := by decide +kernel
theorem dX6_ahead_37 : decode cX6_ahead 37 = .ok (.getfield 25, 3) := by decide +kernel
theorem dX6_ahead_40 : decode cX6_ahead 40 = .ok (.iload_n 1, 1) := by decide +kernel
theorem dX6_ahead_41 : decode cX6_ahead 41 = .ok (.invokevirtual 209, 3) := by decide +kernel
theorem dX6_ahead_44 : decode cX6_ahead 44 = .ok (.iload_n 2, 1) := by decide +kernel
theorem dX6_ahead_45 : decode cX6_ahead 45 = .ok (.invokevirtual 152, 3) := by decide +kernel
theorem dX6_ahead_48 : decode cX6_ahead 48 = .ok (.ireturn, 1) := by decide +kernel
theorem dX6_noise_0 : decode cX6_noise 0 = .ok (.aload_n 0, 1) := by decide +kernel
theorem dX6_noise_1 : decode cX6_noise 1 = .ok (.iload_n 1, 1) := by decide +kernel
theorem dX6_noise_2 : decode cX6_noise 2 = .ok (.invokevirtual 155, 3) := by decide +kernel
theorem dX6_noise_5 : decode cX6_noise 5 = .ok (.ifCond .ne 13, 3) := by decide +kernel
theorem dX6_noise_8 : decode cX6_noise 8 = .ok (.iload_n 2, 1) := by decide +kernel
theorem dX6_noise_9 : decode cX6_noise 9 = .ok (.iconst 0, 1) := by decide +kernel
theorem dX6_noise_10 : decode cX6_noise 10 = .ok (.bipush 60, 2) := by decide +kernel
theorem dX6_noise_12 : decode cX6_noise 12 = .ok (.invokestatic 62, 3) := by decide +kernel
theorem dX6_noise_15 : decode cX6_noise 15 = .ok (.ifCond .eq 6, 3) := by decide +kernel
theorem dX6_noise_18 : decode cX6_noise 18 = .ok (.ldc 66, 2) := by decide +kernel
theorem dX6_noise_20 : decode cX6_noise 20 = .ok (.ireturn, 1) := by decide +kernel
theorem dX6_noise_21 : decode cX6_noise 21 = .ok (.aload_n 0, 1) := by decide +kernel
theorem dX6_noise_22 : decode cX6_noise 22 = .ok (.getfield 46, 3) := by decide +kernel
theorem dX6_noise_25 : decode cX6_noise 25 = .ok (.aload_n 0, 1) := by decide +kernel
theorem dX6_noise_26 : decode cX6_noise 26 = .ok (.getfield 25, 3) := by decide +kernel
theorem dX6_noise_29 : decode cX6_noise 29 = .ok (.iload_n 2, 1) := by decide +kernel
theorem dX6_noise_30 : decode cX6_noise 30 = .ok (.invokevirtual 209, 3) := by decide +kernel
theorem dX6_noise_33 : decode cX6_noise 33 = .ok (.astore_n 3, 1) := by decide +kernel
theorem dX6_noise_34 : decode cX6_noise 34 = .ok (.aload_n 3, 1) := by decide +kernel
theorem dX6_noise_35 : decode cX6_noise 35 = .ok (.iload_n 1, 1) := by decide +kernel
theorem dX6_noise_36 : decode cX6_noise 36 = .ok (.aload_n 3, 1) := by decide +kernel
theorem dX6_noise_37 : decode cX6_noise 37 = .ok (.invokevirtual 202, 3) := by decide +kernel
theorem dX6_noise_40 : decode cX6_noise 40 = .ok (.invokevirtual 206, 3) := by decide +kernel
theorem dX6_noise_43 : decode cX6_noise 43 = .ok (.ireturn, 1) := by decide +kernel
theorem dX6_asleep_0 : decode cX6_asleep 0 = .ok (.aload_n 0, 1) := by decide +kernel
theorem dX6_asleep_1 : decode cX6_asleep 1 = .ok (.iload_n 1, 1) := by decide +kernel

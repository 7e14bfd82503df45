/-! what stands at each place of the code -/
theorem dX7_best_113 : decode cX7_best 113 = .ok (.iload_n 3, 1) := by decide +kernel
theorem dX7_best_114 : decode cX7_best 114 = .ok (.istore_n 3, 1) := by decide +kernel
theorem dX7_best_115 : decode cX7_best 115 = .ok (.iload 7, 2) := by decide +kernel
theorem dX7_best_117 : decode cX7_best 117 = .ok (.iload 4, 2) := by decide +kernel
theorem dX7_best_119 : decode cX7_best 119 = .ok (.if_icmp .le 8, 3) := by decide +kernel
theorem dX7_best_122 : decode cX7_best 122 = .ok (.iload 7, 2) := by decide +kernel
theorem dX7_best_124 : decode cX7_best 124 = .ok (.goto 5, 3) := by decide +kernel
theorem dX7_best_127 : decode cX7_best 127 = .ok (.iload 4, 2) := by decide +kernel
theorem dX7_best_129 : decode cX7_best 129 = .ok (.istore 4, 2) := by decide +kernel
theorem dX7_best_131 : decode cX7_best 131 = .ok (.iinc 6 1, 3) := by decide +kernel
theorem dX7_best_134 : decode cX7_best 134 = .ok (.goto (-84), 3) := by decide +kernel
theorem dX7_best_137 : decode cX7_best 137 = .ok (.iinc 5 1, 3) := by decide +kernel
theorem dX7_best_140 : decode cX7_best 140 = .ok (.goto (-108), 3) := by decide +kernel
theorem dX7_best_143 : decode cX7_best 143 = .ok (.iload_n 2, 1) := by decide +kernel
theorem dX7_best_144 : decode cX7_best 144 = .ok (.ifCond .ne 7, 3) := by decide +kernel
theorem dX7_best_147 : decode cX7_best 147 = .ok (.iload_n 3, 1) := by decide +kernel
theorem dX7_best_148 : decode cX7_best 148 = .ok (.goto 5, 3) := by decide +kernel
theorem dX7_best_151 : decode cX7_best 151 = .ok (.iload 4, 2) := by decide +kernel
theorem dX7_best_153 : decode cX7_best 153 = .ok (.ireturn, 1) := by decide +kernel
theorem dX7_silence_0 : decode cX7_silence 0 = .ok (.aload_n 0, 1) := by decide +kernel
theorem dX7_silence_1 : decode cX7_silence 1 = .ok (.invokevirtual 154, 3) := by decide +kernel
theorem dX7_silence_4 : decode cX7_silence 4 = .ok (.ifCond .ne 6, 3) := by decide +kernel
theorem dX7_silence_7 : decode cX7_silence 7 = .ok (.ldc 153, 2) := by decide +kernel
theorem dX7_silence_9 : decode cX7_silence 9 = .ok (.ireturn, 1) := by decide +kernel
theorem dX7_silence_10 : decode cX7_silence 10 = .ok (.bipush 99, 2) := by decide +kernel
theorem dX7_silence_12 : decode cX7_silence 12 = .ok (.istore_n 1, 1) := by decide +kernel
theorem dX7_silence_13 : decode cX7_silence 13 = .ok (.iconst 0, 1) := by decide +kernel
theorem dX7_silence_14 : decode cX7_silence 14 = .ok (.istore_n 2, 1) := by decide +kernel
theorem dX7_silence_15 : decode cX7_silence 15 = .ok (.iload_n 2, 1) := by decide +kernel
theorem dX7_silence_16 : decode cX7_silence 16 = .ok (.aload_n 0, 1) := by decide +kernel
theorem dX7_silence_17 : decode cX7_silence 17 = .ok (.getfield 7, 3) := by decide +kernel
theorem dX7_silence_20 : decode cX7_silence 20 = .ok (.bipush 41, 2) := by decide +kernel
theorem dX7_silence_22 : decode cX7_silence 22 = .ok (.iaload, 1) := by decide +kernel
theorem dX7_silence_23 : decode cX7_silence 23 = .ok (.if_icmp .ge 62, 3) := by decide +kernel
theorem dX7_silence_26 : decode cX7_silence 26 = .ok (.aload_n 0, 1) := by decide +kernel
theorem dX7_silence_27 : decode cX7_silence 27 = .ok (.getfield 7, 3) := by decide +kernel
theorem dX7_silence_30 : decode cX7_silence 30 = .ok (.bipush 8, 2) := by decide +kernel
theorem dX7_silence_32 : decode cX7_silence 32 = .ok (.iload_n 2, 1) := by decide +kernel
theorem dX7_silence_33 : decode cX7_silence 33 = .ok (.iadd, 1) := by decide +kernel
theorem dX7_silence_34 : decode cX7_silence 34 = .ok (.iaload, 1) := by decide +kernel
theorem dX7_silence_35 : decode cX7_silence 35 = .ok (.iconst 2, 1) := by decide +kernel
theorem dX7_silence_36 : decode cX7_silence 36 = .ok (.if_icmp .ne 16, 3) := by decide +kernel
theorem dX7_silence_39 : decode cX7_silence 39 = .ok (.aload_n 0, 1) := by decide +kernel
theorem dX7_silence_40 : decode cX7_silence 40 = .ok (.iconst 0, 1) := by decide +kernel
theorem dX7_silence_41 : decode cX7_silence 41 = .ok (.iload_n 2, 1) := by decide +kernel
theorem dX7_silence_42 : decode cX7_silence 42 = .ok (.invokevirtual 126, 3) := by decide +kernel
theorem dX7_silence_45 : decode cX7_silence 45 = .ok (.ifCond .ne 7, 3) := by decide +kernel
theorem dX7_silence_48 : decode cX7_silence 48 = .ok (.iconst 1, 1) := by decide +kernel
theorem dX7_silence_49 : decode cX7_silence 49 = .ok (.goto 4, 3) := by decide +kernel
theorem dX7_silence_52 : decode cX7_silence 52 = .ok (.iconst 0, 1) := by decide +kernel
theorem dX7_silence_53 : decode cX7_silence 53 = .ok (.istore_n 3, 1) := by decide +kernel
theorem dX7_silence_54 : decode cX7_silence 54 = .ok (.iload_n 3, 1) := by decide +kernel
theorem dX7_silence_55 : decode cX7_silence 55 = .ok (.ifCond .eq 22, 3) := by decide +kernel
theorem dX7_silence_58 : decode cX7_silence 58 = .ok (.aload_n 0, 1) := by decide +kernel
theorem dX7_silence_59 : decode cX7_silence 59 = .ok (.iconst 0, 1) := by decide +kernel
theorem dX7_silence_60 : decode cX7_silence 60 = .ok (.iload_n 2, 1) := by decide +kernel
theorem dX7_silence_61 : decode cX7_silence 61 = .ok (.invokevirtual 136, 3) := by decide +kernel
theorem dX7_silence_64 : decode cX7_silence 64 = .ok (.iload_n 1, 1) := by decide +kernel
theorem dX7_silence_65 : decode cX7_silence 65 = .ok (.if_icmp .ge 12, 3) := by decide +kernel
theorem dX7_silence_68 : decode cX7_silence 68 = .ok (.aload_n 0, 1) := by decide +kernel
theorem dX7_silence_69 : decode cX7_silence 69 = .ok (.iconst 0, 1) := by decide +kernel
theorem dX7_silence_70 : decode cX7_silence 70 = .ok (.iload_n 2, 1) := by decide +kernel
theorem dX7_silence_71 : decode cX7_silence 71 = .ok (.invokevirtual 136, 3) := by decide +kernel
theorem dX7_silence_74 : decode cX7_silence 74 = .ok (.goto 4, 3) := by decide +kernel
theorem dX7_silence_77 : decode cX7_silence 77 = .ok (.iload_n 1, 1) := by decide +kernel
theorem dX7_silence_78 : decode cX7_silence 78 = .ok (.istore_n 1, 1) := by decide +kernel
theorem dX7_silence_79 : decode cX7_silence 79 = .ok (.iinc 2 1, 3) := by decide +kernel
theorem dX7_silence_82 : decode cX7_silence 82 = .ok (.goto (-67), 3) := by decide +kernel
theorem dX7_silence_85 : decode cX7_silence 85 = .ok (.iload_n 1, 1) := by decide +kernel
theorem dX7_silence_86 : decode cX7_silence 86 = .ok (.ireturn, 1) := by decide +kernel
theorem dX7_wakes_0 : decode cX7_wakes 0 = .ok (.aload_n 0, 1) := by decide +kernel
theorem dX7_wakes_1 : decode cX7_wakes 1 = .ok (.iload_n 1, 1) := by decide +kernel
theorem dX7_wakes_2 : decode cX7_wakes 2 = .ok (.invokevirtual 166, 3) := by decide +kernel
theorem dX7_wakes_5 : decode cX7_wakes 5 = .ok (.ifCond .ne 6, 3) := by decide +kernel
theorem dX7_wakes_8 : decode cX7_wakes 8 = .ok (.ldc 58, 2) := by decide +kernel
theorem dX7_wakes_10 : decode cX7_wakes 10 = .ok (.ireturn, 1) := by decide +kernel
theorem dX7_wakes_11 : decode cX7_wakes 11 = .ok (.aload_n 0, 1) := by decide +kernel
theorem dX7_wakes_12 : decode cX7_wakes 12 = .ok (.iconst 0, 1) := by decide +kernel
theorem dX7_wakes_13 : decode cX7_wakes 13 = .ok (.iload_n 1, 1) := by decide +kernel
theorem dX7_wakes_14 : decode cX7_wakes 14 = .ok (.invokevirtual 126, 3) := by decide +kernel
theorem dX7_wakes_17 : decode cX7_wakes 17 = .ok (.ifCond .eq 6, 3) := by decide +kernel
theorem dX7_wakes_20 : decode cX7_wakes 20 = .ok (.ldc 153, 2) := by decide +kernel
theorem dX7_wakes_22 : decode cX7_wakes 22 = .ok (.ireturn, 1) := by decide +kernel
theorem dX7_wakes_23 : decode cX7_wakes 23 = .ok (.aload_n 0, 1) := by decide +kernel
theorem dX7_wakes_24 : decode cX7_wakes 24 = .ok (.invokevirtual 187, 3) := by decide +kernel
theorem dX7_wakes_27 : decode cX7_wakes 27 = .ok (.aload_n 0, 1) := by decide +kernel
theorem dX7_wakes_28 : decode cX7_wakes 28 = .ok (.iconst 1, 1) := by decide +kernel
theorem dX7_wakes_29 : decode cX7_wakes 29 = .ok (.invokevirtual 190, 3) := by decide +kernel
theorem dX7_wakes_32 : decode cX7_wakes 32 = .ok (.aload_n 0, 1) := by decide +kernel
theorem dX7_wakes_33 : decode cX7_wakes 33 = .ok (.sipush 189, 3) := by decide +kernel
theorem dX7_wakes_36 : decode cX7_wakes 36 = .ok (.iconst 2, 1) := by decide +kernel
theorem dX7_wakes_37 : decode cX7_wakes 37 = .ok (.invokevirtual 150, 3) := by decide +kernel
theorem dX7_wakes_40 : decode cX7_wakes 40 = .ok (.istore_n 2, 1) := by decide +kernel
theorem dX7_wakes_41 : decode cX7_wakes 41 = .ok (.aload_n 0, 1) := by decide +kernel
theorem dX7_wakes_42 : decode cX7_wakes 42 = .ok (.invokevirtual 187, 3) := by decide +kernel
theorem dX7_wakes_45 : decode cX7_wakes 45 = .ok (.aload_n 0, 1) := by decide +kernel
theorem dX7_wakes_46 : decode cX7_wakes 46 = .ok (.getfield 7, 3) := by decide +kernel
theorem dX7_wakes_49 : decode cX7_wakes 49 = .ok (.sipush 197, 3) := by decide +kernel
theorem dX7_wakes_52 : decode cX7_wakes 52 = .ok (.iload_n 1, 1) := by decide +kernel
theorem dX7_wakes_53 : decode cX7_wakes 53 = .ok (.iadd, 1) := by decide +kernel
theorem dX7_wakes_54 : decode cX7_wakes 54 = .ok (.iconst 1, 1) := by decide +kernel
theorem dX7_wakes_55 : decode cX7_wakes 55 = .ok (.iastore, 1) := by decide +kernel
theorem dX7_wakes_56 : decode cX7_wakes 56 = .ok (.aload_n 0, 1) := by decide +kernel
theorem dX7_wakes_57 : decode cX7_wakes 57 = .ok (.getfield 7, 3) := by decide +kernel
theorem dX7_wakes_60 : decode cX7_wakes 60 = .ok (.sipush 204, 3) := by decide +kernel
theorem dX7_wakes_63 : decode cX7_wakes 63 = .ok (.iload_n 1, 1) := by decide +kernel
theorem dX7_wakes_64 : decode cX7_wakes 64 = .ok (.iadd, 1) := by decide +kernel
theorem dX7_wakes_65 : decode cX7_wakes 65 = .ok (.aload_n 0, 1) := by decide +kernel
theorem dX7_wakes_66 : decode cX7_wakes 66 = .ok (.getfield 7, 3) := by decide +kernel
theorem dX7_wakes_69 : decode cX7_wakes 69 = .ok (.bipush 40, 2) := by decide +kernel
theorem dX7_wakes_71 : decode cX7_wakes 71 = .ok (.iaload, 1) := by decide +kernel
theorem dX7_wakes_72 : decode cX7_wakes 72 = .ok (.iastore, 1) := by decide +kernel
theorem dX7_wakes_73 : decode cX7_wakes 73 = .ok (.aload_n 0, 1) := by decide +kernel
theorem dX7_wakes_74 : decode cX7_wakes 74 = .ok (.iconst 1, 1) := by decide +kernel
theorem dX7_wakes_75 : decode cX7_wakes 75 = .ok (.invokevirtual 190, 3) := by decide +kernel
theorem dX7_wakes_78 : decode cX7_wakes 78 = .ok (.iload_n 2, 1) := by decide +kernel
theorem dX7_wakes_79 : decode cX7_wakes 79 = .ok (.aload_n 0, 1) := by decide +kernel
theorem dX7_wakes_80 : decode cX7_wakes 80 = .ok (.sipush 189, 3) := by decide +kernel
theorem dX7_wakes_83 : decode cX7_wakes 83 = .ok (.iconst 2, 1) := by decide +kernel
theorem dX7_wakes_84 : decode cX7_wakes 84 = .ok (.invokevirtual 150, 3) := by decide +kernel
theorem dX7_wakes_87 : decode cX7_wakes 87 = .ok (.iconst (-1), 1) := by decide +kernel
theorem dX7_wakes_88 : decode cX7_wakes 88 = .ok (.ixor, 1) := by decide +kernel
theorem dX7_wakes_89 : decode cX7_wakes 89 = .ok (.iand, 1) := by decide +kernel
theorem dX7_wakes_90 : decode cX7_wakes 90 = .ok (.iconst 1, 1) := by decide +kernel
theorem dX7_wakes_91 : decode cX7_wakes 91 = .ok (.iload_n 1, 1) := by decide +kernel
theorem dX7_wakes_92 : decode cX7_wakes 92 = .ok (.ishl, 1) := by decide +kernel
theorem dX7_wakes_93 : decode cX7_wakes 93 = .ok (.iconst (-1), 1) := by decide +kernel
theorem dX7_wakes_94 : decode cX7_wakes 94 = .ok (.ixor, 1) := by decide +kernel
theorem dX7_wakes_95 : decode cX7_wakes 95 = .ok (.iand, 1) := by decide +kernel
theorem dX7_wakes_96 : decode cX7_wakes 96 = .ok (.ireturn, 1) := by decide +kernel
theorem dX7_loudest_0 : decode cX7_loudest 0 = .ok (.aload_n 0, 1) := by decide +kernel
theorem dX7_loudest_1 : decode cX7_loudest 1 = .ok (.invokevirtual 154, 3) := by decide +kernel
theorem dX7_loudest_4 : decode cX7_loudest 4 = .ok (.ifCond .ne 6, 3) := by decide +kernel
theorem dX7_loudest_7 : decode cX7_loudest 7 = .ok (.ldc 153, 2) := by decide +kernel
theorem dX7_loudest_9 : decode cX7_loudest 9 = .ok (.ireturn, 1) := by decide +kernel
theorem dX7_loudest_10 : decode cX7_loudest 10 = .ok (.iconst 0, 1) := by decide +kernel
theorem dX7_loudest_11 : decode cX7_loudest 11 = .ok (.istore_n 1, 1) := by decide +kernel
theorem dX7_loudest_12 : decode cX7_loudest 12 = .ok (.iconst 1, 1) := by decide +kernel
theorem dX7_loudest_13 : decode cX7_loudest 13 = .ok (.istore_n 2, 1) := by decide +kernel
theorem dX7_loudest_14 : decode cX7_loudest 14 = .ok (.iload_n 2, 1) := by decide +kernel
theorem dX7_loudest_15 : decode cX7_loudest 15 = .ok (.aload_n 0, 1) := by decide +kernel
theorem dX7_loudest_16 : decode cX7_loudest 16 = .ok (.getfield 7, 3) := by decide +kernel
theorem dX7_loudest_19 : decode cX7_loudest 19 = .ok (.bipush 41, 2) := by decide +kernel
theorem dX7_loudest_21 : decode cX7_loudest 21 = .ok (.iaload, 1) := by decide +kernel
theorem dX7_loudest_22 : decode cX7_loudest 22 = .ok (.if_icmp .ge 30, 3) := by decide +kernel
theorem dX7_loudest_25 : decode cX7_loudest 25 = .ok (.aload_n 0, 1) := by decide +kernel
theorem dX7_loudest_26 : decode cX7_loudest 26 = .ok (.iconst 0, 1) := by decide +kernel
theorem dX7_loudest_27 : decode cX7_loudest 27 = .ok (.iload_n 2, 1) := by decide +kernel
theorem dX7_loudest_28 : decode cX7_loudest 28 = .ok (.invokevirtual 133, 3) := by decide +kernel
theorem dX7_loudest_31 : decode cX7_loudest 31 = .ok (.aload_n 0, 1) := by decide +kernel
theorem dX7_loudest_32 : decode cX7_loudest 32 = .ok (.iconst 0, 1) := by decide +kernel
theorem dX7_loudest_33 : decode cX7_loudest 33 = .ok (.iload_n 1, 1) := by decide +kernel
theorem dX7_loudest_34 : decode cX7_loudest 34 = .ok (.invokevirtual 133, 3) := by decide +kernel
theorem dX7_loudest_37 : decode cX7_loudest 37 = .ok (.if_icmp .le 7, 3) := by decide +kernel
theorem dX7_loudest_40 : decode cX7_loudest 40 = .ok (.iload_n 2, 1) := by decide +kernel
theorem dX7_loudest_41 : decode cX7_loudest 41 = .ok (.goto 4, 3) := by decide +kernel
theorem dX7_loudest_44 : decode cX7_loudest 44 = .ok (.iload_n 1, 1) := by decide +kernel
theorem dX7_loudest_45 : decode cX7_loudest 45 = .ok (.istore_n 1, 1) := by decide +kernel
theorem dX7_loudest_46 : decode cX7_loudest 46 = .ok (.iinc 2 1, 3) := by decide +kernel
theorem dX7_loudest_49 : decode cX7_loudest 49 = .ok (.goto (-35), 3) := by decide +kernel
theorem dX7_loudest_52 : decode cX7_loudest 52 = .ok (.iload_n 1, 1) := by decide +kernel
theorem dX7_loudest_53 : decode cX7_loudest 53 = .ok (.ireturn, 1) := by decide +kernel
theorem dX7_isSo_0 : decode cX7_isSo 0 = .ok (.iconst 1, 1) := by decide +kernel
theorem dX7_isSo_1 : decode cX7_isSo 1 = .ok (.istore_n 3, 1) := by decide +kernel
theorem dX7_isSo_2 : decode cX7_isSo 2 = .ok (.iconst 0, 1) := by decide +kernel
theorem dX7_isSo_3 : decode cX7_isSo 3 = .ok (.istore 4, 2) := by decide +kernel
theorem dX7_isSo_5 : decode cX7_isSo 5 = .ok (.iload 4, 2) := by decide +kernel
theorem dX7_isSo_7 : decode cX7_isSo 7 = .ok (.iload_n 2, 1) := by decide +kernel
theorem dX7_isSo_8 : decode cX7_isSo 8 = .ok (.if_icmp .ge 46, 3) := by decide +kernel
theorem dX7_isSo_11 : decode cX7_isSo 11 = .ok (.aload_n 0, 1) := by decide +kernel
theorem dX7_isSo_12 : decode cX7_isSo 12 = .ok (.sipush 189, 3) := by decide +kernel
theorem dX7_isSo_15 : decode cX7_isSo 15 = .ok (.invokevirtual 162, 3) := by decide +kernel
theorem dX7_isSo_18 : decode cX7_isSo 18 = .ok (.iload_n 3, 1) := by decide +kernel
theorem dX7_isSo_19 : decode cX7_isSo 19 = .ok (.ifCond .eq 27, 3) := by decide +kernel
theorem dX7_isSo_22 : decode cX7_isSo 22 = .ok (.aload_n 0, 1) := by decide +kernel
theorem dX7_isSo_23 : decode cX7_isSo 23 = .ok (.sipush 189, 3) := by decide +kernel
theorem dX7_isSo_26 : decode cX7_isSo 26 = .ok (.iconst 2, 1) := by decide +kernel
theorem dX7_isSo_27 : decode cX7_isSo 27 = .ok (.invokevirtual 150, 3) := by decide +kernel
theorem dX7_isSo_30 : decode cX7_isSo 30 = .ok (.aload_n 0, 1) := by decide +kernel
theorem dX7_isSo_31 : decode cX7_isSo 31 = .ok (.getfield 20, 3) := by decide +kernel
theorem dX7_isSo_34 : decode cX7_isSo 34 = .ok (.iload_n 1, 1) := by decide +kernel
theorem dX7_isSo_35 : decode cX7_isSo 35 = .ok (.iload 4, 2) := by decide +kernel
theorem dX7_isSo_37 : decode cX7_isSo 37 = .ok (.iadd, 1) := by decide +kernel
theorem dX7_isSo_38 : decode cX7_isSo 38 = .ok (.iaload, 1) := by decide +kernel
theorem dX7_isSo_39 : decode cX7_isSo 39 = .ok (.if_icmp .ne 7, 3) := by decide +kernel
theorem dX7_isSo_42 : decode cX7_isSo 42 = .ok (.iconst 1, 1) := by decide +kernel
theorem dX7_isSo_43 : decode cX7_isSo 43 = .ok (.goto 4, 3) := by decide +kernel
theorem dX7_isSo_46 : decode cX7_isSo 46 = .ok (.iconst 0, 1) := by decide +kernel
theorem dX7_isSo_47 : decode cX7_isSo 47 = .ok (.istore_n 3, 1) := by decide +kernel
theorem dX7_isSo_48 : decode cX7_isSo 48 = .ok (.iinc 4 1, 3) := by decide +kernel
theorem dX7_isSo_51 : decode cX7_isSo 51 = .ok (.goto (-46), 3) := by decide +kernel
theorem dX7_isSo_54 : decode cX7_isSo 54 = .ok (.iload_n 3, 1) := by decide +kernel
theorem dX7_isSo_55 : decode cX7_isSo 55 = .ok (.ireturn, 1) := by decide +kernel
theorem dX7_who_0 : decode cX7_who 0 = .ok (.aload_n 0, 1) := by decide +kernel
theorem dX7_who_1 : decode cX7_who 1 = .ok (.iload_n 1, 1) := by decide +kernel
theorem dX7_who_2 : decode cX7_who 2 = .ok (.invokevirtual 166, 3) := by decide +kernel
theorem dX7_who_5 : decode cX7_who 5 = .ok (.ifCond .eq 35, 3) := by decide +kernel
theorem dX7_who_8 : decode cX7_who 8 = .ok (.iload_n 2, 1) := by decide +kernel
theorem dX7_who_9 : decode cX7_who 9 = .ok (.i2l, 1) := by decide +kernel
theorem dX7_who_10 : decode cX7_who 10 = .ok (.lconst 0, 1) := by decide +kernel
theorem dX7_who_11 : decode cX7_who 11 = .ok (.ldc2_w 202, 3) := by decide +kernel
theorem dX7_who_14 : decode cX7_who 14 = .ok (.invokestatic 48, 3) := by decide +kernel
theorem dX7_who_17 : decode cX7_who 17 = .ok (.ifCond .eq 23, 3) := by decide +kernel
theorem dX7_who_20 : decode cX7_who 20 = .ok (.iload_n 3, 1) := by decide +kernel
theorem dX7_who_21 : decode cX7_who 21 = .ok (.invokestatic 52, 3) := by decide +kernel
theorem dX7_who_24 : decode cX7_who 24 = .ok (.ifCond .eq 16, 3) := by decide +kernel
theorem dX7_who_27 : decode cX7_who 27 = .ok (.iload 5, 2) := by decide +kernel
theorem dX7_who_29 : decode cX7_who 29 = .ok (.i2l, 1) := by decide +kernel
theorem dX7_who_30 : decode cX7_who 30 = .ok (.lconst 1, 1) := by decide +kernel
theorem dX7_who_31 : decode cX7_who 31 = .ok (.ldc2_w 204, 3) := by decide +kernel
theorem dX7_who_34 : decode cX7_who 34 = .ok (.invokestatic 48, 3) := by decide +kernel
theorem dX7_who_37 : decode cX7_who 37 = .ok (.ifCond .ne 6, 3) := by decide +kernel
theorem dX7_who_40 : decode cX7_who 40 = .ok (.ldc 58, 2) := by decide +kernel
theorem dX7_who_42 : decode cX7_who 42 = .ok (.ireturn, 1) := by decide +kernel
theorem dX7_who_43 : decode cX7_who 43 = .ok (.aload_n 0, 1) := by decide +kernel
theorem dX7_who_44 : decode cX7_who 44 = .ok (.iload_n 3, 1) := by decide +kernel
theorem dX7_who_45 : decode cX7_who 45 = .ok (.iload 4, 2) := by decide +kernel
theorem dX7_who_47 : decode cX7_who 47 = .ok (.iload 5, 2) := by decide +kernel
theorem dX7_who_49 : decode cX7_who 49 = .ok (.invokevirtual 206, 3) := by decide +kernel
theorem dX7_who_52 : decode cX7_who 52 = .ok (.istore 6, 2) := by decide +kernel
theorem dX7_who_54 : decode cX7_who 54 = .ok (.iload 6, 2) := by decide +kernel
theorem dX7_who_56 : decode cX7_who 56 = .ok (.ifCond .ge 6, 3) := by decide +kernel
theorem dX7_who_59 : decode cX7_who 59 = .ok (.iload 6, 2) := by decide +kernel
theorem dX7_who_61 : decode cX7_who 61 = .ok (.ireturn, 1) := by decide +kernel
theorem dX7_who_62 : decode cX7_who 62 = .ok (.iload_n 2, 1) := by decide +kernel
theorem dX7_who_63 : decode cX7_who 63 = .ok (.ifCond .ne 8, 3) := by decide +kernel
theorem dX7_who_66 : decode cX7_who 66 = .ok (.bipush 42, 2) := by decide +kernel
theorem dX7_who_68 : decode cX7_who 68 = .ok (.goto 24, 3) := by decide +kernel
theorem dX7_who_71 : decode cX7_who 71 = .ok (.iload_n 2, 1) := by decide +kernel
theorem dX7_who_72 : decode cX7_who 72 = .ok (.iconst 1, 1) := by decide +kernel
theorem dX7_who_73 : decode cX7_who 73 = .ok (.if_icmp .ne 7, 3) := by decide +kernel
theorem dX7_who_76 : decode cX7_who 76 = .ok (.iconst 1, 1) := by decide +kernel
theorem dX7_who_77 : decode cX7_who 77 = .ok (.goto 15, 3) := by decide +kernel
theorem dX7_who_80 : decode cX7_who 80 = .ok (.iload_n 2, 1) := by decide +kernel
theorem dX7_who_81 : decode cX7_who 81 = .ok (.iconst 2, 1) := by decide +kernel
theorem dX7_who_82 : decode cX7_who 82 = .ok (.if_icmp .ne 8, 3) := by decide +kernel
theorem dX7_who_85 : decode cX7_who 85 = .ok (.bipush 49, 2) := by decide +kernel
theorem dX7_who_87 : decode cX7_who 87 = .ok (.goto 5, 3) := by decide +kernel
theorem dX7_who_90 : decode cX7_who 90 = .ok (.bipush 56, 2) := by decide +kernel
theorem dX7_who_92 : decode cX7_who 92 = .ok (.istore 7, 2) := by decide +kernel
theorem dX7_who_94 : decode cX7_who 94 = .ok (.iconst 0, 1) := by decide +kernel
theorem dX7_who_95 : decode cX7_who 95 = .ok (.istore 8, 2) := by decide +kernel
theorem dX7_who_97 : decode cX7_who 97 = .ok (.iload_n 2, 1) := by decide +kernel
theorem dX7_who_98 : decode cX7_who 98 = .ok (.iconst 2, 1) := by decide +kernel
theorem dX7_who_99 : decode cX7_who 99 = .ok (.if_icmp .ge 7, 3) := by decide +kernel
theorem dX7_who_102 : decode cX7_who 102 = .ok (.iconst 1, 1) := by decide +kernel
theorem dX7_who_103 : decode cX7_who 103 = .ok (.goto 4, 3) := by decide +kernel
theorem dX7_who_106 : decode cX7_who 106 = .ok (.iconst 0, 1) := by decide +kernel
theorem dX7_who_107 : decode cX7_who 107 = .ok (.istore 9, 2) := by decide +kernel
theorem dX7_who_109 : decode cX7_who 109 = .ok (.iload 9, 2) := by decide +kernel
theorem dX7_who_111 : decode cX7_who 111 = .ok (.iload_n 2, 1) := by decide +kernel
theorem dX7_who_112 : decode cX7_who 112 = .ok (.ifCond .ne 7, 3) := by decide +kernel
theorem dX7_who_115 : decode cX7_who 115 = .ok (.iconst 5, 1) := by decide +kernel
theorem dX7_who_116 : decode cX7_who 116 = .ok (.goto 5, 3) := by decide +kernel
theorem dX7_who_119 : decode cX7_who 119 = .ok (.bipush 9, 2) := by decide +kernel
theorem dX7_who_121 : decode cX7_who 121 = .ok (.if_icmp .gt 57, 3) := by decide +kernel
theorem dX7_who_124 : decode cX7_who 124 = .ok (.aload_n 0, 1) := by decide +kernel
theorem dX7_who_125 : decode cX7_who 125 = .ok (.invokevirtual 187, 3) := by decide +kernel
theorem dX7_who_128 : decode cX7_who 128 = .ok (.aload_n 0, 1) := by decide +kernel
theorem dX7_who_129 : decode cX7_who 129 = .ok (.getfield 7, 3) := by decide +kernel
theorem dX7_who_132 : decode cX7_who 132 = .ok (.sipush 189, 3) := by decide +kernel
theorem dX7_who_135 : decode cX7_who 135 = .ok (.iload 7, 2) := by decide +kernel
theorem dX7_who_137 : decode cX7_who 137 = .ok (.iadd, 1) := by decide +kernel
theorem dX7_who_138 : decode cX7_who 138 = .ok (.iload_n 1, 1) := by decide +kernel
theorem dX7_who_139 : decode cX7_who 139 = .ok (.iadd, 1) := by decide +kernel
theorem dX7_who_140 : decode cX7_who 140 = .ok (.iload 9, 2) := by decide +kernel
theorem dX7_who_142 : decode cX7_who 142 = .ok (.iastore, 1) := by decide +kernel
theorem dX7_who_143 : decode cX7_who 143 = .ok (.iload 8, 2) := by decide +kernel
theorem dX7_who_145 : decode cX7_who 145 = .ok (.aload_n 0, 1) := by decide +kernel
theorem dX7_who_146 : decode cX7_who 146 = .ok (.bipush 40, 2) := by decide +kernel
theorem dX7_who_148 : decode cX7_who 148 = .ok (.iload_n 3, 1) := by decide +kernel
theorem dX7_who_149 : decode cX7_who 149 = .ok (.imul, 1) := by decide +kernel
theorem dX7_who_150 : decode cX7_who 150 = .ok (.iload 4, 2) := by decide +kernel
theorem dX7_who_152 : decode cX7_who 152 = .ok (.iadd, 1) := by decide +kernel
theorem dX7_who_153 : decode cX7_who 153 = .ok (.iload 5, 2) := by decide +kernel
theorem dX7_who_155 : decode cX7_who 155 = .ok (.invokevirtual 210, 3) := by decide +kernel
theorem dX7_who_158 : decode cX7_who 158 = .ok (.ifCond .eq 10, 3) := by decide +kernel
theorem dX7_who_161 : decode cX7_who 161 = .ok (.iconst 1, 1) := by decide +kernel
theorem dX7_who_162 : decode cX7_who 162 = .ok (.iload 9, 2) := by decide +kernel
theorem dX7_who_164 : decode cX7_who 164 = .ok (.ishl, 1) := by decide +kernel
theorem dX7_who_165 : decode cX7_who 165 = .ok (.goto 4, 3) := by decide +kernel
theorem dX7_who_168 : decode cX7_who 168 = .ok (.iconst 0, 1) := by decide +kernel
theorem dX7_who_169 : decode cX7_who 169 = .ok (.ior, 1) := by decide +kernel
theorem dX7_who_170 : decode cX7_who 170 = .ok (.istore 8, 2) := by decide +kernel
theorem dX7_who_172 : decode cX7_who 172 = .ok (.iinc 9 1, 3) := by decide +kernel
theorem dX7_who_175 : decode cX7_who 175 = .ok (.goto (-66), 3) := by decide +kernel
theorem dX7_who_178 : decode cX7_who 178 = .ok (.aload_n 0, 1) := by decide +kernel
theorem dX7_who_179 : decode cX7_who 179 = .ok (.iload 8, 2) := by decide +kernel
theorem dX7_who_181 : decode cX7_who 181 = .ok (.invokevirtual 63, 3) := by decide +kernel
theorem dX7_who_184 : decode cX7_who 184 = .ok (.ireturn, 1) := by decide +kernel
theorem dX7_held_0 : decode cX7_held 0 = .ok (.aload_n 0, 1) := by decide +kernel
theorem dX7_held_1 : decode cX7_held 1 = .ok (.invokevirtual 154, 3) := by decide +kernel
theorem dX7_held_4 : decode cX7_held 4 = .ok (.ifCond .ne 6, 3) := by decide +kernel
theorem dX7_held_7 : decode cX7_held 7 = .ok (.ldc 153, 2) := by decide +kernel
theorem dX7_held_9 : decode cX7_held 9 = .ok (.ireturn, 1) := by decide +kernel
theorem dX7_held_10 : decode cX7_held 10 = .ok (.iload_n 1, 1) := by decide +kernel
theorem dX7_held_11 : decode cX7_held 11 = .ok (.invokestatic 52, 3) := by decide +kernel
theorem dX7_held_14 : decode cX7_held 14 = .ok (.ifCond .eq 15, 3) := by decide +kernel
theorem dX7_held_17 : decode cX7_held 17 = .ok (.iload_n 3, 1) := by decide +kernel
theorem dX7_held_18 : decode cX7_held 18 = .ok (.i2l, 1) := by decide +kernel
theorem dX7_held_19 : decode cX7_held 19 = .ok (.lconst 1, 1) := by decide +kernel
theorem dX7_held_20 : decode cX7_held 20 = .ok (.ldc2_w 204, 3) := by decide +kernel
theorem dX7_held_23 : decode cX7_held 23 = .ok (.invokestatic 48, 3) := by decide +kernel
theorem dX7_held_26 : decode cX7_held 26 = .ok (.ifCond .ne 6, 3) := by decide +kernel
theorem dX7_held_29 : decode cX7_held 29 = .ok (.ldc 58, 2) := by decide +kernel
theorem dX7_held_31 : decode cX7_held 31 = .ok (.ireturn, 1) := by decide +kernel
theorem dX7_held_32 : decode cX7_held 32 = .ok (.aload_n 0, 1) := by decide +kernel
theorem dX7_held_33 : decode cX7_held 33 = .ok (.iload_n 1, 1) := by decide +kernel
theorem dX7_held_34 : decode cX7_held 34 = .ok (.iload_n 2, 1) := by decide +kernel
theorem dX7_held_35 : decode cX7_held 35 = .ok (.iload_n 3, 1) := by decide +kernel
theorem dX7_held_36 : decode cX7_held 36 = .ok (.invokevirtual 206, 3) := by decide +kernel
theorem dX7_held_39 : decode cX7_held 39 = .ok (.istore 4, 2) := by decide +kernel
theorem dX7_held_41 : decode cX7_held 41 = .ok (.iload 4, 2) := by decide +kernel
theorem dX7_held_43 : decode cX7_held 43 = .ok (.ifCond .ge 6, 3) := by decide +kernel
theorem dX7_held_46 : decode cX7_held 46 = .ok (.iload 4, 2) := by decide +kernel
theorem dX7_held_48 : decode cX7_held 48 = .ok (.ireturn, 1) := by decide +kernel
theorem dX7_held_49 : decode cX7_held 49 = .ok (.aload_n 0, 1) := by decide +kernel
theorem dX7_held_50 : decode cX7_held 50 = .ok (.invokevirtual 187, 3) := by decide +kernel
theorem dX7_held_53 : decode cX7_held 53 = .ok (.aload_n 0, 1) := by decide +kernel
theorem dX7_held_54 : decode cX7_held 54 = .ok (.bipush 40, 2) := by decide +kernel
theorem dX7_held_56 : decode cX7_held 56 = .ok (.iload_n 1, 1) := by decide +kernel
theorem dX7_held_57 : decode cX7_held 57 = .ok (.imul, 1) := by decide +kernel
theorem dX7_held_58 : decode cX7_held 58 = .ok (.iload_n 2, 1) := by decide +kernel
theorem dX7_held_59 : decode cX7_held 59 = .ok (.iadd, 1) := by decide +kernel
theorem dX7_held_60 : decode cX7_held 60 = .ok (.iload_n 3, 1) := by decide +kernel
theorem dX7_held_61 : decode cX7_held 61 = .ok (.invokevirtual 210, 3) := by decide +kernel
theorem dX7_held_64 : decode cX7_held 64 = .ok (.ifCond .eq 9, 3) := by decide +kernel
theorem dX7_held_67 : decode cX7_held 67 = .ok (.sipush 128, 3) := by decide +kernel
theorem dX7_held_70 : decode cX7_held 70 = .ok (.goto 4, 3) := by decide +kernel
theorem dX7_held_73 : decode cX7_held 73 = .ok (.iconst 0, 1) := by decide +kernel
theorem dX7_held_74 : decode cX7_held 74 = .ok (.istore 5, 2) := by decide +kernel
theorem dX7_held_76 : decode cX7_held 76 = .ok (.iconst 0, 1) := by decide +kernel
theorem dX7_held_77 : decode cX7_held 77 = .ok (.istore 6, 2) := by decide +kernel
theorem dX7_held_79 : decode cX7_held 79 = .ok (.iload 6, 2) := by decide +kernel
theorem dX7_held_81 : decode cX7_held 81 = .ok (.aload_n 0, 1) := by decide +kernel
theorem dX7_held_82 : decode cX7_held 82 = .ok (.getfield 7, 3) := by decide +kernel
theorem dX7_held_85 : decode cX7_held 85 = .ok (.bipush 41, 2) := by decide +kernel
theorem dX7_held_87 : decode cX7_held 87 = .ok (.iaload, 1) := by decide +kernel
theorem dX7_held_88 : decode cX7_held 88 = .ok (.if_icmp .ge 55, 3) := by decide +kernel
theorem dX7_held_91 : decode cX7_held 91 = .ok (.aload_n 0, 1) := by decide +kernel
theorem dX7_held_92 : decode cX7_held 92 = .ok (.invokevirtual 187, 3) := by decide +kernel
theorem dX7_held_95 : decode cX7_held 95 = .ok (.aload_n 0, 1) := by decide +kernel
theorem dX7_held_96 : decode cX7_held 96 = .ok (.getfield 7, 3) := by decide +kernel
theorem dX7_held_99 : decode cX7_held 99 = .ok (.sipush 226, 3) := by decide +kernel
theorem dX7_held_102 : decode cX7_held 102 = .ok (.dup2, 1) := by decide +kernel
theorem dX7_held_103 : decode cX7_held 103 = .ok (.iaload, 1) := by decide +kernel
theorem dX7_held_104 : decode cX7_held 104 = .ok (.iconst 1, 1) := by decide +kernel
theorem dX7_held_105 : decode cX7_held 105 = .ok (.iload 6, 2) := by decide +kernel
theorem dX7_held_107 : decode cX7_held 107 = .ok (.ishl, 1) := by decide +kernel
theorem dX7_held_108 : decode cX7_held 108 = .ok (.ior, 1) := by decide +kernel
theorem dX7_held_109 : decode cX7_held 109 = .ok (.iastore, 1) := by decide +kernel
theorem dX7_held_110 : decode cX7_held 110 = .ok (.iload 5, 2) := by decide +kernel
theorem dX7_held_112 : decode cX7_held 112 = .ok (.aload_n 0, 1) := by decide +kernel
theorem dX7_held_113 : decode cX7_held 113 = .ok (.bipush 40, 2) := by decide +kernel
theorem dX7_held_115 : decode cX7_held 115 = .ok (.iload_n 1, 1) := by decide +kernel
theorem dX7_held_116 : decode cX7_held 116 = .ok (.imul, 1) := by decide +kernel
theorem dX7_held_117 : decode cX7_held 117 = .ok (.iload_n 2, 1) := by decide +kernel
theorem dX7_held_118 : decode cX7_held 118 = .ok (.iadd, 1) := by decide +kernel
theorem dX7_held_119 : decode cX7_held 119 = .ok (.iload_n 3, 1) := by decide +kernel
theorem dX7_held_120 : decode cX7_held 120 = .ok (.invokevirtual 210, 3) := by decide +kernel
theorem dX7_held_123 : decode cX7_held 123 = .ok (.ifCond .eq 10, 3) := by decide +kernel
theorem dX7_held_126 : decode cX7_held 126 = .ok (.iconst 1, 1) := by decide +kernel
theorem dX7_held_127 : decode cX7_held 127 = .ok (.iload 6, 2) := by decide +kernel
theorem dX7_held_129 : decode cX7_held 129 = .ok (.ishl, 1) := by decide +kernel
theorem dX7_held_130 : decode cX7_held 130 = .ok (.goto 4, 3) := by decide +kernel
theorem dX7_held_133 : decode cX7_held 133 = .ok (.iconst 0, 1) := by decide +kernel
theorem dX7_held_134 : decode cX7_held 134 = .ok (.ior, 1) := by decide +kernel
theorem dX7_held_135 : decode cX7_held 135 = .ok (.istore 5, 2) := by decide +kernel
theorem dX7_held_137 : decode cX7_held 137 = .ok (.iinc 6 1, 3) := by decide +kernel
theorem dX7_held_140 : decode cX7_held 140 = .ok (.goto (-61), 3) := by decide +kernel
theorem dX7_held_143 : decode cX7_held 143 = .ok (.aload_n 0, 1) := by decide +kernel
theorem dX7_held_144 : decode cX7_held 144 = .ok (.iload 5, 2) := by decide +kernel
theorem dX7_held_146 : decode cX7_held 146 = .ok (.invokevirtual 63, 3) := by decide +kernel
theorem dX7_held_149 : decode cX7_held 149 = .ok (.ireturn, 1) := by decide +kernel
theorem dX7_lorries_0 : decode cX7_lorries 0 = .ok (.aload_n 0, 1) := by decide +kernel
theorem dX7_lorries_1 : decode cX7_lorries 1 = .ok (.invokevirtual 154, 3) := by decide +kernel
theorem dX7_lorries_4 : decode cX7_lorries 4 = .ok (.ifCond .ne 7, 3) := by decide +kernel
theorem dX7_lorries_7 : decode cX7_lorries 7 = .ok (.ldc2_w 213, 3) := by decide +kernel
theorem dX7_lorries_10 : decode cX7_lorries 10 = .ok (.lreturn, 1) := by decide +kernel
theorem dX7_lorries_11 : decode cX7_lorries 11 = .ok (.iload_n 1, 1) := by decide +kernel
theorem dX7_lorries_12 : decode cX7_lorries 12 = .ok (.i2l, 1) := by decide +kernel
theorem dX7_lorries_13 : decode cX7_lorries 13 = .ok (.lconst 0, 1) := by decide +kernel
theorem dX7_lorries_14 : decode cX7_lorries 14 = .ok (.ldc2_w 175, 3) := by decide +kernel
theorem dX7_lorries_17 : decode cX7_lorries 17 = .ok (.invokestatic 48, 3) := by decide +kernel
theorem dX7_lorries_20 : decode cX7_lorries 20 = .ok (.ifCond .eq 38, 3) := by decide +kernel
theorem dX7_lorries_23 : decode cX7_lorries 23 = .ok (.iload_n 2, 1) := by decide +kernel
theorem dX7_lorries_24 : decode cX7_lorries 24 = .ok (.i2l, 1) := by decide +kernel
theorem dX7_lorries_25 : decode cX7_lorries 25 = .ok (.lconst 0, 1) := by decide +kernel
theorem dX7_lorries_26 : decode cX7_lorries 26 = .ok (.ldc2_w 215, 3) := by decide +kernel
theorem dX7_lorries_29 : decode cX7_lorries 29 = .ok (.invokestatic 48, 3) := by decide +kernel
theorem dX7_lorries_32 : decode cX7_lorries 32 = .ok (.ifCond .eq 26, 3) := by decide +kernel
theorem dX7_lorries_35 : decode cX7_lorries 35 = .ok (.iload_n 3, 1) := by decide +kernel
theorem dX7_lorries_36 : decode cX7_lorries 36 = .ok (.i2l, 1) := by decide +kernel
theorem dX7_lorries_37 : decode cX7_lorries 37 = .ok (.lconst 0, 1) := by decide +kernel
theorem dX7_lorries_38 : decode cX7_lorries 38 = .ok (.ldc2_w 217, 3) := by decide +kernel
theorem dX7_lorries_41 : decode cX7_lorries 41 = .ok (.invokestatic 48, 3) := by decide +kernel
theorem dX7_lorries_44 : decode cX7_lorries 44 = .ok (.ifCond .eq 14, 3) := by decide +kernel
theorem dX7_lorries_47 : decode cX7_lorries 47 = .ok (.iload 4, 2) := by decide +kernel
theorem dX7_lorries_49 : decode cX7_lorries 49 = .ok (.i2l, 1) := by decide +kernel
theorem dX7_lorries_50 : decode cX7_lorries 50 = .ok (.lconst 0, 1) := by decide +kernel
theorem dX7_lorries_51 : decode cX7_lorries 51 = .ok (.lconst 1, 1) := by decide +kernel
theorem dX7_lorries_52 : decode cX7_lorries 52 = .ok (.invokestatic 48, 3) := by decide +kernel
theorem dX7_lorries_55 : decode cX7_lorries 55 = .ok (.ifCond .ne 7, 3) := by decide +kernel
theorem dX7_lorries_58 : decode cX7_lorries 58 = .ok (.ldc2_w 219, 3) := by decide +kernel
theorem dX7_lorries_61 : decode cX7_lorries 61 = .ok (.lreturn, 1) := by decide +kernel
theorem dX7_lorries_62 : decode cX7_lorries 62 = .ok (.lconst 0, 1) := by decide +kernel
theorem dX7_lorries_63 : decode cX7_lorries 63 = .ok (.lstore 5, 2) := by decide +kernel
theorem dX7_lorries_65 : decode cX7_lorries 65 = .ok (.lconst 1, 1) := by decide +kernel
theorem dX7_lorries_66 : decode cX7_lorries 66 = .ok (.lstore 7, 2) := by decide +kernel
theorem dX7_lorries_68 : decode cX7_lorries 68 = .ok (.iconst 0, 1) := by decide +kernel
theorem dX7_lorries_69 : decode cX7_lorries 69 = .ok (.istore 9, 2) := by decide +kernel
theorem dX7_lorries_71 : decode cX7_lorries 71 = .ok (.iload 9, 2) := by decide +kernel
theorem dX7_lorries_73 : decode cX7_lorries 73 = .ok (.iload_n 2, 1) := by decide +kernel
theorem dX7_lorries_74 : decode cX7_lorries 74 = .ok (.if_icmp .ge 17, 3) := by decide +kernel
theorem dX7_lorries_77 : decode cX7_lorries 77 = .ok (.lload 7, 2) := by decide +kernel
theorem dX7_lorries_79 : decode cX7_lorries 79 = .ok (.ldc2_w 217, 3) := by decide +kernel
theorem dX7_lorries_82 : decode cX7_lorries 82 = .ok (.lmul, 1) := by decide +kernel
theorem dX7_lorries_83 : decode cX7_lorries 83 = .ok (.lstore 7, 2) := by decide +kernel
theorem dX7_lorries_85 : decode cX7_lorries 85 = .ok (.iinc 9 1, 3) := by decide +kernel
theorem dX7_lorries_88 : decode cX7_lorries 88 = .ok (.goto (-17), 3) := by decide +kernel
theorem dX7_lorries_91 : decode cX7_lorries 91 = .ok (.iconst 0, 1) := by decide +kernel
theorem dX7_lorries_92 : decode cX7_lorries 92 = .ok (.istore 9, 2) := by decide +kernel
theorem dX7_lorries_94 : decode cX7_lorries 94 = .ok (.iload 9, 2) := by decide +kernel
theorem dX7_lorries_96 : decode cX7_lorries 96 = .ok (.iconst 1, 1) := by decide +kernel
theorem dX7_lorries_97 : decode cX7_lorries 97 = .ok (.iload_n 2, 1) := by decide +kernel
theorem dX7_lorries_98 : decode cX7_lorries 98 = .ok (.ishl, 1) := by decide +kernel
theorem dX7_lorries_99 : decode cX7_lorries 99 = .ok (.if_icmp .ge 102, 3) := by decide +kernel
theorem dX7_lorries_102 : decode cX7_lorries 102 = .ok (.lconst 1, 1) := by decide +kernel
theorem dX7_lorries_103 : decode cX7_lorries 103 = .ok (.lstore 10, 2) := by decide +kernel
theorem dX7_lorries_105 : decode cX7_lorries 105 = .ok (.aload_n 0, 1) := by decide +kernel
theorem dX7_lorries_106 : decode cX7_lorries 106 = .ok (.invokevirtual 187, 3) := by decide +kernel
theorem dX7_lorries_109 : decode cX7_lorries 109 = .ok (.iconst 0, 1) := by decide +kernel
theorem dX7_lorries_110 : decode cX7_lorries 110 = .ok (.istore 12, 2) := by decide +kernel
theorem dX7_lorries_112 : decode cX7_lorries 112 = .ok (.iload 12, 2) := by decide +kernel
theorem dX7_lorries_114 : decode cX7_lorries 114 = .ok (.iload_n 2, 1) := by decide +kernel
theorem dX7_lorries_115 : decode cX7_lorries 115 = .ok (.if_icmp .ge 59, 3) := by decide +kernel
theorem dX7_lorries_118 : decode cX7_lorries 118 = .ok (.iload 9, 2) := by decide +kernel
theorem dX7_lorries_120 : decode cX7_lorries 120 = .ok (.iload 12, 2) := by decide +kernel
theorem dX7_lorries_122 : decode cX7_lorries 122 = .ok (.invokestatic 123, 3) := by decide +kernel
theorem dX7_lorries_125 : decode cX7_lorries 125 = .ok (.istore 13, 2) := by decide +kernel
theorem dX7_lorries_127 : decode cX7_lorries 127 = .ok (.lload 10, 2) := by decide +kernel
theorem dX7_lorries_129 : decode cX7_lorries 129 = .ok (.iload 13, 2) := by decide +kernel
theorem dX7_lorries_131 : decode cX7_lorries 131 = .ok (.ifCond .eq 8, 3) := by decide +kernel
theorem dX7_lorries_134 : decode cX7_lorries 134 = .ok (.iload_n 3, 1) := by decide +kernel
theorem dX7_lorries_135 : decode cX7_lorries 135 = .ok (.i2l, 1) := by decide +kernel
theorem dX7_lorries_136 : decode cX7_lorries 136 = .ok (.goto 8, 3) := by decide +kernel
theorem dX7_lorries_139 : decode cX7_lorries 139 = .ok (.bipush 10, 2) := by decide +kernel
theorem dX7_lorries_141 : decode cX7_lorries 141 = .ok (.iload_n 3, 1) := by decide +kernel
theorem dX7_lorries_142 : decode cX7_lorries 142 = .ok (.isub, 1) := by decide +kernel
theorem dX7_lorries_143 : decode cX7_lorries 143 = .ok (.i2l, 1) := by decide +kernel
theorem dX7_lorries_144 : decode cX7_lorries 144 = .ok (.lmul, 1) := by decide +kernel
theorem dX7_lorries_145 : decode cX7_lorries 145 = .ok (.lstore 10, 2) := by decide +kernel
theorem dX7_lorries_147 : decode cX7_lorries 147 = .ok (.iload 13, 2) := by decide +kernel
theorem dX7_lorries_149 : decode cX7_lorries 149 = .ok (.ifCond .eq 12, 3) := by decide +kernel
theorem dX7_lorries_152 : decode cX7_lorries 152 = .ok (.aload_n 0, 1) := by decide +kernel
theorem dX7_lorries_153 : decode cX7_lorries 153 = .ok (.sipush 189, 3) := by decide +kernel
theorem dX7_lorries_156 : decode cX7_lorries 156 = .ok (.iload_n 1, 1) := by decide +kernel
theorem dX7_lorries_157 : decode cX7_lorries 157 = .ok (.invokevirtual 177, 3) := by decide +kernel
theorem dX7_lorries_160 : decode cX7_lorries 160 = .ok (.pop, 1) := by decide +kernel
theorem dX7_lorries_161 : decode cX7_lorries 161 = .ok (.aload_n 0, 1) := by decide +kernel
theorem dX7_lorries_162 : decode cX7_lorries 162 = .ok (.sipush 189, 3) := by decide +kernel
theorem dX7_lorries_165 : decode cX7_lorries 165 = .ok (.invokevirtual 162, 3) := by decide +kernel
theorem dX7_lorries_168 : decode cX7_lorries 168 = .ok (.iinc 12 1, 3) := by decide +kernel
theorem dX7_lorries_171 : decode cX7_lorries 171 = .ok (.goto (-59), 3) := by decide +kernel
theorem dX7_lorries_174 : decode cX7_lorries 174 = .ok (.lload 5, 2) := by decide +kernel
theorem dX7_lorries_176 : decode cX7_lorries 176 = .ok (.aload_n 0, 1) := by decide +kernel
theorem dX7_lorries_177 : decode cX7_lorries 177 = .ok (.sipush 189, 3) := by decide +kernel
theorem dX7_lorries_180 : decode cX7_lorries 180 = .ok (.invokevirtual 194, 3) := by decide +kernel
theorem dX7_lorries_183 : decode cX7_lorries 183 = .ok (.ifCond .eq 8, 3) := by decide +kernel
theorem dX7_lorries_186 : decode cX7_lorries 186 = .ok (.lload 10, 2) := by decide +kernel
theorem dX7_lorries_188 : decode cX7_lorries 188 = .ok (.goto 4, 3) := by decide +kernel
theorem dX7_lorries_191 : decode cX7_lorries 191 = .ok (.lconst 0, 1) := by decide +kernel
theorem dX7_lorries_192 : decode cX7_lorries 192 = .ok (.ladd, 1) := by decide +kernel
theorem dX7_lorries_193 : decode cX7_lorries 193 = .ok (.lstore 5, 2) := by decide +kernel
theorem dX7_lorries_195 : decode cX7_lorries 195 = .ok (.iinc 9 1, 3) := by decide +kernel
theorem dX7_lorries_198 : decode cX7_lorries 198 = .ok (.goto (-104), 3) := by decide +kernel
theorem dX7_lorries_201 : decode cX7_lorries 201 = .ok (.lload 5, 2) := by decide +kernel
theorem dX7_lorries_203 : decode cX7_lorries 203 = .ok (.lstore 9, 2) := by decide +kernel
theorem dX7_lorries_205 : decode cX7_lorries 205 = .ok (.lload 7, 2) := by decide +kernel
theorem dX7_lorries_207 : decode cX7_lorries 207 = .ok (.lstore 11, 2) := by decide +kernel
theorem dX7_lorries_209 : decode cX7_lorries 209 = .ok (.lload 11, 2) := by decide +kernel
theorem dX7_lorries_211 : decode cX7_lorries 211 = .ok (.lconst 0, 1) := by decide +kernel
theorem dX7_lorries_212 : decode cX7_lorries 212 = .ok (.lcmp, 1) := by decide +kernel
theorem dX7_lorries_213 : decode cX7_lorries 213 = .ok (.ifCond .eq 21, 3) := by decide +kernel
theorem dX7_lorries_216 : decode cX7_lorries 216 = .ok (.lload 9, 2) := by decide +kernel
theorem dX7_lorries_218 : decode cX7_lorries 218 = .ok (.lload 11, 2) := by decide +kernel
theorem dX7_lorries_220 : decode cX7_lorries 220 = .ok (.lrem, 1) := by decide +kernel
theorem dX7_lorries_221 : decode cX7_lorries 221 = .ok (.lstore 13, 2) := by decide +kernel
theorem dX7_lorries_223 : decode cX7_lorries 223 = .ok (.lload 11, 2) := by decide +kernel
theorem dX7_lorries_225 : decode cX7_lorries 225 = .ok (.lstore 9, 2) := by decide +kernel
theorem dX7_lorries_227 : decode cX7_lorries 227 = .ok (.lload 13, 2) := by decide +kernel
theorem dX7_lorries_229 : decode cX7_lorries 229 = .ok (.lstore 11, 2) := by decide +kernel
theorem dX7_lorries_231 : decode cX7_lorries 231 = .ok (.goto (-22), 3) := by decide +kernel
theorem dX7_lorries_234 : decode cX7_lorries 234 = .ok (.iload 4, 2) := by decide +kernel
theorem dX7_lorries_236 : decode cX7_lorries 236 = .ok (.ifCond .ne 11, 3) := by decide +kernel
theorem dX7_lorries_239 : decode cX7_lorries 239 = .ok (.lload 5, 2) := by decide +kernel
theorem dX7_lorries_241 : decode cX7_lorries 241 = .ok (.lload 9, 2) := by decide +kernel
theorem dX7_lorries_243 : decode cX7_lorries 243 = .ok (.ldiv, 1) := by decide +kernel
theorem dX7_lorries_244 : decode cX7_lorries 244 = .ok (.goto 8, 3) := by decide +kernel
theorem dX7_lorries_247 : decode cX7_lorries 247 = .ok (.lload 7, 2) := by decide +kernel
theorem dX7_lorries_249 : decode cX7_lorries 249 = .ok (.lload 9, 2) := by decide +kernel
theorem dX7_lorries_251 : decode cX7_lorries 251 = .ok (.ldiv, 1) := by decide +kernel
theorem dX7_lorries_252 : decode cX7_lorries 252 = .ok (.lreturn, 1) := by decide +kernel
theorem dX7_drawn_0 : decode cX7_drawn 0 = .ok (.aload_n 0, 1) := by decide +kernel
theorem dX7_drawn_1 : decode cX7_drawn 1 = .ok (.invokevirtual 154, 3) := by decide +kernel
theorem dX7_drawn_4 : decode cX7_drawn 4 = .ok (.ifCond .ne 6, 3) := by decide +kernel
theorem dX7_drawn_7 : decode cX7_drawn 7 = .ok (.ldc 153, 2) := by decide +kernel
theorem dX7_drawn_9 : decode cX7_drawn 9 = .ok (.ireturn, 1) := by decide +kernel
theorem dX7_drawn_10 : decode cX7_drawn 10 = .ok (.iload_n 1, 1) := by decide +kernel
theorem dX7_drawn_11 : decode cX7_drawn 11 = .ok (.iconst 0, 1) := by decide +kernel
theorem dX7_drawn_12 : decode cX7_drawn 12 = .ok (.invokestatic 184, 3) := by decide +kernel
theorem dX7_drawn_15 : decode cX7_drawn 15 = .ok (.ifCond .eq 25, 3) := by decide +kernel
theorem dX7_drawn_18 : decode cX7_drawn 18 = .ok (.iload_n 2, 1) := by decide +kernel
theorem dX7_drawn_19 : decode cX7_drawn 19 = .ok (.i2l, 1) := by decide +kernel
theorem dX7_drawn_20 : decode cX7_drawn 20 = .ok (.lconst 1, 1) := by decide +kernel
theorem dX7_drawn_21 : decode cX7_drawn 21 = .ok (.ldc2_w 221, 3) := by decide +kernel
theorem dX7_drawn_24 : decode cX7_drawn 24 = .ok (.invokestatic 48, 3) := by decide +kernel
theorem dX7_drawn_27 : decode cX7_drawn 27 = .ok (.ifCond .eq 13, 3) := by decide +kernel
theorem dX7_drawn_30 : decode cX7_drawn 30 = .ok (.iload_n 3, 1) := by decide +kernel
theorem dX7_drawn_31 : decode cX7_drawn 31 = .ok (.i2l, 1) := by decide +kernel
theorem dX7_drawn_32 : decode cX7_drawn 32 = .ok (.lconst 0, 1) := by decide +kernel
theorem dX7_drawn_33 : decode cX7_drawn 33 = .ok (.lconst 1, 1) := by decide +kernel
theorem dX7_drawn_34 : decode cX7_drawn 34 = .ok (.invokestatic 48, 3) := by decide +kernel
theorem dX7_drawn_37 : decode cX7_drawn 37 = .ok (.ifCond .ne 6, 3) := by decide +kernel
theorem dX7_drawn_40 : decode cX7_drawn 40 = .ok (.ldc 58, 2) := by decide +kernel
theorem dX7_drawn_42 : decode cX7_drawn 42 = .ok (.ireturn, 1) := by decide +kernel
theorem dX7_drawn_43 : decode cX7_drawn 43 = .ok (.aload_n 0, 1) := by decide +kernel
theorem dX7_drawn_44 : decode cX7_drawn 44 = .ok (.invokevirtual 187, 3) := by decide +kernel
theorem dX7_drawn_47 : decode cX7_drawn 47 = .ok (.iload_n 2, 1) := by decide +kernel
theorem dX7_drawn_48 : decode cX7_drawn 48 = .ok (.i2l, 1) := by decide +kernel
theorem dX7_drawn_49 : decode cX7_drawn 49 = .ok (.lstore 4, 2) := by decide +kernel
theorem dX7_drawn_51 : decode cX7_drawn 51 = .ok (.iconst 0, 1) := by decide +kernel
theorem dX7_drawn_52 : decode cX7_drawn 52 = .ok (.istore 6, 2) := by decide +kernel
theorem dX7_drawn_54 : decode cX7_drawn 54 = .ok (.iconst 0, 1) := by decide +kernel
theorem dX7_drawn_55 : decode cX7_drawn 55 = .ok (.istore 7, 2) := by decide +kernel
theorem dX7_drawn_57 : decode cX7_drawn 57 = .ok (.iload 7, 2) := by decide +kernel
theorem dX7_drawn_59 : decode cX7_drawn 59 = .ok (.iload_n 1, 1) := by decide +kernel
theorem dX7_drawn_60 : decode cX7_drawn 60 = .ok (.if_icmp .ge 111, 3) := by decide +kernel
theorem dX7_drawn_63 : decode cX7_drawn 63 = .ok (.lload 4, 2) := by decide +kernel
theorem dX7_drawn_65 : decode cX7_drawn 65 = .ok (.ldc2_w 223, 3) := by decide +kernel
theorem dX7_drawn_68 : decode cX7_drawn 68 = .ok (.lmul, 1) := by decide +kernel
theorem dX7_drawn_69 : decode cX7_drawn 69 = .ok (.ldc2_w 225, 3) := by decide +kernel
theorem dX7_drawn_72 : decode cX7_drawn 72 = .ok (.lrem, 1) := by decide +kernel
theorem dX7_drawn_73 : decode cX7_drawn 73 = .ok (.lstore 4, 2) := by decide +kernel
theorem dX7_drawn_75 : decode cX7_drawn 75 = .ok (.lload 4, 2) := by decide +kernel
theorem dX7_drawn_77 : decode cX7_drawn 77 = .ok (.ldc2_w 227, 3) := by decide +kernel
theorem dX7_drawn_80 : decode cX7_drawn 80 = .ok (.lrem, 1) := by decide +kernel
theorem dX7_drawn_81 : decode cX7_drawn 81 = .ok (.lconst 0, 1) := by decide +kernel
theorem dX7_drawn_82 : decode cX7_drawn 82 = .ok (.lcmp, 1) := by decide +kernel
theorem dX7_drawn_83 : decode cX7_drawn 83 = .ok (.ifCond .ne 18, 3) := by decide +kernel
theorem dX7_drawn_86 : decode cX7_drawn 86 = .ok (.aload_n 0, 1) := by decide +kernel
theorem dX7_drawn_87 : decode cX7_drawn 87 = .ok (.sipush 189, 3) := by decide +kernel
theorem dX7_drawn_90 : decode cX7_drawn 90 = .ok (.lload 4, 2) := by decide +kernel
theorem dX7_drawn_92 : decode cX7_drawn 92 = .ok (.ldc2_w 229, 3) := by decide +kernel
theorem dX7_drawn_95 : decode cX7_drawn 95 = .ok (.lrem, 1) := by decide +kernel
theorem dX7_drawn_96 : decode cX7_drawn 96 = .ok (.l2i, 1) := by decide +kernel
theorem dX7_drawn_97 : decode cX7_drawn 97 = .ok (.invokevirtual 177, 3) := by decide +kernel
theorem dX7_drawn_100 : decode cX7_drawn 100 = .ok (.pop, 1) := by decide +kernel
theorem dX7_drawn_101 : decode cX7_drawn 101 = .ok (.lload 4, 2) := by decide +kernel
theorem dX7_drawn_103 : decode cX7_drawn 103 = .ok (.ldc2_w 46, 3) := by decide +kernel
theorem dX7_drawn_106 : decode cX7_drawn 106 = .ok (.lrem, 1) := by decide +kernel
theorem dX7_drawn_107 : decode cX7_drawn 107 = .ok (.lconst 0, 1) := by decide +kernel
theorem dX7_drawn_108 : decode cX7_drawn 108 = .ok (.lcmp, 1) := by decide +kernel
theorem dX7_drawn_109 : decode cX7_drawn 109 = .ok (.ifCond .ne 28, 3) := by decide +kernel
theorem dX7_drawn_112 : decode cX7_drawn 112 = .ok (.aload_n 0, 1) := by decide +kernel
theorem dX7_drawn_113 : decode cX7_drawn 113 = .ok (.getfield 7, 3) := by decide +kernel
theorem dX7_drawn_116 : decode cX7_drawn 116 = .ok (.sipush 225, 3) := by decide +kernel
theorem dX7_drawn_119 : decode cX7_drawn 119 = .ok (.dup2, 1) := by decide +kernel
theorem dX7_drawn_120 : decode cX7_drawn 120 = .ok (.iaload, 1) := by decide +kernel
theorem dX7_drawn_121 : decode cX7_drawn 121 = .ok (.iconst 1, 1) := by decide +kernel
theorem dX7_drawn_122 : decode cX7_drawn 122 = .ok (.lload 4, 2) := by decide +kernel
theorem dX7_drawn_124 : decode cX7_drawn 124 = .ok (.aload_n 0, 1) := by decide +kernel
theorem dX7_drawn_125 : decode cX7_drawn 125 = .ok (.getfield 7, 3) := by decide +kernel
theorem dX7_drawn_128 : decode cX7_drawn 128 = .ok (.bipush 41, 2) := by decide +kernel
theorem dX7_drawn_130 : decode cX7_drawn 130 = .ok (.iaload, 1) := by decide +kernel
theorem dX7_drawn_131 : decode cX7_drawn 131 = .ok (.i2l, 1) := by decide +kernel
theorem dX7_drawn_132 : decode cX7_drawn 132 = .ok (.lrem, 1) := by decide +kernel
theorem dX7_drawn_133 : decode cX7_drawn 133 = .ok (.l2i, 1) := by decide +kernel
theorem dX7_drawn_134 : decode cX7_drawn 134 = .ok (.ishl, 1) := by decide +kernel
theorem dX7_drawn_135 : decode cX7_drawn 135 = .ok (.ior, 1) := by decide +kernel
theorem dX7_drawn_136 : decode cX7_drawn 136 = .ok (.iastore, 1) := by decide +kernel
theorem dX7_drawn_137 : decode cX7_drawn 137 = .ok (.aload_n 0, 1) := by decide +kernel
theorem dX7_drawn_138 : decode cX7_drawn 138 = .ok (.sipush 189, 3) := by decide +kernel
theorem dX7_drawn_141 : decode cX7_drawn 141 = .ok (.invokevirtual 162, 3) := by decide +kernel
theorem dX7_drawn_144 : decode cX7_drawn 144 = .ok (.iload 6, 2) := by decide +kernel
theorem dX7_drawn_146 : decode cX7_drawn 146 = .ok (.aload_n 0, 1) := by decide +kernel
theorem dX7_drawn_147 : decode cX7_drawn 147 = .ok (.sipush 189, 3) := by decide +kernel
theorem dX7_drawn_150 : decode cX7_drawn 150 = .ok (.iconst 1, 1) := by decide +kernel
theorem dX7_drawn_151 : decode cX7_drawn 151 = .ok (.invokevirtual 150, 3) := by decide +kernel
theorem dX7_drawn_154 : decode cX7_drawn 154 = .ok (.ifCond .eq 7, 3) := by decide +kernel
theorem dX7_drawn_157 : decode cX7_drawn 157 = .ok (.iconst 1, 1) := by decide +kernel
theorem dX7_drawn_158 : decode cX7_drawn 158 = .ok (.goto 4, 3) := by decide +kernel
theorem dX7_drawn_161 : decode cX7_drawn 161 = .ok (.iconst 0, 1) := by decide +kernel
theorem dX7_drawn_162 : decode cX7_drawn 162 = .ok (.iadd, 1) := by decide +kernel
theorem dX7_drawn_163 : decode cX7_drawn 163 = .ok (.istore 6, 2) := by decide +kernel
theorem dX7_drawn_165 : decode cX7_drawn 165 = .ok (.iinc 7 1, 3) := by decide +kernel
theorem dX7_drawn_168 : decode cX7_drawn 168 = .ok (.goto (-111), 3) := by decide +kernel
theorem dX7_drawn_171 : decode cX7_drawn 171 = .ok (.iload_n 3, 1) := by decide +kernel
theorem dX7_drawn_172 : decode cX7_drawn 172 = .ok (.ifCond .ne 17, 3) := by decide +kernel
theorem dX7_drawn_175 : decode cX7_drawn 175 = .ok (.aload_n 0, 1) := by decide +kernel
theorem dX7_drawn_176 : decode cX7_drawn 176 = .ok (.sipush 189, 3) := by decide +kernel
theorem dX7_drawn_179 : decode cX7_drawn 179 = .ok (.iconst 2, 1) := by decide +kernel
theorem dX7_drawn_180 : decode cX7_drawn 180 = .ok (.invokevirtual 150, 3) := by decide +kernel
theorem dX7_drawn_183 : decode cX7_drawn 183 = .ok (.invokestatic 169, 3) := by decide +kernel
theorem dX7_drawn_186 : decode cX7_drawn 186 = .ok (.goto 5, 3) := by decide +kernel
theorem dX7_drawn_189 : decode cX7_drawn 189 = .ok (.iload 6, 2) := by decide +kernel
theorem dX7_drawn_191 : decode cX7_drawn 191 = .ok (.ireturn, 1) := by decide +kernel
theorem dX7_image_0 : decode cX7_image 0 = .ok (.iload_n 1, 1) := by decide +kernel
theorem dX7_image_1 : decode cX7_image 1 = .ok (.i2l, 1) := by decide +kernel
theorem dX7_image_2 : decode cX7_image 2 = .ok (.lconst 0, 1) := by decide +kernel
theorem dX7_image_3 : decode cX7_image 3 = .ok (.lconst 1, 1) := by decide +kernel
theorem dX7_image_4 : decode cX7_image 4 = .ok (.invokestatic 48, 3) := by decide +kernel
theorem dX7_image_7 : decode cX7_image 7 = .ok (.ifCond .ne 6, 3) := by decide +kernel
theorem dX7_image_10 : decode cX7_image 10 = .ok (.ldc 58, 2) := by decide +kernel
theorem dX7_image_12 : decode cX7_image 12 = .ok (.ireturn, 1) := by decide +kernel
theorem dX7_image_13 : decode cX7_image 13 = .ok (.aload_n 0, 1) := by decide +kernel
theorem dX7_image_14 : decode cX7_image 14 = .ok (.invokevirtual 154, 3) := by decide +kernel
theorem dX7_image_17 : decode cX7_image 17 = .ok (.ifCond .ne 6, 3) := by decide +kernel
theorem dX7_image_20 : decode cX7_image 20 = .ok (.ldc 153, 2) := by decide +kernel
theorem dX7_image_22 : decode cX7_image 22 = .ok (.ireturn, 1) := by decide +kernel
theorem dX7_image_23 : decode cX7_image 23 = .ok (.aload_n 0, 1) := by decide +kernel
theorem dX7_image_24 : decode cX7_image 24 = .ok (.iconst 0, 1) := by decide +kernel
theorem dX7_image_25 : decode cX7_image 25 = .ok (.bipush 63, 2) := by decide +kernel
theorem dX7_image_27 : decode cX7_image 27 = .ok (.iconst 1, 1) := by decide +kernel
theorem dX7_image_28 : decode cX7_image 28 = .ok (.iload_n 1, 1) := by decide +kernel
theorem dX7_image_29 : decode cX7_image 29 = .ok (.iadd, 1) := by decide +kernel
theorem dX7_image_30 : decode cX7_image 30 = .ok (.imul, 1) := by decide +kernel
theorem dX7_image_31 : decode cX7_image 31 = .ok (.invokevirtual 116, 3) := by decide +kernel
theorem dX7_image_34 : decode cX7_image 34 = .ok (.aload_n 0, 1) := by decide +kernel
theorem dX7_image_35 : decode cX7_image 35 = .ok (.getfield 13, 3) := by decide +kernel
theorem dX7_image_38 : decode cX7_image 38 = .ok (.iload_n 1, 1) := by decide +kernel
theorem dX7_image_39 : decode cX7_image 39 = .ok (.iconst 1, 1) := by decide +kernel
theorem dX7_image_40 : decode cX7_image 40 = .ok (.bastore, 1) := by decide +kernel
theorem dX7_image_41 : decode cX7_image 41 = .ok (.iconst 1, 1) := by decide +kernel
theorem dX7_image_42 : decode cX7_image 42 = .ok (.ireturn, 1) := by decide +kernel
theorem dX7_restore_0 : decode cX7_restore 0 = .ok (.iload_n 1, 1) := by decide +kernel
theorem dX7_restore_1 : decode cX7_restore 1 = .ok (.i2l, 1) := by decide +kernel
theorem dX7_restore_2 : decode cX7_restore 2 = .ok (.lconst 0, 1) := by decide +kernel
theorem dX7_restore_3 : decode cX7_restore 3 = .ok (.lconst 1, 1) := by decide +kernel
theorem dX7_restore_4 : decode cX7_restore 4 = .ok (.invokestatic 48, 3) := by decide +kernel
theorem dX7_restore_7 : decode cX7_restore 7 = .ok (.ifCond .ne 6, 3) := by decide +kernel
theorem dX7_restore_10 : decode cX7_restore 10 = .ok (.ldc 58, 2) := by decide +kernel
theorem dX7_restore_12 : decode cX7_restore 12 = .ok (.ireturn, 1) := by decide +kernel
theorem dX7_restore_13 : decode cX7_restore 13 = .ok (.aload_n 0, 1) := by decide +kernel
theorem dX7_restore_14 : decode cX7_restore 14 = .ok (.getfield 13, 3) := by decide +kernel
theorem dX7_restore_17 : decode cX7_restore 17 = .ok (.iload_n 1, 1) := by decide +kernel
theorem dX7_restore_18 : decode cX7_restore 18 = .ok (.baload, 1) := by decide +kernel
theorem dX7_restore_19 : decode cX7_restore 19 = .ok (.ifCond .ne 6, 3) := by decide +kernel
theorem dX7_restore_22 : decode cX7_restore 22 = .ok (.ldc 153, 2) := by decide +kernel
theorem dX7_restore_24 : decode cX7_restore 24 = .ok (.ireturn, 1) := by decide +kernel
theorem dX7_restore_25 : decode cX7_restore 25 = .ok (.aload_n 0, 1) := by decide +kernel
theorem dX7_restore_26 : decode cX7_restore 26 = .ok (.bipush 63, 2) := by decide +kernel
theorem dX7_restore_28 : decode cX7_restore 28 = .ok (.iconst 1, 1) := by decide +kernel
theorem dX7_restore_29 : decode cX7_restore 29 = .ok (.iload_n 1, 1) := by decide +kernel
theorem dX7_restore_30 : decode cX7_restore 30 = .ok (.iadd, 1) := by decide +kernel
theorem dX7_restore_31 : decode cX7_restore 31 = .ok (.imul, 1) := by decide +kernel
theorem dX7_restore_32 : decode cX7_restore 32 = .ok (.iconst 0, 1) := by decide +kernel
theorem dX7_restore_33 : decode cX7_restore 33 = .ok (.invokevirtual 116, 3) := by decide +kernel
theorem dX7_restore_36 : decode cX7_restore 36 = .ok (.aload_n 0, 1) := by decide +kernel
theorem dX7_restore_37 : decode cX7_restore 37 = .ok (.iconst 0, 1) := by decide +kernel
theorem dX7_restore_38 : decode cX7_restore 38 = .ok (.putfield 120, 3) := by decide +kernel
theorem dX7_restore_41 : decode cX7_restore 41 = .ok (.iconst 1, 1) := by decide +kernel
theorem dX7_restore_42 : decode cX7_restore 42 = .ok (.ireturn, 1) := by decide +kernel
theorem dX7_kind_0 : decode cX7_kind 0 = .ok (.aload_n 0, 1) := by decide +kernel
theorem dX7_kind_1 : decode cX7_kind 1 = .ok (.iload_n 1, 1) := by decide +kernel
theorem dX7_kind_2 : decode cX7_kind 2 = .ok (.invokevirtual 166, 3) := by decide +kernel
theorem dX7_kind_5 : decode cX7_kind 5 = .ok (.ifCond .eq 15, 3) := by decide +kernel
theorem dX7_kind_8 : decode cX7_kind 8 = .ok (.aload_n 0, 1) := by decide +kernel
theorem dX7_kind_9 : decode cX7_kind 9 = .ok (.getfield 7, 3) := by decide +kernel
theorem dX7_kind_12 : decode cX7_kind 12 = .ok (.bipush 42, 2) := by decide +kernel
theorem dX7_kind_14 : decode cX7_kind 14 = .ok (.iload_n 1, 1) := by decide +kernel
theorem dX7_kind_15 : decode cX7_kind 15 = .ok (.iadd, 1) := by decide +kernel
theorem dX7_kind_16 : decode cX7_kind 16 = .ok (.iaload, 1) := by decide +kernel
theorem dX7_kind_17 : decode cX7_kind 17 = .ok (.goto 5, 3) := by decide +kernel
theorem dX7_kind_20 : decode cX7_kind 20 = .ok (.ldc 58, 2) := by decide +kernel
theorem dX7_kind_22 : decode cX7_kind 22 = .ok (.ireturn, 1) := by decide +kernel
theorem dX7_as_0 : decode cX7_as 0 = .ok (.aload_n 0, 1) := by decide +kernel
theorem dX7_as_1 : decode cX7_as 1 = .ok (.iload_n 1, 1) := by decide +kernel
theorem dX7_as_2 : decode cX7_as 2 = .ok (.invokevirtual 166, 3) := by decide +kernel
theorem dX7_as_5 : decode cX7_as 5 = .ok (.ifCond .eq 15, 3) := by decide +kernel
theorem dX7_as_8 : decode cX7_as 8 = .ok (.iload_n 2, 1) := by decide +kernel
theorem dX7_as_9 : decode cX7_as 9 = .ok (.i2l, 1) := by decide +kernel
theorem dX7_as_10 : decode cX7_as 10 = .ok (.lconst 0, 1) := by decide +kernel
theorem dX7_as_11 : decode cX7_as 11 = .ok (.ldc2_w 231, 3) := by decide +kernel
theorem dX7_as_14 : decode cX7_as 14 = .ok (.invokestatic 48, 3) := by decide +kernel
theorem dX7_as_17 : decode cX7_as 17 = .ok (.ifCond .ne 6, 3) := by decide +kernel
theorem dX7_as_20 : decode cX7_as 20 = .ok (.ldc 58, 2) := by decide +kernel
theorem dX7_as_22 : decode cX7_as 22 = .ok (.ireturn, 1) := by decide +kernel
theorem dX7_as_23 : decode cX7_as 23 = .ok (.aload_n 0, 1) := by decide +kernel
theorem dX7_as_24 : decode cX7_as 24 = .ok (.getfield 7, 3) := by decide +kernel
theorem dX7_as_27 : decode cX7_as 27 = .ok (.bipush 42, 2) := by decide +kernel
theorem dX7_as_29 : decode cX7_as 29 = .ok (.iload_n 1, 1) := by decide +kernel
theorem dX7_as_30 : decode cX7_as 30 = .ok (.iadd, 1) := by decide +kernel
theorem dX7_as_31 : decode cX7_as 31 = .ok (.iaload, 1) := by decide +kernel
theorem dX7_as_32 : decode cX7_as 32 = .ok (.istore_n 3, 1) := by decide +kernel
theorem dX7_as_33 : decode cX7_as 33 = .ok (.iload_n 2, 1) := by decide +kernel
theorem dX7_as_34 : decode cX7_as 34 = .ok (.ifCond .eq 28, 3) := by decide +kernel
theorem dX7_as_37 : decode cX7_as 37 = .ok (.iload_n 2, 1) := by decide +kernel
theorem dX7_as_38 : decode cX7_as 38 = .ok (.iload_n 3, 1) := by decide +kernel
theorem dX7_as_39 : decode cX7_as 39 = .ok (.if_icmp .eq 23, 3) := by decide +kernel
theorem dX7_as_42 : decode cX7_as 42 = .ok (.iload_n 2, 1) := by decide +kernel
theorem dX7_as_43 : decode cX7_as 43 = .ok (.iconst 1, 1) := by decide +kernel
theorem dX7_as_44 : decode cX7_as 44 = .ok (.if_icmp .ne 8, 3) := by decide +kernel
theorem dX7_as_47 : decode cX7_as 47 = .ok (.iload_n 3, 1) := by decide +kernel
theorem dX7_as_48 : decode cX7_as 48 = .ok (.iconst 4, 1) := by decide +kernel
theorem dX7_as_49 : decode cX7_as 49 = .ok (.if_icmp .lt 13, 3) := by decide +kernel
theorem dX7_as_52 : decode cX7_as 52 = .ok (.iload_n 2, 1) := by decide +kernel
theorem dX7_as_53 : decode cX7_as 53 = .ok (.iconst 4, 1) := by decide +kernel
theorem dX7_as_54 : decode cX7_as 54 = .ok (.if_icmp .ne 12, 3) := by decide +kernel
theorem dX7_as_57 : decode cX7_as 57 = .ok (.iload_n 3, 1) := by decide +kernel
theorem dX7_as_58 : decode cX7_as 58 = .ok (.iconst 5, 1) := by decide +kernel
theorem dX7_as_59 : decode cX7_as 59 = .ok (.if_icmp .ne 7, 3) := by decide +kernel
theorem dX7_as_62 : decode cX7_as 62 = .ok (.iconst 1, 1) := by decide +kernel
theorem dX7_as_63 : decode cX7_as 63 = .ok (.goto 4, 3) := by decide +kernel
theorem dX7_as_66 : decode cX7_as 66 = .ok (.iconst 0, 1) := by decide +kernel
theorem dX7_as_67 : decode cX7_as 67 = .ok (.istore 4, 2) := by decide +kernel
theorem dX7_as_69 : decode cX7_as 69 = .ok (.iload 4, 2) := by decide +kernel
theorem dX7_as_71 : decode cX7_as 71 = .ok (.ifCond .eq 11, 3) := by decide +kernel
theorem dX7_as_74 : decode cX7_as 74 = .ok (.aload_n 0, 1) := by decide +kernel
theorem dX7_as_75 : decode cX7_as 75 = .ok (.iload_n 1, 1) := by decide +kernel
theorem dX7_as_76 : decode cX7_as 76 = .ok (.invokevirtual 63, 3) := by decide +kernel
theorem dX7_as_79 : decode cX7_as 79 = .ok (.goto 8, 3) := by decide +kernel
theorem dX7_as_82 : decode cX7_as 82 = .ok (.aload_n 0, 1) := by decide +kernel
theorem dX7_as_83 : decode cX7_as 83 = .ok (.iconst 3, 1) := by decide +kernel
theorem dX7_as_84 : decode cX7_as 84 = .ok (.invokevirtual 59, 3) := by decide +kernel
theorem dX7_as_87 : decode cX7_as 87 = .ok (.ireturn, 1) := by decide +kernel
theorem dX7_begins_0 : decode cX7_begins 0 = .ok (.aload_n 0, 1) := by decide +kernel
theorem dX7_begins_1 : decode cX7_begins 1 = .ok (.getfield 233, 3) := by decide +kernel
theorem dX7_begins_4 : decode cX7_begins 4 = .ok (.bipush 16, 2) := by decide +kernel
theorem dX7_begins_6 : decode cX7_begins 6 = .ok (.if_icmp .ge 23, 3) := by decide +kernel
theorem dX7_begins_9 : decode cX7_begins 9 = .ok (.aload_n 0, 1) := by decide +kernel
theorem dX7_begins_10 : decode cX7_begins 10 = .ok (.getfield 32, 3) := by decide +kernel
theorem dX7_begins_13 : decode cX7_begins 13 = .ok (.aload_n 0, 1) := by decide +kernel
theorem dX7_begins_14 : decode cX7_begins 14 = .ok (.getfield 233, 3) := by decide +kernel
theorem dX7_begins_17 : decode cX7_begins 17 = .ok (.iload_n 1, 1) := by decide +kernel
theorem dX7_begins_18 : decode cX7_begins 18 = .ok (.iastore, 1) := by decide +kernel
theorem dX7_begins_19 : decode cX7_begins 19 = .ok (.aload_n 0, 1) := by decide +kernel
theorem dX7_begins_20 : decode cX7_begins 20 = .ok (.dup, 1) := by decide +kernel
theorem dX7_begins_21 : decode cX7_begins 21 = .ok (.getfield 233, 3) := by decide +kernel
theorem dX7_begins_24 : decode cX7_begins 24 = .ok (.iconst 1, 1) := by decide +kernel
theorem dX7_begins_25 : decode cX7_begins 25 = .ok (.iadd, 1) := by decide +kernel
theorem dX7_begins_26 : decode cX7_begins 26 = .ok (.putfield 233, 3) := by decide +kernel
theorem dX7_begins_29 : decode cX7_begins 29 = .ok (.return_, 1) := by decide +kernel
theorem dX7_markLent_0 : decode cX7_markLent 0 = .ok (.aload_n 0, 1) := by decide +kernel
theorem dX7_markLent_1 : decode cX7_markLent 1 = .ok (.bipush 20, 2) := by decide +kernel
theorem dX7_markLent_3 : decode cX7_markLent 3 = .ok (.invokevirtual 236, 3) := by decide +kernel
theorem dX7_markLent_6 : decode cX7_markLent 6 = .ok (.iload_n 1, 1) := by decide +kernel
theorem dX7_markLent_7 : decode cX7_markLent 7 = .ok (.ireturn, 1) := by decide +kernel
theorem dX7_markPlain_0 : decode cX7_markPlain 0 = .ok (.aload_n 0, 1) := by decide +kernel
theorem dX7_markPlain_1 : decode cX7_markPlain 1 = .ok (.bipush 21, 2) := by decide +kernel
theorem dX7_markPlain_3 : decode cX7_markPlain 3 = .ok (.invokevirtual 236, 3) := by decide +kernel
theorem dX7_markPlain_6 : decode cX7_markPlain 6 = .ok (.aload_n 0, 1) := by decide +kernel
theorem dX7_markPlain_7 : decode cX7_markPlain 7 = .ok (.iload_n 1, 1) := by decide +kernel
theorem dX7_markPlain_8 : decode cX7_markPlain 8 = .ok (.invokevirtual 239, 3) := by decide +kernel
theorem dX7_markPlain_11 : decode cX7_markPlain 11 = .ok (.aload_n 0, 1) := by decide +kernel
theorem dX7_markPlain_12 : decode cX7_markPlain 12 = .ok (.iconst 0, 1) := by decide +kernel
theorem dX7_markPlain_13 : decode cX7_markPlain 13 = .ok (.iload_n 1, 1) := by decide +kernel
theorem dX7_markPlain_14 : decode cX7_markPlain 14 = .ok (.invokevirtual 133, 3) := by decide +kernel
theorem dX7_markPlain_17 : decode cX7_markPlain 17 = .ok (.iadd, 1) := by decide +kernel
theorem dX7_markPlain_18 : decode cX7_markPlain 18 = .ok (.ireturn, 1) := by decide +kernel
theorem dX7_sizeDeep_0 : decode cX7_sizeDeep 0 = .ok (.iload_n 2, 1) := by decide +kernel
theorem dX7_sizeDeep_1 : decode cX7_sizeDeep 1 = .ok (.ifCond .eq 9, 3) := by decide +kernel
theorem dX7_sizeDeep_4 : decode cX7_sizeDeep 4 = .ok (.aload_n 0, 1) := by decide +kernel
theorem dX7_sizeDeep_5 : decode cX7_sizeDeep 5 = .ok (.bipush 14, 2) := by decide +kernel
theorem dX7_sizeDeep_7 : decode cX7_sizeDeep 7 = .ok (.invokevirtual 236, 3) := by decide +kernel
theorem dX7_sizeDeep_10 : decode cX7_sizeDeep 10 = .ok (.aload_n 0, 1) := by decide +kernel
theorem dX7_sizeDeep_11 : decode cX7_sizeDeep 11 = .ok (.bipush 13, 2) := by decide +kernel
theorem dX7_sizeDeep_13 : decode cX7_sizeDeep 13 = .ok (.invokevirtual 236, 3) := by decide +kernel
theorem dX7_sizeDeep_16 : decode cX7_sizeDeep 16 = .ok (.aload_n 0, 1) := by decide +kernel
theorem dX7_sizeDeep_17 : decode cX7_sizeDeep 17 = .ok (.bipush 10, 2) := by decide +kernel
theorem dX7_sizeDeep_19 : decode cX7_sizeDeep 19 = .ok (.invokevirtual 236, 3) := by decide +kernel
theorem dX7_sizeDeep_22 : decode cX7_sizeDeep 22 = .ok (.aload_n 0, 1) := by decide +kernel
theorem dX7_sizeDeep_23 : decode cX7_sizeDeep 23 = .ok (.getfield 7, 3) := by decide +kernel
theorem dX7_sizeDeep_26 : decode cX7_sizeDeep 26 = .ok (.iconst 1, 1) := by decide +kernel
theorem dX7_sizeDeep_27 : decode cX7_sizeDeep 27 = .ok (.iload_n 1, 1) := by decide +kernel
theorem dX7_sizeDeep_28 : decode cX7_sizeDeep 28 = .ok (.iadd, 1) := by decide +kernel
theorem dX7_sizeDeep_29 : decode cX7_sizeDeep 29 = .ok (.iaload, 1) := by decide +kernel
theorem dX7_sizeDeep_30 : decode cX7_sizeDeep 30 = .ok (.bipush 100, 2) := by decide +kernel
theorem dX7_sizeDeep_32 : decode cX7_sizeDeep 32 = .ok (.isub, 1) := by decide +kernel
theorem dX7_sizeDeep_33 : decode cX7_sizeDeep 33 = .ok (.istore_n 3, 1) := by decide +kernel
theorem dX7_sizeDeep_34 : decode cX7_sizeDeep 34 = .ok (.iload_n 2, 1) := by decide +kernel
theorem dX7_sizeDeep_35 : decode cX7_sizeDeep 35 = .ok (.ifCond .eq 9, 3) := by decide +kernel
theorem dX7_sizeDeep_38 : decode cX7_sizeDeep 38 = .ok (.iconst 2, 1) := by decide +kernel
theorem dX7_sizeDeep_39 : decode cX7_sizeDeep 39 = .ok (.iload_n 3, 1) := by decide +kernel
theorem dX7_sizeDeep_40 : decode cX7_sizeDeep 40 = .ok (.imul, 1) := by decide +kernel
theorem dX7_sizeDeep_41 : decode cX7_sizeDeep 41 = .ok (.goto 4, 3) := by decide +kernel
theorem dX7_sizeDeep_44 : decode cX7_sizeDeep 44 = .ok (.iload_n 3, 1) := by decide +kernel
theorem dX7_sizeDeep_45 : decode cX7_sizeDeep 45 = .ok (.ireturn, 1) := by decide +kernel
theorem dX7_mark_0 : decode cX7_mark 0 = .ok (.aload_n 0, 1) := by decide +kernel
theorem dX7_mark_1 : decode cX7_mark 1 = .ok (.getfield 7, 3) := by decide +kernel
theorem dX7_mark_4 : decode cX7_mark 4 = .ok (.bipush 42, 2) := by decide +kernel
theorem dX7_mark_6 : decode cX7_mark 6 = .ok (.iload_n 1, 1) := by decide +kernel
theorem dX7_mark_7 : decode cX7_mark 7 = .ok (.iadd, 1) := by decide +kernel
theorem dX7_mark_8 : decode cX7_mark 8 = .ok (.iaload, 1) := by decide +kernel
theorem dX7_mark_9 : decode cX7_mark 9 = .ok (.istore_n 2, 1) := by decide +kernel
theorem dX7_mark_10 : decode cX7_mark 10 = .ok (.iload_n 2, 1) := by decide +kernel
theorem dX7_mark_11 : decode cX7_mark 11 = .ok (.tableswitch 61 1 3 #[55, 25, 39], 25) := by decide +kernel
theorem dX7_mark_36 : decode cX7_mark 36 = .ok (.aload_n 0, 1) := by decide +kernel
theorem dX7_mark_37 : decode cX7_mark 37 = .ok (.bipush 24, 2) := by decide +kernel
theorem dX7_mark_39 : decode cX7_mark 39 = .ok (.invokevirtual 236, 3) := by decide +kernel
theorem dX7_mark_42 : decode cX7_mark 42 = .ok (.iconst 2, 1) := by decide +kernel
theorem dX7_mark_43 : decode cX7_mark 43 = .ok (.aload_n 0, 1) := by decide +kernel
theorem dX7_mark_44 : decode cX7_mark 44 = .ok (.iload_n 1, 1) := by decide +kernel
theorem dX7_mark_45 : decode cX7_mark 45 = .ok (.invokevirtual 242, 3) := by decide +kernel
theorem dX7_mark_48 : decode cX7_mark 48 = .ok (.imul, 1) := by decide +kernel
theorem dX7_mark_49 : decode cX7_mark 49 = .ok (.ireturn, 1) := by decide +kernel
theorem dX7_mark_50 : decode cX7_mark 50 = .ok (.aload_n 0, 1) := by decide +kernel
theorem dX7_mark_51 : decode cX7_mark 51 = .ok (.bipush 22, 2) := by decide +kernel
theorem dX7_mark_53 : decode cX7_mark 53 = .ok (.invokevirtual 236, 3) := by decide +kernel
theorem dX7_mark_56 : decode cX7_mark 56 = .ok (.aload_n 0, 1) := by decide +kernel
theorem dX7_mark_57 : decode cX7_mark 57 = .ok (.iload_n 1, 1) := by decide +kernel
theorem dX7_mark_58 : decode cX7_mark 58 = .ok (.invokevirtual 242, 3) := by decide +kernel
theorem dX7_mark_61 : decode cX7_mark 61 = .ok (.sipush 1000, 3) := by decide +kernel
theorem dX7_mark_64 : decode cX7_mark 64 = .ok (.isub, 1) := by decide +kernel
theorem dX7_mark_65 : decode cX7_mark 65 = .ok (.ireturn, 1) := by decide +kernel
theorem dX7_mark_66 : decode cX7_mark 66 = .ok (.aload_n 0, 1) := by decide +kernel
theorem dX7_mark_67 : decode cX7_mark 67 = .ok (.iload_n 1, 1) := by decide +kernel
theorem dX7_mark_68 : decode cX7_mark 68 = .ok (.invokevirtual 242, 3) := by decide +kernel
theorem dX7_mark_71 : decode cX7_mark 71 = .ok (.ireturn, 1) := by decide +kernel
theorem dX7_mark_72 : decode cX7_mark 72 = .ok (.aload_n 0, 1) := by decide +kernel
theorem dX7_mark_73 : decode cX7_mark 73 = .ok (.bipush 23, 2) := by decide +kernel
theorem dX7_mark_75 : decode cX7_mark 75 = .ok (.invokevirtual 236, 3) := by decide +kernel
theorem dX7_mark_78 : decode cX7_mark 78 = .ok (.aload_n 0, 1) := by decide +kernel
theorem dX7_mark_79 : decode cX7_mark 79 = .ok (.iload_n 1, 1) := by decide +kernel
theorem dX7_mark_80 : decode cX7_mark 80 = .ok (.invokevirtual 239, 3) := by decide +kernel
theorem dX7_mark_83 : decode cX7_mark 83 = .ok (.aload_n 0, 1) := by decide +kernel
theorem dX7_mark_84 : decode cX7_mark 84 = .ok (.iload_n 1, 1) := by decide +kernel
theorem dX7_mark_85 : decode cX7_mark 85 = .ok (.iload_n 2, 1) := by decide +kernel
theorem dX7_mark_86 : decode cX7_mark 86 = .ok (.iconst 5, 1) := by decide +kernel
theorem dX7_mark_87 : decode cX7_mark 87 = .ok (.if_icmp .ne 7, 3) := by decide +kernel
theorem dX7_mark_90 : decode cX7_mark 90 = .ok (.iconst 1, 1) := by decide +kernel
theorem dX7_mark_91 : decode cX7_mark 91 = .ok (.goto 4, 3) := by decide +kernel
theorem dX7_mark_94 : decode cX7_mark 94 = .ok (.iconst 0, 1) := by decide +kernel
theorem dX7_mark_95 : decode cX7_mark 95 = .ok (.invokevirtual 245, 3) := by decide +kernel
theorem dX7_mark_98 : decode cX7_mark 98 = .ok (.isub, 1) := by decide +kernel
theorem dX7_mark_99 : decode cX7_mark 99 = .ok (.ireturn, 1) := by decide +kernel
theorem dX7_sizePlain_0 : decode cX7_sizePlain 0 = .ok (.aload_n 0, 1) := by decide +kernel
theorem dX7_sizePlain_1 : decode cX7_sizePlain 1 = .ok (.bipush 11, 2) := by decide +kernel
theorem dX7_sizePlain_3 : decode cX7_sizePlain 3 = .ok (.invokevirtual 236, 3) := by decide +kernel
theorem dX7_sizePlain_6 : decode cX7_sizePlain 6 = .ok (.aload_n 0, 1) := by decide +kernel
theorem dX7_sizePlain_7 : decode cX7_sizePlain 7 = .ok (.bipush 10, 2) := by decide +kernel
theorem dX7_sizePlain_9 : decode cX7_sizePlain 9 = .ok (.invokevirtual 236, 3) := by decide +kernel
theorem dX7_sizePlain_12 : decode cX7_sizePlain 12 = .ok (.aload_n 0, 1) := by decide +kernel
theorem dX7_sizePlain_13 : decode cX7_sizePlain 13 = .ok (.getfield 7, 3) := by decide +kernel
theorem dX7_sizePlain_16 : decode cX7_sizePlain 16 = .ok (.iconst 1, 1) := by decide +kernel
theorem dX7_sizePlain_17 : decode cX7_sizePlain 17 = .ok (.iload_n 1, 1) := by decide +kernel
theorem dX7_sizePlain_18 : decode cX7_sizePlain 18 = .ok (.iadd, 1) := by decide +kernel
theorem dX7_sizePlain_19 : decode cX7_sizePlain 19 = .ok (.iaload, 1) := by decide +kernel
theorem dX7_sizePlain_20 : decode cX7_sizePlain 20 = .ok (.aload_n 0, 1) := by decide +kernel
theorem dX7_sizePlain_21 : decode cX7_sizePlain 21 = .ok (.iload_n 1, 1) := by decide +kernel
theorem dX7_sizePlain_22 : decode cX7_sizePlain 22 = .ok (.invokevirtual 249, 3) := by decide +kernel
theorem dX7_sizePlain_25 : decode cX7_sizePlain 25 = .ok (.iadd, 1) := by decide +kernel
theorem dX7_sizePlain_26 : decode cX7_sizePlain 26 = .ok (.ireturn, 1) := by decide +kernel
theorem dX7_size_0 : decode cX7_size 0 = .ok (.aload_n 0, 1) := by decide +kernel
theorem dX7_size_1 : decode cX7_size 1 = .ok (.getfield 7, 3) := by decide +kernel
theorem dX7_size_4 : decode cX7_size 4 = .ok (.bipush 42, 2) := by decide +kernel
theorem dX7_size_6 : decode cX7_size 6 = .ok (.iload_n 1, 1) := by decide +kernel
theorem dX7_size_7 : decode cX7_size 7 = .ok (.iadd, 1) := by decide +kernel
theorem dX7_size_8 : decode cX7_size 8 = .ok (.iaload, 1) := by decide +kernel
theorem dX7_size_9 : decode cX7_size 9 = .ok (.istore_n 2, 1) := by decide +kernel
theorem dX7_size_10 : decode cX7_size 10 = .ok (.iload_n 2, 1) := by decide +kernel
theorem dX7_size_11 : decode cX7_size 11 = .ok (.tableswitch 44 1 3 #[38, 25, 38], 25) := by decide +kernel
theorem dX7_size_36 : decode cX7_size 36 = .ok (.aload_n 0, 1) := by decide +kernel
theorem dX7_size_37 : decode cX7_size 37 = .ok (.bipush 12, 2) := by decide +kernel
theorem dX7_size_39 : decode cX7_size 39 = .ok (.invokevirtual 236, 3) := by decide +kernel
theorem dX7_size_42 : decode cX7_size 42 = .ok (.aload_n 0, 1) := by decide +kernel
theorem dX7_size_43 : decode cX7_size 43 = .ok (.iload_n 1, 1) := by decide +kernel
theorem dX7_size_44 : decode cX7_size 44 = .ok (.invokevirtual 252, 3) := by decide +kernel
theorem dX7_size_47 : decode cX7_size 47 = .ok (.ineg, 1) := by decide +kernel
theorem dX7_size_48 : decode cX7_size 48 = .ok (.ireturn, 1) := by decide +kernel
theorem dX7_size_49 : decode cX7_size 49 = .ok (.aload_n 0, 1) := by decide +kernel
theorem dX7_size_50 : decode cX7_size 50 = .ok (.iload_n 1, 1) := by decide +kernel
theorem dX7_size_51 : decode cX7_size 51 = .ok (.invokevirtual 252, 3) := by decide +kernel
theorem dX7_size_54 : decode cX7_size 54 = .ok (.ireturn, 1) := by decide +kernel
theorem dX7_size_55 : decode cX7_size 55 = .ok (.aload_n 0, 1) := by decide +kernel
theorem dX7_size_56 : decode cX7_size 56 = .ok (.iload_n 1, 1) := by decide +kernel
theorem dX7_size_57 : decode cX7_size 57 = .ok (.iload_n 2, 1) := by decide +kernel
theorem dX7_size_58 : decode cX7_size 58 = .ok (.iconst 5, 1) := by decide +kernel
theorem dX7_size_59 : decode cX7_size 59 = .ok (.if_icmp .ne 7, 3) := by decide +kernel
theorem dX7_size_62 : decode cX7_size 62 = .ok (.iconst 1, 1) := by decide +kernel
theorem dX7_size_63 : decode cX7_size 63 = .ok (.goto 4, 3) := by decide +kernel
theorem dX7_size_66 : decode cX7_size 66 = .ok (.iconst 0, 1) := by decide +kernel
theorem dX7_size_67 : decode cX7_size 67 = .ok (.invokevirtual 245, 3) := by decide +kernel
theorem dX7_size_70 : decode cX7_size 70 = .ok (.ireturn, 1) := by decide +kernel
theorem dX7_ask_0 : decode cX7_ask 0 = .ok (.aload_n 0, 1) := by decide +kernel
theorem dX7_ask_1 : decode cX7_ask 1 = .ok (.iload_n 1, 1) := by decide +kernel
theorem dX7_ask_2 : decode cX7_ask 2 = .ok (.invokevirtual 166, 3) := by decide +kernel
theorem dX7_ask_5 : decode cX7_ask 5 = .ok (.ifCond .eq 13, 3) := by decide +kernel
theorem dX7_ask_8 : decode cX7_ask 8 = .ok (.iload_n 2, 1) := by decide +kernel
theorem dX7_ask_9 : decode cX7_ask 9 = .ok (.i2l, 1) := by decide +kernel
theorem dX7_ask_10 : decode cX7_ask 10 = .ok (.lconst 0, 1) := by decide +kernel
theorem dX7_ask_11 : decode cX7_ask 11 = .ok (.lconst 1, 1) := by decide +kernel
theorem dX7_ask_12 : decode cX7_ask 12 = .ok (.invokestatic 48, 3) := by decide +kernel
theorem dX7_ask_15 : decode cX7_ask 15 = .ok (.ifCond .ne 6, 3) := by decide +kernel
theorem dX7_ask_18 : decode cX7_ask 18 = .ok (.ldc 58, 2) := by decide +kernel
theorem dX7_ask_20 : decode cX7_ask 20 = .ok (.ireturn, 1) := by decide +kernel
theorem dX7_ask_21 : decode cX7_ask 21 = .ok (.aload_n 0, 1) := by decide +kernel
theorem dX7_ask_22 : decode cX7_ask 22 = .ok (.iconst 0, 1) := by decide +kernel
theorem dX7_ask_23 : decode cX7_ask 23 = .ok (.putfield 233, 3) := by decide +kernel
theorem dX7_ask_26 : decode cX7_ask 26 = .ok (.iload_n 2, 1) := by decide +kernel
theorem dX7_ask_27 : decode cX7_ask 27 = .ok (.ifCond .ne 11, 3) := by decide +kernel
theorem dX7_ask_30 : decode cX7_ask 30 = .ok (.aload_n 0, 1) := by decide +kernel
theorem dX7_ask_31 : decode cX7_ask 31 = .ok (.iload_n 1, 1) := by decide +kernel
theorem dX7_ask_32 : decode cX7_ask 32 = .ok (.invokevirtual 255, 3) := by decide +kernel
theorem dX7_ask_35 : decode cX7_ask 35 = .ok (.goto 8, 3) := by decide +kernel
theorem dX7_ask_38 : decode cX7_ask 38 = .ok (.aload_n 0, 1) := by decide +kernel
theorem dX7_ask_39 : decode cX7_ask 39 = .ok (.iload_n 1, 1) := by decide +kernel
theorem dX7_ask_40 : decode cX7_ask 40 = .ok (.invokevirtual 249, 3) := by decide +kernel
theorem dX7_ask_43 : decode cX7_ask 43 = .ok (.ireturn, 1) := by decide +kernel
theorem dX7_trace_0 : decode cX7_trace 0 = .ok (.iload_n 1, 1) := by decide +kernel
theorem dX7_trace_1 : decode cX7_trace 1 = .ok (.i2l, 1) := by decide +kernel
theorem dX7_trace_2 : decode cX7_trace 2 = .ok (.lconst 0, 1) := by decide +kernel
theorem dX7_trace_3 : decode cX7_trace 3 = .ok (.aload_n 0, 1) := by decide +kernel
theorem dX7_trace_4 : decode cX7_trace 4 = .ok (.getfield 233, 3) := by decide +kernel
theorem dX7_trace_7 : decode cX7_trace 7 = .ok (.iconst 1, 1) := by decide +kernel
theorem dX7_trace_8 : decode cX7_trace 8 = .ok (.isub, 1) := by decide +kernel
theorem dX7_trace_9 : decode cX7_trace 9 = .ok (.i2l, 1) := by decide +kernel
theorem dX7_trace_10 : decode cX7_trace 10 = .ok (.invokestatic 48, 3) := by decide +kernel
theorem dX7_trace_13 : decode cX7_trace 13 = .ok (.ifCond .eq 12, 3) := by decide +kernel
theorem dX7_trace_16 : decode cX7_trace 16 = .ok (.aload_n 0, 1) := by decide +kernel
theorem dX7_trace_17 : decode cX7_trace 17 = .ok (.getfield 32, 3) := by decide +kernel
theorem dX7_trace_20 : decode cX7_trace 20 = .ok (.iload_n 1, 1) := by decide +kernel
theorem dX7_trace_21 : decode cX7_trace 21 = .ok (.iaload, 1) := by decide +kernel
theorem dX7_trace_22 : decode cX7_trace 22 = .ok (.goto 5, 3) := by decide +kernel
theorem dX7_trace_25 : decode cX7_trace 25 = .ok (.ldc 193, 2) := by decide +kernel
theorem dX7_trace_27 : decode cX7_trace 27 = .ok (.ireturn, 1) := by decide +kernel
theorem dX7_count_0 : decode cX7_count 0 = .ok (.iload_n 1, 1) := by decide +kernel
theorem dX7_count_1 : decode cX7_count 1 = .ok (.tableswitch 138 0 7 #[47, 82, 90, 97, 107, 117, 128, 133], 47) := by decide +kernel
theorem dX7_count_48 : decode cX7_count 48 = .ok (.iconst 0, 1) := by decide +kernel
theorem dX7_count_49 : decode cX7_count 49 = .ok (.istore_n 2, 1) := by decide +kernel
theorem dX7_count_50 : decode cX7_count 50 = .ok (.iconst 0, 1) := by decide +kernel
theorem dX7_count_51 : decode cX7_count 51 = .ok (.istore_n 3, 1) := by decide +kernel
theorem dX7_count_52 : decode cX7_count 52 = .ok (.iload_n 3, 1) := by decide +kernel
theorem dX7_count_53 : decode cX7_count 53 = .ok (.bipush 8, 2) := by decide +kernel
theorem dX7_count_55 : decode cX7_count 55 = .ok (.if_icmp .ge 26, 3) := by decide +kernel
theorem dX7_count_58 : decode cX7_count 58 = .ok (.iload_n 2, 1) := by decide +kernel
theorem dX7_count_59 : decode cX7_count 59 = .ok (.aload_n 0, 1) := by decide +kernel
theorem dX7_count_60 : decode cX7_count 60 = .ok (.getfield 23, 3) := by decide +kernel
theorem dX7_count_63 : decode cX7_count 63 = .ok (.iload_n 3, 1) := by decide +kernel
theorem dX7_count_64 : decode cX7_count 64 = .ok (.iaload, 1) := by decide +kernel
theorem dX7_count_65 : decode cX7_count 65 = .ok (.ifCond .ge 7, 3) := by decide +kernel
theorem dX7_count_68 : decode cX7_count 68 = .ok (.iconst 0, 1) := by decide +kernel
theorem dX7_count_69 : decode cX7_count 69 = .ok (.goto 4, 3) := by decide +kernel
theorem dX7_count_72 : decode cX7_count 72 = .ok (.iconst 1, 1) := by decide +kernel
theorem dX7_count_73 : decode cX7_count 73 = .ok (.iadd, 1) := by decide +kernel
theorem dX7_count_74 : decode cX7_count 74 = .ok (.istore_n 2, 1) := by decide +kernel
theorem dX7_count_75 : decode cX7_count 75 = .ok (.iinc 3 1, 3) := by decide +kernel
theorem dX7_count_78 : decode cX7_count 78 = .ok (.goto (-26), 3) := by decide +kernel
theorem dX7_count_81 : decode cX7_count 81 = .ok (.iload_n 2, 1) := by decide +kernel
theorem dX7_count_82 : decode cX7_count 82 = .ok (.ireturn, 1) := by decide +kernel
theorem dX7_count_83 : decode cX7_count 83 = .ok (.aload_n 0, 1) := by decide +kernel
theorem dX7_count_84 : decode cX7_count 84 = .ok (.getfield 7, 3) := by decide +kernel
theorem dX7_count_87 : decode cX7_count 87 = .ok (.bipush 41, 2) := by decide +kernel
theorem dX7_count_89 : decode cX7_count 89 = .ok (.iaload, 1) := by decide +kernel
theorem dX7_count_90 : decode cX7_count 90 = .ok (.ireturn, 1) := by decide +kernel
theorem dX7_count_91 : decode cX7_count 91 = .ok (.aload_n 0, 1) := by decide +kernel
theorem dX7_count_92 : decode cX7_count 92 = .ok (.getfield 7, 3) := by decide +kernel
theorem dX7_count_95 : decode cX7_count 95 = .ok (.iconst 0, 1) := by decide +kernel
theorem dX7_count_96 : decode cX7_count 96 = .ok (.iaload, 1) := by decide +kernel
theorem dX7_count_97 : decode cX7_count 97 = .ok (.ireturn, 1) := by decide +kernel
theorem dX7_count_98 : decode cX7_count 98 = .ok (.aload_n 0, 1) := by decide +kernel
theorem dX7_count_99 : decode cX7_count 99 = .ok (.iconst 0, 1) := by decide +kernel
theorem dX7_count_100 : decode cX7_count 100 = .ok (.iconst 2, 1) := by decide +kernel
theorem dX7_count_101 : decode cX7_count 101 = .ok (.invokevirtual 150, 3) := by decide +kernel
theorem dX7_count_104 : decode cX7_count 104 = .ok (.invokestatic 169, 3) := by decide +kernel
theorem dX7_count_107 : decode cX7_count 107 = .ok (.ireturn, 1) := by decide +kernel
theorem dX7_count_108 : decode cX7_count 108 = .ok (.aload_n 0, 1) := by decide +kernel
theorem dX7_count_109 : decode cX7_count 109 = .ok (.iconst 0, 1) := by decide +kernel
theorem dX7_count_110 : decode cX7_count 110 = .ok (.iconst 1, 1) := by decide +kernel
theorem dX7_count_111 : decode cX7_count 111 = .ok (.invokevirtual 150, 3) := by decide +kernel
theorem dX7_count_114 : decode cX7_count 114 = .ok (.invokestatic 169, 3) := by decide +kernel
theorem dX7_count_117 : decode cX7_count 117 = .ok (.ireturn, 1) := by decide +kernel
theorem dX7_count_118 : decode cX7_count 118 = .ok (.aload_n 0, 1) := by decide +kernel
theorem dX7_count_119 : decode cX7_count 119 = .ok (.getfield 7, 3) := by decide +kernel
theorem dX7_count_122 : decode cX7_count 122 = .ok (.bipush 36, 2) := by decide +kernel
theorem dX7_count_124 : decode cX7_count 124 = .ok (.iaload, 1) := by decide +kernel
theorem dX7_count_125 : decode cX7_count 125 = .ok (.invokestatic 169, 3) := by decide +kernel
theorem dX7_count_128 : decode cX7_count 128 = .ok (.ireturn, 1) := by decide +kernel
theorem dX7_count_129 : decode cX7_count 129 = .ok (.aload_n 0, 1) := by decide +kernel
theorem dX7_count_130 : decode cX7_count 130 = .ok (.getfield 120, 3) := by decide +kernel
theorem dX7_count_133 : decode cX7_count 133 = .ok (.ireturn, 1) := by decide +kernel
theorem dX7_count_134 : decode cX7_count 134 = .ok (.aload_n 0, 1) := by decide +kernel
theorem dX7_count_135 : decode cX7_count 135 = .ok (.getfield 72, 3) := by decide +kernel
theorem dX7_count_138 : decode cX7_count 138 = .ok (.ireturn, 1) := by decide +kernel
theorem dX7_count_139 : decode cX7_count 139 = .ok (.ldc 58, 2) := by decide +kernel
theorem dX7_count_141 : decode cX7_count 141 = .ok (.ireturn, 1) := by decide +kernel
theorem dX7_status_0 : decode cX7_status 0 = .ok (.aload_n 0, 1) := by decide +kernel
theorem dX7_status_1 : decode cX7_status 1 = .ok (.getfield 41, 3) := by decide +kernel
theorem dX7_status_4 : decode cX7_status 4 = .ok (.ireturn, 1) := by decide +kernel

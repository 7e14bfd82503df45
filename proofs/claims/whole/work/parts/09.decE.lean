/-! what stands at each place of the code -/
theorem dX7_liesOn_54 : decode cX7_liesOn 54 = .ok (.iload_n 2, 1) := by decide +kernel
theorem dX7_liesOn_55 : decode cX7_liesOn 55 = .ok (.iadd, 1) := by decide +kernel
theorem dX7_liesOn_56 : decode cX7_liesOn 56 = .ok (.iload_n 3, 1) := by decide +kernel
theorem dX7_liesOn_57 : decode cX7_liesOn 57 = .ok (.ifCond .eq 7, 3) := by decide +kernel
theorem dX7_liesOn_60 : decode cX7_liesOn 60 = .ok (.iconst 0, 1) := by decide +kernel
theorem dX7_liesOn_61 : decode cX7_liesOn 61 = .ok (.goto 17, 3) := by decide +kernel
theorem dX7_liesOn_64 : decode cX7_liesOn 64 = .ok (.aload_n 0, 1) := by decide +kernel
theorem dX7_liesOn_65 : decode cX7_liesOn 65 = .ok (.getfield 7, 3) := by decide +kernel
theorem dX7_liesOn_68 : decode cX7_liesOn 68 = .ok (.iload_n 1, 1) := by decide +kernel
theorem dX7_liesOn_69 : decode cX7_liesOn 69 = .ok (.bipush 22, 2) := by decide +kernel
theorem dX7_liesOn_71 : decode cX7_liesOn 71 = .ok (.iadd, 1) := by decide +kernel
theorem dX7_liesOn_72 : decode cX7_liesOn 72 = .ok (.iload_n 2, 1) := by decide +kernel
theorem dX7_liesOn_73 : decode cX7_liesOn 73 = .ok (.iadd, 1) := by decide +kernel
theorem dX7_liesOn_74 : decode cX7_liesOn 74 = .ok (.iaload, 1) := by decide +kernel
theorem dX7_liesOn_75 : decode cX7_liesOn 75 = .ok (.iload 5, 2) := by decide +kernel
theorem dX7_liesOn_77 : decode cX7_liesOn 77 = .ok (.iadd, 1) := by decide +kernel
theorem dX7_liesOn_78 : decode cX7_liesOn 78 = .ok (.iastore, 1) := by decide +kernel
theorem dX7_liesOn_79 : decode cX7_liesOn 79 = .ok (.aload_n 0, 1) := by decide +kernel
theorem dX7_liesOn_80 : decode cX7_liesOn 80 = .ok (.getfield 7, 3) := by decide +kernel
theorem dX7_liesOn_83 : decode cX7_liesOn 83 = .ok (.iload_n 1, 1) := by decide +kernel
theorem dX7_liesOn_84 : decode cX7_liesOn 84 = .ok (.bipush 22, 2) := by decide +kernel
theorem dX7_liesOn_86 : decode cX7_liesOn 86 = .ok (.iadd, 1) := by decide +kernel
theorem dX7_liesOn_87 : decode cX7_liesOn 87 = .ok (.iload_n 2, 1) := by decide +kernel
theorem dX7_liesOn_88 : decode cX7_liesOn 88 = .ok (.iadd, 1) := by decide +kernel
theorem dX7_liesOn_89 : decode cX7_liesOn 89 = .ok (.iaload, 1) := by decide +kernel
theorem dX7_liesOn_90 : decode cX7_liesOn 90 = .ok (.aload_n 0, 1) := by decide +kernel
theorem dX7_liesOn_91 : decode cX7_liesOn 91 = .ok (.getfield 7, 3) := by decide +kernel
theorem dX7_liesOn_94 : decode cX7_liesOn 94 = .ok (.iload_n 1, 1) := by decide +kernel
theorem dX7_liesOn_95 : decode cX7_liesOn 95 = .ok (.iconst 1, 1) := by decide +kernel
theorem dX7_liesOn_96 : decode cX7_liesOn 96 = .ok (.iadd, 1) := by decide +kernel
theorem dX7_liesOn_97 : decode cX7_liesOn 97 = .ok (.iload_n 2, 1) := by decide +kernel
theorem dX7_liesOn_98 : decode cX7_liesOn 98 = .ok (.iadd, 1) := by decide +kernel
theorem dX7_liesOn_99 : decode cX7_liesOn 99 = .ok (.iaload, 1) := by decide +kernel
theorem dX7_liesOn_100 : decode cX7_liesOn 100 = .ok (.if_icmp .lt 15, 3) := by decide +kernel
theorem dX7_liesOn_103 : decode cX7_liesOn 103 = .ok (.aload_n 0, 1) := by decide +kernel
theorem dX7_liesOn_104 : decode cX7_liesOn 104 = .ok (.getfield 7, 3) := by decide +kernel
theorem dX7_liesOn_107 : decode cX7_liesOn 107 = .ok (.iload_n 1, 1) := by decide +kernel
theorem dX7_liesOn_108 : decode cX7_liesOn 108 = .ok (.bipush 8, 2) := by decide +kernel
theorem dX7_liesOn_110 : decode cX7_liesOn 110 = .ok (.iadd, 1) := by decide +kernel
theorem dX7_liesOn_111 : decode cX7_liesOn 111 = .ok (.iload_n 2, 1) := by decide +kernel
theorem dX7_liesOn_112 : decode cX7_liesOn 112 = .ok (.iadd, 1) := by decide +kernel
theorem dX7_liesOn_113 : decode cX7_liesOn 113 = .ok (.iconst 2, 1) := by decide +kernel
theorem dX7_liesOn_114 : decode cX7_liesOn 114 = .ok (.iastore, 1) := by decide +kernel
theorem dX7_liesOn_115 : decode cX7_liesOn 115 = .ok (.return_, 1) := by decide +kernel
theorem dX7_passes_0 : decode cX7_passes 0 = .ok (.iconst 0, 1) := by decide +kernel
theorem dX7_passes_1 : decode cX7_passes 1 = .ok (.istore_n 2, 1) := by decide +kernel
theorem dX7_passes_2 : decode cX7_passes 2 = .ok (.iload_n 2, 1) := by decide +kernel
theorem dX7_passes_3 : decode cX7_passes 3 = .ok (.aload_n 0, 1) := by decide +kernel
theorem dX7_passes_4 : decode cX7_passes 4 = .ok (.getfield 7, 3) := by decide +kernel
theorem dX7_passes_7 : decode cX7_passes 7 = .ok (.iload_n 1, 1) := by decide +kernel
theorem dX7_passes_8 : decode cX7_passes 8 = .ok (.bipush 41, 2) := by decide +kernel
theorem dX7_passes_10 : decode cX7_passes 10 = .ok (.iadd, 1) := by decide +kernel
theorem dX7_passes_11 : decode cX7_passes 11 = .ok (.iaload, 1) := by decide +kernel
theorem dX7_passes_12 : decode cX7_passes 12 = .ok (.if_icmp .ge 35, 3) := by decide +kernel
theorem dX7_passes_15 : decode cX7_passes 15 = .ok (.aload_n 0, 1) := by decide +kernel
theorem dX7_passes_16 : decode cX7_passes 16 = .ok (.getfield 38, 3) := by decide +kernel
theorem dX7_passes_19 : decode cX7_passes 19 = .ok (.iload_n 2, 1) := by decide +kernel
theorem dX7_passes_20 : decode cX7_passes 20 = .ok (.aload_n 0, 1) := by decide +kernel
theorem dX7_passes_21 : decode cX7_passes 21 = .ok (.iload_n 1, 1) := by decide +kernel
theorem dX7_passes_22 : decode cX7_passes 22 = .ok (.iload_n 2, 1) := by decide +kernel
theorem dX7_passes_23 : decode cX7_passes 23 = .ok (.invokevirtual 133, 3) := by decide +kernel
theorem dX7_passes_26 : decode cX7_passes 26 = .ok (.aload_n 0, 1) := by decide +kernel
theorem dX7_passes_27 : decode cX7_passes 27 = .ok (.iload_n 1, 1) := by decide +kernel
theorem dX7_passes_28 : decode cX7_passes 28 = .ok (.iload_n 2, 1) := by decide +kernel
theorem dX7_passes_29 : decode cX7_passes 29 = .ok (.invokevirtual 136, 3) := by decide +kernel
theorem dX7_passes_32 : decode cX7_passes 32 = .ok (.if_icmp .le 7, 3) := by decide +kernel
theorem dX7_passes_35 : decode cX7_passes 35 = .ok (.iconst 1, 1) := by decide +kernel
theorem dX7_passes_36 : decode cX7_passes 36 = .ok (.goto 4, 3) := by decide +kernel
theorem dX7_passes_39 : decode cX7_passes 39 = .ok (.iconst 0, 1) := by decide +kernel
theorem dX7_passes_40 : decode cX7_passes 40 = .ok (.bastore, 1) := by decide +kernel
theorem dX7_passes_41 : decode cX7_passes 41 = .ok (.iinc 2 1, 3) := by decide +kernel
theorem dX7_passes_44 : decode cX7_passes 44 = .ok (.goto (-42), 3) := by decide +kernel
theorem dX7_passes_47 : decode cX7_passes 47 = .ok (.iconst 0, 1) := by decide +kernel
theorem dX7_passes_48 : decode cX7_passes 48 = .ok (.istore_n 2, 1) := by decide +kernel
theorem dX7_passes_49 : decode cX7_passes 49 = .ok (.iload_n 2, 1) := by decide +kernel
theorem dX7_passes_50 : decode cX7_passes 50 = .ok (.aload_n 0, 1) := by decide +kernel
theorem dX7_passes_51 : decode cX7_passes 51 = .ok (.getfield 7, 3) := by decide +kernel
theorem dX7_passes_54 : decode cX7_passes 54 = .ok (.iload_n 1, 1) := by decide +kernel
theorem dX7_passes_55 : decode cX7_passes 55 = .ok (.bipush 41, 2) := by decide +kernel
theorem dX7_passes_57 : decode cX7_passes 57 = .ok (.iadd, 1) := by decide +kernel
theorem dX7_passes_58 : decode cX7_passes 58 = .ok (.iaload, 1) := by decide +kernel
theorem dX7_passes_59 : decode cX7_passes 59 = .ok (.if_icmp .ge 113, 3) := by decide +kernel
theorem dX7_passes_62 : decode cX7_passes 62 = .ok (.aload_n 0, 1) := by decide +kernel
theorem dX7_passes_63 : decode cX7_passes 63 = .ok (.getfield 7, 3) := by decide +kernel
theorem dX7_passes_66 : decode cX7_passes 66 = .ok (.iload_n 1, 1) := by decide +kernel
theorem dX7_passes_67 : decode cX7_passes 67 = .ok (.bipush 8, 2) := by decide +kernel
theorem dX7_passes_69 : decode cX7_passes 69 = .ok (.iadd, 1) := by decide +kernel
theorem dX7_passes_70 : decode cX7_passes 70 = .ok (.iload_n 2, 1) := by decide +kernel
theorem dX7_passes_71 : decode cX7_passes 71 = .ok (.iadd, 1) := by decide +kernel
theorem dX7_passes_72 : decode cX7_passes 72 = .ok (.iaload, 1) := by decide +kernel
theorem dX7_passes_73 : decode cX7_passes 73 = .ok (.istore_n 3, 1) := by decide +kernel
theorem dX7_passes_74 : decode cX7_passes 74 = .ok (.aload_n 0, 1) := by decide +kernel
theorem dX7_passes_75 : decode cX7_passes 75 = .ok (.iload_n 1, 1) := by decide +kernel
theorem dX7_passes_76 : decode cX7_passes 76 = .ok (.iload_n 2, 1) := by decide +kernel
theorem dX7_passes_77 : decode cX7_passes 77 = .ok (.invokevirtual 126, 3) := by decide +kernel
theorem dX7_passes_80 : decode cX7_passes 80 = .ok (.istore 4, 2) := by decide +kernel
theorem dX7_passes_82 : decode cX7_passes 82 = .ok (.iload_n 3, 1) := by decide +kernel
theorem dX7_passes_83 : decode cX7_passes 83 = .ok (.iconst 1, 1) := by decide +kernel
theorem dX7_passes_84 : decode cX7_passes 84 = .ok (.if_icmp .ne 38, 3) := by decide +kernel
theorem dX7_passes_87 : decode cX7_passes 87 = .ok (.aload_n 0, 1) := by decide +kernel
theorem dX7_passes_88 : decode cX7_passes 88 = .ok (.iload_n 1, 1) := by decide +kernel
theorem dX7_passes_89 : decode cX7_passes 89 = .ok (.iload_n 2, 1) := by decide +kernel
theorem dX7_passes_90 : decode cX7_passes 90 = .ok (.iload 4, 2) := by decide +kernel
theorem dX7_passes_92 : decode cX7_passes 92 = .ok (.ifCond .ne 23, 3) := by decide +kernel
theorem dX7_passes_95 : decode cX7_passes 95 = .ok (.aload_n 0, 1) := by decide +kernel
theorem dX7_passes_96 : decode cX7_passes 96 = .ok (.getfield 7, 3) := by decide +kernel
theorem dX7_passes_99 : decode cX7_passes 99 = .ok (.iload_n 1, 1) := by decide +kernel
theorem dX7_passes_100 : decode cX7_passes 100 = .ok (.bipush 37, 2) := by decide +kernel
theorem dX7_passes_102 : decode cX7_passes 102 = .ok (.iadd, 1) := by decide +kernel
theorem dX7_passes_103 : decode cX7_passes 103 = .ok (.iaload, 1) := by decide +kernel
theorem dX7_passes_104 : decode cX7_passes 104 = .ok (.iload_n 2, 1) := by decide +kernel
theorem dX7_passes_105 : decode cX7_passes 105 = .ok (.invokestatic 123, 3) := by decide +kernel
theorem dX7_passes_108 : decode cX7_passes 108 = .ok (.ifCond .eq 7, 3) := by decide +kernel
theorem dX7_passes_111 : decode cX7_passes 111 = .ok (.iconst 2, 1) := by decide +kernel
theorem dX7_passes_112 : decode cX7_passes 112 = .ok (.goto 4, 3) := by decide +kernel
theorem dX7_passes_115 : decode cX7_passes 115 = .ok (.iconst 1, 1) := by decide +kernel
theorem dX7_passes_116 : decode cX7_passes 116 = .ok (.invokevirtual 139, 3) := by decide +kernel
theorem dX7_passes_119 : decode cX7_passes 119 = .ok (.goto 47, 3) := by decide +kernel
theorem dX7_passes_122 : decode cX7_passes 122 = .ok (.iload 4, 2) := by decide +kernel
theorem dX7_passes_124 : decode cX7_passes 124 = .ok (.ifCond .ne 22, 3) := by decide +kernel
theorem dX7_passes_127 : decode cX7_passes 127 = .ok (.iload_n 3, 1) := by decide +kernel
theorem dX7_passes_128 : decode cX7_passes 128 = .ok (.ifCond .ne 18, 3) := by decide +kernel
theorem dX7_passes_131 : decode cX7_passes 131 = .ok (.aload_n 0, 1) := by decide +kernel
theorem dX7_passes_132 : decode cX7_passes 132 = .ok (.iload_n 1, 1) := by decide +kernel
theorem dX7_passes_133 : decode cX7_passes 133 = .ok (.iload_n 2, 1) := by decide +kernel
theorem dX7_passes_134 : decode cX7_passes 134 = .ok (.aload_n 0, 1) := by decide +kernel
theorem dX7_passes_135 : decode cX7_passes 135 = .ok (.getfield 38, 3) := by decide +kernel
theorem dX7_passes_138 : decode cX7_passes 138 = .ok (.iload_n 2, 1) := by decide +kernel
theorem dX7_passes_139 : decode cX7_passes 139 = .ok (.baload, 1) := by decide +kernel
theorem dX7_passes_140 : decode cX7_passes 140 = .ok (.invokevirtual 143, 3) := by decide +kernel
theorem dX7_passes_143 : decode cX7_passes 143 = .ok (.goto 23, 3) := by decide +kernel
theorem dX7_passes_146 : decode cX7_passes 146 = .ok (.iload 4, 2) := by decide +kernel
theorem dX7_passes_148 : decode cX7_passes 148 = .ok (.ifCond .ne 18, 3) := by decide +kernel
theorem dX7_passes_151 : decode cX7_passes 151 = .ok (.aload_n 0, 1) := by decide +kernel
theorem dX7_passes_152 : decode cX7_passes 152 = .ok (.getfield 38, 3) := by decide +kernel
theorem dX7_passes_155 : decode cX7_passes 155 = .ok (.iload_n 2, 1) := by decide +kernel
theorem dX7_passes_156 : decode cX7_passes 156 = .ok (.baload, 1) := by decide +kernel
theorem dX7_passes_157 : decode cX7_passes 157 = .ok (.ifCond .eq 9, 3) := by decide +kernel
theorem dX7_passes_160 : decode cX7_passes 160 = .ok (.aload_n 0, 1) := by decide +kernel
theorem dX7_passes_161 : decode cX7_passes 161 = .ok (.iload_n 1, 1) := by decide +kernel
theorem dX7_passes_162 : decode cX7_passes 162 = .ok (.iload_n 2, 1) := by decide +kernel
theorem dX7_passes_163 : decode cX7_passes 163 = .ok (.invokevirtual 147, 3) := by decide +kernel
theorem dX7_passes_166 : decode cX7_passes 166 = .ok (.iinc 2 1, 3) := by decide +kernel
theorem dX7_passes_169 : decode cX7_passes 169 = .ok (.goto (-120), 3) := by decide +kernel
theorem dX7_passes_172 : decode cX7_passes 172 = .ok (.aload_n 0, 1) := by decide +kernel
theorem dX7_passes_173 : decode cX7_passes 173 = .ok (.getfield 7, 3) := by decide +kernel
theorem dX7_passes_176 : decode cX7_passes 176 = .ok (.iload_n 1, 1) := by decide +kernel
theorem dX7_passes_177 : decode cX7_passes 177 = .ok (.iconst 0, 1) := by decide +kernel
theorem dX7_passes_178 : decode cX7_passes 178 = .ok (.iadd, 1) := by decide +kernel
theorem dX7_passes_179 : decode cX7_passes 179 = .ok (.dup2, 1) := by decide +kernel
theorem dX7_passes_180 : decode cX7_passes 180 = .ok (.iaload, 1) := by decide +kernel
theorem dX7_passes_181 : decode cX7_passes 181 = .ok (.iconst 1, 1) := by decide +kernel
theorem dX7_passes_182 : decode cX7_passes 182 = .ok (.iadd, 1) := by decide +kernel
theorem dX7_passes_183 : decode cX7_passes 183 = .ok (.iastore, 1) := by decide +kernel
theorem dX7_passes_184 : decode cX7_passes 184 = .ok (.return_, 1) := by decide +kernel
theorem dX7_rolls_0 : decode cX7_rolls 0 = .ok (.iconst 0, 1) := by decide +kernel
theorem dX7_rolls_1 : decode cX7_rolls 1 = .ok (.istore_n 3, 1) := by decide +kernel
theorem dX7_rolls_2 : decode cX7_rolls 2 = .ok (.iconst 0, 1) := by decide +kernel
theorem dX7_rolls_3 : decode cX7_rolls 3 = .ok (.istore 4, 2) := by decide +kernel
theorem dX7_rolls_5 : decode cX7_rolls 5 = .ok (.iload 4, 2) := by decide +kernel
theorem dX7_rolls_7 : decode cX7_rolls 7 = .ok (.aload_n 0, 1) := by decide +kernel
theorem dX7_rolls_8 : decode cX7_rolls 8 = .ok (.getfield 7, 3) := by decide +kernel
theorem dX7_rolls_11 : decode cX7_rolls 11 = .ok (.iload_n 1, 1) := by decide +kernel
theorem dX7_rolls_12 : decode cX7_rolls 12 = .ok (.bipush 41, 2) := by decide +kernel
theorem dX7_rolls_14 : decode cX7_rolls 14 = .ok (.iadd, 1) := by decide +kernel
theorem dX7_rolls_15 : decode cX7_rolls 15 = .ok (.iaload, 1) := by decide +kernel
theorem dX7_rolls_16 : decode cX7_rolls 16 = .ok (.if_icmp .ge 56, 3) := by decide +kernel
theorem dX7_rolls_19 : decode cX7_rolls 19 = .ok (.aload_n 0, 1) := by decide +kernel
theorem dX7_rolls_20 : decode cX7_rolls 20 = .ok (.getfield 7, 3) := by decide +kernel
theorem dX7_rolls_23 : decode cX7_rolls 23 = .ok (.iload_n 1, 1) := by decide +kernel
theorem dX7_rolls_24 : decode cX7_rolls 24 = .ok (.bipush 8, 2) := by decide +kernel
theorem dX7_rolls_26 : decode cX7_rolls 26 = .ok (.iadd, 1) := by decide +kernel
theorem dX7_rolls_27 : decode cX7_rolls 27 = .ok (.iload 4, 2) := by decide +kernel
theorem dX7_rolls_29 : decode cX7_rolls 29 = .ok (.iadd, 1) := by decide +kernel
theorem dX7_rolls_30 : decode cX7_rolls 30 = .ok (.iaload, 1) := by decide +kernel
theorem dX7_rolls_31 : decode cX7_rolls 31 = .ok (.iconst 2, 1) := by decide +kernel
theorem dX7_rolls_32 : decode cX7_rolls 32 = .ok (.if_icmp .ne 34, 3) := by decide +kernel
theorem dX7_rolls_35 : decode cX7_rolls 35 = .ok (.aload_n 0, 1) := by decide +kernel
theorem dX7_rolls_36 : decode cX7_rolls 36 = .ok (.iload_n 1, 1) := by decide +kernel
theorem dX7_rolls_37 : decode cX7_rolls 37 = .ok (.iload 4, 2) := by decide +kernel
theorem dX7_rolls_39 : decode cX7_rolls 39 = .ok (.invokevirtual 126, 3) := by decide +kernel
theorem dX7_rolls_42 : decode cX7_rolls 42 = .ok (.ifCond .ne 24, 3) := by decide +kernel
theorem dX7_rolls_45 : decode cX7_rolls 45 = .ok (.iload_n 2, 1) := by decide +kernel
theorem dX7_rolls_46 : decode cX7_rolls 46 = .ok (.aload_n 0, 1) := by decide +kernel
theorem dX7_rolls_47 : decode cX7_rolls 47 = .ok (.iload_n 1, 1) := by decide +kernel
theorem dX7_rolls_48 : decode cX7_rolls 48 = .ok (.iload 4, 2) := by decide +kernel
theorem dX7_rolls_50 : decode cX7_rolls 50 = .ok (.invokevirtual 136, 3) := by decide +kernel
theorem dX7_rolls_53 : decode cX7_rolls 53 = .ok (.if_icmp .le 13, 3) := by decide +kernel
theorem dX7_rolls_56 : decode cX7_rolls 56 = .ok (.aload_n 0, 1) := by decide +kernel
theorem dX7_rolls_57 : decode cX7_rolls 57 = .ok (.iload_n 1, 1) := by decide +kernel
theorem dX7_rolls_58 : decode cX7_rolls 58 = .ok (.iload 4, 2) := by decide +kernel
theorem dX7_rolls_60 : decode cX7_rolls 60 = .ok (.invokevirtual 147, 3) := by decide +kernel
theorem dX7_rolls_63 : decode cX7_rolls 63 = .ok (.iinc 3 1, 3) := by decide +kernel
theorem dX7_rolls_66 : decode cX7_rolls 66 = .ok (.iinc 4 1, 3) := by decide +kernel
theorem dX7_rolls_69 : decode cX7_rolls 69 = .ok (.goto (-64), 3) := by decide +kernel
theorem dX7_rolls_72 : decode cX7_rolls 72 = .ok (.iload_n 3, 1) := by decide +kernel
theorem dX7_rolls_73 : decode cX7_rolls 73 = .ok (.ireturn, 1) := by decide +kernel
theorem dX7_thoseWho_0 : decode cX7_thoseWho 0 = .ok (.iconst 0, 1) := by decide +kernel
theorem dX7_thoseWho_1 : decode cX7_thoseWho 1 = .ok (.istore_n 3, 1) := by decide +kernel
theorem dX7_thoseWho_2 : decode cX7_thoseWho 2 = .ok (.iconst 0, 1) := by decide +kernel
theorem dX7_thoseWho_3 : decode cX7_thoseWho 3 = .ok (.istore 4, 2) := by decide +kernel
theorem dX7_thoseWho_5 : decode cX7_thoseWho 5 = .ok (.iload 4, 2) := by decide +kernel
theorem dX7_thoseWho_7 : decode cX7_thoseWho 7 = .ok (.aload_n 0, 1) := by decide +kernel
theorem dX7_thoseWho_8 : decode cX7_thoseWho 8 = .ok (.getfield 7, 3) := by decide +kernel
theorem dX7_thoseWho_11 : decode cX7_thoseWho 11 = .ok (.iload_n 1, 1) := by decide +kernel
theorem dX7_thoseWho_12 : decode cX7_thoseWho 12 = .ok (.bipush 41, 2) := by decide +kernel
theorem dX7_thoseWho_14 : decode cX7_thoseWho 14 = .ok (.iadd, 1) := by decide +kernel
theorem dX7_thoseWho_15 : decode cX7_thoseWho 15 = .ok (.iaload, 1) := by decide +kernel
theorem dX7_thoseWho_16 : decode cX7_thoseWho 16 = .ok (.if_icmp .ge 36, 3) := by decide +kernel
theorem dX7_thoseWho_19 : decode cX7_thoseWho 19 = .ok (.iload_n 3, 1) := by decide +kernel
theorem dX7_thoseWho_20 : decode cX7_thoseWho 20 = .ok (.aload_n 0, 1) := by decide +kernel
theorem dX7_thoseWho_21 : decode cX7_thoseWho 21 = .ok (.getfield 7, 3) := by decide +kernel
theorem dX7_thoseWho_24 : decode cX7_thoseWho 24 = .ok (.iload_n 1, 1) := by decide +kernel
theorem dX7_thoseWho_25 : decode cX7_thoseWho 25 = .ok (.bipush 8, 2) := by decide +kernel
theorem dX7_thoseWho_27 : decode cX7_thoseWho 27 = .ok (.iadd, 1) := by decide +kernel
theorem dX7_thoseWho_28 : decode cX7_thoseWho 28 = .ok (.iload 4, 2) := by decide +kernel
theorem dX7_thoseWho_30 : decode cX7_thoseWho 30 = .ok (.iadd, 1) := by decide +kernel
theorem dX7_thoseWho_31 : decode cX7_thoseWho 31 = .ok (.iaload, 1) := by decide +kernel
theorem dX7_thoseWho_32 : decode cX7_thoseWho 32 = .ok (.iload_n 2, 1) := by decide +kernel
theorem dX7_thoseWho_33 : decode cX7_thoseWho 33 = .ok (.if_icmp .ne 10, 3) := by decide +kernel
theorem dX7_thoseWho_36 : decode cX7_thoseWho 36 = .ok (.iconst 1, 1) := by decide +kernel
theorem dX7_thoseWho_37 : decode cX7_thoseWho 37 = .ok (.iload 4, 2) := by decide +kernel
theorem dX7_thoseWho_39 : decode cX7_thoseWho 39 = .ok (.ishl, 1) := by decide +kernel
theorem dX7_thoseWho_40 : decode cX7_thoseWho 40 = .ok (.goto 4, 3) := by decide +kernel
theorem dX7_thoseWho_43 : decode cX7_thoseWho 43 = .ok (.iconst 0, 1) := by decide +kernel
theorem dX7_thoseWho_44 : decode cX7_thoseWho 44 = .ok (.ior, 1) := by decide +kernel
theorem dX7_thoseWho_45 : decode cX7_thoseWho 45 = .ok (.istore_n 3, 1) := by decide +kernel
theorem dX7_thoseWho_46 : decode cX7_thoseWho 46 = .ok (.iinc 4 1, 3) := by decide +kernel
theorem dX7_thoseWho_49 : decode cX7_thoseWho 49 = .ok (.goto (-44), 3) := by decide +kernel
theorem dX7_thoseWho_52 : decode cX7_thoseWho 52 = .ok (.iload_n 3, 1) := by decide +kernel
theorem dX7_thoseWho_53 : decode cX7_thoseWho 53 = .ok (.ireturn, 1) := by decide +kernel
theorem dX7_allSleep_0 : decode cX7_allSleep 0 = .ok (.iconst 1, 1) := by decide +kernel
theorem dX7_allSleep_1 : decode cX7_allSleep 1 = .ok (.aload_n 0, 1) := by decide +kernel
theorem dX7_allSleep_2 : decode cX7_allSleep 2 = .ok (.getfield 7, 3) := by decide +kernel
theorem dX7_allSleep_5 : decode cX7_allSleep 5 = .ok (.iload_n 1, 1) := by decide +kernel
theorem dX7_allSleep_6 : decode cX7_allSleep 6 = .ok (.bipush 41, 2) := by decide +kernel
theorem dX7_allSleep_8 : decode cX7_allSleep 8 = .ok (.iadd, 1) := by decide +kernel
theorem dX7_allSleep_9 : decode cX7_allSleep 9 = .ok (.iaload, 1) := by decide +kernel
theorem dX7_allSleep_10 : decode cX7_allSleep 10 = .ok (.ishl, 1) := by decide +kernel
theorem dX7_allSleep_11 : decode cX7_allSleep 11 = .ok (.iconst 1, 1) := by decide +kernel
theorem dX7_allSleep_12 : decode cX7_allSleep 12 = .ok (.isub, 1) := by decide +kernel
theorem dX7_allSleep_13 : decode cX7_allSleep 13 = .ok (.aload_n 0, 1) := by decide +kernel
theorem dX7_allSleep_14 : decode cX7_allSleep 14 = .ok (.getfield 7, 3) := by decide +kernel
theorem dX7_allSleep_17 : decode cX7_allSleep 17 = .ok (.iload_n 1, 1) := by decide +kernel
theorem dX7_allSleep_18 : decode cX7_allSleep 18 = .ok (.bipush 36, 2) := by decide +kernel
theorem dX7_allSleep_20 : decode cX7_allSleep 20 = .ok (.iadd, 1) := by decide +kernel
theorem dX7_allSleep_21 : decode cX7_allSleep 21 = .ok (.iaload, 1) := by decide +kernel
theorem dX7_allSleep_22 : decode cX7_allSleep 22 = .ok (.iconst (-1), 1) := by decide +kernel
theorem dX7_allSleep_23 : decode cX7_allSleep 23 = .ok (.ixor, 1) := by decide +kernel
theorem dX7_allSleep_24 : decode cX7_allSleep 24 = .ok (.iand, 1) := by decide +kernel
theorem dX7_allSleep_25 : decode cX7_allSleep 25 = .ok (.aload_n 0, 1) := by decide +kernel
theorem dX7_allSleep_26 : decode cX7_allSleep 26 = .ok (.iload_n 1, 1) := by decide +kernel
theorem dX7_allSleep_27 : decode cX7_allSleep 27 = .ok (.iconst 2, 1) := by decide +kernel
theorem dX7_allSleep_28 : decode cX7_allSleep 28 = .ok (.invokevirtual 150, 3) := by decide +kernel
theorem dX7_allSleep_31 : decode cX7_allSleep 31 = .ok (.iconst (-1), 1) := by decide +kernel
theorem dX7_allSleep_32 : decode cX7_allSleep 32 = .ok (.ixor, 1) := by decide +kernel
theorem dX7_allSleep_33 : decode cX7_allSleep 33 = .ok (.iand, 1) := by decide +kernel
theorem dX7_allSleep_34 : decode cX7_allSleep 34 = .ok (.ifCond .ne 7, 3) := by decide +kernel
theorem dX7_allSleep_37 : decode cX7_allSleep 37 = .ok (.iconst 1, 1) := by decide +kernel
theorem dX7_allSleep_38 : decode cX7_allSleep 38 = .ok (.goto 4, 3) := by decide +kernel
theorem dX7_allSleep_41 : decode cX7_allSleep 41 = .ok (.iconst 0, 1) := by decide +kernel
theorem dX7_allSleep_42 : decode cX7_allSleep 42 = .ok (.ireturn, 1) := by decide +kernel
theorem dX7_minds_0 : decode cX7_minds 0 = .ok (.aload_n 0, 1) := by decide +kernel
theorem dX7_minds_1 : decode cX7_minds 1 = .ok (.getfield 120, 3) := by decide +kernel
theorem dX7_minds_4 : decode cX7_minds 4 = .ok (.bipush 24, 2) := by decide +kernel
theorem dX7_minds_6 : decode cX7_minds 6 = .ok (.if_icmp .ne 43, 3) := by decide +kernel
theorem dX7_minds_9 : decode cX7_minds 9 = .ok (.iconst 0, 1) := by decide +kernel
theorem dX7_minds_10 : decode cX7_minds 10 = .ok (.istore_n 1, 1) := by decide +kernel
theorem dX7_minds_11 : decode cX7_minds 11 = .ok (.iload_n 1, 1) := by decide +kernel
theorem dX7_minds_12 : decode cX7_minds 12 = .ok (.sipush 874, 3) := by decide +kernel
theorem dX7_minds_15 : decode cX7_minds 15 = .ok (.if_icmp .ge 24, 3) := by decide +kernel
theorem dX7_minds_18 : decode cX7_minds 18 = .ok (.aload_n 0, 1) := by decide +kernel
theorem dX7_minds_19 : decode cX7_minds 19 = .ok (.getfield 17, 3) := by decide +kernel
theorem dX7_minds_22 : decode cX7_minds 22 = .ok (.iload_n 1, 1) := by decide +kernel
theorem dX7_minds_23 : decode cX7_minds 23 = .ok (.aload_n 0, 1) := by decide +kernel
theorem dX7_minds_24 : decode cX7_minds 24 = .ok (.getfield 17, 3) := by decide +kernel
theorem dX7_minds_27 : decode cX7_minds 27 = .ok (.iload_n 1, 1) := by decide +kernel
theorem dX7_minds_28 : decode cX7_minds 28 = .ok (.bipush 38, 2) := by decide +kernel
theorem dX7_minds_30 : decode cX7_minds 30 = .ok (.iadd, 1) := by decide +kernel
theorem dX7_minds_31 : decode cX7_minds 31 = .ok (.iaload, 1) := by decide +kernel
theorem dX7_minds_32 : decode cX7_minds 32 = .ok (.iastore, 1) := by decide +kernel
theorem dX7_minds_33 : decode cX7_minds 33 = .ok (.iinc 1 1, 3) := by decide +kernel
theorem dX7_minds_36 : decode cX7_minds 36 = .ok (.goto (-25), 3) := by decide +kernel
theorem dX7_minds_39 : decode cX7_minds 39 = .ok (.aload_n 0, 1) := by decide +kernel
theorem dX7_minds_40 : decode cX7_minds 40 = .ok (.dup, 1) := by decide +kernel
theorem dX7_minds_41 : decode cX7_minds 41 = .ok (.getfield 120, 3) := by decide +kernel
theorem dX7_minds_44 : decode cX7_minds 44 = .ok (.iconst 1, 1) := by decide +kernel
theorem dX7_minds_45 : decode cX7_minds 45 = .ok (.isub, 1) := by decide +kernel
theorem dX7_minds_46 : decode cX7_minds 46 = .ok (.putfield 120, 3) := by decide +kernel
theorem dX7_minds_49 : decode cX7_minds 49 = .ok (.iconst 0, 1) := by decide +kernel
theorem dX7_minds_50 : decode cX7_minds 50 = .ok (.istore_n 1, 1) := by decide +kernel
theorem dX7_minds_51 : decode cX7_minds 51 = .ok (.iload_n 1, 1) := by decide +kernel
theorem dX7_minds_52 : decode cX7_minds 52 = .ok (.bipush 38, 2) := by decide +kernel
theorem dX7_minds_54 : decode cX7_minds 54 = .ok (.if_icmp .ge 29, 3) := by decide +kernel
theorem dX7_minds_57 : decode cX7_minds 57 = .ok (.aload_n 0, 1) := by decide +kernel
theorem dX7_minds_58 : decode cX7_minds 58 = .ok (.getfield 17, 3) := by decide +kernel
theorem dX7_minds_61 : decode cX7_minds 61 = .ok (.bipush 38, 2) := by decide +kernel
theorem dX7_minds_63 : decode cX7_minds 63 = .ok (.aload_n 0, 1) := by decide +kernel
theorem dX7_minds_64 : decode cX7_minds 64 = .ok (.getfield 120, 3) := by decide +kernel
theorem dX7_minds_67 : decode cX7_minds 67 = .ok (.imul, 1) := by decide +kernel
theorem dX7_minds_68 : decode cX7_minds 68 = .ok (.iload_n 1, 1) := by decide +kernel
theorem dX7_minds_69 : decode cX7_minds 69 = .ok (.iadd, 1) := by decide +kernel
theorem dX7_minds_70 : decode cX7_minds 70 = .ok (.aload_n 0, 1) := by decide +kernel
theorem dX7_minds_71 : decode cX7_minds 71 = .ok (.getfield 7, 3) := by decide +kernel
theorem dX7_minds_74 : decode cX7_minds 74 = .ok (.iload_n 1, 1) := by decide +kernel
theorem dX7_minds_75 : decode cX7_minds 75 = .ok (.iaload, 1) := by decide +kernel
theorem dX7_minds_76 : decode cX7_minds 76 = .ok (.iastore, 1) := by decide +kernel
theorem dX7_minds_77 : decode cX7_minds 77 = .ok (.iinc 1 1, 3) := by decide +kernel
theorem dX7_minds_80 : decode cX7_minds 80 = .ok (.goto (-29), 3) := by decide +kernel
theorem dX7_minds_83 : decode cX7_minds 83 = .ok (.aload_n 0, 1) := by decide +kernel
theorem dX7_minds_84 : decode cX7_minds 84 = .ok (.dup, 1) := by decide +kernel
theorem dX7_minds_85 : decode cX7_minds 85 = .ok (.getfield 120, 3) := by decide +kernel
theorem dX7_minds_88 : decode cX7_minds 88 = .ok (.iconst 1, 1) := by decide +kernel
theorem dX7_minds_89 : decode cX7_minds 89 = .ok (.iadd, 1) := by decide +kernel
theorem dX7_minds_90 : decode cX7_minds 90 = .ok (.putfield 120, 3) := by decide +kernel
theorem dX7_minds_93 : decode cX7_minds 93 = .ok (.return_, 1) := by decide +kernel
theorem dX7_undo_0 : decode cX7_undo 0 = .ok (.aload_n 0, 1) := by decide +kernel
theorem dX7_undo_1 : decode cX7_undo 1 = .ok (.getfield 120, 3) := by decide +kernel
theorem dX7_undo_4 : decode cX7_undo 4 = .ok (.ifCond .ne 6, 3) := by decide +kernel
theorem dX7_undo_7 : decode cX7_undo 7 = .ok (.ldc 153, 2) := by decide +kernel
theorem dX7_undo_9 : decode cX7_undo 9 = .ok (.ireturn, 1) := by decide +kernel
theorem dX7_undo_10 : decode cX7_undo 10 = .ok (.aload_n 0, 1) := by decide +kernel
theorem dX7_undo_11 : decode cX7_undo 11 = .ok (.dup, 1) := by decide +kernel
theorem dX7_undo_12 : decode cX7_undo 12 = .ok (.getfield 120, 3) := by decide +kernel
theorem dX7_undo_15 : decode cX7_undo 15 = .ok (.iconst 1, 1) := by decide +kernel
theorem dX7_undo_16 : decode cX7_undo 16 = .ok (.isub, 1) := by decide +kernel
theorem dX7_undo_17 : decode cX7_undo 17 = .ok (.putfield 120, 3) := by decide +kernel
theorem dX7_undo_20 : decode cX7_undo 20 = .ok (.iconst 0, 1) := by decide +kernel
theorem dX7_undo_21 : decode cX7_undo 21 = .ok (.istore_n 1, 1) := by decide +kernel
theorem dX7_undo_22 : decode cX7_undo 22 = .ok (.iload_n 1, 1) := by decide +kernel
theorem dX7_undo_23 : decode cX7_undo 23 = .ok (.bipush 38, 2) := by decide +kernel
theorem dX7_undo_25 : decode cX7_undo 25 = .ok (.if_icmp .ge 29, 3) := by decide +kernel
theorem dX7_undo_28 : decode cX7_undo 28 = .ok (.aload_n 0, 1) := by decide +kernel
theorem dX7_undo_29 : decode cX7_undo 29 = .ok (.getfield 7, 3) := by decide +kernel
theorem dX7_undo_32 : decode cX7_undo 32 = .ok (.iload_n 1, 1) := by decide +kernel
theorem dX7_undo_33 : decode cX7_undo 33 = .ok (.aload_n 0, 1) := by decide +kernel
theorem dX7_undo_34 : decode cX7_undo 34 = .ok (.getfield 17, 3) := by decide +kernel
theorem dX7_undo_37 : decode cX7_undo 37 = .ok (.bipush 38, 2) := by decide +kernel
theorem dX7_undo_39 : decode cX7_undo 39 = .ok (.aload_n 0, 1) := by decide +kernel
theorem dX7_undo_40 : decode cX7_undo 40 = .ok (.getfield 120, 3) := by decide +kernel
theorem dX7_undo_43 : decode cX7_undo 43 = .ok (.imul, 1) := by decide +kernel
theorem dX7_undo_44 : decode cX7_undo 44 = .ok (.iload_n 1, 1) := by decide +kernel
theorem dX7_undo_45 : decode cX7_undo 45 = .ok (.iadd, 1) := by decide +kernel
theorem dX7_undo_46 : decode cX7_undo 46 = .ok (.iaload, 1) := by decide +kernel
theorem dX7_undo_47 : decode cX7_undo 47 = .ok (.iastore, 1) := by decide +kernel
theorem dX7_undo_48 : decode cX7_undo 48 = .ok (.iinc 1 1, 3) := by decide +kernel
theorem dX7_undo_51 : decode cX7_undo 51 = .ok (.goto (-29), 3) := by decide +kernel
theorem dX7_undo_54 : decode cX7_undo 54 = .ok (.aload_n 0, 1) := by decide +kernel
theorem dX7_undo_55 : decode cX7_undo 55 = .ok (.getfield 120, 3) := by decide +kernel
theorem dX7_undo_58 : decode cX7_undo 58 = .ok (.ireturn, 1) := by decide +kernel
theorem dX7_minutes_0 : decode cX7_minutes 0 = .ok (.aload_n 0, 1) := by decide +kernel
theorem dX7_minutes_1 : decode cX7_minutes 1 = .ok (.invokevirtual 154, 3) := by decide +kernel
theorem dX7_minutes_4 : decode cX7_minutes 4 = .ok (.ifCond .ne 6, 3) := by decide +kernel
theorem dX7_minutes_7 : decode cX7_minutes 7 = .ok (.ldc 153, 2) := by decide +kernel
theorem dX7_minutes_9 : decode cX7_minutes 9 = .ok (.ireturn, 1) := by decide +kernel
theorem dX7_minutes_10 : decode cX7_minutes 10 = .ok (.iload_n 1, 1) := by decide +kernel
theorem dX7_minutes_11 : decode cX7_minutes 11 = .ok (.i2l, 1) := by decide +kernel
theorem dX7_minutes_12 : decode cX7_minutes 12 = .ok (.lconst 1, 1) := by decide +kernel
theorem dX7_minutes_13 : decode cX7_minutes 13 = .ok (.ldc2_w 157, 3) := by decide +kernel
theorem dX7_minutes_16 : decode cX7_minutes 16 = .ok (.invokestatic 48, 3) := by decide +kernel
theorem dX7_minutes_19 : decode cX7_minutes 19 = .ok (.ifCond .ne 6, 3) := by decide +kernel
theorem dX7_minutes_22 : decode cX7_minutes 22 = .ok (.ldc 58, 2) := by decide +kernel
theorem dX7_minutes_24 : decode cX7_minutes 24 = .ok (.ireturn, 1) := by decide +kernel
theorem dX7_minutes_25 : decode cX7_minutes 25 = .ok (.aload_n 0, 1) := by decide +kernel
theorem dX7_minutes_26 : decode cX7_minutes 26 = .ok (.getfield 7, 3) := by decide +kernel
theorem dX7_minutes_29 : decode cX7_minutes 29 = .ok (.iconst 0, 1) := by decide +kernel
theorem dX7_minutes_30 : decode cX7_minutes 30 = .ok (.iaload, 1) := by decide +kernel
theorem dX7_minutes_31 : decode cX7_minutes 31 = .ok (.iload_n 1, 1) := by decide +kernel
theorem dX7_minutes_32 : decode cX7_minutes 32 = .ok (.iadd, 1) := by decide +kernel
theorem dX7_minutes_33 : decode cX7_minutes 33 = .ok (.sipush 999, 3) := by decide +kernel
theorem dX7_minutes_36 : decode cX7_minutes 36 = .ok (.if_icmp .le 6, 3) := by decide +kernel
theorem dX7_minutes_39 : decode cX7_minutes 39 = .ok (.ldc 75, 2) := by decide +kernel
theorem dX7_minutes_41 : decode cX7_minutes 41 = .ok (.ireturn, 1) := by decide +kernel
theorem dX7_minutes_42 : decode cX7_minutes 42 = .ok (.iconst 0, 1) := by decide +kernel
theorem dX7_minutes_43 : decode cX7_minutes 43 = .ok (.istore_n 2, 1) := by decide +kernel
theorem dX7_minutes_44 : decode cX7_minutes 44 = .ok (.iload_n 2, 1) := by decide +kernel
theorem dX7_minutes_45 : decode cX7_minutes 45 = .ok (.iload_n 1, 1) := by decide +kernel
theorem dX7_minutes_46 : decode cX7_minutes 46 = .ok (.if_icmp .ge 18, 3) := by decide +kernel
theorem dX7_minutes_49 : decode cX7_minutes 49 = .ok (.aload_n 0, 1) := by decide +kernel
theorem dX7_minutes_50 : decode cX7_minutes 50 = .ok (.invokevirtual 159, 3) := by decide +kernel
theorem dX7_minutes_53 : decode cX7_minutes 53 = .ok (.aload_n 0, 1) := by decide +kernel
theorem dX7_minutes_54 : decode cX7_minutes 54 = .ok (.iconst 0, 1) := by decide +kernel
theorem dX7_minutes_55 : decode cX7_minutes 55 = .ok (.invokevirtual 162, 3) := by decide +kernel
theorem dX7_minutes_58 : decode cX7_minutes 58 = .ok (.iinc 2 1, 3) := by decide +kernel
theorem dX7_minutes_61 : decode cX7_minutes 61 = .ok (.goto (-17), 3) := by decide +kernel
theorem dX7_minutes_64 : decode cX7_minutes 64 = .ok (.aload_n 0, 1) := by decide +kernel
theorem dX7_minutes_65 : decode cX7_minutes 65 = .ok (.iconst 0, 1) := by decide +kernel
theorem dX7_minutes_66 : decode cX7_minutes 66 = .ok (.iconst 2, 1) := by decide +kernel
theorem dX7_minutes_67 : decode cX7_minutes 67 = .ok (.invokevirtual 150, 3) := by decide +kernel
theorem dX7_minutes_70 : decode cX7_minutes 70 = .ok (.ireturn, 1) := by decide +kernel
theorem dX7_hand_0 : decode cX7_hand 0 = .ok (.aload_n 0, 1) := by decide +kernel
theorem dX7_hand_1 : decode cX7_hand 1 = .ok (.iload_n 1, 1) := by decide +kernel
theorem dX7_hand_2 : decode cX7_hand 2 = .ok (.invokevirtual 166, 3) := by decide +kernel
theorem dX7_hand_5 : decode cX7_hand 5 = .ok (.ifCond .eq 13, 3) := by decide +kernel
theorem dX7_hand_8 : decode cX7_hand 8 = .ok (.iload_n 2, 1) := by decide +kernel
theorem dX7_hand_9 : decode cX7_hand 9 = .ok (.i2l, 1) := by decide +kernel
theorem dX7_hand_10 : decode cX7_hand 10 = .ok (.lconst 0, 1) := by decide +kernel
theorem dX7_hand_11 : decode cX7_hand 11 = .ok (.lconst 1, 1) := by decide +kernel
theorem dX7_hand_12 : decode cX7_hand 12 = .ok (.invokestatic 48, 3) := by decide +kernel
theorem dX7_hand_15 : decode cX7_hand 15 = .ok (.ifCond .ne 6, 3) := by decide +kernel
theorem dX7_hand_18 : decode cX7_hand 18 = .ok (.ldc 58, 2) := by decide +kernel
theorem dX7_hand_20 : decode cX7_hand 20 = .ok (.ireturn, 1) := by decide +kernel
theorem dX7_hand_21 : decode cX7_hand 21 = .ok (.aload_n 0, 1) := by decide +kernel
theorem dX7_hand_22 : decode cX7_hand 22 = .ok (.getfield 7, 3) := by decide +kernel
theorem dX7_hand_25 : decode cX7_hand 25 = .ok (.bipush 37, 2) := by decide +kernel
theorem dX7_hand_27 : decode cX7_hand 27 = .ok (.iaload, 1) := by decide +kernel
theorem dX7_hand_28 : decode cX7_hand 28 = .ok (.iload_n 1, 1) := by decide +kernel
theorem dX7_hand_29 : decode cX7_hand 29 = .ok (.invokestatic 123, 3) := by decide +kernel
theorem dX7_hand_32 : decode cX7_hand 32 = .ok (.iload_n 2, 1) := by decide +kernel
theorem dX7_hand_33 : decode cX7_hand 33 = .ok (.iconst 1, 1) := by decide +kernel
theorem dX7_hand_34 : decode cX7_hand 34 = .ok (.if_icmp .ne 7, 3) := by decide +kernel
theorem dX7_hand_37 : decode cX7_hand 37 = .ok (.iconst 1, 1) := by decide +kernel
theorem dX7_hand_38 : decode cX7_hand 38 = .ok (.goto 4, 3) := by decide +kernel
theorem dX7_hand_41 : decode cX7_hand 41 = .ok (.iconst 0, 1) := by decide +kernel
theorem dX7_hand_42 : decode cX7_hand 42 = .ok (.if_icmp .ne 6, 3) := by decide +kernel
theorem dX7_hand_45 : decode cX7_hand 45 = .ok (.ldc 153, 2) := by decide +kernel
theorem dX7_hand_47 : decode cX7_hand 47 = .ok (.ireturn, 1) := by decide +kernel
theorem dX7_hand_48 : decode cX7_hand 48 = .ok (.iload_n 2, 1) := by decide +kernel
theorem dX7_hand_49 : decode cX7_hand 49 = .ok (.iconst 1, 1) := by decide +kernel
theorem dX7_hand_50 : decode cX7_hand 50 = .ok (.if_icmp .ne 26, 3) := by decide +kernel
theorem dX7_hand_53 : decode cX7_hand 53 = .ok (.aload_n 0, 1) := by decide +kernel
theorem dX7_hand_54 : decode cX7_hand 54 = .ok (.getfield 7, 3) := by decide +kernel
theorem dX7_hand_57 : decode cX7_hand 57 = .ok (.bipush 37, 2) := by decide +kernel
theorem dX7_hand_59 : decode cX7_hand 59 = .ok (.iaload, 1) := by decide +kernel
theorem dX7_hand_60 : decode cX7_hand 60 = .ok (.invokestatic 169, 3) := by decide +kernel
theorem dX7_hand_63 : decode cX7_hand 63 = .ok (.aload_n 0, 1) := by decide +kernel
theorem dX7_hand_64 : decode cX7_hand 64 = .ok (.getfield 7, 3) := by decide +kernel
theorem dX7_hand_67 : decode cX7_hand 67 = .ok (.bipush 39, 2) := by decide +kernel
theorem dX7_hand_69 : decode cX7_hand 69 = .ok (.iaload, 1) := by decide +kernel
theorem dX7_hand_70 : decode cX7_hand 70 = .ok (.if_icmp .lt 6, 3) := by decide +kernel
theorem dX7_hand_73 : decode cX7_hand 73 = .ok (.ldc 75, 2) := by decide +kernel
theorem dX7_hand_75 : decode cX7_hand 75 = .ok (.ireturn, 1) := by decide +kernel
theorem dX7_hand_76 : decode cX7_hand 76 = .ok (.aload_n 0, 1) := by decide +kernel
theorem dX7_hand_77 : decode cX7_hand 77 = .ok (.invokevirtual 159, 3) := by decide +kernel
theorem dX7_hand_80 : decode cX7_hand 80 = .ok (.aload_n 0, 1) := by decide +kernel
theorem dX7_hand_81 : decode cX7_hand 81 = .ok (.getfield 7, 3) := by decide +kernel
theorem dX7_hand_84 : decode cX7_hand 84 = .ok (.bipush 37, 2) := by decide +kernel
theorem dX7_hand_86 : decode cX7_hand 86 = .ok (.dup2, 1) := by decide +kernel
theorem dX7_hand_87 : decode cX7_hand 87 = .ok (.iaload, 1) := by decide +kernel
theorem dX7_hand_88 : decode cX7_hand 88 = .ok (.iconst 1, 1) := by decide +kernel
theorem dX7_hand_89 : decode cX7_hand 89 = .ok (.iload_n 1, 1) := by decide +kernel
theorem dX7_hand_90 : decode cX7_hand 90 = .ok (.ishl, 1) := by decide +kernel
theorem dX7_hand_91 : decode cX7_hand 91 = .ok (.ixor, 1) := by decide +kernel
theorem dX7_hand_92 : decode cX7_hand 92 = .ok (.iastore, 1) := by decide +kernel
theorem dX7_hand_93 : decode cX7_hand 93 = .ok (.aload_n 0, 1) := by decide +kernel
theorem dX7_hand_94 : decode cX7_hand 94 = .ok (.getfield 7, 3) := by decide +kernel
theorem dX7_hand_97 : decode cX7_hand 97 = .ok (.bipush 37, 2) := by decide +kernel
theorem dX7_hand_99 : decode cX7_hand 99 = .ok (.iaload, 1) := by decide +kernel
theorem dX7_hand_100 : decode cX7_hand 100 = .ok (.ireturn, 1) := by decide +kernel
theorem dX7_carry_0 : decode cX7_carry 0 = .ok (.aload_n 0, 1) := by decide +kernel
theorem dX7_carry_1 : decode cX7_carry 1 = .ok (.iload_n 1, 1) := by decide +kernel
theorem dX7_carry_2 : decode cX7_carry 2 = .ok (.invokevirtual 166, 3) := by decide +kernel
theorem dX7_carry_5 : decode cX7_carry 5 = .ok (.ifCond .eq 13, 3) := by decide +kernel
theorem dX7_carry_8 : decode cX7_carry 8 = .ok (.iload_n 2, 1) := by decide +kernel
theorem dX7_carry_9 : decode cX7_carry 9 = .ok (.i2l, 1) := by decide +kernel
theorem dX7_carry_10 : decode cX7_carry 10 = .ok (.lconst 0, 1) := by decide +kernel
theorem dX7_carry_11 : decode cX7_carry 11 = .ok (.lconst 1, 1) := by decide +kernel
theorem dX7_carry_12 : decode cX7_carry 12 = .ok (.invokestatic 48, 3) := by decide +kernel
theorem dX7_carry_15 : decode cX7_carry 15 = .ok (.ifCond .ne 6, 3) := by decide +kernel
theorem dX7_carry_18 : decode cX7_carry 18 = .ok (.ldc 58, 2) := by decide +kernel
theorem dX7_carry_20 : decode cX7_carry 20 = .ok (.ireturn, 1) := by decide +kernel
theorem dX7_carry_21 : decode cX7_carry 21 = .ok (.aload_n 0, 1) := by decide +kernel
theorem dX7_carry_22 : decode cX7_carry 22 = .ok (.iconst 0, 1) := by decide +kernel
theorem dX7_carry_23 : decode cX7_carry 23 = .ok (.iload_n 1, 1) := by decide +kernel
theorem dX7_carry_24 : decode cX7_carry 24 = .ok (.invokevirtual 126, 3) := by decide +kernel
theorem dX7_carry_27 : decode cX7_carry 27 = .ok (.iload_n 2, 1) := by decide +kernel
theorem dX7_carry_28 : decode cX7_carry 28 = .ok (.iconst 1, 1) := by decide +kernel
theorem dX7_carry_29 : decode cX7_carry 29 = .ok (.if_icmp .ne 7, 3) := by decide +kernel
theorem dX7_carry_32 : decode cX7_carry 32 = .ok (.iconst 1, 1) := by decide +kernel
theorem dX7_carry_33 : decode cX7_carry 33 = .ok (.goto 4, 3) := by decide +kernel
theorem dX7_carry_36 : decode cX7_carry 36 = .ok (.iconst 0, 1) := by decide +kernel
theorem dX7_carry_37 : decode cX7_carry 37 = .ok (.if_icmp .ne 6, 3) := by decide +kernel
theorem dX7_carry_40 : decode cX7_carry 40 = .ok (.ldc 153, 2) := by decide +kernel
theorem dX7_carry_42 : decode cX7_carry 42 = .ok (.ireturn, 1) := by decide +kernel
theorem dX7_carry_43 : decode cX7_carry 43 = .ok (.aload_n 0, 1) := by decide +kernel
theorem dX7_carry_44 : decode cX7_carry 44 = .ok (.invokevirtual 159, 3) := by decide +kernel
theorem dX7_carry_47 : decode cX7_carry 47 = .ok (.aload_n 0, 1) := by decide +kernel
theorem dX7_carry_48 : decode cX7_carry 48 = .ok (.getfield 7, 3) := by decide +kernel
theorem dX7_carry_51 : decode cX7_carry 51 = .ok (.bipush 36, 2) := by decide +kernel
theorem dX7_carry_53 : decode cX7_carry 53 = .ok (.dup2, 1) := by decide +kernel
theorem dX7_carry_54 : decode cX7_carry 54 = .ok (.iaload, 1) := by decide +kernel
theorem dX7_carry_55 : decode cX7_carry 55 = .ok (.iconst 1, 1) := by decide +kernel
theorem dX7_carry_56 : decode cX7_carry 56 = .ok (.iload_n 1, 1) := by decide +kernel
theorem dX7_carry_57 : decode cX7_carry 57 = .ok (.ishl, 1) := by decide +kernel
theorem dX7_carry_58 : decode cX7_carry 58 = .ok (.ixor, 1) := by decide +kernel
theorem dX7_carry_59 : decode cX7_carry 59 = .ok (.iastore, 1) := by decide +kernel
theorem dX7_carry_60 : decode cX7_carry 60 = .ok (.aload_n 0, 1) := by decide +kernel
theorem dX7_carry_61 : decode cX7_carry 61 = .ok (.getfield 7, 3) := by decide +kernel
theorem dX7_carry_64 : decode cX7_carry 64 = .ok (.bipush 36, 2) := by decide +kernel
theorem dX7_carry_66 : decode cX7_carry 66 = .ok (.iaload, 1) := by decide +kernel
theorem dX7_carry_67 : decode cX7_carry 67 = .ok (.ireturn, 1) := by decide +kernel
theorem dX7_swaps_0 : decode cX7_swaps 0 = .ok (.aload_n 0, 1) := by decide +kernel
theorem dX7_swaps_1 : decode cX7_swaps 1 = .ok (.getfield 7, 3) := by decide +kernel
theorem dX7_swaps_4 : decode cX7_swaps 4 = .ok (.iload_n 1, 1) := by decide +kernel
theorem dX7_swaps_5 : decode cX7_swaps 5 = .ok (.bipush 29, 2) := by decide +kernel
theorem dX7_swaps_7 : decode cX7_swaps 7 = .ok (.iadd, 1) := by decide +kernel
theorem dX7_swaps_8 : decode cX7_swaps 8 = .ok (.iload_n 2, 1) := by decide +kernel
theorem dX7_swaps_9 : decode cX7_swaps 9 = .ok (.iadd, 1) := by decide +kernel
theorem dX7_swaps_10 : decode cX7_swaps 10 = .ok (.iaload, 1) := by decide +kernel
theorem dX7_swaps_11 : decode cX7_swaps 11 = .ok (.istore 4, 2) := by decide +kernel
theorem dX7_swaps_13 : decode cX7_swaps 13 = .ok (.aload_n 0, 1) := by decide +kernel
theorem dX7_swaps_14 : decode cX7_swaps 14 = .ok (.getfield 7, 3) := by decide +kernel
theorem dX7_swaps_17 : decode cX7_swaps 17 = .ok (.iload_n 1, 1) := by decide +kernel
theorem dX7_swaps_18 : decode cX7_swaps 18 = .ok (.bipush 29, 2) := by decide +kernel
theorem dX7_swaps_20 : decode cX7_swaps 20 = .ok (.iadd, 1) := by decide +kernel
theorem dX7_swaps_21 : decode cX7_swaps 21 = .ok (.iload_n 2, 1) := by decide +kernel
theorem dX7_swaps_22 : decode cX7_swaps 22 = .ok (.iadd, 1) := by decide +kernel
theorem dX7_swaps_23 : decode cX7_swaps 23 = .ok (.aload_n 0, 1) := by decide +kernel
theorem dX7_swaps_24 : decode cX7_swaps 24 = .ok (.getfield 7, 3) := by decide +kernel
theorem dX7_swaps_27 : decode cX7_swaps 27 = .ok (.iload_n 1, 1) := by decide +kernel
theorem dX7_swaps_28 : decode cX7_swaps 28 = .ok (.bipush 29, 2) := by decide +kernel
theorem dX7_swaps_30 : decode cX7_swaps 30 = .ok (.iadd, 1) := by decide +kernel
theorem dX7_swaps_31 : decode cX7_swaps 31 = .ok (.iload_n 3, 1) := by decide +kernel
theorem dX7_swaps_32 : decode cX7_swaps 32 = .ok (.iadd, 1) := by decide +kernel
theorem dX7_swaps_33 : decode cX7_swaps 33 = .ok (.iaload, 1) := by decide +kernel
theorem dX7_swaps_34 : decode cX7_swaps 34 = .ok (.iastore, 1) := by decide +kernel
theorem dX7_swaps_35 : decode cX7_swaps 35 = .ok (.aload_n 0, 1) := by decide +kernel
theorem dX7_swaps_36 : decode cX7_swaps 36 = .ok (.getfield 7, 3) := by decide +kernel
theorem dX7_swaps_39 : decode cX7_swaps 39 = .ok (.iload_n 1, 1) := by decide +kernel
theorem dX7_swaps_40 : decode cX7_swaps 40 = .ok (.bipush 29, 2) := by decide +kernel
theorem dX7_swaps_42 : decode cX7_swaps 42 = .ok (.iadd, 1) := by decide +kernel
theorem dX7_swaps_43 : decode cX7_swaps 43 = .ok (.iload_n 3, 1) := by decide +kernel
theorem dX7_swaps_44 : decode cX7_swaps 44 = .ok (.iadd, 1) := by decide +kernel
theorem dX7_swaps_45 : decode cX7_swaps 45 = .ok (.iload 4, 2) := by decide +kernel
theorem dX7_swaps_47 : decode cX7_swaps 47 = .ok (.iastore, 1) := by decide +kernel
theorem dX7_swaps_48 : decode cX7_swaps 48 = .ok (.return_, 1) := by decide +kernel
theorem dX7_change_0 : decode cX7_change 0 = .ok (.aload_n 0, 1) := by decide +kernel
theorem dX7_change_1 : decode cX7_change 1 = .ok (.iload_n 1, 1) := by decide +kernel
theorem dX7_change_2 : decode cX7_change 2 = .ok (.invokevirtual 166, 3) := by decide +kernel
theorem dX7_change_5 : decode cX7_change 5 = .ok (.ifCond .eq 16, 3) := by decide +kernel
theorem dX7_change_8 : decode cX7_change 8 = .ok (.aload_n 0, 1) := by decide +kernel
theorem dX7_change_9 : decode cX7_change 9 = .ok (.iload_n 2, 1) := by decide +kernel
theorem dX7_change_10 : decode cX7_change 10 = .ok (.invokevirtual 166, 3) := by decide +kernel
theorem dX7_change_13 : decode cX7_change 13 = .ok (.ifCond .eq 8, 3) := by decide +kernel
theorem dX7_change_16 : decode cX7_change 16 = .ok (.iload_n 1, 1) := by decide +kernel
theorem dX7_change_17 : decode cX7_change 17 = .ok (.iload_n 2, 1) := by decide +kernel
theorem dX7_change_18 : decode cX7_change 18 = .ok (.if_icmp .ne 6, 3) := by decide +kernel
theorem dX7_change_21 : decode cX7_change 21 = .ok (.ldc 58, 2) := by decide +kernel
theorem dX7_change_23 : decode cX7_change 23 = .ok (.ireturn, 1) := by decide +kernel
theorem dX7_change_24 : decode cX7_change 24 = .ok (.aload_n 0, 1) := by decide +kernel
theorem dX7_change_25 : decode cX7_change 25 = .ok (.invokevirtual 159, 3) := by decide +kernel
theorem dX7_change_28 : decode cX7_change 28 = .ok (.aload_n 0, 1) := by decide +kernel
theorem dX7_change_29 : decode cX7_change 29 = .ok (.iconst 0, 1) := by decide +kernel
theorem dX7_change_30 : decode cX7_change 30 = .ok (.iload_n 1, 1) := by decide +kernel
theorem dX7_change_31 : decode cX7_change 31 = .ok (.iload_n 2, 1) := by decide +kernel
theorem dX7_change_32 : decode cX7_change 32 = .ok (.invokevirtual 172, 3) := by decide +kernel
theorem dX7_change_35 : decode cX7_change 35 = .ok (.aload_n 0, 1) := by decide +kernel
theorem dX7_change_36 : decode cX7_change 36 = .ok (.getfield 7, 3) := by decide +kernel
theorem dX7_change_39 : decode cX7_change 39 = .ok (.bipush 29, 2) := by decide +kernel
theorem dX7_change_41 : decode cX7_change 41 = .ok (.iload_n 1, 1) := by decide +kernel
theorem dX7_change_42 : decode cX7_change 42 = .ok (.iadd, 1) := by decide +kernel
theorem dX7_change_43 : decode cX7_change 43 = .ok (.iaload, 1) := by decide +kernel
theorem dX7_change_44 : decode cX7_change 44 = .ok (.ireturn, 1) := by decide +kernel
theorem dX7_lorry_0 : decode cX7_lorry 0 = .ok (.aload_n 0, 1) := by decide +kernel
theorem dX7_lorry_1 : decode cX7_lorry 1 = .ok (.invokevirtual 154, 3) := by decide +kernel
theorem dX7_lorry_4 : decode cX7_lorry 4 = .ok (.ifCond .ne 6, 3) := by decide +kernel
theorem dX7_lorry_7 : decode cX7_lorry 7 = .ok (.ldc 153, 2) := by decide +kernel
theorem dX7_lorry_9 : decode cX7_lorry 9 = .ok (.ireturn, 1) := by decide +kernel
theorem dX7_lorry_10 : decode cX7_lorry 10 = .ok (.iload_n 1, 1) := by decide +kernel
theorem dX7_lorry_11 : decode cX7_lorry 11 = .ok (.i2l, 1) := by decide +kernel
theorem dX7_lorry_12 : decode cX7_lorry 12 = .ok (.lconst 0, 1) := by decide +kernel
theorem dX7_lorry_13 : decode cX7_lorry 13 = .ok (.ldc2_w 175, 3) := by decide +kernel
theorem dX7_lorry_16 : decode cX7_lorry 16 = .ok (.invokestatic 48, 3) := by decide +kernel
theorem dX7_lorry_19 : decode cX7_lorry 19 = .ok (.ifCond .ne 6, 3) := by decide +kernel
theorem dX7_lorry_22 : decode cX7_lorry 22 = .ok (.ldc 58, 2) := by decide +kernel
theorem dX7_lorry_24 : decode cX7_lorry 24 = .ok (.ireturn, 1) := by decide +kernel
theorem dX7_lorry_25 : decode cX7_lorry 25 = .ok (.aload_n 0, 1) := by decide +kernel
theorem dX7_lorry_26 : decode cX7_lorry 26 = .ok (.invokevirtual 159, 3) := by decide +kernel
theorem dX7_lorry_29 : decode cX7_lorry 29 = .ok (.aload_n 0, 1) := by decide +kernel
theorem dX7_lorry_30 : decode cX7_lorry 30 = .ok (.iconst 0, 1) := by decide +kernel
theorem dX7_lorry_31 : decode cX7_lorry 31 = .ok (.iload_n 1, 1) := by decide +kernel
theorem dX7_lorry_32 : decode cX7_lorry 32 = .ok (.invokevirtual 177, 3) := by decide +kernel
theorem dX7_lorry_35 : decode cX7_lorry 35 = .ok (.ireturn, 1) := by decide +kernel
theorem dX7_need_0 : decode cX7_need 0 = .ok (.aload_n 0, 1) := by decide +kernel
theorem dX7_need_1 : decode cX7_need 1 = .ok (.iload_n 1, 1) := by decide +kernel
theorem dX7_need_2 : decode cX7_need 2 = .ok (.invokevirtual 166, 3) := by decide +kernel
theorem dX7_need_5 : decode cX7_need 5 = .ok (.ifCond .eq 15, 3) := by decide +kernel
theorem dX7_need_8 : decode cX7_need 8 = .ok (.iload_n 2, 1) := by decide +kernel
theorem dX7_need_9 : decode cX7_need 9 = .ok (.i2l, 1) := by decide +kernel
theorem dX7_need_10 : decode cX7_need 10 = .ok (.lconst 1, 1) := by decide +kernel
theorem dX7_need_11 : decode cX7_need 11 = .ok (.ldc2_w 180, 3) := by decide +kernel
theorem dX7_need_14 : decode cX7_need 14 = .ok (.invokestatic 48, 3) := by decide +kernel
theorem dX7_need_17 : decode cX7_need 17 = .ok (.ifCond .ne 6, 3) := by decide +kernel
theorem dX7_need_20 : decode cX7_need 20 = .ok (.ldc 58, 2) := by decide +kernel
theorem dX7_need_22 : decode cX7_need 22 = .ok (.ireturn, 1) := by decide +kernel
theorem dX7_need_23 : decode cX7_need 23 = .ok (.aload_n 0, 1) := by decide +kernel
theorem dX7_need_24 : decode cX7_need 24 = .ok (.invokevirtual 159, 3) := by decide +kernel
theorem dX7_need_27 : decode cX7_need 27 = .ok (.aload_n 0, 1) := by decide +kernel
theorem dX7_need_28 : decode cX7_need 28 = .ok (.getfield 7, 3) := by decide +kernel
theorem dX7_need_31 : decode cX7_need 31 = .ok (.iconst 1, 1) := by decide +kernel
theorem dX7_need_32 : decode cX7_need 32 = .ok (.iload_n 1, 1) := by decide +kernel
theorem dX7_need_33 : decode cX7_need 33 = .ok (.iadd, 1) := by decide +kernel
theorem dX7_need_34 : decode cX7_need 34 = .ok (.iaload, 1) := by decide +kernel
theorem dX7_need_35 : decode cX7_need 35 = .ok (.istore_n 3, 1) := by decide +kernel
theorem dX7_need_36 : decode cX7_need 36 = .ok (.aload_n 0, 1) := by decide +kernel
theorem dX7_need_37 : decode cX7_need 37 = .ok (.getfield 7, 3) := by decide +kernel
theorem dX7_need_40 : decode cX7_need 40 = .ok (.iconst 1, 1) := by decide +kernel
theorem dX7_need_41 : decode cX7_need 41 = .ok (.iload_n 1, 1) := by decide +kernel
theorem dX7_need_42 : decode cX7_need 42 = .ok (.iadd, 1) := by decide +kernel
theorem dX7_need_43 : decode cX7_need 43 = .ok (.iload_n 2, 1) := by decide +kernel
theorem dX7_need_44 : decode cX7_need 44 = .ok (.iastore, 1) := by decide +kernel
theorem dX7_need_45 : decode cX7_need 45 = .ok (.iload_n 3, 1) := by decide +kernel
theorem dX7_need_46 : decode cX7_need 46 = .ok (.ireturn, 1) := by decide +kernel
theorem dX7_child_0 : decode cX7_child 0 = .ok (.aload_n 0, 1) := by decide +kernel
theorem dX7_child_1 : decode cX7_child 1 = .ok (.iload_n 1, 1) := by decide +kernel
theorem dX7_child_2 : decode cX7_child 2 = .ok (.invokevirtual 166, 3) := by decide +kernel
theorem dX7_child_5 : decode cX7_child 5 = .ok (.ifCond .ne 6, 3) := by decide +kernel
theorem dX7_child_8 : decode cX7_child 8 = .ok (.ldc 58, 2) := by decide +kernel
theorem dX7_child_10 : decode cX7_child 10 = .ok (.ireturn, 1) := by decide +kernel
theorem dX7_child_11 : decode cX7_child 11 = .ok (.iload_n 2, 1) := by decide +kernel
theorem dX7_child_12 : decode cX7_child 12 = .ok (.tableswitch 124 0 7 #[48, 57, 67, 77, 87, 97, 107, 117], 48) := by decide +kernel
theorem dX7_child_60 : decode cX7_child 60 = .ok (.aload_n 0, 1) := by decide +kernel
theorem dX7_child_61 : decode cX7_child 61 = .ok (.getfield 7, 3) := by decide +kernel
theorem dX7_child_64 : decode cX7_child 64 = .ok (.iconst 1, 1) := by decide +kernel
theorem dX7_child_65 : decode cX7_child 65 = .ok (.iload_n 1, 1) := by decide +kernel
theorem dX7_child_66 : decode cX7_child 66 = .ok (.iadd, 1) := by decide +kernel
theorem dX7_child_67 : decode cX7_child 67 = .ok (.iaload, 1) := by decide +kernel
theorem dX7_child_68 : decode cX7_child 68 = .ok (.ireturn, 1) := by decide +kernel
theorem dX7_child_69 : decode cX7_child 69 = .ok (.aload_n 0, 1) := by decide +kernel
theorem dX7_child_70 : decode cX7_child 70 = .ok (.getfield 7, 3) := by decide +kernel
theorem dX7_child_73 : decode cX7_child 73 = .ok (.bipush 49, 2) := by decide +kernel
theorem dX7_child_75 : decode cX7_child 75 = .ok (.iload_n 1, 1) := by decide +kernel
theorem dX7_child_76 : decode cX7_child 76 = .ok (.iadd, 1) := by decide +kernel
theorem dX7_child_77 : decode cX7_child 77 = .ok (.iaload, 1) := by decide +kernel
theorem dX7_child_78 : decode cX7_child 78 = .ok (.ireturn, 1) := by decide +kernel
theorem dX7_child_79 : decode cX7_child 79 = .ok (.aload_n 0, 1) := by decide +kernel
theorem dX7_child_80 : decode cX7_child 80 = .ok (.getfield 7, 3) := by decide +kernel
theorem dX7_child_83 : decode cX7_child 83 = .ok (.bipush 56, 2) := by decide +kernel
theorem dX7_child_85 : decode cX7_child 85 = .ok (.iload_n 1, 1) := by decide +kernel
theorem dX7_child_86 : decode cX7_child 86 = .ok (.iadd, 1) := by decide +kernel
theorem dX7_child_87 : decode cX7_child 87 = .ok (.iaload, 1) := by decide +kernel
theorem dX7_child_88 : decode cX7_child 88 = .ok (.ireturn, 1) := by decide +kernel
theorem dX7_child_89 : decode cX7_child 89 = .ok (.aload_n 0, 1) := by decide +kernel
theorem dX7_child_90 : decode cX7_child 90 = .ok (.getfield 7, 3) := by decide +kernel
theorem dX7_child_93 : decode cX7_child 93 = .ok (.bipush 29, 2) := by decide +kernel
theorem dX7_child_95 : decode cX7_child 95 = .ok (.iload_n 1, 1) := by decide +kernel
theorem dX7_child_96 : decode cX7_child 96 = .ok (.iadd, 1) := by decide +kernel
theorem dX7_child_97 : decode cX7_child 97 = .ok (.iaload, 1) := by decide +kernel
theorem dX7_child_98 : decode cX7_child 98 = .ok (.ireturn, 1) := by decide +kernel
theorem dX7_child_99 : decode cX7_child 99 = .ok (.aload_n 0, 1) := by decide +kernel
theorem dX7_child_100 : decode cX7_child 100 = .ok (.getfield 7, 3) := by decide +kernel
theorem dX7_child_103 : decode cX7_child 103 = .ok (.bipush 8, 2) := by decide +kernel
theorem dX7_child_105 : decode cX7_child 105 = .ok (.iload_n 1, 1) := by decide +kernel
theorem dX7_child_106 : decode cX7_child 106 = .ok (.iadd, 1) := by decide +kernel
theorem dX7_child_107 : decode cX7_child 107 = .ok (.iaload, 1) := by decide +kernel
theorem dX7_child_108 : decode cX7_child 108 = .ok (.ireturn, 1) := by decide +kernel
theorem dX7_child_109 : decode cX7_child 109 = .ok (.aload_n 0, 1) := by decide +kernel
theorem dX7_child_110 : decode cX7_child 110 = .ok (.getfield 7, 3) := by decide +kernel
theorem dX7_child_113 : decode cX7_child 113 = .ok (.bipush 15, 2) := by decide +kernel
theorem dX7_child_115 : decode cX7_child 115 = .ok (.iload_n 1, 1) := by decide +kernel
theorem dX7_child_116 : decode cX7_child 116 = .ok (.iadd, 1) := by decide +kernel
theorem dX7_child_117 : decode cX7_child 117 = .ok (.iaload, 1) := by decide +kernel
theorem dX7_child_118 : decode cX7_child 118 = .ok (.ireturn, 1) := by decide +kernel
theorem dX7_child_119 : decode cX7_child 119 = .ok (.aload_n 0, 1) := by decide +kernel
theorem dX7_child_120 : decode cX7_child 120 = .ok (.getfield 7, 3) := by decide +kernel
theorem dX7_child_123 : decode cX7_child 123 = .ok (.bipush 22, 2) := by decide +kernel
theorem dX7_child_125 : decode cX7_child 125 = .ok (.iload_n 1, 1) := by decide +kernel
theorem dX7_child_126 : decode cX7_child 126 = .ok (.iadd, 1) := by decide +kernel
theorem dX7_child_127 : decode cX7_child 127 = .ok (.iaload, 1) := by decide +kernel
theorem dX7_child_128 : decode cX7_child 128 = .ok (.ireturn, 1) := by decide +kernel
theorem dX7_child_129 : decode cX7_child 129 = .ok (.aload_n 0, 1) := by decide +kernel
theorem dX7_child_130 : decode cX7_child 130 = .ok (.iconst 0, 1) := by decide +kernel
theorem dX7_child_131 : decode cX7_child 131 = .ok (.iload_n 1, 1) := by decide +kernel
theorem dX7_child_132 : decode cX7_child 132 = .ok (.invokevirtual 133, 3) := by decide +kernel
theorem dX7_child_135 : decode cX7_child 135 = .ok (.ireturn, 1) := by decide +kernel
theorem dX7_child_136 : decode cX7_child 136 = .ok (.ldc 58, 2) := by decide +kernel
theorem dX7_child_138 : decode cX7_child 138 = .ok (.ireturn, 1) := by decide +kernel
theorem dX7_stand_0 : decode cX7_stand 0 = .ok (.aload_n 0, 1) := by decide +kernel
theorem dX7_stand_1 : decode cX7_stand 1 = .ok (.invokevirtual 154, 3) := by decide +kernel
theorem dX7_stand_4 : decode cX7_stand 4 = .ok (.ifCond .ne 6, 3) := by decide +kernel
theorem dX7_stand_7 : decode cX7_stand 7 = .ok (.ldc 153, 2) := by decide +kernel
theorem dX7_stand_9 : decode cX7_stand 9 = .ok (.ireturn, 1) := by decide +kernel
theorem dX7_stand_10 : decode cX7_stand 10 = .ok (.iload_n 1, 1) := by decide +kernel
theorem dX7_stand_11 : decode cX7_stand 11 = .ok (.i2l, 1) := by decide +kernel
theorem dX7_stand_12 : decode cX7_stand 12 = .ok (.lconst 0, 1) := by decide +kernel
theorem dX7_stand_13 : decode cX7_stand 13 = .ok (.ldc2_w 56, 3) := by decide +kernel
theorem dX7_stand_16 : decode cX7_stand 16 = .ok (.invokestatic 48, 3) := by decide +kernel
theorem dX7_stand_19 : decode cX7_stand 19 = .ok (.ifCond .eq 12, 3) := by decide +kernel
theorem dX7_stand_22 : decode cX7_stand 22 = .ok (.aload_n 0, 1) := by decide +kernel
theorem dX7_stand_23 : decode cX7_stand 23 = .ok (.iconst 0, 1) := by decide +kernel
theorem dX7_stand_24 : decode cX7_stand 24 = .ok (.iload_n 1, 1) := by decide +kernel
theorem dX7_stand_25 : decode cX7_stand 25 = .ok (.invokevirtual 150, 3) := by decide +kernel
theorem dX7_stand_28 : decode cX7_stand 28 = .ok (.goto 35, 3) := by decide +kernel
theorem dX7_stand_31 : decode cX7_stand 31 = .ok (.iload_n 1, 1) := by decide +kernel
theorem dX7_stand_32 : decode cX7_stand 32 = .ok (.iconst 3, 1) := by decide +kernel
theorem dX7_stand_33 : decode cX7_stand 33 = .ok (.if_icmp .ne 13, 3) := by decide +kernel
theorem dX7_stand_36 : decode cX7_stand 36 = .ok (.aload_n 0, 1) := by decide +kernel
theorem dX7_stand_37 : decode cX7_stand 37 = .ok (.getfield 7, 3) := by decide +kernel
theorem dX7_stand_40 : decode cX7_stand 40 = .ok (.bipush 36, 2) := by decide +kernel
theorem dX7_stand_42 : decode cX7_stand 42 = .ok (.iaload, 1) := by decide +kernel
theorem dX7_stand_43 : decode cX7_stand 43 = .ok (.goto 20, 3) := by decide +kernel
theorem dX7_stand_46 : decode cX7_stand 46 = .ok (.iload_n 1, 1) := by decide +kernel
theorem dX7_stand_47 : decode cX7_stand 47 = .ok (.iconst 4, 1) := by decide +kernel
theorem dX7_stand_48 : decode cX7_stand 48 = .ok (.if_icmp .ne 13, 3) := by decide +kernel
theorem dX7_stand_51 : decode cX7_stand 51 = .ok (.aload_n 0, 1) := by decide +kernel
theorem dX7_stand_52 : decode cX7_stand 52 = .ok (.getfield 7, 3) := by decide +kernel
theorem dX7_stand_55 : decode cX7_stand 55 = .ok (.bipush 37, 2) := by decide +kernel
theorem dX7_stand_57 : decode cX7_stand 57 = .ok (.iaload, 1) := by decide +kernel
theorem dX7_stand_58 : decode cX7_stand 58 = .ok (.goto 5, 3) := by decide +kernel
theorem dX7_stand_61 : decode cX7_stand 61 = .ok (.ldc 58, 2) := by decide +kernel
theorem dX7_stand_63 : decode cX7_stand 63 = .ok (.ireturn, 1) := by decide +kernel
theorem dX7_isSpan_0 : decode cX7_isSpan 0 = .ok (.iload_n 0, 1) := by decide +kernel
theorem dX7_isSpan_1 : decode cX7_isSpan 1 = .ok (.i2l, 1) := by decide +kernel
theorem dX7_isSpan_2 : decode cX7_isSpan 2 = .ok (.iload_n 1, 1) := by decide +kernel
theorem dX7_isSpan_3 : decode cX7_isSpan 3 = .ok (.i2l, 1) := by decide +kernel
theorem dX7_isSpan_4 : decode cX7_isSpan 4 = .ok (.ldc2_w 182, 3) := by decide +kernel
theorem dX7_isSpan_7 : decode cX7_isSpan 7 = .ok (.invokestatic 48, 3) := by decide +kernel
theorem dX7_isSpan_10 : decode cX7_isSpan 10 = .ok (.ireturn, 1) := by decide +kernel
theorem dX7_tries_0 : decode cX7_tries 0 = .ok (.aload_n 0, 1) := by decide +kernel
theorem dX7_tries_1 : decode cX7_tries 1 = .ok (.iconst 0, 1) := by decide +kernel
theorem dX7_tries_2 : decode cX7_tries 2 = .ok (.sipush 189, 3) := by decide +kernel
theorem dX7_tries_5 : decode cX7_tries 5 = .ok (.invokevirtual 116, 3) := by decide +kernel
theorem dX7_tries_8 : decode cX7_tries 8 = .ok (.return_, 1) := by decide +kernel
theorem dX7_goesOn_0 : decode cX7_goesOn 0 = .ok (.iconst 0, 1) := by decide +kernel
theorem dX7_goesOn_1 : decode cX7_goesOn 1 = .ok (.istore_n 2, 1) := by decide +kernel
theorem dX7_goesOn_2 : decode cX7_goesOn 2 = .ok (.iload_n 2, 1) := by decide +kernel
theorem dX7_goesOn_3 : decode cX7_goesOn 3 = .ok (.iload_n 1, 1) := by decide +kernel
theorem dX7_goesOn_4 : decode cX7_goesOn 4 = .ok (.if_icmp .ge 16, 3) := by decide +kernel
theorem dX7_goesOn_7 : decode cX7_goesOn 7 = .ok (.aload_n 0, 1) := by decide +kernel
theorem dX7_goesOn_8 : decode cX7_goesOn 8 = .ok (.sipush 189, 3) := by decide +kernel
theorem dX7_goesOn_11 : decode cX7_goesOn 11 = .ok (.invokevirtual 162, 3) := by decide +kernel
theorem dX7_goesOn_14 : decode cX7_goesOn 14 = .ok (.iinc 2 1, 3) := by decide +kernel
theorem dX7_goesOn_17 : decode cX7_goesOn 17 = .ok (.goto (-15), 3) := by decide +kernel
theorem dX7_goesOn_20 : decode cX7_goesOn 20 = .ok (.return_, 1) := by decide +kernel
theorem dX7_ahead_0 : decode cX7_ahead 0 = .ok (.aload_n 0, 1) := by decide +kernel
theorem dX7_ahead_1 : decode cX7_ahead 1 = .ok (.invokevirtual 154, 3) := by decide +kernel
theorem dX7_ahead_4 : decode cX7_ahead 4 = .ok (.ifCond .ne 6, 3) := by decide +kernel
theorem dX7_ahead_7 : decode cX7_ahead 7 = .ok (.ldc 153, 2) := by decide +kernel
theorem dX7_ahead_9 : decode cX7_ahead 9 = .ok (.ireturn, 1) := by decide +kernel
theorem dX7_ahead_10 : decode cX7_ahead 10 = .ok (.iload_n 1, 1) := by decide +kernel
theorem dX7_ahead_11 : decode cX7_ahead 11 = .ok (.iconst 0, 1) := by decide +kernel
theorem dX7_ahead_12 : decode cX7_ahead 12 = .ok (.invokestatic 184, 3) := by decide +kernel
theorem dX7_ahead_15 : decode cX7_ahead 15 = .ok (.ifCond .eq 15, 3) := by decide +kernel
theorem dX7_ahead_18 : decode cX7_ahead 18 = .ok (.iload_n 2, 1) := by decide +kernel
theorem dX7_ahead_19 : decode cX7_ahead 19 = .ok (.i2l, 1) := by decide +kernel
theorem dX7_ahead_20 : decode cX7_ahead 20 = .ok (.lconst 0, 1) := by decide +kernel
theorem dX7_ahead_21 : decode cX7_ahead 21 = .ok (.ldc2_w 56, 3) := by decide +kernel
theorem dX7_ahead_24 : decode cX7_ahead 24 = .ok (.invokestatic 48, 3) := by decide +kernel
theorem dX7_ahead_27 : decode cX7_ahead 27 = .ok (.ifCond .ne 6, 3) := by decide +kernel
theorem dX7_ahead_30 : decode cX7_ahead 30 = .ok (.ldc 58, 2) := by decide +kernel
theorem dX7_ahead_32 : decode cX7_ahead 32 = .ok (.ireturn, 1) := by decide +kernel
theorem dX7_ahead_33 : decode cX7_ahead 33 = .ok (.aload_n 0, 1) := by decide +kernel
theorem dX7_ahead_34 : decode cX7_ahead 34 = .ok (.invokevirtual 187, 3) := by decide +kernel
theorem dX7_ahead_37 : decode cX7_ahead 37 = .ok (.aload_n 0, 1) := by decide +kernel
theorem dX7_ahead_38 : decode cX7_ahead 38 = .ok (.iload_n 1, 1) := by decide +kernel
theorem dX7_ahead_39 : decode cX7_ahead 39 = .ok (.invokevirtual 190, 3) := by decide +kernel
theorem dX7_ahead_42 : decode cX7_ahead 42 = .ok (.aload_n 0, 1) := by decide +kernel
theorem dX7_ahead_43 : decode cX7_ahead 43 = .ok (.sipush 189, 3) := by decide +kernel
theorem dX7_ahead_46 : decode cX7_ahead 46 = .ok (.iload_n 2, 1) := by decide +kernel
theorem dX7_ahead_47 : decode cX7_ahead 47 = .ok (.invokevirtual 150, 3) := by decide +kernel
theorem dX7_ahead_50 : decode cX7_ahead 50 = .ok (.ireturn, 1) := by decide +kernel
theorem dX7_noise_0 : decode cX7_noise 0 = .ok (.aload_n 0, 1) := by decide +kernel
theorem dX7_noise_1 : decode cX7_noise 1 = .ok (.iload_n 1, 1) := by decide +kernel
theorem dX7_noise_2 : decode cX7_noise 2 = .ok (.invokevirtual 166, 3) := by decide +kernel
theorem dX7_noise_5 : decode cX7_noise 5 = .ok (.ifCond .eq 11, 3) := by decide +kernel
theorem dX7_noise_8 : decode cX7_noise 8 = .ok (.iload_n 2, 1) := by decide +kernel
theorem dX7_noise_9 : decode cX7_noise 9 = .ok (.iconst 0, 1) := by decide +kernel
theorem dX7_noise_10 : decode cX7_noise 10 = .ok (.invokestatic 184, 3) := by decide +kernel
theorem dX7_noise_13 : decode cX7_noise 13 = .ok (.ifCond .ne 6, 3) := by decide +kernel
theorem dX7_noise_16 : decode cX7_noise 16 = .ok (.ldc 58, 2) := by decide +kernel
theorem dX7_noise_18 : decode cX7_noise 18 = .ok (.ireturn, 1) := by decide +kernel
theorem dX7_noise_19 : decode cX7_noise 19 = .ok (.aload_n 0, 1) := by decide +kernel
theorem dX7_noise_20 : decode cX7_noise 20 = .ok (.invokevirtual 187, 3) := by decide +kernel
theorem dX7_noise_23 : decode cX7_noise 23 = .ok (.aload_n 0, 1) := by decide +kernel
theorem dX7_noise_24 : decode cX7_noise 24 = .ok (.iload_n 2, 1) := by decide +kernel
theorem dX7_noise_25 : decode cX7_noise 25 = .ok (.invokevirtual 190, 3) := by decide +kernel
theorem dX7_noise_28 : decode cX7_noise 28 = .ok (.aload_n 0, 1) := by decide +kernel
theorem dX7_noise_29 : decode cX7_noise 29 = .ok (.sipush 189, 3) := by decide +kernel
theorem dX7_noise_32 : decode cX7_noise 32 = .ok (.iload_n 1, 1) := by decide +kernel
theorem dX7_noise_33 : decode cX7_noise 33 = .ok (.invokevirtual 133, 3) := by decide +kernel
theorem dX7_noise_36 : decode cX7_noise 36 = .ok (.ireturn, 1) := by decide +kernel
theorem dX7_asleep_0 : decode cX7_asleep 0 = .ok (.aload_n 0, 1) := by decide +kernel
theorem dX7_asleep_1 : decode cX7_asleep 1 = .ok (.iload_n 1, 1) := by decide +kernel
theorem dX7_asleep_2 : decode cX7_asleep 2 = .ok (.invokevirtual 166, 3) := by decide +kernel
theorem dX7_asleep_5 : decode cX7_asleep 5 = .ok (.ifCond .ne 6, 3) := by decide +kernel
theorem dX7_asleep_8 : decode cX7_asleep 8 = .ok (.ldc 58, 2) := by decide +kernel
theorem dX7_asleep_10 : decode cX7_asleep 10 = .ok (.ireturn, 1) := by decide +kernel
theorem dX7_asleep_11 : decode cX7_asleep 11 = .ok (.aload_n 0, 1) := by decide +kernel
theorem dX7_asleep_12 : decode cX7_asleep 12 = .ok (.invokevirtual 187, 3) := by decide +kernel
theorem dX7_asleep_15 : decode cX7_asleep 15 = .ok (.iconst 0, 1) := by decide +kernel
theorem dX7_asleep_16 : decode cX7_asleep 16 = .ok (.istore_n 2, 1) := by decide +kernel
theorem dX7_asleep_17 : decode cX7_asleep 17 = .ok (.iload_n 2, 1) := by decide +kernel
theorem dX7_asleep_18 : decode cX7_asleep 18 = .ok (.bipush 60, 2) := by decide +kernel
theorem dX7_asleep_20 : decode cX7_asleep 20 = .ok (.if_icmp .gt 32, 3) := by decide +kernel
theorem dX7_asleep_23 : decode cX7_asleep 23 = .ok (.aload_n 0, 1) := by decide +kernel
theorem dX7_asleep_24 : decode cX7_asleep 24 = .ok (.getfield 7, 3) := by decide +kernel
theorem dX7_asleep_27 : decode cX7_asleep 27 = .ok (.sipush 197, 3) := by decide +kernel
theorem dX7_asleep_30 : decode cX7_asleep 30 = .ok (.iload_n 1, 1) := by decide +kernel
theorem dX7_asleep_31 : decode cX7_asleep 31 = .ok (.iadd, 1) := by decide +kernel
theorem dX7_asleep_32 : decode cX7_asleep 32 = .ok (.iaload, 1) := by decide +kernel
theorem dX7_asleep_33 : decode cX7_asleep 33 = .ok (.iconst 2, 1) := by decide +kernel
theorem dX7_asleep_34 : decode cX7_asleep 34 = .ok (.if_icmp .ne 5, 3) := by decide +kernel
theorem dX7_asleep_37 : decode cX7_asleep 37 = .ok (.iload_n 2, 1) := by decide +kernel
theorem dX7_asleep_38 : decode cX7_asleep 38 = .ok (.ireturn, 1) := by decide +kernel
theorem dX7_asleep_39 : decode cX7_asleep 39 = .ok (.aload_n 0, 1) := by decide +kernel
theorem dX7_asleep_40 : decode cX7_asleep 40 = .ok (.sipush 189, 3) := by decide +kernel
theorem dX7_asleep_43 : decode cX7_asleep 43 = .ok (.invokevirtual 162, 3) := by decide +kernel
theorem dX7_asleep_46 : decode cX7_asleep 46 = .ok (.iinc 2 1, 3) := by decide +kernel
theorem dX7_asleep_49 : decode cX7_asleep 49 = .ok (.goto (-32), 3) := by decide +kernel
theorem dX7_asleep_52 : decode cX7_asleep 52 = .ok (.ldc 193, 2) := by decide +kernel
theorem dX7_asleep_54 : decode cX7_asleep 54 = .ok (.ireturn, 1) := by decide +kernel
theorem dX7_allAsleep_0 : decode cX7_allAsleep 0 = .ok (.aload_n 0, 1) := by decide +kernel
theorem dX7_allAsleep_1 : decode cX7_allAsleep 1 = .ok (.invokevirtual 154, 3) := by decide +kernel
theorem dX7_allAsleep_4 : decode cX7_allAsleep 4 = .ok (.ifCond .ne 6, 3) := by decide +kernel
theorem dX7_allAsleep_7 : decode cX7_allAsleep 7 = .ok (.ldc 153, 2) := by decide +kernel
theorem dX7_allAsleep_9 : decode cX7_allAsleep 9 = .ok (.ireturn, 1) := by decide +kernel
theorem dX7_allAsleep_10 : decode cX7_allAsleep 10 = .ok (.aload_n 0, 1) := by decide +kernel
theorem dX7_allAsleep_11 : decode cX7_allAsleep 11 = .ok (.invokevirtual 187, 3) := by decide +kernel
theorem dX7_allAsleep_14 : decode cX7_allAsleep 14 = .ok (.iconst 0, 1) := by decide +kernel
theorem dX7_allAsleep_15 : decode cX7_allAsleep 15 = .ok (.istore_n 1, 1) := by decide +kernel
theorem dX7_allAsleep_16 : decode cX7_allAsleep 16 = .ok (.iload_n 1, 1) := by decide +kernel
theorem dX7_allAsleep_17 : decode cX7_allAsleep 17 = .ok (.bipush 60, 2) := by decide +kernel
theorem dX7_allAsleep_19 : decode cX7_allAsleep 19 = .ok (.if_icmp .gt 28, 3) := by decide +kernel
theorem dX7_allAsleep_22 : decode cX7_allAsleep 22 = .ok (.aload_n 0, 1) := by decide +kernel
theorem dX7_allAsleep_23 : decode cX7_allAsleep 23 = .ok (.sipush 189, 3) := by decide +kernel
theorem dX7_allAsleep_26 : decode cX7_allAsleep 26 = .ok (.invokevirtual 194, 3) := by decide +kernel
theorem dX7_allAsleep_29 : decode cX7_allAsleep 29 = .ok (.ifCond .eq 5, 3) := by decide +kernel
theorem dX7_allAsleep_32 : decode cX7_allAsleep 32 = .ok (.iload_n 1, 1) := by decide +kernel
theorem dX7_allAsleep_33 : decode cX7_allAsleep 33 = .ok (.ireturn, 1) := by decide +kernel
theorem dX7_allAsleep_34 : decode cX7_allAsleep 34 = .ok (.aload_n 0, 1) := by decide +kernel
theorem dX7_allAsleep_35 : decode cX7_allAsleep 35 = .ok (.sipush 189, 3) := by decide +kernel
theorem dX7_allAsleep_38 : decode cX7_allAsleep 38 = .ok (.invokevirtual 162, 3) := by decide +kernel
theorem dX7_allAsleep_41 : decode cX7_allAsleep 41 = .ok (.iinc 1 1, 3) := by decide +kernel
theorem dX7_allAsleep_44 : decode cX7_allAsleep 44 = .ok (.goto (-28), 3) := by decide +kernel
theorem dX7_allAsleep_47 : decode cX7_allAsleep 47 = .ok (.ldc 193, 2) := by decide +kernel
theorem dX7_allAsleep_49 : decode cX7_allAsleep 49 = .ok (.ireturn, 1) := by decide +kernel
theorem dX7_dinner_0 : decode cX7_dinner 0 = .ok (.aload_n 0, 1) := by decide +kernel
theorem dX7_dinner_1 : decode cX7_dinner 1 = .ok (.invokevirtual 154, 3) := by decide +kernel
theorem dX7_dinner_4 : decode cX7_dinner 4 = .ok (.ifCond .ne 6, 3) := by decide +kernel
theorem dX7_dinner_7 : decode cX7_dinner 7 = .ok (.ldc 153, 2) := by decide +kernel
theorem dX7_dinner_9 : decode cX7_dinner 9 = .ok (.ireturn, 1) := by decide +kernel
theorem dX7_dinner_10 : decode cX7_dinner 10 = .ok (.iload_n 1, 1) := by decide +kernel
theorem dX7_dinner_11 : decode cX7_dinner 11 = .ok (.iconst 1, 1) := by decide +kernel
theorem dX7_dinner_12 : decode cX7_dinner 12 = .ok (.invokestatic 184, 3) := by decide +kernel
theorem dX7_dinner_15 : decode cX7_dinner 15 = .ok (.ifCond .ne 6, 3) := by decide +kernel
theorem dX7_dinner_18 : decode cX7_dinner 18 = .ok (.ldc 58, 2) := by decide +kernel
theorem dX7_dinner_20 : decode cX7_dinner 20 = .ok (.ireturn, 1) := by decide +kernel
theorem dX7_dinner_21 : decode cX7_dinner 21 = .ok (.aload_n 0, 1) := by decide +kernel
theorem dX7_dinner_22 : decode cX7_dinner 22 = .ok (.invokevirtual 187, 3) := by decide +kernel
theorem dX7_dinner_25 : decode cX7_dinner 25 = .ok (.iconst 0, 1) := by decide +kernel
theorem dX7_dinner_26 : decode cX7_dinner 26 = .ok (.istore_n 2, 1) := by decide +kernel
theorem dX7_dinner_27 : decode cX7_dinner 27 = .ok (.iconst 0, 1) := by decide +kernel
theorem dX7_dinner_28 : decode cX7_dinner 28 = .ok (.istore_n 3, 1) := by decide +kernel
theorem dX7_dinner_29 : decode cX7_dinner 29 = .ok (.iconst 0, 1) := by decide +kernel
theorem dX7_dinner_30 : decode cX7_dinner 30 = .ok (.istore 4, 2) := by decide +kernel
theorem dX7_dinner_32 : decode cX7_dinner 32 = .ok (.iload 4, 2) := by decide +kernel
theorem dX7_dinner_34 : decode cX7_dinner 34 = .ok (.iload_n 1, 1) := by decide +kernel
theorem dX7_dinner_35 : decode cX7_dinner 35 = .ok (.if_icmp .ge 45, 3) := by decide +kernel
theorem dX7_dinner_38 : decode cX7_dinner 38 = .ok (.aload_n 0, 1) := by decide +kernel
theorem dX7_dinner_39 : decode cX7_dinner 39 = .ok (.sipush 189, 3) := by decide +kernel
theorem dX7_dinner_42 : decode cX7_dinner 42 = .ok (.invokevirtual 162, 3) := by decide +kernel
theorem dX7_dinner_45 : decode cX7_dinner 45 = .ok (.aload_n 0, 1) := by decide +kernel
theorem dX7_dinner_46 : decode cX7_dinner 46 = .ok (.sipush 189, 3) := by decide +kernel
theorem dX7_dinner_49 : decode cX7_dinner 49 = .ok (.invokevirtual 194, 3) := by decide +kernel
theorem dX7_dinner_52 : decode cX7_dinner 52 = .ok (.ifCond .eq 9, 3) := by decide +kernel
theorem dX7_dinner_55 : decode cX7_dinner 55 = .ok (.iload_n 3, 1) := by decide +kernel
theorem dX7_dinner_56 : decode cX7_dinner 56 = .ok (.iconst 1, 1) := by decide +kernel
theorem dX7_dinner_57 : decode cX7_dinner 57 = .ok (.iadd, 1) := by decide +kernel
theorem dX7_dinner_58 : decode cX7_dinner 58 = .ok (.goto 4, 3) := by decide +kernel
theorem dX7_dinner_61 : decode cX7_dinner 61 = .ok (.iconst 0, 1) := by decide +kernel
theorem dX7_dinner_62 : decode cX7_dinner 62 = .ok (.istore_n 3, 1) := by decide +kernel
theorem dX7_dinner_63 : decode cX7_dinner 63 = .ok (.iload_n 3, 1) := by decide +kernel
theorem dX7_dinner_64 : decode cX7_dinner 64 = .ok (.iload_n 2, 1) := by decide +kernel
theorem dX7_dinner_65 : decode cX7_dinner 65 = .ok (.if_icmp .le 7, 3) := by decide +kernel
theorem dX7_dinner_68 : decode cX7_dinner 68 = .ok (.iload_n 3, 1) := by decide +kernel
theorem dX7_dinner_69 : decode cX7_dinner 69 = .ok (.goto 4, 3) := by decide +kernel
theorem dX7_dinner_72 : decode cX7_dinner 72 = .ok (.iload_n 2, 1) := by decide +kernel
theorem dX7_dinner_73 : decode cX7_dinner 73 = .ok (.istore_n 2, 1) := by decide +kernel
theorem dX7_dinner_74 : decode cX7_dinner 74 = .ok (.iinc 4 1, 3) := by decide +kernel
theorem dX7_dinner_77 : decode cX7_dinner 77 = .ok (.goto (-45), 3) := by decide +kernel
theorem dX7_dinner_80 : decode cX7_dinner 80 = .ok (.iload_n 2, 1) := by decide +kernel
theorem dX7_dinner_81 : decode cX7_dinner 81 = .ok (.ireturn, 1) := by decide +kernel
theorem dX7_isLook_0 : decode cX7_isLook 0 = .ok (.iload_n 1, 1) := by decide +kernel
theorem dX7_isLook_1 : decode cX7_isLook 1 = .ok (.i2l, 1) := by decide +kernel
theorem dX7_isLook_2 : decode cX7_isLook 2 = .ok (.lconst 1, 1) := by decide +kernel
theorem dX7_isLook_3 : decode cX7_isLook 3 = .ok (.ldc2_w 197, 3) := by decide +kernel
theorem dX7_isLook_6 : decode cX7_isLook 6 = .ok (.invokestatic 48, 3) := by decide +kernel
theorem dX7_isLook_9 : decode cX7_isLook 9 = .ok (.ifCond .eq 17, 3) := by decide +kernel
theorem dX7_isLook_12 : decode cX7_isLook 12 = .ok (.iload_n 2, 1) := by decide +kernel
theorem dX7_isLook_13 : decode cX7_isLook 13 = .ok (.i2l, 1) := by decide +kernel
theorem dX7_isLook_14 : decode cX7_isLook 14 = .ok (.lconst 0, 1) := by decide +kernel
theorem dX7_isLook_15 : decode cX7_isLook 15 = .ok (.lconst 1, 1) := by decide +kernel
theorem dX7_isLook_16 : decode cX7_isLook 16 = .ok (.invokestatic 48, 3) := by decide +kernel
theorem dX7_isLook_19 : decode cX7_isLook 19 = .ok (.ifCond .eq 7, 3) := by decide +kernel
theorem dX7_isLook_22 : decode cX7_isLook 22 = .ok (.iconst 1, 1) := by decide +kernel
theorem dX7_isLook_23 : decode cX7_isLook 23 = .ok (.goto 4, 3) := by decide +kernel
theorem dX7_isLook_26 : decode cX7_isLook 26 = .ok (.iconst 0, 1) := by decide +kernel
theorem dX7_isLook_27 : decode cX7_isLook 27 = .ok (.ireturn, 1) := by decide +kernel
theorem dX7_hands_0 : decode cX7_hands 0 = .ok (.aload_n 0, 1) := by decide +kernel
theorem dX7_hands_1 : decode cX7_hands 1 = .ok (.invokevirtual 154, 3) := by decide +kernel
theorem dX7_hands_4 : decode cX7_hands 4 = .ok (.ifCond .ne 6, 3) := by decide +kernel
theorem dX7_hands_7 : decode cX7_hands 7 = .ok (.ldc 153, 2) := by decide +kernel
theorem dX7_hands_9 : decode cX7_hands 9 = .ok (.ireturn, 1) := by decide +kernel
theorem dX7_hands_10 : decode cX7_hands 10 = .ok (.aload_n 0, 1) := by decide +kernel
theorem dX7_hands_11 : decode cX7_hands 11 = .ok (.iload_n 1, 1) := by decide +kernel
theorem dX7_hands_12 : decode cX7_hands 12 = .ok (.iload_n 2, 1) := by decide +kernel
theorem dX7_hands_13 : decode cX7_hands 13 = .ok (.invokevirtual 199, 3) := by decide +kernel
theorem dX7_hands_16 : decode cX7_hands 16 = .ok (.ifCond .ne 6, 3) := by decide +kernel
theorem dX7_hands_19 : decode cX7_hands 19 = .ok (.ldc 58, 2) := by decide +kernel
theorem dX7_hands_21 : decode cX7_hands 21 = .ok (.ireturn, 1) := by decide +kernel
theorem dX7_hands_22 : decode cX7_hands 22 = .ok (.iconst 0, 1) := by decide +kernel
theorem dX7_hands_23 : decode cX7_hands 23 = .ok (.istore_n 3, 1) := by decide +kernel
theorem dX7_hands_24 : decode cX7_hands 24 = .ok (.iconst (-1), 1) := by decide +kernel
theorem dX7_hands_25 : decode cX7_hands 25 = .ok (.istore 4, 2) := by decide +kernel
theorem dX7_hands_27 : decode cX7_hands 27 = .ok (.iconst 0, 1) := by decide +kernel
theorem dX7_hands_28 : decode cX7_hands 28 = .ok (.istore 5, 2) := by decide +kernel
theorem dX7_hands_30 : decode cX7_hands 30 = .ok (.iload 5, 2) := by decide +kernel
theorem dX7_hands_32 : decode cX7_hands 32 = .ok (.iconst 1, 1) := by decide +kernel
theorem dX7_hands_33 : decode cX7_hands 33 = .ok (.aload_n 0, 1) := by decide +kernel
theorem dX7_hands_34 : decode cX7_hands 34 = .ok (.getfield 7, 3) := by decide +kernel
theorem dX7_hands_37 : decode cX7_hands 37 = .ok (.bipush 41, 2) := by decide +kernel
theorem dX7_hands_39 : decode cX7_hands 39 = .ok (.iaload, 1) := by decide +kernel
theorem dX7_hands_40 : decode cX7_hands 40 = .ok (.ishl, 1) := by decide +kernel
theorem dX7_hands_41 : decode cX7_hands 41 = .ok (.if_icmp .ge 115, 3) := by decide +kernel
theorem dX7_hands_44 : decode cX7_hands 44 = .ok (.iload 5, 2) := by decide +kernel
theorem dX7_hands_46 : decode cX7_hands 46 = .ok (.invokestatic 169, 3) := by decide +kernel
theorem dX7_hands_49 : decode cX7_hands 49 = .ok (.aload_n 0, 1) := by decide +kernel
theorem dX7_hands_50 : decode cX7_hands 50 = .ok (.getfield 7, 3) := by decide +kernel
theorem dX7_hands_53 : decode cX7_hands 53 = .ok (.bipush 39, 2) := by decide +kernel
theorem dX7_hands_55 : decode cX7_hands 55 = .ok (.iaload, 1) := by decide +kernel
theorem dX7_hands_56 : decode cX7_hands 56 = .ok (.if_icmp .gt 94, 3) := by decide +kernel
theorem dX7_hands_59 : decode cX7_hands 59 = .ok (.aload_n 0, 1) := by decide +kernel
theorem dX7_hands_60 : decode cX7_hands 60 = .ok (.invokevirtual 187, 3) := by decide +kernel
theorem dX7_hands_63 : decode cX7_hands 63 = .ok (.aload_n 0, 1) := by decide +kernel
theorem dX7_hands_64 : decode cX7_hands 64 = .ok (.getfield 7, 3) := by decide +kernel
theorem dX7_hands_67 : decode cX7_hands 67 = .ok (.sipush 226, 3) := by decide +kernel
theorem dX7_hands_70 : decode cX7_hands 70 = .ok (.iload 5, 2) := by decide +kernel
theorem dX7_hands_72 : decode cX7_hands 72 = .ok (.iastore, 1) := by decide +kernel
theorem dX7_hands_73 : decode cX7_hands 73 = .ok (.aload_n 0, 1) := by decide +kernel
theorem dX7_hands_74 : decode cX7_hands 74 = .ok (.iload_n 1, 1) := by decide +kernel
theorem dX7_hands_75 : decode cX7_hands 75 = .ok (.invokevirtual 190, 3) := by decide +kernel
theorem dX7_hands_78 : decode cX7_hands 78 = .ok (.aload_n 0, 1) := by decide +kernel
theorem dX7_hands_79 : decode cX7_hands 79 = .ok (.sipush 189, 3) := by decide +kernel
theorem dX7_hands_82 : decode cX7_hands 82 = .ok (.iconst 2, 1) := by decide +kernel
theorem dX7_hands_83 : decode cX7_hands 83 = .ok (.invokevirtual 150, 3) := by decide +kernel
theorem dX7_hands_86 : decode cX7_hands 86 = .ok (.invokestatic 169, 3) := by decide +kernel
theorem dX7_hands_89 : decode cX7_hands 89 = .ok (.istore 6, 2) := by decide +kernel
theorem dX7_hands_91 : decode cX7_hands 91 = .ok (.iload 6, 2) := by decide +kernel
theorem dX7_hands_93 : decode cX7_hands 93 = .ok (.iload 4, 2) := by decide +kernel
theorem dX7_hands_95 : decode cX7_hands 95 = .ok (.if_icmp .gt 22, 3) := by decide +kernel
theorem dX7_hands_98 : decode cX7_hands 98 = .ok (.iload 6, 2) := by decide +kernel
theorem dX7_hands_100 : decode cX7_hands 100 = .ok (.iload 4, 2) := by decide +kernel
theorem dX7_hands_102 : decode cX7_hands 102 = .ok (.if_icmp .ne 19, 3) := by decide +kernel
theorem dX7_hands_105 : decode cX7_hands 105 = .ok (.iload 5, 2) := by decide +kernel
theorem dX7_hands_107 : decode cX7_hands 107 = .ok (.invokestatic 169, 3) := by decide +kernel
theorem dX7_hands_110 : decode cX7_hands 110 = .ok (.iload_n 3, 1) := by decide +kernel
theorem dX7_hands_111 : decode cX7_hands 111 = .ok (.invokestatic 169, 3) := by decide +kernel
theorem dX7_hands_114 : decode cX7_hands 114 = .ok (.if_icmp .ge 7, 3) := by decide +kernel
theorem dX7_hands_117 : decode cX7_hands 117 = .ok (.iconst 1, 1) := by decide +kernel
theorem dX7_hands_118 : decode cX7_hands 118 = .ok (.goto 4, 3) := by decide +kernel
theorem dX7_hands_121 : decode cX7_hands 121 = .ok (.iconst 0, 1) := by decide +kernel
theorem dX7_hands_122 : decode cX7_hands 122 = .ok (.istore 7, 2) := by decide +kernel
theorem dX7_hands_124 : decode cX7_hands 124 = .ok (.iload 7, 2) := by decide +kernel
theorem dX7_hands_126 : decode cX7_hands 126 = .ok (.ifCond .eq 8, 3) := by decide +kernel
theorem dX7_hands_129 : decode cX7_hands 129 = .ok (.iload 5, 2) := by decide +kernel
theorem dX7_hands_131 : decode cX7_hands 131 = .ok (.goto 4, 3) := by decide +kernel
theorem dX7_hands_134 : decode cX7_hands 134 = .ok (.iload_n 3, 1) := by decide +kernel
theorem dX7_hands_135 : decode cX7_hands 135 = .ok (.istore_n 3, 1) := by decide +kernel
theorem dX7_hands_136 : decode cX7_hands 136 = .ok (.iload 7, 2) := by decide +kernel
theorem dX7_hands_138 : decode cX7_hands 138 = .ok (.ifCond .eq 8, 3) := by decide +kernel
theorem dX7_hands_141 : decode cX7_hands 141 = .ok (.iload 6, 2) := by decide +kernel
theorem dX7_hands_143 : decode cX7_hands 143 = .ok (.goto 5, 3) := by decide +kernel
theorem dX7_hands_146 : decode cX7_hands 146 = .ok (.iload 4, 2) := by decide +kernel
theorem dX7_hands_148 : decode cX7_hands 148 = .ok (.istore 4, 2) := by decide +kernel
theorem dX7_hands_150 : decode cX7_hands 150 = .ok (.iinc 5 1, 3) := by decide +kernel
theorem dX7_hands_153 : decode cX7_hands 153 = .ok (.goto (-123), 3) := by decide +kernel
theorem dX7_hands_156 : decode cX7_hands 156 = .ok (.iload_n 2, 1) := by decide +kernel
theorem dX7_hands_157 : decode cX7_hands 157 = .ok (.ifCond .ne 8, 3) := by decide +kernel
theorem dX7_hands_160 : decode cX7_hands 160 = .ok (.iload 4, 2) := by decide +kernel
theorem dX7_hands_162 : decode cX7_hands 162 = .ok (.goto 4, 3) := by decide +kernel
theorem dX7_hands_165 : decode cX7_hands 165 = .ok (.iload_n 3, 1) := by decide +kernel
theorem dX7_hands_166 : decode cX7_hands 166 = .ok (.ireturn, 1) := by decide +kernel
theorem dX7_outs_0 : decode cX7_outs 0 = .ok (.aload_n 0, 1) := by decide +kernel
theorem dX7_outs_1 : decode cX7_outs 1 = .ok (.invokevirtual 154, 3) := by decide +kernel
theorem dX7_outs_4 : decode cX7_outs 4 = .ok (.ifCond .ne 6, 3) := by decide +kernel
theorem dX7_outs_7 : decode cX7_outs 7 = .ok (.ldc 153, 2) := by decide +kernel
theorem dX7_outs_9 : decode cX7_outs 9 = .ok (.ireturn, 1) := by decide +kernel
theorem dX7_outs_10 : decode cX7_outs 10 = .ok (.aload_n 0, 1) := by decide +kernel
theorem dX7_outs_11 : decode cX7_outs 11 = .ok (.iload_n 1, 1) := by decide +kernel
theorem dX7_outs_12 : decode cX7_outs 12 = .ok (.iload_n 2, 1) := by decide +kernel
theorem dX7_outs_13 : decode cX7_outs 13 = .ok (.invokevirtual 199, 3) := by decide +kernel
theorem dX7_outs_16 : decode cX7_outs 16 = .ok (.ifCond .ne 6, 3) := by decide +kernel
theorem dX7_outs_19 : decode cX7_outs 19 = .ok (.ldc 58, 2) := by decide +kernel
theorem dX7_outs_21 : decode cX7_outs 21 = .ok (.ireturn, 1) := by decide +kernel
theorem dX7_outs_22 : decode cX7_outs 22 = .ok (.ldc 193, 2) := by decide +kernel
theorem dX7_outs_24 : decode cX7_outs 24 = .ok (.istore_n 3, 1) := by decide +kernel
theorem dX7_outs_25 : decode cX7_outs 25 = .ok (.iconst 0, 1) := by decide +kernel
theorem dX7_outs_26 : decode cX7_outs 26 = .ok (.istore 4, 2) := by decide +kernel
theorem dX7_outs_28 : decode cX7_outs 28 = .ok (.iload 4, 2) := by decide +kernel
theorem dX7_outs_30 : decode cX7_outs 30 = .ok (.iconst 1, 1) := by decide +kernel
theorem dX7_outs_31 : decode cX7_outs 31 = .ok (.aload_n 0, 1) := by decide +kernel
theorem dX7_outs_32 : decode cX7_outs 32 = .ok (.getfield 7, 3) := by decide +kernel
theorem dX7_outs_35 : decode cX7_outs 35 = .ok (.bipush 41, 2) := by decide +kernel
theorem dX7_outs_37 : decode cX7_outs 37 = .ok (.iaload, 1) := by decide +kernel
theorem dX7_outs_38 : decode cX7_outs 38 = .ok (.ishl, 1) := by decide +kernel
theorem dX7_outs_39 : decode cX7_outs 39 = .ok (.if_icmp .ge 79, 3) := by decide +kernel
theorem dX7_outs_42 : decode cX7_outs 42 = .ok (.iload 4, 2) := by decide +kernel
theorem dX7_outs_44 : decode cX7_outs 44 = .ok (.aload_n 0, 1) := by decide +kernel
theorem dX7_outs_45 : decode cX7_outs 45 = .ok (.getfield 7, 3) := by decide +kernel
theorem dX7_outs_48 : decode cX7_outs 48 = .ok (.bipush 36, 2) := by decide +kernel
theorem dX7_outs_50 : decode cX7_outs 50 = .ok (.iaload, 1) := by decide +kernel
theorem dX7_outs_51 : decode cX7_outs 51 = .ok (.iand, 1) := by decide +kernel
theorem dX7_outs_52 : decode cX7_outs 52 = .ok (.ifCond .ne 60, 3) := by decide +kernel
theorem dX7_outs_55 : decode cX7_outs 55 = .ok (.iload_n 3, 1) := by decide +kernel
theorem dX7_outs_56 : decode cX7_outs 56 = .ok (.ldc 193, 2) := by decide +kernel
theorem dX7_outs_58 : decode cX7_outs 58 = .ok (.if_icmp .eq 15, 3) := by decide +kernel
theorem dX7_outs_61 : decode cX7_outs 61 = .ok (.iload 4, 2) := by decide +kernel
theorem dX7_outs_63 : decode cX7_outs 63 = .ok (.invokestatic 169, 3) := by decide +kernel
theorem dX7_outs_66 : decode cX7_outs 66 = .ok (.iload_n 3, 1) := by decide +kernel
theorem dX7_outs_67 : decode cX7_outs 67 = .ok (.invokestatic 169, 3) := by decide +kernel
theorem dX7_outs_70 : decode cX7_outs 70 = .ok (.if_icmp .ge 42, 3) := by decide +kernel
theorem dX7_outs_73 : decode cX7_outs 73 = .ok (.aload_n 0, 1) := by decide +kernel
theorem dX7_outs_74 : decode cX7_outs 74 = .ok (.invokevirtual 187, 3) := by decide +kernel
theorem dX7_outs_77 : decode cX7_outs 77 = .ok (.aload_n 0, 1) := by decide +kernel
theorem dX7_outs_78 : decode cX7_outs 78 = .ok (.getfield 7, 3) := by decide +kernel
theorem dX7_outs_81 : decode cX7_outs 81 = .ok (.sipush 225, 3) := by decide +kernel
theorem dX7_outs_84 : decode cX7_outs 84 = .ok (.dup2, 1) := by decide +kernel
theorem dX7_outs_85 : decode cX7_outs 85 = .ok (.iaload, 1) := by decide +kernel
theorem dX7_outs_86 : decode cX7_outs 86 = .ok (.iload 4, 2) := by decide +kernel
theorem dX7_outs_88 : decode cX7_outs 88 = .ok (.ior, 1) := by decide +kernel
theorem dX7_outs_89 : decode cX7_outs 89 = .ok (.iastore, 1) := by decide +kernel
theorem dX7_outs_90 : decode cX7_outs 90 = .ok (.aload_n 0, 1) := by decide +kernel
theorem dX7_outs_91 : decode cX7_outs 91 = .ok (.iload_n 1, 1) := by decide +kernel
theorem dX7_outs_92 : decode cX7_outs 92 = .ok (.invokevirtual 190, 3) := by decide +kernel
theorem dX7_outs_95 : decode cX7_outs 95 = .ok (.aload_n 0, 1) := by decide +kernel
theorem dX7_outs_96 : decode cX7_outs 96 = .ok (.sipush 189, 3) := by decide +kernel
theorem dX7_outs_99 : decode cX7_outs 99 = .ok (.invokevirtual 194, 3) := by decide +kernel
theorem dX7_outs_102 : decode cX7_outs 102 = .ok (.ifCond .eq 8, 3) := by decide +kernel
theorem dX7_outs_105 : decode cX7_outs 105 = .ok (.iload 4, 2) := by decide +kernel
theorem dX7_outs_107 : decode cX7_outs 107 = .ok (.goto 4, 3) := by decide +kernel
theorem dX7_outs_110 : decode cX7_outs 110 = .ok (.iload_n 3, 1) := by decide +kernel
theorem dX7_outs_111 : decode cX7_outs 111 = .ok (.istore_n 3, 1) := by decide +kernel
theorem dX7_outs_112 : decode cX7_outs 112 = .ok (.iinc 4 1, 3) := by decide +kernel
theorem dX7_outs_115 : decode cX7_outs 115 = .ok (.goto (-87), 3) := by decide +kernel
theorem dX7_outs_118 : decode cX7_outs 118 = .ok (.iload_n 2, 1) := by decide +kernel
theorem dX7_outs_119 : decode cX7_outs 119 = .ok (.ifCond .ne 10, 3) := by decide +kernel
theorem dX7_outs_122 : decode cX7_outs 122 = .ok (.iload_n 3, 1) := by decide +kernel
theorem dX7_outs_123 : decode cX7_outs 123 = .ok (.invokestatic 169, 3) := by decide +kernel
theorem dX7_outs_126 : decode cX7_outs 126 = .ok (.goto 4, 3) := by decide +kernel
theorem dX7_outs_129 : decode cX7_outs 129 = .ok (.iload_n 3, 1) := by decide +kernel
theorem dX7_outs_130 : decode cX7_outs 130 = .ok (.ireturn, 1) := by decide +kernel
theorem dX7_best_0 : decode cX7_best 0 = .ok (.aload_n 0, 1) := by decide +kernel
theorem dX7_best_1 : decode cX7_best 1 = .ok (.invokevirtual 154, 3) := by decide +kernel
theorem dX7_best_4 : decode cX7_best 4 = .ok (.ifCond .ne 6, 3) := by decide +kernel
theorem dX7_best_7 : decode cX7_best 7 = .ok (.ldc 153, 2) := by decide +kernel
theorem dX7_best_9 : decode cX7_best 9 = .ok (.ireturn, 1) := by decide +kernel
theorem dX7_best_10 : decode cX7_best 10 = .ok (.aload_n 0, 1) := by decide +kernel
theorem dX7_best_11 : decode cX7_best 11 = .ok (.iload_n 1, 1) := by decide +kernel
theorem dX7_best_12 : decode cX7_best 12 = .ok (.iload_n 2, 1) := by decide +kernel
theorem dX7_best_13 : decode cX7_best 13 = .ok (.invokevirtual 199, 3) := by decide +kernel
theorem dX7_best_16 : decode cX7_best 16 = .ok (.ifCond .ne 6, 3) := by decide +kernel
theorem dX7_best_19 : decode cX7_best 19 = .ok (.ldc 58, 2) := by decide +kernel
theorem dX7_best_21 : decode cX7_best 21 = .ok (.ireturn, 1) := by decide +kernel
theorem dX7_best_22 : decode cX7_best 22 = .ok (.ldc 193, 2) := by decide +kernel
theorem dX7_best_24 : decode cX7_best 24 = .ok (.istore_n 3, 1) := by decide +kernel
theorem dX7_best_25 : decode cX7_best 25 = .ok (.ldc 193, 2) := by decide +kernel
theorem dX7_best_27 : decode cX7_best 27 = .ok (.istore 4, 2) := by decide +kernel
theorem dX7_best_29 : decode cX7_best 29 = .ok (.iconst 0, 1) := by decide +kernel
theorem dX7_best_30 : decode cX7_best 30 = .ok (.istore 5, 2) := by decide +kernel
theorem dX7_best_32 : decode cX7_best 32 = .ok (.iload 5, 2) := by decide +kernel
theorem dX7_best_34 : decode cX7_best 34 = .ok (.aload_n 0, 1) := by decide +kernel
theorem dX7_best_35 : decode cX7_best 35 = .ok (.getfield 7, 3) := by decide +kernel
theorem dX7_best_38 : decode cX7_best 38 = .ok (.bipush 41, 2) := by decide +kernel
theorem dX7_best_40 : decode cX7_best 40 = .ok (.iaload, 1) := by decide +kernel
theorem dX7_best_41 : decode cX7_best 41 = .ok (.if_icmp .ge 102, 3) := by decide +kernel
theorem dX7_best_44 : decode cX7_best 44 = .ok (.iload 5, 2) := by decide +kernel
theorem dX7_best_46 : decode cX7_best 46 = .ok (.iconst 1, 1) := by decide +kernel
theorem dX7_best_47 : decode cX7_best 47 = .ok (.iadd, 1) := by decide +kernel
theorem dX7_best_48 : decode cX7_best 48 = .ok (.istore 6, 2) := by decide +kernel
theorem dX7_best_50 : decode cX7_best 50 = .ok (.iload 6, 2) := by decide +kernel
theorem dX7_best_52 : decode cX7_best 52 = .ok (.aload_n 0, 1) := by decide +kernel
theorem dX7_best_53 : decode cX7_best 53 = .ok (.getfield 7, 3) := by decide +kernel
theorem dX7_best_56 : decode cX7_best 56 = .ok (.bipush 41, 2) := by decide +kernel
theorem dX7_best_58 : decode cX7_best 58 = .ok (.iaload, 1) := by decide +kernel
theorem dX7_best_59 : decode cX7_best 59 = .ok (.if_icmp .ge 78, 3) := by decide +kernel
theorem dX7_best_62 : decode cX7_best 62 = .ok (.aload_n 0, 1) := by decide +kernel
theorem dX7_best_63 : decode cX7_best 63 = .ok (.invokevirtual 187, 3) := by decide +kernel
theorem dX7_best_66 : decode cX7_best 66 = .ok (.aload_n 0, 1) := by decide +kernel
theorem dX7_best_67 : decode cX7_best 67 = .ok (.sipush 189, 3) := by decide +kernel
theorem dX7_best_70 : decode cX7_best 70 = .ok (.iload 5, 2) := by decide +kernel
theorem dX7_best_72 : decode cX7_best 72 = .ok (.iload 6, 2) := by decide +kernel
theorem dX7_best_74 : decode cX7_best 74 = .ok (.invokevirtual 172, 3) := by decide +kernel
theorem dX7_best_77 : decode cX7_best 77 = .ok (.aload_n 0, 1) := by decide +kernel
theorem dX7_best_78 : decode cX7_best 78 = .ok (.iload_n 1, 1) := by decide +kernel
theorem dX7_best_79 : decode cX7_best 79 = .ok (.invokevirtual 190, 3) := by decide +kernel
theorem dX7_best_82 : decode cX7_best 82 = .ok (.aload_n 0, 1) := by decide +kernel
theorem dX7_best_83 : decode cX7_best 83 = .ok (.sipush 189, 3) := by decide +kernel
theorem dX7_best_86 : decode cX7_best 86 = .ok (.iconst 2, 1) := by decide +kernel
theorem dX7_best_87 : decode cX7_best 87 = .ok (.invokevirtual 150, 3) := by decide +kernel
theorem dX7_best_90 : decode cX7_best 90 = .ok (.invokestatic 169, 3) := by decide +kernel
theorem dX7_best_93 : decode cX7_best 93 = .ok (.istore 7, 2) := by decide +kernel
theorem dX7_best_95 : decode cX7_best 95 = .ok (.iload 7, 2) := by decide +kernel
theorem dX7_best_97 : decode cX7_best 97 = .ok (.iload 4, 2) := by decide +kernel
theorem dX7_best_99 : decode cX7_best 99 = .ok (.if_icmp .le 14, 3) := by decide +kernel
theorem dX7_best_102 : decode cX7_best 102 = .ok (.bipush 10, 2) := by decide +kernel
theorem dX7_best_104 : decode cX7_best 104 = .ok (.iload 5, 2) := by decide +kernel
theorem dX7_best_106 : decode cX7_best 106 = .ok (.imul, 1) := by decide +kernel
theorem dX7_best_107 : decode cX7_best 107 = .ok (.iload 6, 2) := by decide +kernel
theorem dX7_best_109 : decode cX7_best 109 = .ok (.iadd, 1) := by decide +kernel
theorem dX7_best_110 : decode cX7_best 110 = .ok (.goto 4, 3) := by decide +kernel
